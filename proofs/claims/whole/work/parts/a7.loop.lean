section LX1
variable {c0 : gh_C} {xs : List Int32} {lo : gh_L} {σ : gb_S}
theorem lx_end : zw c0 2 1965 lo [] σ := by
  refine ⟨0, σ, fun N k _ hk => ?_⟩
  obtain ⟨k, rfl⟩ : ∃ q, k = q + 2 := ⟨k - 2, by omega⟩
  have e1 : gk_law.lookup 1965 = some (.iconst 1, 1) := by decide +kernel
  have e2 : gk_law.lookup 1966 = some (.ireturn, 1) := by decide +kernel
  refine (gb_exS (pc' := 1966) (l' := lo) (st' := [.int 1]) (G' := gb_H c0 σ) e1 rfl).trans ?_
  rw [gh_ex, e2]
  rfl
/-- the law's loop -/
theorem lx_loop (hc0 : c0 = (20, xs.map Value.int)) (hl : xs.length ≤ 2560) : ∀ (m c : Nat) (lo : gh_L) (σ : gb_S), xs.length < 5 * (c + m) + 5 → 5 * c ≤ xs.length → LL lo c → JJ c σ → zw c0 (100 * m + 20) 23 lo [] σ := by
  intro m
  induction m with
  | zero =>
    intro c lo σ h1 h2 l hJ
    refine zw_t (t := 2 + 1 + 1 + 1 + 1 + 1 + 1) ?_ (by omega)
    refine zw_il (i := .iload 4) (len := 2) 25 4 (by decide +kernel) rfl l.2.2.2.2 ?_
    refine zw_al (i := .aload_n 0) (len := 1) 26 0 (by decide +kernel) rfl l.1 ?_
    refine zw_len hc0 (by decide +kernel) ?_
    refine zw_s (i := .iconst 5) (len := 1) (st' := [vi 5, vi (xs.length : Int), vi ((5 * c : Nat) : Int)]) 28 (by decide +kernel) rfl ?_
    refine zw_sub (by decide +kernel) ?_
    refine zw_if (c := .gt) (off := 1936) 1965 32 (by decide +kernel) rfl rfl rfl (by unfold gb_R; omega) (by unfold gb_R; omega) (fun _ => lx_end) (fun h => absurd (show (xs.length : Int) - 5 < ((5 * c : Nat) : Int) by omega) h)
  | succ m ih =>
    intro c lo σ h1 h2 l hJ
    refine zw_t (t := (100 * m + 90) + 1 + 1 + 1 + 1 + 1 + 1) ?_ (by omega)
    refine zw_il (i := .iload 4) (len := 2) 25 4 (by decide +kernel) rfl l.2.2.2.2 ?_
    refine zw_al (i := .aload_n 0) (len := 1) 26 0 (by decide +kernel) rfl l.1 ?_
    refine zw_len hc0 (by decide +kernel) ?_
    refine zw_s (i := .iconst 5) (len := 1) (st' := [vi 5, vi (xs.length : Int), vi ((5 * c : Nat) : Int)]) 28 (by decide +kernel) rfl ?_
    refine zw_sub (by decide +kernel) ?_
    refine zw_if (c := .gt) (off := 1936) 1965 32 (by decide +kernel) rfl rfl rfl (by unfold gb_R; omega) (by unfold gb_R; omega) (fun _ => zw_t lx_end (by omega)) (fun h => ?_)
    have h : ¬ (xs.length : Int) - 5 < ((5 * c : Nat) : Int) := h
    have hj : 5 * c + 5 ≤ xs.length := by omega
    have cont : ∀ σ2 lo2, JJ (c + 1) σ2 → LL lo2 c → zw c0 (100 * m + 20 + 2) 1959 lo2 [] σ2 := fun σ2 lo2 hJ2 l2 => by
      refine zw_inc (k := 4) (n := 5) (x := ((5 * c : Nat) : Int)) (by decide +kernel) l2.2.2.2.2 ?_
      refine zw_go (off := -1939) 23 (by decide +kernel) rfl rfl ?_
      rw [show ((5 * c : Nat) : Int) + 5 = ((5 * (c + 1) : Nat) : Int) by omega]
      exact ih (c + 1) _ σ2 (by omega) (by omega) ⟨gl1 rfl rfl l2.1, gl1 rfl rfl l2.2.1, gl1 rfl rfl l2.2.2.1, gl1 rfl rfl l2.2.2.2.1, gs1⟩ hJ2
    obtain ⟨j, hj32, hj2⟩ := lp_31 (Int32.ofInt (xj xs c 0))
    have hs := lp_sw hc0 hl hj l hJ cont hj32
    refine zw_t (t := (100 * m + 20 + 2 + 62) + 1 + 1 + 1 + 1 + 1) ?_ (by omega)
    refine zw_al (i := .aload_n 0) (len := 1) 33 0 (by decide +kernel) rfl l.1 ?_
    refine zw_il (i := .iload 4) (len := 2) 35 4 (by decide +kernel) rfl l.2.2.2.2 ?_
    have hx : ∀ t, zw c0 t (35 + 1) lo [vi (xj xs c 0)] σ → zw c0 (t + 1) 35 lo [vi (((5 * c : Nat) : Int) + ((0 : Nat) : Int)), vr 0] σ := fun t h => zw_x (j := 0) hc0 hl (by omega) (by decide +kernel) h
    rw [show ((5 * c : Nat) : Int) + ((0 : Nat) : Int) = ((5 * c : Nat) : Int) by omega] at hx
    refine hx _ ?_
    refine zw_s (i := .bipush 31) (len := 2) (st' := [vi 31, vi (xj xs c 0)]) 38 (by decide +kernel) rfl ?_
    refine zw_s (i := .iand) (len := 1) (st' := [.int (Int32.ofInt (xj xs c 0) &&& 31)]) 39 (by decide +kernel) rfl ?_
    rw [hj2]
    exact hs
theorem lx_size : (gb_T gb_s0).length = 224 ∧ gh_sz (gb_T gb_s0) ≤ 10000 := by decide +kernel
theorem lx_tab (σ σ' : gb_S) : ∀ (cs : List (Nat × List Nat)) (a : Nat), (gb_tab σ a cs).length = (gb_tab σ' a cs).length ∧ gh_sz (gb_tab σ a cs) = gh_sz (gb_tab σ' a cs) := by
  intro cs
  induction cs with
  | nil => intro a; exact ⟨rfl, rfl⟩
  | cons c cs ih =>
    intro a
    have h := ih (a + 1)
    rw [gb_tab, gb_tab]
    refine ⟨by rw [List.length_cons, List.length_cons, h.1], ?_⟩
    rw [gs_sz, gs_sz, h.2]
    show (gb_row σ a 0 c.2).length + _ = (gb_row σ' a 0 c.2).length + _
    rw [gb_row_len, gb_row_len]
/-- every script, of its length -/
theorem lx_goal (xs : List Int32) (hl : xs.length ≤ 2560) : gs_Goal xs := by
  have hL : LL gb_lo 0 := ⟨rfl, rfl, rfl, rfl, rfl⟩
  obtain ⟨N0, σ', h⟩ := lx_loop (c0 := (20, xs.map Value.int)) rfl hl 512 0 gb_lo gb_s0 (by omega) (by omega) hL ⟨0, 0, 0, P00, _, _, _, it_IV⟩
  have h := h N0 (100 * 512 + 20) (Nat.le_refl _) (Nat.le_refl _)
  have hs := lx_size
  have ht := lx_tab σ' gb_s0 gb_sh 1
  have h1 : (gb_H (20, xs.map Value.int) σ').length = 225 := by
    show (gb_T σ').length + 1 = 225
    have : (gb_T σ').length = (gb_T gb_s0).length := ht.1
    omega
  have h2 : gh_sz (gb_H (20, xs.map Value.int) σ') ≤ xs.length + 10000 := by
    have e : gh_sz (gb_H (20, xs.map Value.int) σ') = (xs.map Value.int).length + gh_sz (gb_T σ') := gs_sz _ _
    have e2 : gh_sz (gb_T σ') = gh_sz (gb_T gb_s0) := ht.2
    rw [List.length_map] at e
    omega
  exact ⟨N0, 100, 100 * 512 + 20, _, by omega, h, by omega, by omega⟩
end LX1
