section LC1
variable {σ : gb_S} {e s a : Nat} {C : List Nat} {n : Nat} {R : Nat → Rat}
/-- the claims to the estate at e are C -/
def CL (σ : gb_S) (e n : Nat) (C : List Nat) : Prop := σ e 3 = (C.length : Int) ∧ C.length ≤ 14 ∧ C.Nodup ∧ (∀ p, p ∈ C → p < n) ∧ ∀ k, k < C.length → σ (e + 2) k = ((C.getD k 0 : Nat) : Int)
theorem CL_cong {σ' : gb_S} (h1 : σ' e = σ e) (h2 : σ' (e + 2) = σ (e + 2)) (h : CL σ e n C) : CL σ' e n C := by
  unfold CL
  rw [h1, h2]
  exact h
theorem getD_mem {C : List Nat} {k : Nat} (h : k < C.length) : C.getD k 0 ∈ C := by
  rw [List.getD_eq_getElem?_getD, List.getElem?_eq_getElem h, Option.getD_some]
  exact List.getElem_mem h
theorem mem_getD {C : List Nat} {p : Nat} (h : p ∈ C) : ∃ k, k < C.length ∧ C.getD k 0 = p := by
  obtain ⟨k, hk, he⟩ := List.mem_iff_getElem.mp h
  exact ⟨k, hk, by rw [List.getD_eq_getElem?_getD, List.getElem?_eq_getElem hk, Option.getD_some, he]⟩
/-- where somebody's claim stands -/
theorem g18 (hn : n ≤ 14) (hc : CL σ e n C) {p : Nat} (hp : p < 14) : ∃ r : Int, fx_18 e (p : Int) σ = some (.inl r, σ) ∧ (C.contains p = false → r = -1) ∧ (C.contains p = true → 0 ≤ r ∧ r < (C.length : Int) ∧ C.getD r.toNat 0 = p) := by
  obtain ⟨c1, c2, c3, c4, c5⟩ := hc
  have key : ∀ (m f : Nat), m ≤ C.length → m < f → (∀ k, k < C.length - m → C.getD k 0 ≠ p) → ∃ r : Int, fx_18_2 f e (p : Int) ((C.length - m : Nat) : Int) σ = some (.inl r, σ) ∧ (C.contains p = false → r = -1) ∧ (C.contains p = true → 0 ≤ r ∧ r < (C.length : Int) ∧ C.getD r.toNat 0 = p) := by
    intro m
    induction m with
    | zero =>
      intro f _ hf hno
      obtain ⟨f, rfl⟩ : ∃ q, f = q + 1 := ⟨f - 1, by omega⟩
      refine ⟨-1, ?_, fun _ => rfl, fun h => ?_⟩
      · rw [fx_18_2, gq_R (by omega) (by omega), gq_R (by omega) (by omega), if_neg (by omega)]
      · obtain ⟨k, hk, hke⟩ := mem_getD (List.contains_iff_mem.mp h)
        exact absurd hke (hno k (by omega))
    | succ m ih =>
      intro f hm hf hno
      obtain ⟨f, rfl⟩ : ∃ q, f = q + 1 := ⟨f - 1, by omega⟩
      have ihk := ih f (by omega) (by omega)
      generalize hi : C.length - (m + 1) = i at hno
      have hi2 : C.length - m = i + 1 := by omega
      rw [hi2] at ihk
      have hil : i < C.length := by omega
      have hCi := c4 _ (getD_mem hil)
      rw [fx_18_2, gq_R (by omega) (by omega), gq_R (by omega) (by omega), if_pos (by omega), gq_ix (by omega) (by omega), Int.toNat_natCast, c5 i hil, gq_R (by omega) (by omega), gq_R (by omega) (by omega)]
      by_cases he : C.getD i 0 = p
      · rw [if_pos (by omega)]
        refine ⟨(i : Int), rfl, fun h => ?_, fun _ => ⟨by omega, by omega, by rw [Int.toNat_natCast]; exact he⟩⟩
        have := List.contains_iff_mem.mpr (getD_mem hil)
        rw [he, h] at this
        cases this
      · rw [if_neg (by omega), show ((i : Nat) : Int) + 1 = ((i + 1 : Nat) : Int) by omega]
        exact ihk (fun k hk => by
          by_cases hki : k = i
          · subst hki; exact he
          · exact hno k (by omega))
  have := key C.length gFU (Nat.le_refl _) (by unfold gFU; omega) (fun k hk => by omega)
  rw [Nat.sub_self] at this
  exact this
theorem g15 (hn : n ≤ 14) (hc : CL σ e n C) {p : Nat} (hp : p < 14) : fx_15 e (p : Int) σ = some (.inl (if C.contains p = true then 1 else 0), σ) := by
  obtain ⟨r, e1, h1, h2⟩ := g18 hn hc hp
  have hl := hc.2.1
  unfold fx_15
  rw [e1, gc_v]
  cases hcp : C.contains p with
  | false =>
    rw [h1 hcp, gq_R (by omega) (by omega), if_pos rfl]
    rfl
  | true =>
    have := h2 hcp
    rw [gq_R (by omega) (by omega), if_neg (by omega)]
    rfl
/-- the ranked ones are L -/
def rk (σ : gb_S) (L : List Nat) : Prop := ∀ k, k < L.length → σ 39 k = ((L.getD k 0 : Nat) : Int)
theorem rk_snoc {L : List Nat} {p : Nat} (h : rk σ L) : rk (gb_up σ 39 L.length (p : Int)) (L ++ [p]) := by
  intro k hk
  rw [List.length_append, List.length_singleton] at hk
  rw [List.getD_eq_getElem?_getD]
  by_cases hkl : k = L.length
  · subst hkl
    rw [up_eq, List.getElem?_append_right (Nat.le_refl _), Nat.sub_self]
    rfl
  · rw [up_nj _ _ _ _ hkl, List.getElem?_append_left (by omega), ← List.getD_eq_getElem?_getD]
    exact h k (by omega)
theorem num_pos {x : Rat} (h : 0 ≤ x) : x.num = 0 ↔ ¬ 0 < x := by
  rw [Rat.num_eq_zero]
  constructor
  · intro q; rw [q]; exact Rat.lt_irrefl
  · intro q; grind
theorem g20 (hcm : cm σ s R) (hR : ∀ p, 0 ≤ R p ∧ R p ≤ 1 ∧ (R p).den ≤ 1000000000) {L : List Nat} (hL : L.length < 14) (hs : s ≠ 39 ∧ s + 1 ≠ 39 ∧ s + 2 ≠ 39) {p : Nat} (hp : p < 14) (hr : rk σ L) : ∃ σ', fx_20 (p : Int) s 39 (L.length : Int) σ = some (.inl (((L ++ (if 0 < R p then [p] else [])).length : Nat) : Int), σ') ∧ rk σ' (L ++ (if 0 < R p then [p] else [])) ∧ ∀ c, c ≠ 39 → σ' c = σ c := by
  have hb := hR p
  have hnd := num_le_den hb.2.1
  have hn0 : 0 ≤ (R p).num := Rat.num_nonneg.mpr hb.1
  have hdd := hb.2.2
  have hln : gb_ln 39 = 14 := rfl
  unfold fx_20
  rw [g71 hp, gc_v, (hcm p hp).1, gq_L (by omega) (by omega)]
  by_cases h0 : (R p).num = 0
  · rw [if_pos h0, if_neg ((num_pos hb.1).mp h0), List.append_nil]
    exact ⟨σ, rfl, hr, fun _ _ => rfl⟩
  · have hpos : 0 < R p := Classical.byContradiction (fun q => h0 ((num_pos hb.1).mpr q))
    rw [if_neg h0, if_pos hpos, hln, gq_R (by omega) (by omega), gq_R (by decide) (by decide), if_pos (by omega), gq_ix (by omega) (by omega), Int.toNat_natCast]
    refine ⟨_, ?_, rk_snoc hr, fun c hc => up_ne _ _ _ _ hc⟩
    rw [List.length_append, List.length_singleton]
    rfl
theorem filter_snoc (b : Nat → Bool) (A : List Nat) (p : Nat) : (A ++ [p]).filter b = A.filter b ++ (if b p = true then [p] else []) := by
  rw [List.filter_append]
  congr 1
  rw [List.filter_cons]
  split <;> rfl
theorem take_snoc {C : List Nat} {k : Nat} (h : k < C.length) : C.take (k + 1) = C.take k ++ [C.getD k 0] := by
  rw [List.take_add_one, List.getD_eq_getElem?_getD, List.getElem?_eq_getElem h]
  rfl
/-- rankHeirs -/
theorem g19 (hn : n ≤ 14) (hc : CL σ e n C) (hcm : cm σ s R) (hR : ∀ p, 0 ≤ R p ∧ R p ≤ 1 ∧ (R p).den ≤ 1000000000) (hz : ∀ p, n ≤ p → R p = 0) (hs : s ≠ 39 ∧ s + 1 ≠ 39 ∧ s + 2 ≠ 39) (he : e ≠ 39 ∧ e + 2 ≠ 39) : ∃ σ', fx_19 e s 39 σ = some (.inl (((RL n R C).length : Nat) : Int), σ') ∧ rk σ' (RL n R C) ∧ ∀ c, c ≠ 39 → σ' c = σ c := by
  have hlen := RL_len (fun p => (hR p).1) hc.2.2.1 hc.2.2.2.1 (n := n)
  have hlen2 := ct_le (fun p => decide (0 < R p)) n
  -- all others by their numbers
  have k37 : ∀ (m f : Nat) (σ1 : gb_S), m ≤ 14 → m < f → (∀ c, c ≠ 39 → σ1 c = σ c) → rk σ1 (C.filter (fun p => decide (0 < R p)) ++ (List.range (14 - m)).filter (fun p => !C.contains p && decide (0 < R p))) → ∃ σ', fx_19_37 f e s 39 (((C.filter (fun p => decide (0 < R p)) ++ (List.range (14 - m)).filter (fun p => !C.contains p && decide (0 < R p))).length : Nat) : Int) ((14 - m : Nat) : Int) σ1 = some (.inl (((RL n R C).length : Nat) : Int), σ') ∧ rk σ' (RL n R C) ∧ ∀ c, c ≠ 39 → σ' c = σ c := by
    have hfin : C.filter (fun p => decide (0 < R p)) ++ (List.range 14).filter (fun p => !C.contains p && decide (0 < R p)) = RL n R C := by
      unfold RL
      congr 1
      have : ∀ m, n ≤ m → (List.range m).filter (fun p => !C.contains p && decide (0 < R p)) = (List.range n).filter (fun p => !C.contains p && decide (0 < R p)) := by
        intro m
        induction m with
        | zero => intro h; rw [show n = 0 by omega]
        | succ m ih =>
          intro h
          by_cases hq : n = m + 1
          · rw [hq]
          · rw [List.range_succ, filter_snoc, ih (by omega), hz m (by omega)]
            simp
      exact this 14 hn
    have hpre : ∀ m, m ≤ 14 → (C.filter (fun p => decide (0 < R p)) ++ (List.range m).filter (fun p => !C.contains p && decide (0 < R p))).length ≤ (RL n R C).length := by
      intro m hm
      rw [← hfin, List.length_append, List.length_append]
      have : List.Sublist ((List.range m).filter (fun p => !C.contains p && decide (0 < R p))) ((List.range 14).filter (fun p => !C.contains p && decide (0 < R p))) := List.Sublist.filter _ (List.range_sublist.mpr hm)
      have := this.length_le
      omega
    intro m
    induction m with
    | zero =>
      intro f σ1 _ hf f1 hr
      obtain ⟨f, rfl⟩ : ∃ q, f = q + 1 := ⟨f - 1, by omega⟩
      rw [Nat.sub_zero, hfin] at hr ⊢
      refine ⟨σ1, ?_, hr, f1⟩
      rw [fx_19_37, gq_R (by omega) (by omega), if_neg (by omega)]
    | succ m ih =>
      intro f σ1 hm hf f1 hr
      obtain ⟨f, rfl⟩ : ∃ q, f = q + 1 := ⟨f - 1, by omega⟩
      generalize hi : 14 - (m + 1) = i at hr ⊢
      have hi2 : 14 - m = i + 1 := by omega
      rw [hi2] at ih
      have hc1 : CL σ1 e n C := CL_cong (f1 e he.1) (f1 _ he.2) hc
      have hcm1 : cm σ1 s R := cm_cong (f1 _ hs.2.1) (f1 _ hs.2.2) hcm
      have hsn : C.filter (fun p => decide (0 < R p)) ++ (List.range (i + 1)).filter (fun p => !C.contains p && decide (0 < R p)) = (C.filter (fun p => decide (0 < R p)) ++ (List.range i).filter (fun p => !C.contains p && decide (0 < R p))) ++ (if (!C.contains i && decide (0 < R i)) = true then [i] else []) := by
        rw [List.range_succ, filter_snoc, List.append_assoc]
      rw [hsn] at ih
      have hle1 := hpre (i + 1) (by omega)
      rw [hsn, List.length_append] at hle1
      generalize hL : C.filter (fun p => decide (0 < R p)) ++ (List.range i).filter (fun p => !C.contains p && decide (0 < R p)) = L at hr ih hle1 ⊢
      rw [fx_19_37, gq_R (by omega) (by omega), if_pos (by omega), g15 hn hc1 (by omega), gc_v, gq_R (bR _).1 (bR _).2, show ((i : Nat) : Int) + 1 = ((i + 1 : Nat) : Int) by omega]
      cases hci : C.contains i with
      | true =>
        rw [hci] at ih
        rw [if_pos rfl, if_neg (by decide)]
        have := ih f σ1 (by omega) (by omega) f1
        simp only [Bool.not_true, Bool.false_and] at this
        rw [if_neg (by decide), List.append_nil] at this
        exact this hr
      | false =>
        rw [hci] at ih hle1
        rw [show (if false = true then (1 : Int) else 0) = 0 from rfl, if_pos rfl]
        simp only [Bool.not_false, Bool.true_and] at ih hle1
        by_cases hpos : 0 < R i
        · rw [decide_eq_true hpos, if_pos rfl, List.length_singleton] at hle1
          obtain ⟨s2, e2, r2, f2⟩ := g20 (L := L) hcm1 hR (by omega) hs (p := i) (by omega) hr
          rw [e2, gc_v]
          rw [if_pos hpos] at r2 ⊢
          have := ih f s2 (by omega) (by omega) (fun c hc => by rw [f2 c hc, f1 c hc])
          rw [decide_eq_true hpos, if_pos rfl] at this
          exact this r2
        · -- no heir: nothing is written, whatever the place
          have h0 : (R i).num = 0 := (num_pos (hR i).1).mpr hpos
          have e2 : fx_20 (i : Int) s 39 (L.length : Int) σ1 = some (.inl (L.length : Int), σ1) := by
            unfold fx_20
            rw [g71 (by omega), gc_v, (hcm1 i (by omega)).1, h0, gq_L (by omega) (by omega), if_pos rfl]
          rw [e2, gc_v]
          have := ih f σ1 (by omega) (by omega) f1
          rw [decide_eq_false hpos, if_neg (by decide), List.append_nil] at this
          exact this hr
  -- those who have filed
  have k5 : ∀ (m f : Nat) (σ1 : gb_S), m ≤ C.length → m < f → (∀ c, c ≠ 39 → σ1 c = σ c) → rk σ1 ((C.take (C.length - m)).filter (fun p => decide (0 < R p))) → ∃ σ', fx_19_5 f e s 39 ((((C.take (C.length - m)).filter (fun p => decide (0 < R p))).length : Nat) : Int) ((C.length - m : Nat) : Int) σ1 = some (.inl (((RL n R C).length : Nat) : Int), σ') ∧ rk σ' (RL n R C) ∧ ∀ c, c ≠ 39 → σ' c = σ c := by
    have hlC := hc.2.1
    have hpre : ∀ m, ((C.take m).filter (fun p => decide (0 < R p))).length ≤ (RL n R C).length := by
      intro m
      unfold RL
      rw [List.length_append]
      have := (List.Sublist.filter (fun p => decide (0 < R p)) (List.take_sublist m C)).length_le
      omega
    intro m
    induction m with
    | zero =>
      intro f σ1 _ hf f1 hr
      obtain ⟨f, rfl⟩ : ∃ q, f = q + 1 := ⟨f - 1, by omega⟩
      rw [Nat.sub_zero, List.take_length] at hr ⊢
      have hc3 : σ1 e 3 = (C.length : Int) := by rw [f1 e he.1]; exact hc.1
      have := k37 14 gFU σ1 (Nat.le_refl _) (by unfold gFU; omega) f1 (by simpa using hr)
      obtain ⟨s2, e2, r2, f2⟩ := this
      refine ⟨s2, ?_, r2, f2⟩
      rw [fx_19_5, gq_R (by omega) (by omega), gq_R (by omega) (by omega), if_neg (by omega)]
      simpa using e2
    | succ m ih =>
      intro f σ1 hm hf f1 hr
      obtain ⟨f, rfl⟩ : ∃ q, f = q + 1 := ⟨f - 1, by omega⟩
      generalize hi : C.length - (m + 1) = i at hr ⊢
      have hi2 : C.length - m = i + 1 := by omega
      rw [hi2] at ih
      have hil : i < C.length := by omega
      have hc1 : CL σ1 e n C := CL_cong (f1 e he.1) (f1 _ he.2) hc
      have hcm1 : cm σ1 s R := cm_cong (f1 _ hs.2.1) (f1 _ hs.2.2) hcm
      have hCi := hc.2.2.2.1 _ (getD_mem hil)
      have hc3 := hc1.1
      rw [take_snoc hil, filter_snoc] at ih
      have hle1 := hpre (i + 1)
      rw [take_snoc hil, filter_snoc, List.length_append] at hle1
      generalize hL : (C.take i).filter (fun p => decide (0 < R p)) = L at hr ih hle1 ⊢
      generalize hp : C.getD i 0 = p at hCi ih hle1
      rw [fx_19_5, gq_R (by omega) (by omega), gq_R (by omega) (by omega), if_pos (by omega), gq_ix (by omega) (by omega), Int.toNat_natCast, hc1.2.2.2.2 i hil, hp, show ((i : Nat) : Int) + 1 = ((i + 1 : Nat) : Int) by omega]
      by_cases hpos : 0 < R p
      · rw [decide_eq_true hpos, if_pos rfl, List.length_singleton] at hle1
        obtain ⟨s2, e2, r2, f2⟩ := g20 (L := L) hcm1 hR (by omega) hs (p := p) (by omega) hr
        rw [e2, gc_v]
        rw [if_pos hpos] at r2 ⊢
        have := ih f s2 (by omega) (by omega) (fun c hc => by rw [f2 c hc, f1 c hc])
        rw [decide_eq_true hpos, if_pos rfl] at this
        exact this r2
      · have h0 : (R p).num = 0 := (num_pos (hR p).1).mpr hpos
        have e2 : fx_20 (p : Int) s 39 (L.length : Int) σ1 = some (.inl (L.length : Int), σ1) := by
          unfold fx_20
          rw [g71 (by omega), gc_v, (hcm1 p (by omega)).1, h0, gq_L (by omega) (by omega), if_pos rfl]
        rw [e2, gc_v]
        have := ih f σ1 (by omega) (by omega) f1
        rw [decide_eq_false hpos, if_neg (by decide), List.append_nil] at this
        exact this hr
  have := k5 C.length gFU σ (Nat.le_refl _) (by have := hc.2.1; unfold gFU; omega) (fun _ _ => rfl) (fun k hk => by rw [Nat.sub_self] at hk; exact absurd hk (Nat.not_lt_zero _))
  rw [Nat.sub_self] at this
  exact this
/-- how many units of a row belong to somebody -/
theorem g57 (hl : gb_ln a = 60) (hv : ∀ u, u < 60 → -1 ≤ σ a u ∧ σ a u < 14) {x : Int} (hx : -1 ≤ x ∧ x < 14) {b t : Nat} (hbt : b < t) (ht : t ≤ 60) : fx_57 a x (b : Int) (t : Int) σ = some (.inl ((ct (fun u => decide (b ≤ u) && decide (σ a u = x)) t : Nat) : Int), σ) := by
  have key : ∀ (m f : Nat), m ≤ t - b → m < f → fx_57_10 f a x (t : Int) ((ct (fun u => decide (b ≤ u) && decide (σ a u = x)) (t - m) : Nat) : Int) ((t - m : Nat) : Int) σ = some (.inl ((ct (fun u => decide (b ≤ u) && decide (σ a u = x)) t : Nat) : Int), σ) := by
    intro m
    induction m with
    | zero =>
      intro f _ hf
      obtain ⟨f, rfl⟩ : ∃ q, f = q + 1 := ⟨f - 1, by omega⟩
      rw [fx_57_10, gq_R (by omega) (by omega), gq_R (by omega) (by omega), if_neg (by omega), Nat.sub_zero]
    | succ m ih =>
      intro f hm hf
      obtain ⟨f, rfl⟩ : ∃ q, f = q + 1 := ⟨f - 1, by omega⟩
      have ihk := ih f (by omega) (by omega)
      generalize hi : t - (m + 1) = i
      have hi2 : t - m = i + 1 := by omega
      rw [hi2, ct] at ihk
      have hvi := hv i (by omega)
      have hbi : b ≤ i := by omega
      rw [fx_57_10, gq_R (by omega) (by omega), gq_R (by omega) (by omega), if_pos (by omega), hl, gq_R (by decide) (by decide), if_pos (by omega), gq_ix (by omega) (by omega), Int.toNat_natCast, gq_R (by omega) (by omega), gq_R (by omega) (by omega), show ((i : Nat) : Int) + 1 = ((i + 1 : Nat) : Int) by omega]
      rw [decide_eq_true hbi, Bool.true_and] at ihk
      by_cases he : σ a i = x
      · rw [if_pos he]
        rw [decide_eq_true he, if_pos rfl] at ihk
        exact ihk
      · rw [if_neg he]
        rw [decide_eq_false he, if_neg (by decide), Nat.add_zero] at ihk
        exact ihk
  have := key (t - b) gFU (Nat.le_refl _) (by unfold gFU; omega)
  rw [show t - (t - b) = b by omega] at this
  have hz : ct (fun u => decide (b ≤ u) && decide (σ a u = x)) b = 0 := ct_zero (fun i hi => by rw [decide_eq_false (by omega)]; rfl)
  rw [hz] at this
  unfold fx_57
  rw [gq_R (by omega) (by omega), show max (b : Int) 0 = (b : Int) by omega]
  exact this
/-- unitsFor -/
theorem g74 (hcm : cm σ s R) (hR : ∀ p, 0 ≤ R p ∧ R p ≤ 1 ∧ (R p).den ≤ 1000000000) {p U : Nat} (hp : p < 14) (hU : U ≤ 60) : fx_74 s (p : Int) (U : Int) σ = some (.inl ((flr U R p : Nat) : Int), σ) := by
  have hb := hR p
  have hnd := num_le_den hb.2.1
  have hn0 : 0 ≤ (R p).num := Rat.num_nonneg.mpr hb.1
  have hdd := hb.2.2
  have hd0 := (R p).den_pos
  have hm : (U : Int) * (R p).num ≤ 60 * 1000000000 := Int.mul_le_mul (by omega) (by omega) (by omega) (by omega)
  have hm0 : 0 ≤ (U : Int) * (R p).num := Int.mul_nonneg (by omega) hn0
  unfold fx_74
  rw [g72 hp, gc_v, (hcm p hp).2, gq_L (by omega) (by omega), if_pos (by omega), gq_R (by omega) (by omega), g71 hp, gc_v, (hcm p hp).1, gq_D (by omega) (by omega) (by omega) (by omega), flr_cast hb.1]
theorem flr_b (hR : ∀ p, 0 ≤ R p ∧ R p ≤ 1 ∧ (R p).den ≤ 1000000000) (U p : Nat) : flr U R p ≤ U := by
  have h := (flr_le (U := U) (hR p).1).1
  have h2 : (U : Rat) * R p ≤ (U : Rat) * 1 := Rat.mul_le_mul_of_nonneg_left (hR p).2.1 Rat.natCast_nonneg
  rw [Rat.mul_one] at h2
  exact Rat.natCast_le_natCast.mp (Rat.le_trans h h2)
end LC1
