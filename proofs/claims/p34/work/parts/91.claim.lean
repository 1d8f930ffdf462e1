section CLM1
variable {σ σ' : gb_S} {c n nb nd : Nat} {P : pT} {ps : Nat → Nat} {De : Nat → dT} {Cf : Nat → List Nat} {C : List Nat}
def one1 : Nat → Rat := fun _ => 1
theorem nodup_len (hd : C.Nodup) (hm : ∀ p, p ∈ C → p < n) : C.length ≤ n := by
  have h := RL_len (n := n) (R := one1) (C := C) (fun _ => show (0 : Rat) ≤ 1 by decide) hd hm
  have h2 := ct_le (fun p => decide (0 < one1 p)) n
  have h3 : (RL n one1 C).length = C.length + ((List.range n).filter (fun p => !C.contains p && decide (0 < one1 p))).length := by
    unfold RL
    rw [List.length_append]
    congr 2
    exact List.filter_eq_self.mpr (fun a _ => show decide ((0 : Rat) < 1) = true by decide)
  omega
theorem snoc_len (hd : C.Nodup) (hm : ∀ p, p ∈ C → p < n) {p : Nat} (hp : p < n) (hno : C.contains p = false) : C.length < n := by
  have hno2 : p ∉ C := fun h => by rw [List.contains_iff_mem.mpr h] at hno; cases hno
  have := nodup_len (n := n) (C := p :: C) (List.nodup_cons.mpr ⟨hno2, hd⟩) (fun q hq => by
    rcases List.mem_cons.mp hq with h | h
    · rw [h]; exact hp
    · exact hm q h)
  rw [List.length_cons] at this
  omega
theorem snoc_nodup (hd : C.Nodup) {p : Nat} (hno : C.contains p = false) : (C ++ [p]).Nodup := by
  have hno2 : p ∉ C := fun h => by rw [List.contains_iff_mem.mpr h] at hno; cases hno
  rw [List.nodup_append]
  refine ⟨hd, List.nodup_cons.mpr ⟨List.not_mem_nil, List.nodup_nil⟩, fun a ha b hb => ?_⟩
  rw [List.mem_singleton] at hb
  intro h
  exact hno2 (by rw [← hb, ← h]; exact ha)
theorem snoc_mem (hm : ∀ p, p ∈ C → p < n) {p : Nat} (hp : p < n) : ∀ q, q ∈ C ++ [p] → q < n := by
  intro q hq
  rw [List.mem_append, List.mem_singleton] at hq
  rcases hq with h | h
  · exact hm q h
  · rw [h]; exact hp
theorem snoc_getD {p k : Nat} (hk : k < (C ++ [p]).length) : (C ++ [p]).getD k 0 = if k = C.length then p else C.getD k 0 := by
  rw [List.length_append, List.length_singleton] at hk
  rw [List.getD_eq_getElem?_getD]
  by_cases h : k = C.length
  · rw [if_pos h, h, List.getElem?_append_right (Nat.le_refl _), Nat.sub_self]
    rfl
  · rw [if_neg h, List.getElem?_append_left (by omega), ← List.getD_eq_getElem?_getD]
theorem CL_snoc {e p : Nat} (hn : n ≤ 14) (hc : CL σ e n C) (hp : p < n) (hno : C.contains p = false) (h1 : σ' e 3 = (C.length : Int) + 1) (h2 : σ' (e + 2) C.length = (p : Int)) (h3 : ∀ k, k ≠ C.length → σ' (e + 2) k = σ (e + 2) k) : CL σ' e n (C ++ [p]) := by
  obtain ⟨c1, c2, c3, c4, c5⟩ := hc
  have hl := snoc_len c3 c4 hp hno
  refine ⟨by rw [h1, List.length_append, List.length_singleton]; omega, by rw [List.length_append, List.length_singleton]; omega, snoc_nodup c3 hno, snoc_mem c4 hp, fun k hk => ?_⟩
  rw [snoc_getD hk]
  rw [List.length_append, List.length_singleton] at hk
  by_cases h : k = C.length
  · rw [if_pos h, h, h2]
  · rw [if_neg h, h3 k h]; exact c5 k (by omega)
theorem CR_snoc {d p : Nat} (hn : n ≤ 14) (hc : CR σ d n C) (hp : p < n) (hno : C.contains p = false) (h1 : σ' 202 d = (C.length : Int) + 1) (h2 : σ' 201 (14 * d + C.length) = (p : Int)) (h3 : ∀ k, k ≠ 14 * d + C.length → σ' 201 k = σ 201 k) : CR σ' d n (C ++ [p]) := by
  obtain ⟨c1, c2, c3, c4, c5⟩ := hc
  have hl := snoc_len c3 c4 hp hno
  refine ⟨by rw [h1, List.length_append, List.length_singleton]; omega, by rw [List.length_append, List.length_singleton]; omega, snoc_nodup c3 hno, snoc_mem c4 hp, fun k hk => ?_⟩
  rw [snoc_getD hk]
  rw [List.length_append, List.length_singleton] at hk
  by_cases h : k = C.length
  · rw [if_pos h, h, h2]
  · rw [if_neg h, h3 _ (by omega)]; exact c5 k (by omega)
/-- the reference's place of a claim -/
theorem r153 {d p : Nat} (hn : n ≤ 14) (hd : d < 14) (hc : CR σ d n C) (hp : p < 14) : ∃ r : Int, fx_153 (p : Int) (d : Int) σ = some (.inl r, σ) ∧ (C.contains p = false → r = -1) ∧ (C.contains p = true → 0 ≤ r ∧ r < 14) := by
  obtain ⟨c1, c2, c3, c4, c5⟩ := hc
  have key : ∀ (m f : Nat) (z : Int), m ≤ C.length → m < f → (-1 ≤ z ∧ z < 14) → ((∀ k, k < C.length - m → C.getD k 0 ≠ p) → z = -1) → ((∃ k, k < C.length - m ∧ C.getD k 0 = p) → 0 ≤ z) → ∃ r : Int, fx_153_5 f (p : Int) (d : Int) z ((C.length - m : Nat) : Int) σ = some (.inl r, σ) ∧ (C.contains p = false → r = -1) ∧ (C.contains p = true → 0 ≤ r ∧ r < 14) := by
    intro m
    induction m with
    | zero =>
      intro f z _ hf hz h1 h2
      obtain ⟨f, rfl⟩ : ∃ q, f = q + 1 := ⟨f - 1, by omega⟩
      refine ⟨z, ?_, fun h => h1 (fun k hk he => ?_), fun h => ?_⟩
      · rw [fx_153_5, gq_ix (by omega) (by omega), gq_R (by omega) (by omega), Int.toNat_natCast, gq_R (by omega) (by omega), if_neg (by omega)]
      · have := List.contains_iff_mem.mpr (getD_mem (C := C) (k := k) (by omega))
        rw [he, h] at this
        cases this
      · obtain ⟨k, hk, hke⟩ := mem_getD (List.contains_iff_mem.mp h)
        have := h2 ⟨k, by omega, hke⟩
        omega
    | succ m ih =>
      intro f z hm hf hz h1 h2
      obtain ⟨f, rfl⟩ : ∃ q, f = q + 1 := ⟨f - 1, by omega⟩
      have ih := fun z => ih f z (by omega) (by omega)
      generalize hi : C.length - (m + 1) = i at h1 h2 ⊢
      have hi2 : C.length - m = i + 1 := by omega
      rw [hi2] at ih
      have hil : i < C.length := by omega
      have hCi := c4 _ (getD_mem hil)
      rw [fx_153_5, gq_ix (by omega) (by omega), gq_R (by omega) (by omega), Int.toNat_natCast, gq_R (by omega) (by omega), if_pos (by omega), gq_ix (by omega) (by omega), show ((14 * (d : Int)) + (i : Int)).toNat = 14 * d + i by omega, c5 i hil, gq_R (by omega) (by omega), gq_R (by omega) (by omega), show ((i : Nat) : Int) + 1 = ((i + 1 : Nat) : Int) by omega]
      by_cases he : C.getD i 0 = p
      · rw [if_pos (by omega)]
        exact ih (i : Int) (by omega) (fun h => absurd he (h i (by omega))) (fun _ => by omega)
      · rw [if_neg (by omega)]
        refine ih z hz (fun h => h1 (fun k hk => h k (by omega))) (fun h => ?_)
        obtain ⟨k, hk, hke⟩ := h
        refine h2 ⟨k, ?_, hke⟩
        by_cases hki : k = i
        · subst hki; exact absurd hke he
        · omega
  have := key C.length gFU (-1) (Nat.le_refl _) (by unfold gFU; omega) (by omega) (fun _ => rfl) (fun ⟨k, hk, _⟩ => by omega)
  rw [Nat.sub_self] at this
  exact this
/-- the reference's way through a claim's conditions -/
theorem r154 {x y : Int} (h1 : -2147483648 ≤ x ∧ x ≤ 2147483647) (h2 : -2147483648 ≤ y ∧ y ≤ 2147483647) (hb : RB σ n nb P ps) (hc : ∀ d, d < n → CR σ d n (Cf d)) : ∀ b1 b2 : Bool, b1 = (decide (0 ≤ x ∧ x < (n : Int)) && decide (0 ≤ y ∧ y < (n : Int))) → b2 = (b1 && (decide (σ 189 x.toNat = -1) && (!decide (σ 189 y.toNat = -1) && (decide (σ 198 y.toNat = 0) && !(Cf y.toNat).contains x.toNat)))) → fx_154 x y σ = fx_154_72 x y (ib b2) (ib b1) σ := by
  intro b1 b2 hb1 hb2
  have hn := hb.1
  have h187 := hb.2.1
  have sA : fx_154 x y σ = fx_154_21 x y (ib b1) σ := by
    unfold fx_154
    rw [i131 h1 hn h187, gc_v, gq_R (ibR _).1 (ibR _).2]
    cases hx : decide (0 ≤ x ∧ x < (n : Int)) with
    | false => rw [hb1, hx, Bool.false_and, ibF, if_pos rfl]
    | true =>
      rw [hb1, hx, Bool.true_and, ibT, if_neg (by decide), i131 h2 hn h187, gc_v, gq_R (ibR _).1 (ibR _).2]
      cases hy : decide (0 ≤ y ∧ y < (n : Int)) with
      | false => rw [ibF, if_pos rfl]
      | true => rw [ibT, if_neg (by decide)]
  rw [sA]
  unfold fx_154_21
  rw [gq_R (ibR _).1 (ibR _).2]
  cases b1 with
  | false => rw [ibF, if_pos rfl, hb2, Bool.false_and, ibF]
  | true =>
    have hxy : (0 ≤ x ∧ x < (n : Int)) ∧ (0 ≤ y ∧ y < (n : Int)) := by
      rw [eq_comm, Bool.and_eq_true, decide_eq_true_eq, decide_eq_true_eq] at hb1
      exact hb1
    have hx9 := (hb.2.2.2.2.2.2.2.2.1 x.toNat (by omega)).2
    have hy9 := (hb.2.2.2.2.2.2.2.2.1 y.toNat (by omega)).2
    have hy10 := (hb.2.2.2.2.2.2.2.2.2.1 y.toNat (by omega)).1
    rw [Bool.true_and] at hb2
    rw [ibT, if_neg (by decide), gq_ix (by omega) (by omega), gq_R (by omega) (by omega)]
    by_cases a1 : σ 189 x.toNat = -1
    · rw [decide_eq_true a1, Bool.true_and] at hb2
      rw [if_pos a1, gq_ix (by omega) (by omega), gq_R (by omega) (by omega)]
      by_cases a2 : σ 189 y.toNat = -1
      · rw [decide_eq_true a2, Bool.not_true, Bool.false_and] at hb2
        rw [if_pos a2, hb2, ibF]
      · rw [decide_eq_false a2, Bool.not_false, Bool.true_and] at hb2
        rw [if_neg a2, gq_R (by omega) (by omega)]
        by_cases a3 : σ 198 y.toNat = 0
        · rw [decide_eq_true a3, Bool.true_and] at hb2
          obtain ⟨r, e, q1, q2⟩ := r153 (p := x.toNat) (d := y.toNat) hn (by omega) (hc y.toNat (by omega)) (by omega)
          rw [Int.toNat_of_nonneg hxy.1.1, Int.toNat_of_nonneg hxy.2.1] at e
          rw [if_pos a3, e, gc_v]
          cases hct : (Cf y.toNat).contains x.toNat with
          | false =>
            rw [hct, Bool.not_false] at hb2
            rw [q1 hct, gq_R (by omega) (by omega), if_pos rfl, hb2, ibT]
          | true =>
            have := q2 hct
            rw [hct, Bool.not_true] at hb2
            rw [gq_R (by omega) (by omega), if_neg (by omega), hb2, ibF]
        · rw [decide_eq_false a3, Bool.false_and] at hb2
          rw [if_neg a3, hb2, ibF]
    · rw [decide_eq_false a1, Bool.false_and] at hb2
      rw [if_neg a1, hb2, ibF]
theorem r154f {x y t : Int} {b1 b2 : Bool} (h : (b1 && b2) = false) (ht : (if b1 = true then (if b2 = true then (0 : Int) else 2) else 1) = t) (hst : ST σ n P) (e : fx_154 x y σ = fx_154_72 x y (ib b2) (ib b1) σ) : RQ (fx_154 x y) t 0 n P σ := by
  refine ⟨gb_up σ 187 43 t, ?_, up43_SC t, up43_ST t hst, up_eq _ _ _ _, up_ne _ _ _ _ (by omega)⟩
  rw [e]
  unfold fx_154_72
  rw [i128, gc_v, h, ht]
  exact (gq_R (by decide) (by decide)).trans (if_pos rfl)
theorem c118 {a : Nat} (h : σ a 4 = 0 ∨ σ a 4 = 1) : fx_118 a σ = some (if σ a 4 = 0 then .inl 0 else .inr 2, σ) := by
  unfold fx_118
  rw [gq_R (by omega) (by omega)]
  split <;> rfl
/-- 14: claim -/
theorem uc14 {x y : Int} (h1 : -2147483648 ≤ x ∧ x ≤ 2147483647) (h2 : -2147483648 ≤ y ∧ y ≤ 2147483647) (hi : IV2 c σ n nb nd P ps De Cf) : CM rI c (fx_207 x y) (fx_154 x y) σ := by
  have hn := hi.1.1
  have h23 := hi.2.2.2.1.1
  have hE0 := hi.2.2.2.2.2.2.1
  have hr := r154 (Cf := Cf) h1 h2 hi.1 (fun d hd => (hE0 d (by omega)).2.2.2.1)
  by_cases hx : 0 ≤ x ∧ x < (n : Int)
  · have cx : fx_110 x σ = some (.inl 0, σ) := by rw [c110 h1 hn h23, if_pos hx]
    by_cases hy : 0 ≤ y ∧ y < (n : Int)
    · have cy : fx_110 y σ = some (.inl 0, σ) := by rw [c110 h2 hn h23, if_pos hy]
      have hb1 : true = (decide (0 ≤ x ∧ x < (n : Int)) && decide (0 ≤ y ∧ y < (n : Int))) := by rw [decide_eq_true hx, decide_eq_true hy]; rfl
      obtain ⟨p, rfl⟩ : ∃ p : Nat, x = (p : Int) := ⟨x.toNat, by omega⟩
      obtain ⟨q, rfl⟩ : ∃ q : Nat, y = (q : Int) := ⟨y.toNat, by omega⟩
      have hp : p < n := by omega
      have hq : q < n := by omega
      obtain ⟨e1, e2, e3, e4, e5, e6, e7, e8, e9, e10⟩ := hE0 q (by omega)
      rw [Int.toNat_natCast, Int.toNat_natCast] at hr
      by_cases a1 : σ 189 p = -1
      · by_cases a2 : σ 189 q = -1
        · refine CM_thr (k := 2) (b := 0) hi ?_ (by omega) (r154f (by rfl) (by rfl) hi.2.1 (hr true false hb1 (by rw [decide_eq_true a2]; simp))) (by unfold rI; omega)
          unfold fx_207 fx_93
          rw [cx, gc_v, cy, gc_v, alive_yes hi hp a1, gc_v, dead_no hi hq a2, gc_e, gch_e, if_neg (by decide), if_pos rfl]
        · by_cases a3 : σ 198 q = 0
          · by_cases a4 : (Cf q).contains p = true
            · refine CM_thr (k := 2) (b := 0) hi ?_ (by omega) (r154f (by rfl) (by rfl) hi.2.1 (hr true false hb1 (by rw [a4]; simp))) (by unfold rI; omega)
              unfold fx_207 fx_93
              rw [cx, gc_v, cy, gc_v, alive_yes hi hp a1, gc_v, dead_yes hi hq a2, gc_v, gq_ix (by omega) (by omega), Int.toNat_natCast, c118 (by rw [e5]; exact e6), e5, if_pos a3, gc_v, g15 hn e3 (by omega), gc_v, a4, if_pos rfl, gq_R (by omega) (by omega), if_neg (by decide), gch_e, if_neg (by decide), if_pos rfl]
            · rw [Bool.not_eq_true] at a4
              have hl := snoc_len e3.2.2.1 e3.2.2.2.1 hp a4
              have h3 := e3.1
              have hc1 : fx_207 (p : Int) (q : Int) σ = some (.inl 0, gb_up (gb_up (gb_up σ (47 + 10 * q + 2) (Cf q).length (p : Int)) (47 + 10 * q) 3 (((Cf q).length : Int) + 1)) 224 0 (((Cf q).length : Int) + 1)) := by
                unfold fx_207 fx_93
                rw [cx, gc_v, cy, gc_v, alive_yes hi hp a1, gc_v, dead_yes hi hq a2, gc_v, gq_ix (by omega) (by omega), Int.toNat_natCast, c118 (by rw [e5]; exact e6), e5, if_pos a3, gc_v, g15 hn e3 (by omega), gc_v, a4, show (if false = true then (1 : Int) else 0) = 0 from rfl, gq_R (by omega) (by omega), if_pos rfl]
                unfold fx_16
                rw [h3, gq_R (by omega) (by omega), if_pos (by omega), gq_ix (by omega) (by omega), Int.toNat_natCast, up_ne _ _ _ _ (by omega), h3, gc_v, up_eq, gch_v, gq_R (by omega) (by omega)]
              generalize hs1 : gb_up (gb_up (gb_up σ (47 + 10 * q + 2) (Cf q).length (p : Int)) (47 + 10 * q) 3 (((Cf q).length : Int) + 1)) 224 0 (((Cf q).length : Int) + 1) = s1 at hc1
              have f1 : ∀ c, c ≠ 47 + 10 * q + 2 → c ≠ 47 + 10 * q → c ≠ 224 → s1 c = σ c := fun c h1 h2 h3 => by rw [← hs1, up_ne _ _ _ _ h3, up_ne _ _ _ _ h2, up_ne _ _ _ _ h1]
              have hrb1 : RB s1 n nb P ps := RB_cong (fun j _ => by rw [f1 187 (by omega) (by omega) (by omega)]) (fun c h => f1 c (by omega) (by omega) (by omega)) hi.1
              have hCR1 : ∀ d, d < n → CR s1 d n (Cf d) := fun d hd => by
                have := (hE0 d (by omega)).2.2.2.1
                unfold CR at this ⊢
                rw [f1 201 (by omega) (by omega) (by omega), f1 202 (by omega) (by omega) (by omega)]
                exact this
              have hc2 : fx_154 (p : Int) (q : Int) s1 = some (.inl (((Cf q).length : Int) + 1), gb_up (gb_up (gb_up s1 187 43 0) 201 (14 * q + (Cf q).length) (p : Int)) 202 q (((Cf q).length : Int) + 1)) := by
                rw [r154 h1 h2 hrb1 hCR1 true true hb1 (by rw [Int.toNat_natCast, Int.toNat_natCast, f1 189 (by omega) (by omega) (by omega), f1 198 (by omega) (by omega) (by omega), decide_eq_true a1, decide_eq_false a2, decide_eq_true a3, a4]; rfl)]
                unfold fx_154_72
                have h202 : (gb_up s1 187 43 0) 202 q = ((Cf q).length : Int) := by rw [up_ne _ _ _ _ (by omega), f1 202 (by omega) (by omega) (by omega), e4.1]
                rw [i128, gc_v, Bool.true_and, ibT, gq_R (by omega) (by omega), if_neg (by decide), gq_ix (by omega) (by omega), Int.toNat_natCast, if_pos rfl, if_pos rfl, h202, gq_ix (by omega) (by omega), show ((14 * (q : Int)) + ((Cf q).length : Int)).toNat = 14 * q + (Cf q).length by omega, up_ne _ _ _ _ (by omega : (202 : Nat) ≠ 201), h202, up_eq]
              refine ⟨0, s1, _, _, hc1, hc2, ?_, fun _ => ?_, by omega, by unfold rI; omega, n, nb, nd, P, ps, De, fun d => if d = q then Cf q ++ [p] else Cf d, IV_mono ?_⟩
              · rw [up_ne _ _ _ _ (by omega), up_ne _ _ _ _ (by omega), up_eq]
              · rw [up_ne _ _ _ _ (by omega), up_ne _ _ _ _ (by omega), up_ne _ _ _ _ (by omega), ← hs1, up_eq]
              · generalize hs2 : gb_up (gb_up (gb_up s1 187 43 0) 201 (14 * q + (Cf q).length) (p : Int)) 202 q (((Cf q).length : Int) + 1) = s2
                have g2 : ∀ c, c ≠ 187 → c ≠ 201 → c ≠ 202 → s2 c = s1 c := fun c h1 h2 h3 => by rw [← hs2, up_ne _ _ _ _ h3, up_ne _ _ _ _ h2, up_ne _ _ _ _ h1]
                have f2 : ∀ c, c ≠ 47 + 10 * q + 2 → c ≠ 47 + 10 * q → c ≠ 224 → c ≠ 187 → c ≠ 201 → c ≠ 202 → s2 c = σ c := fun c h1 h2 h3 h4 h5 h6 => by rw [g2 c h4 h5 h6, f1 c h1 h2 h3]
                have j2 : ∀ j, j ≠ 43 → s2 187 j = σ 187 j := fun j h => by rw [← hs2, up_ne _ _ _ _ (by omega), up_ne _ _ _ _ (by omega), up_nj _ _ _ _ h, f1 187 (by omega) (by omega) (by omega)]
                have hrb2 : RB s2 n nb P ps := RB_cong (fun j h => j2 j (by omega)) (fun c h => f2 c (by omega) (by omega) (by omega) (by omega) (by omega) (by omega)) hi.1
                refine IV_upd hi (Nat.le_refl _) hrb2 (ST_cong (j2 29 (by omega)) (f2 212 (by omega) (by omega) (by omega) (by omega) (by omega) (by omega)) (f2 213 (by omega) (by omega) (by omega) (by omega) (by omega) (by omega)) hi.2.1) ?_ (FO_cong (fun c h => f2 c (by omega) (by omega) (by omega) (by omega) (by omega) (by omega)) hi.2.2.2.1) (PO_cong (fun c h => f2 c (by omega) (by omega) (by omega) (by omega) (by omega) (by omega)) hi.2.2.2.2.1) (KP_cong (fun c h => f2 c (by omega) (by omega) (by omega) (by omega) (by omega) (by omega)) hi.2.2.2.2.2.1) (fun d hd h1 => ?_) (fun d hd => ?_) (fun c h => f2 c (by omega) (by omega) (by omega) (by omega) (by omega) (by omega)) (j2 25 (by omega)) (j2 26 (by omega))
                · rw [j2 0 (by omega), f2 1 (by omega) (by omega) (by omega) (by omega) (by omega) (by omega)]
                  exact hi.2.2.1
                · have hE := hE0 d (by omega)
                  have hx := (hE.2.2.2.2.2.2.2.2.2 () h1).1
                  have hdp : d ≠ q := fun h => by rw [h, a3] at h1; exact absurd h1 (by decide)
                  refine ⟨congrFun (funext fun d => Rd_cong (fun c hc => f2 c (by omega) (by omega) (by omega) (by omega) (by omega) (by omega)) n P d) d, if_neg hdp, ?_⟩
                  rw [f2 189 (by omega) (by omega) (by omega) (by omega) (by omega) (by omega)]
                  exact hx
                · obtain ⟨E1, E2, E3, E4, E5, E6, E7, E8, E9, E10⟩ := hE0 d hd
                  have hj : ∀ j, j ≠ 3 → s2 (47 + 10 * d) j = σ (47 + 10 * d) j := fun j hj => by
                    rw [g2 _ (by omega) (by omega) (by omega), ← hs1, up_ne _ _ _ _ (by omega), up_nj _ _ _ _ hj, up_ne _ _ _ _ (by omega)]
                  refine ⟨hj, f2 _ (by omega) (by omega) (by omega) (by omega) (by omega) (by omega), f2 _ (by omega) (by omega) (by omega) (by omega) (by omega) (by omega), f2 _ (by omega) (by omega) (by omega) (by omega) (by omega) (by omega), fun q' hq' => ?_, ?_, ?_, fun hle => ?_⟩
                  · unfold ww
                    rw [f2 _ (by omega) (by omega) (by omega) (by omega) (by omega) (by omega), f2 197 (by omega) (by omega) (by omega) (by omega) (by omega) (by omega)]
                    exact E2 q' hq'
                  · by_cases hdq : d = q
                    · subst hdq
                      rw [if_pos rfl]
                      refine CL_snoc hn e3 hp a4 ?_ ?_ (fun k hk => ?_)
                      · rw [g2 _ (by omega) (by omega) (by omega), ← hs1, up_ne _ _ _ _ (by omega), up_eq]
                      · rw [g2 _ (by omega) (by omega) (by omega), ← hs1, up_ne _ _ _ _ (by omega), up_ne _ _ _ _ (by omega), up_eq]
                      · rw [g2 _ (by omega) (by omega) (by omega), ← hs1, up_ne _ _ _ _ (by omega), up_ne _ _ _ _ (by omega), up_nj _ _ _ _ hk]
                    · rw [if_neg hdq]
                      exact CL_cong (f2 _ (by omega) (by omega) (by omega) (by omega) (by omega) (by omega)) (f2 _ (by omega) (by omega) (by omega) (by omega) (by omega) (by omega)) E3
                  · by_cases hdq : d = q
                    · subst hdq
                      rw [if_pos rfl]
                      refine CR_snoc hn e4 hp a4 ?_ ?_ (fun k hk => ?_)
                      · rw [← hs2, up_eq]
                      · rw [← hs2, up_ne _ _ _ _ (by omega), up_eq]
                      · rw [← hs2, up_ne _ _ _ _ (by omega), up_nj _ _ _ _ hk, up_ne _ _ _ _ (by omega), f1 201 (by omega) (by omega) (by omega)]
                    · rw [if_neg hdq]
                      unfold CR at E4 ⊢
                      have k1 : s2 202 d = σ 202 d := by rw [← hs2, up_nj _ _ _ _ hdq, up_ne _ _ _ _ (by omega), up_ne _ _ _ _ (by omega), f1 202 (by omega) (by omega) (by omega)]
                      have k2 : ∀ k, k < 14 → s2 201 (14 * d + k) = σ 201 (14 * d + k) := fun k hk => by rw [← hs2, up_ne _ _ _ _ (by omega), up_nj _ _ _ _ (by omega), up_ne _ _ _ _ (by omega), f1 201 (by omega) (by omega) (by omega)]
                      have hl4 := E4.2.1
                      refine ⟨by rw [k1]; exact E4.1, E4.2.1, E4.2.2.1, E4.2.2.2.1, fun k hk => by rw [k2 k (by omega)]; exact E4.2.2.2.2 k hk⟩
                  · rw [if_neg (by omega)]
                    exact (E9 hle).2.1
          · have h198 : σ 198 q = 1 := by rcases e6 with h | h; exact absurd h a3; exact h
            refine CM_thr (k := 2) (b := 0) hi ?_ (by omega) (r154f (by rfl) (by rfl) hi.2.1 (hr true false hb1 (by rw [decide_eq_false a3]; simp))) (by unfold rI; omega)
            unfold fx_207 fx_93
            rw [cx, gc_v, cy, gc_v, alive_yes hi hp a1, gc_v, dead_yes hi hq a2, gc_v, gq_ix (by omega) (by omega), Int.toNat_natCast, c118 (by rw [e5]; exact e6), e5, if_neg a3, gc_e, gch_e, if_neg (by decide), if_pos rfl]
      · refine CM_thr (k := 2) (b := 0) hi ?_ (by omega) (r154f (by rfl) (by rfl) hi.2.1 (hr true false hb1 (by rw [decide_eq_false a1]; simp))) (by unfold rI; omega)
        unfold fx_207 fx_93
        rw [cx, gc_v, cy, gc_v, alive_no hi hp a1, gc_e, gch_e, if_neg (by decide), if_pos rfl]
    · refine CM_thr (k := 1) (b := 0) hi ?_ (by omega) (r154f (by rfl) (by rfl) hi.2.1 (hr false _ (by rw [decide_eq_false hy, Bool.and_false]) rfl)) (by unfold rI; omega)
      unfold fx_207 fx_93
      rw [cx, gc_v, c110n h2 hn h23 hy, gc_e, gch_e, if_pos rfl]
  · refine CM_thr (k := 1) (b := 0) hi ?_ (by omega) (r154f (by rfl) (by rfl) hi.2.1 (hr false _ (by rw [decide_eq_false hx]; rfl) rfl)) (by unfold rI; omega)
    unfold fx_207 fx_93
    rw [c110n h1 hn h23 hx, gc_e, gch_e, if_pos rfl]
end CLM1
