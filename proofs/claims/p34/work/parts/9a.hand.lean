section HA1
variable {σ σ' : gb_S} {c n nb nd : Nat} {P : pT} {ps : Nat → Nat} {De : Nat → dT} {Cf : Nat → List Nat}
theorem r187l {x y z x5 x6 : Int} {a b : Nat} (hx : -2147483648 ≤ x ∧ x ≤ 2147483647) (hab : a < b) (hb : b ≤ 60) (hv : ∀ u, u < 60 → -1 ≤ σ 222 u ∧ σ 222 u < 14) : ∀ (m f : Nat), m ≤ b - a → m < f → fx_187_64 f x y z (b : Int) x5 x6 ((ct (fun u => decide (a ≤ u) && decide (σ 222 u = x)) (b - m) : Nat) : Int) ((b - m : Nat) : Int) σ = fx_187_98 x y z (b : Int) x5 x6 ((ct (fun u => decide (a ≤ u) && decide (σ 222 u = x)) b : Nat) : Int) σ := by
  intro m
  induction m with
  | zero =>
    intro f _ hf
    obtain ⟨f, rfl⟩ : ∃ q, f = q + 1 := ⟨f - 1, by omega⟩
    rw [fx_187_64, gq_R (by omega) (by omega), gq_R (by omega) (by omega), if_neg (by omega), Nat.sub_zero]
  | succ m ih =>
    intro f hm hf
    obtain ⟨f, rfl⟩ : ∃ q, f = q + 1 := ⟨f - 1, by omega⟩
    have ihk := ih f (by omega) (by omega)
    generalize hi : b - (m + 1) = i
    have hi2 : b - m = i + 1 := by omega
    rw [hi2, ct, decide_eq_true (show a ≤ i by omega), Bool.true_and] at ihk
    have hvi := hv i (by omega)
    rw [fx_187_64, gq_R (by omega) (by omega), gq_R (by omega) (by omega), if_pos (by omega), gq_ix (by omega) (by omega), Int.toNat_natCast, gq_R (by omega) (by omega), gq_R hx.1 hx.2, show ((i : Nat) : Int) + 1 = ((i + 1 : Nat) : Int) by omega]
    by_cases h : σ 222 i = x
    · rw [if_pos h]
      rw [decide_eq_true h, if_pos rfl] at ihk
      exact ihk
    · rw [if_neg h, Int.add_zero]
      rw [decide_eq_false h, if_neg (by decide), Nat.add_zero] at ihk
      exact ihk
theorem r187_98 {p q : Nat} {z w : Int} {k : Nat} (hb : RB σ n nb P ps) (hp : p < n) (hq : q < n) (hk : k ≤ 60) (h26 : 0 ≤ σ 187 26 ∧ σ 187 26 ≤ 60) : fx_187_98 (p : Int) (q : Int) z w 1 1 (k : Int) σ = fx_187_142 (p : Int) (q : Int) z w (k : Int) (ib (decide (0 < k) && (decide (σ 189 p = -1) && (decide (σ 189 q = -1) && decide (σ 187 26 < 60))))) 1 1 σ := by
  have hn := hb.1
  have h9p := (hb.2.2.2.2.2.2.2.2.1 p hp).2
  have h9q := (hb.2.2.2.2.2.2.2.2.1 q hq).2
  unfold fx_187_98
  rw [gq_R (by omega) (by omega)]
  by_cases h0 : 0 < k
  · rw [if_pos (by omega), decide_eq_true h0, Bool.true_and, gq_ix (by omega) (by omega), Int.toNat_natCast, gq_R (by omega) (by omega)]
    by_cases a1 : σ 189 p = -1
    · rw [if_pos a1, decide_eq_true a1, Bool.true_and, gq_ix (by omega) (by omega), Int.toNat_natCast, gq_R (by omega) (by omega)]
      by_cases a2 : σ 189 q = -1
      · rw [if_pos a2, decide_eq_true a2, Bool.true_and, gq_R (by omega) (by omega)]
        by_cases a3 : σ 187 26 < 60
        · rw [if_pos a3, decide_eq_true a3, ibT]
        · rw [if_neg a3, decide_eq_false a3, ibF]
      · rw [if_neg a2, decide_eq_false a2, Bool.false_and, ibF]
    · rw [if_neg a1, decide_eq_false a1, Bool.false_and, ibF]
  · rw [if_neg (by omega), decide_eq_false h0, Bool.false_and, ibF]
/-- the reference's way through a handing's conditions: refused early -/
theorem r187e {x y z w : Int} (h1 : -2147483648 ≤ x ∧ x ≤ 2147483647) (h2 : -2147483648 ≤ y ∧ y ≤ 2147483647) (h3 : -2147483648 ≤ z ∧ z ≤ 2147483647) (h4 : -2147483648 ≤ w ∧ w ≤ 2147483647) (hb : RB σ n nb P ps) : ∀ b1 b2 : Bool, b1 = (decide (0 ≤ x ∧ x < (n : Int)) && decide (0 ≤ y ∧ y < (n : Int))) → b2 = (!decide (x = y) && decide (0 ≤ z ∧ z < w ∧ w ≤ 60)) → fx_187 x y z w σ = fx_187_42 x y z w (ib b1) (ib b2) σ ∧ ((b1 && b2) = false → fx_187 x y z w σ = fx_187_142 x y z w 0 0 (ib b2) (ib b1) σ) := by
  intro b1 b2 hb1 hb2
  have hn := hb.1
  have h187 := hb.2.1
  have sA : fx_187 x y z w σ = fx_187_21 x y z w (ib b1) σ := by
    unfold fx_187
    rw [i131 h1 hn h187, gc_v, gq_R (ibR _).1 (ibR _).2]
    cases hx : decide (0 ≤ x ∧ x < (n : Int)) with
    | false => rw [hb1, hx, Bool.false_and, ibF, if_pos rfl]
    | true =>
      rw [hb1, hx, Bool.true_and, ibT, if_neg (by decide), i131 h2 hn h187, gc_v, gq_R (ibR _).1 (ibR _).2]
      cases hy : decide (0 ≤ y ∧ y < (n : Int)) with
      | false => rw [ibF, if_pos rfl]
      | true => rw [ibT, if_neg (by decide)]
  have sB : fx_187_21 x y z w (ib b1) σ = fx_187_42 x y z w (ib b1) (ib b2) σ := by
    unfold fx_187_21
    rw [gq_R h1.1 h1.2, gq_R h2.1 h2.2]
    by_cases hxy : x = y
    · rw [if_pos hxy, hb2, decide_eq_true hxy, Bool.not_true, Bool.false_and, ibF]
    · rw [if_neg hxy, r185 h3 h4, gc_v, gq_R (ibR _).1 (ibR _).2, hb2, decide_eq_false hxy, Bool.not_false, Bool.true_and]
      cases decide (0 ≤ z ∧ z < w ∧ w ≤ 60) with
      | false => rw [ibF, if_pos rfl]
      | true => rw [ibT, if_neg (by decide)]
  refine ⟨by rw [sA, sB], fun h => ?_⟩
  have e98 : ∀ x5 x6 : Int, fx_187_98 x y z w x5 x6 0 σ = fx_187_142 x y z w 0 0 x6 x5 σ := fun x5 x6 => by
    unfold fx_187_98
    rw [gq_R (by omega) (by omega), if_neg (by decide)]
  rw [sA, sB]
  unfold fx_187_42
  rw [gq_R (ibR _).1 (ibR _).2, gq_R (ibR _).1 (ibR _).2, e98]
  cases b1 with
  | false => rw [ibF, if_pos rfl]
  | true =>
    rw [Bool.true_and] at h
    rw [h, ibT, ibF, if_neg (by decide), if_pos rfl]
theorem r187f {x y z w t : Int} {b1 b2 : Bool} (h : (b1 && b2) = false) (ht : (if b1 = true then (if b2 = true then (0 : Int) else 2) else 1) = t) (hst : ST σ n P) (e : fx_187 x y z w σ = fx_187_142 x y z w 0 0 (ib b2) (ib b1) σ) : RQ (fx_187 x y z w) t 0 n P σ := by
  refine ⟨gb_up σ 187 43 t, ?_, up43_SC t, up43_ST t hst, up_eq _ _ _ _, up_ne _ _ _ _ (by omega)⟩
  rw [e]
  unfold fx_187_142
  have := i129 (σ := σ) b1 b2 false
  rw [ibF] at this
  have ht2 : (if b1 = true then (if b2 = true then (if false = true then (0 : Int) else 3) else 2) else 1) = t := by
    rw [← ht]
    cases b1 with
    | false => rfl
    | true =>
      cases b2 with
      | false => rfl
      | true => cases h
  rw [this, gc_v, Bool.and_false, Bool.and_false, ht2]
  exact (gq_R (by decide) (by decide)).trans (if_pos rfl)
/-- the reference behind the first conditions of a handing -/
theorem r187y {p q a b : Nat} (hp : p < n) (hq : q < n) (hpq : p ≠ q) (hab : a < b) (hb60 : b ≤ 60) (hi : IV2 c σ n nb nd P ps De Cf) : ∃ s, fx_187 (p : Int) (q : Int) (a : Int) (b : Int) σ = fx_187_142 (p : Int) (q : Int) (a : Int) (b : Int) ((ct (fun u => decide (a ≤ u) && decide (σ 37 u = (p : Int))) b : Nat) : Int) (ib (decide (0 < ct (fun u => decide (a ≤ u) && decide (σ 37 u = (p : Int))) b) && (decide (σ 189 p = -1) && (decide (σ 189 q = -1) && decide (σ 187 26 < 60))))) 1 1 s ∧ SC σ s ∧ ST s n P ∧ s 187 43 = σ 187 43 ∧ s 224 = σ 224 := by
  have hn := hi.1.1
  obtain ⟨s, e, r, sc, st, t, o⟩ := r184 hi
  have hi2 := SC_IV sc st hi
  refine ⟨s, ?_, sc, st, t, o⟩
  rw [(r187e (σ := σ) (x := (p : Int)) (y := (q : Int)) (z := (a : Int)) (w := (b : Int)) (by omega) (by omega) (by omega) (by omega) hi.1 true true (by rw [decide_eq_true (by omega), decide_eq_true (by omega)]; rfl) (by rw [decide_eq_false (by omega), decide_eq_true (by omega)]; rfl)).1]
  unfold fx_187_42
  rw [ibT, gq_R (by omega) (by omega), if_neg (by decide), gq_R (by omega) (by omega), if_neg (by decide), e, gc_v]
  have hl := r187l (σ := s) (x := (p : Int)) (y := (q : Int)) (z := (a : Int)) (x5 := 1) (x6 := 1) (by omega) hab hb60 (fun u hu => by rw [r u hu]; have := own_b hi hu; omega) (b - a) gFU (Nat.le_refl _) (by unfold gFU; omega)
  rw [show b - (b - a) = a by omega, ct_zero (b := fun u => decide (a ≤ u) && decide (s 222 u = (p : Int))) (m := a) (fun u hu => by rw [decide_eq_false (by omega)]; rfl), ct_congr (b := fun u => decide (a ≤ u) && decide (s 222 u = (p : Int))) (c := fun u => decide (a ≤ u) && decide (σ 37 u = (p : Int))) (m := b) (fun u hu => by rw [r u (by omega)])] at hl
  have hle := ct_le (fun u => decide (a ≤ u) && decide (σ 37 u = (p : Int))) b
  obtain ⟨l1, l2, l3, l4, l5, l6, l7, l8, l9, l10⟩ := hi.2.2.2.2.2.2.2
  have e26 : s 187 26 = σ 187 26 := sc.2 26 (by omega) (by omega)
  have e189 : s 189 = σ 189 := sa sc (c := 189) (by unfold scr; omega) (by omega)
  rw [← e189, ← e26]
  exact hl.trans (r187_98 hi2.1 hp hq (by omega) (by rw [e26]; exact l7))
end HA1
