section CO1
variable {σ : gb_S}
theorem g25 {p : Nat} (h : p < 14) : fx_25 (p : Int) σ = some (.inl (σ 3 p), σ) := by
  unfold fx_25
  rw [gq_R (by omega) (by omega), if_neg (by omega), if_pos (by omega), gq_ix (by omega) (by omega), Int.toNat_natCast]
theorem g26 {p : Nat} (h : p < 14) : fx_26 (p : Int) σ = some (.inl (σ 4 p), σ) := by
  unfold fx_26
  rw [gq_R (by omega) (by omega), if_neg (by omega), if_pos (by omega), gq_ix (by omega) (by omega), Int.toNat_natCast]
theorem g28 {p : Nat} (h : p < 14) : fx_28 (p : Int) σ = some (.inl (σ 5 p), σ) := by
  unfold fx_28
  rw [gq_R (by omega) (by omega), if_neg (by omega), if_pos (by omega), gq_ix (by omega) (by omega), Int.toNat_natCast]
theorem g30 {a p : Nat} (h : p < 14) : fx_30 a (p : Int) σ = some (.inl (σ (a + 1) p), σ) := by
  unfold fx_30
  rw [gq_R (by omega) (by omega), if_neg (by omega), if_pos (by omega), gq_ix (by omega) (by omega), Int.toNat_natCast]
theorem g30n {a : Nat} : fx_30 a (-1) σ = some (.inl (-1), σ) := by
  unfold fx_30
  rw [gq_R (by omega) (by omega), if_pos (by omega)]
theorem g31 {a p : Nat} (h : p < 14) : fx_31 a (p : Int) σ = some (.inl (σ (a + 2) p), σ) := by
  unfold fx_31
  rw [gq_R (by omega) (by omega), if_neg (by omega), if_pos (by omega), gq_ix (by omega) (by omega), Int.toNat_natCast]
theorem g31n {a : Nat} : fx_31 a (-1) σ = some (.inl (-1), σ) := by
  unfold fx_31
  rw [gq_R (by omega) (by omega), if_pos (by omega)]
theorem g32 {a p : Nat} (h : p < 14) : fx_32 a (p : Int) σ = some (.inl (σ (a + 3) p), σ) := by
  unfold fx_32
  rw [gq_R (by omega) (by omega), if_neg (by omega), if_pos (by omega), gq_ix (by omega) (by omega), Int.toNat_natCast]
theorem g71 {a p : Nat} (h : p < 14) : fx_71 a (p : Int) σ = some (.inl (σ (a + 1) p), σ) := by
  unfold fx_71
  rw [gq_R (by omega) (by omega), if_neg (by omega), if_pos (by omega), gq_ix (by omega) (by omega), Int.toNat_natCast]
theorem g72 {a p : Nat} (h : p < 14) : fx_72 a (p : Int) σ = some (.inl (σ (a + 2) p), σ) := by
  unfold fx_72
  rw [gq_R (by omega) (by omega), if_neg (by omega), if_pos (by omega), gq_ix (by omega) (by omega), Int.toNat_natCast]
theorem g13 {a p : Nat} (h : p < 14) : fx_13 a (p : Int) σ = some (.inl (σ (a + 1) p), σ) := by
  unfold fx_13
  rw [gq_R (by omega) (by omega), if_neg (by omega), if_pos (by omega), gq_ix (by omega) (by omega), Int.toNat_natCast]
theorem g34 {x : Int} {n : Nat} (h1 : -1 ≤ x) (h2 : x < n) (hn : n ≤ 14) : ∃ z, fx_34 x σ = some (.inl z, σ) ∧ (-2147483648 ≤ z ∧ z ≤ 2147483647) ∧ ∀ p : Nat, bt z p = decide (x = (p : Int)) := by
  by_cases h : x = -1
  · subst h
    refine ⟨0, ?_, by omega, fun p => ?_⟩
    · unfold fx_34
      rw [gq_R (by omega) (by omega), if_pos rfl]
    · rw [bt_zero, decide_eq_false (by omega)]
  · obtain ⟨k, rfl⟩ : ∃ k : Nat, x = (k : Int) := ⟨x.toNat, by omega⟩
    refine ⟨gb_shl 1 (k : Int), ?_, shl_R _ _, fun p => ?_⟩
    · unfold fx_34
      rw [gq_R (by omega) (by omega), if_neg h]
    · rw [bt_shl (by omega)]
      by_cases hq : p = k
      · rw [decide_eq_true hq, decide_eq_true (by omega)]
      · rw [decide_eq_false hq, decide_eq_false (by omega)]
/-- the kin at a are those of T -/
def KC (σ : gb_S) (a : Nat) (T : kT) : Prop := (∀ k, k < kn T → -1 ≤ σ (a + 1) k ∧ σ (a + 1) k < (kn T : Int) ∧ -1 ≤ σ (a + 2) k ∧ σ (a + 2) k < (kn T : Int) ∧ (σ (a + 1) k = σ (a + 2) k → σ (a + 1) k = -1)) ∧ (∀ q k, q < kn T → k < kn T → kp T q k = (decide (σ (a + 1) k = (q : Int)) || decide (σ (a + 2) k = (q : Int)))) ∧ (∀ q, q < kn T → (-2147483648 ≤ σ (a + 3) q ∧ σ (a + 3) q ≤ 2147483647) ∧ ∀ k, k < 32 → bt (σ (a + 3) q) k = kp T q k)
/-- folk's books, and the estate at e, are those of T -/
def FK (σ : gb_S) (e : Nat) (T : kT) (w : Nat → Int) : Prop := σ 2 3 = (kn T : Int) ∧ (∀ i, i < kn T → σ 5 i = (kr T i : Int)) ∧ (∀ p, p < kn T → (0 ≤ σ 3 p ∧ σ 3 p ≤ 2000) ∧ kc T p = decide (σ 3 p ≤ σ 4 (kx T))) ∧ (0 ≤ σ 4 (kx T) ∧ σ 4 (kx T) ≤ 2000) ∧ σ e 0 = (kx T : Int) ∧ (σ e 4 = 0 ∨ σ e 4 = 1) ∧ (∀ p, p < kn T → ka T p = !bt (if σ e 4 = 0 then σ 2 4 else σ e 5) p) ∧ (∀ p, kn T ≤ p → ka T p = false) ∧ (∀ p, p < 14 → σ (e + 1) p = w p ∧ 0 ≤ w p ∧ w p ≤ 9) ∧ (∀ p, kn T ≤ p → p < 14 → w p = 0)
variable {T : kT} {ps : Nat → Nat} {a e : Nat} {w : Nat → Int}
theorem g33 (H : KH T ps) (hk : KC σ a T) {p : Nat} (hp : p < kn T) : ∃ z, fx_33 a (p : Int) σ = some (.inl z, σ) ∧ (-2147483648 ≤ z ∧ z ≤ 2147483647) ∧ ∀ q : Nat, bt z q = (decide (q < kn T) && kp T q p) := by
  have hn := H.1
  have h1 := hk.1 p hp
  obtain ⟨z1, e1, r1, b1⟩ := g34 (σ := σ) h1.1 h1.2.1 hn
  obtain ⟨z2, e2, r2, b2⟩ := g34 (σ := σ) h1.2.2.1 h1.2.2.2.1 hn
  refine ⟨gb_or z1 z2, ?_, or_R _ _, fun q => ?_⟩
  · unfold fx_33
    rw [g30 (by omega), gc_v, e1, gc_v, g31 (by omega), gc_v, e2, gc_v]
  · rw [bt_or, b1, b2]
    by_cases hq : q < kn T
    · rw [decide_eq_true hq, hk.2.1 q p hq hp]; rfl
    · rw [decide_eq_false hq, decide_eq_false (by omega), decide_eq_false (by omega)]; rfl
theorem g33n {a : Nat} : ∃ z, fx_33 a (-1) σ = some (.inl z, σ) ∧ (-2147483648 ≤ z ∧ z ≤ 2147483647) ∧ ∀ q : Nat, bt z q = false := by
  obtain ⟨z1, e1, r1, b1⟩ := g34 (σ := σ) (x := -1) (n := 0) (by omega) (by omega) (by omega)
  refine ⟨gb_or z1 z1, ?_, or_R _ _, fun q => ?_⟩
  · unfold fx_33
    rw [g30n, gc_v, e1, gc_v, g31n, gc_v, e1, gc_v]
  · rw [bt_or, b1, decide_eq_false (by omega)]; rfl
/-- the living lines, from the youngest up -/
theorem liv8 (H : KH T ps) (hk : KC σ a T) (hf : FK σ e T w) (A : Int) (hA : σ 26 1 = A) (hA2 : ∀ p, p < kn T → bt A p = ka T p) : ∀ (m k : Nat) (s : Int), m ≤ kn T → m < k → (-2147483648 ≤ s ∧ s ≤ 2147483647) → (∀ p, bt s p = (decide (p < kn T ∧ m ≤ ps p) && lv T p)) →
    ∃ z, fx_8_21 k a s (σ 4 (kx T)) ((m : Int) - 1) σ = some (.inl z, σ) ∧ (-2147483648 ≤ z ∧ z ≤ 2147483647) ∧ ∀ p, bt z p = (decide (p < kn T) && lv T p) := by
  obtain ⟨f1, f2, f3, f4, f5, f6, f7, f8, f9, f10⟩ := hf
  have hn := H.1
  intro m
  induction m with
  | zero =>
    intro k s hm hk1 hs hb
    obtain ⟨k, rfl⟩ : ∃ q, k = q + 1 := ⟨k - 1, by omega⟩
    refine ⟨s, ?_, hs, fun p => ?_⟩
    · rw [fx_8_21, gq_R (by omega) (by omega), if_pos (by omega)]
    · rw [hb p]
      by_cases hq : p < kn T
      · rw [decide_eq_true hq, decide_eq_true ⟨hq, Nat.zero_le _⟩]
      · rw [decide_eq_false hq, decide_eq_false (fun h => hq h.1)]
  | succ m ih =>
    intro k s hm hk1 hs hb
    obtain ⟨k, rfl⟩ : ∃ q, k = q + 1 := ⟨k - 1, by omega⟩
    have hq := H.2.2.1 m (by omega)
    -- the person at m, and whether a child's line is living
    have hset : (gb_and (σ (a + 3) (kr T m)) s = 0) ↔ cc T (kr T m) = 0 := by
      rw [bt_eq0 (and_R _ _)]
      constructor
      · intro h
        refine ct_zero (fun c hc => ?_)
        have h1 := h c (by omega)
        rw [bt_and, (hk.2.2 _ hq.1).2 c (by omega), hb c] at h1
        cases hkp : kp T (kr T m) c with
        | false => rfl
        | true =>
          have h2 := H.2.2.2.2.1 _ _ hkp
          rw [hkp, decide_eq_true ⟨hc, by omega⟩] at h1
          simpa using h1
      · intro h p hp
        rw [bt_and, (hk.2.2 _ hq.1).2 p hp, hb p]
        cases hkp : kp T (kr T m) p with
        | false => rfl
        | true =>
          have h2 := H.2.2.2.2.1 _ _ hkp
          cases hl : lv T p with
          | false => simp
          | true =>
            have : 0 < cc T (kr T m) := ct_pos.mpr ⟨p, h2.2.1, by rw [hkp, hl]; rfl⟩
            omega
    have hlv := lv_eq H hq.1
    have hs1 : ∀ p, bt (gb_or s (gb_shl 1 ((kr T m : Nat) : Int))) p = (bt s p || decide (p = kr T m)) := fun p => by rw [bt_or, bt_shl (by omega)]
    -- the next set, with the person or without
    have hyes : lv T (kr T m) = true → ∀ p, bt (gb_or s (gb_shl 1 ((kr T m : Nat) : Int))) p = (decide (p < kn T ∧ m ≤ ps p) && lv T p) := by
      intro hl p
      rw [hs1, hb p]
      by_cases hpq : p = kr T m
      · subst hpq
        rw [hl, hq.2, decide_eq_true (rfl : kr T m = kr T m), decide_eq_true (show kr T m < kn T ∧ m ≤ m from ⟨hq.1, Nat.le_refl m⟩)]
        simp
      · have hne : p < kn T → ps p ≠ m := fun hp h => hpq (by have := (H.2.2.2.1 p hp).2; rw [h] at this; exact this.symm)
        rw [decide_eq_false hpq, Bool.or_false]
        congr 1
        apply decide_eq_decide.mpr
        constructor
        · rintro ⟨h1, h2⟩; exact ⟨h1, by omega⟩
        · rintro ⟨h1, h2⟩; have := hne h1; exact ⟨h1, by omega⟩
    have hno : lv T (kr T m) = false → ∀ p, bt s p = (decide (p < kn T ∧ m ≤ ps p) && lv T p) := by
      intro hl p
      rw [hb p]
      by_cases hpq : p = kr T m
      · subst hpq
        rw [hl, Bool.and_false, Bool.and_false]
      · have hne : p < kn T → ps p ≠ m := fun hp h => hpq (by have := (H.2.2.2.1 p hp).2; rw [h] at this; exact this.symm)
        congr 1
        apply decide_eq_decide.mpr
        constructor
        · rintro ⟨h1, h2⟩; exact ⟨h1, by omega⟩
        · rintro ⟨h1, h2⟩; have := hne h1; exact ⟨h1, by omega⟩
    have hgo : ∀ s', (-2147483648 ≤ s' ∧ s' ≤ 2147483647) → (∀ p, bt s' p = (decide (p < kn T ∧ m ≤ ps p) && lv T p)) → ∃ z, fx_8_21 k a s' (σ 4 (kx T)) ((((m + 1 : Nat) : Int) - 1) + (-1)) σ = some (.inl z, σ) ∧ (-2147483648 ≤ z ∧ z ≤ 2147483647) ∧ ∀ p, bt z p = (decide (p < kn T) && lv T p) := by
      intro s' h1 h2
      rw [show (((m + 1 : Nat) : Int) - 1) + (-1) = (m : Int) - 1 by omega]
      exact ih k s' (by omega) (by omega) h1 h2
    have e0 : ((m + 1 : Nat) : Int) - 1 = (m : Int) := by omega
    have h62 : ∀ y : Int, (y = 0 ∨ y = 1) → ((y = 1 ∨ 0 < cc T (kr T m)) ↔ lv T (kr T m) = true) → ∃ z, fx_8_62 (fx_8_21 k) a s (σ 4 (kx T)) (((m + 1 : Nat) : Int) - 1) ((kr T m : Nat) : Int) y σ = some (.inl z, σ) ∧ (-2147483648 ≤ z ∧ z ≤ 2147483647) ∧ ∀ p, bt z p = (decide (p < kn T) && lv T p) := by
      intro y hy hyl
      unfold fx_8_62 fx_8_81
      rw [gq_R (by omega) (by omega)]
      by_cases hy0 : y = 0
      · rw [if_pos hy0, g32 (by omega), gc_v, gq_R (and_R _ _).1 (and_R _ _).2]
        by_cases hz : gb_and (σ (a + 3) (kr T m)) s = 0
        · rw [if_pos hz]
          have hl : lv T (kr T m) = false := by
            rw [← Bool.not_eq_true, ← hyl]
            rw [hset] at hz
            omega
          exact hgo s hs (hno hl)
        · rw [if_neg hz]
          rw [hset] at hz
          exact hgo _ (or_R _ _) (hyes (hyl.mp (Or.inr (by omega))))
      · rw [if_neg hy0]
        exact hgo _ (or_R _ _) (hyes (hyl.mp (Or.inl (by omega))))
    have hc3 := f3 _ hq.1
    rw [fx_8_21, gq_R (by omega) (by omega), if_neg (by omega), e0, g28 (by omega), gc_v, hA, f2 m (by omega), isIn_in A (by omega), gc_v]
    rw [hA2 _ hq.1]
    rw [← e0]
    by_cases ha : ka T (kr T m) = true
    · rw [if_pos ha, gq_R (by omega) (by omega), if_neg (by omega), g25 (by omega), gc_v, gq_R (by omega) (by omega), gq_R (by omega) (by omega)]
      by_cases hc : σ 4 (kx T) < σ 3 (kr T m)
      · rw [if_pos hc]
        have hc9 : kc T (kr T m) = false := by rw [hc3.2, decide_eq_false (by omega)]
        refine h62 0 (Or.inl rfl) ?_
        rw [hlv, hc9]
        simp
      · rw [if_neg hc]
        have hc9 : kc T (kr T m) = true := by rw [hc3.2, decide_eq_true (by omega)]
        refine h62 1 (Or.inr rfl) ?_
        rw [hlv, hc9, ha]
        simp
    · rw [if_neg ha, gq_R (by omega) (by omega), if_pos rfl]
      rw [Bool.not_eq_true] at ha
      refine h62 0 (Or.inl rfl) ?_
      rw [hlv, ha]
      simp
end CO1
