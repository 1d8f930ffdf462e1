section CO2
variable {σ : gb_S} {T : kT} {ps : Nat → Nat} {a e : Nat} {w : Nat → Int}
theorem g8 (H : KH T ps) (hk : KC σ a T) (hf : FK σ e T w) (hA2 : ∀ p, p < kn T → bt (σ 26 1) p = ka T p) : ∃ z, fx_8 a e σ = some (.inl z, σ) ∧ (-2147483648 ≤ z ∧ z ≤ 2147483647) ∧ ∀ p, bt z p = (decide (p < kn T) && lv T p) := by
  have hn := H.1
  have hx := H.2.1
  obtain ⟨z, h1, h2, h3⟩ := liv8 H hk hf (σ 26 1) rfl hA2 (kn T) gFU 0 (Nat.le_refl _) (by unfold gFU; omega) (by omega) (fun p => by
    rw [bt_zero, decide_eq_false, Bool.false_and]
    rintro ⟨q1, q2⟩
    have := (H.2.2.2.1 p q1).1
    omega)
  refine ⟨z, ?_, h2, h3⟩
  unfold fx_8
  rw [hf.2.2.2.2.1, g26 (by omega), gc_v, hf.1]
  exact h1
theorem g33x (H : KH T ps) (hk : KC σ a T) {x : Int} (h1 : -1 ≤ x) (h2 : x < kn T) : ∃ z, fx_33 a x σ = some (.inl z, σ) ∧ (-2147483648 ≤ z ∧ z ≤ 2147483647) ∧ ∀ q : Nat, bt z q = (decide (0 ≤ x) && (decide (q < kn T) && kp T q x.toNat)) := by
  by_cases h : x = -1
  · subst h
    obtain ⟨z, e1, r1, b1⟩ := g33n (σ := σ) (a := a)
    exact ⟨z, e1, r1, fun q => by rw [b1 q]; rfl⟩
  · obtain ⟨k, rfl⟩ : ∃ k : Nat, x = (k : Int) := ⟨x.toNat, by omega⟩
    obtain ⟨z, e1, r1, b1⟩ := g33 H hk (p := k) (by omega)
    exact ⟨z, e1, r1, fun q => by rw [b1 q, decide_eq_true (show (0 : Int) ≤ (k : Int) by omega), Int.toNat_natCast, Bool.true_and]⟩
theorem g9 (H : KH T ps) (hk : KC σ a T) (hL : ∀ p, bt (σ 26 2) p = (decide (p < kn T) && lv T p)) : ∃ z, fx_9 a ((kx T : Nat) : Int) σ = some (.inl z, σ) ∧ (-2147483648 ≤ z ∧ z ≤ 2147483647) ∧ ∀ p, bt z p = (decide (p < kn T) && hd T p) := by
  have hn := H.1
  have hx := H.2.1
  have hLd : bt (σ 26 2) (kx T) = lv T (kx T) := by rw [hL, decide_eq_true hx, Bool.true_and]
  by_cases hl : lv T (kx T) = true
  · refine ⟨gb_shl 1 ((kx T : Nat) : Int), ?_, shl_R _ _, fun p => ?_⟩
    · unfold fx_9
      rw [isIn_in _ (by omega), gc_v, hLd, if_pos hl, gq_R (by omega) (by omega), if_neg (by omega)]
    · rw [bt_shl (by omega)]
      unfold hd
      rw [if_pos hl]
      by_cases hp : p = kx T
      · subst hp; simp; exact hx
      · rw [decide_eq_false hp, beq_eq_false_iff_ne.mpr hp, Bool.and_false]
  · obtain ⟨z, e1, r1, b1⟩ := g33 H hk hx
    have hz : gb_and z (σ 26 2) = 0 ↔ ct (fun g => kp T g (kx T) && lv T g) (kn T) = 0 := by
      rw [bt_eq0 (and_R _ _)]
      constructor
      · intro h
        refine ct_zero (fun g hg => ?_)
        have h1 := h g (by omega)
        rw [bt_and, b1, hL, decide_eq_true hg, Bool.true_and, Bool.true_and] at h1
        exact h1
      · intro h p hp
        rw [bt_and, b1, hL]
        by_cases hpn : p < kn T
        · rw [decide_eq_true hpn, Bool.true_and, Bool.true_and]
          cases hb : (kp T p (kx T) && lv T p) with
          | false => rfl
          | true => have := (ct_pos (b := fun g => kp T g (kx T) && lv T g)).mpr ⟨p, hpn, hb⟩; omega
        · rw [decide_eq_false hpn]; rfl
    by_cases h0 : ct (fun g => kp T g (kx T) && lv T g) (kn T) = 0
    · have hp1 := hk.1 (kx T) hx
      obtain ⟨y1, i1, s1, c1⟩ := g33x H hk hp1.1 hp1.2.1
      obtain ⟨y2, i2, s2, c2⟩ := g33x H hk hp1.2.2.1 hp1.2.2.2.1
      refine ⟨gb_and (gb_or y1 y2) (σ 26 2), ?_, and_R _ _, fun p => ?_⟩
      · unfold fx_9
        rw [isIn_in _ (by omega), gc_v, hLd, if_neg hl, gq_R (by omega) (by omega), if_pos rfl, e1, gc_v, gq_R (and_R _ _).1 (and_R _ _).2, if_pos (hz.mpr h0), g30 (by omega), gc_v, i1, gc_v, g31 (by omega), gc_v, i2, gc_v]
      · rw [bt_and, bt_or, c1, c2, hL]
        unfold hd
        rw [if_neg hl, if_neg (by omega)]
        by_cases hpn : p < kn T
        · rw [decide_eq_true hpn]
          simp only [Bool.true_and]
          congr 1
          apply Bool.eq_iff_iff.mpr
          rw [decide_eq_true_eq, ct_pos, Bool.or_eq_true, Bool.and_eq_true, Bool.and_eq_true, decide_eq_true_eq, decide_eq_true_eq]
          constructor
          · rintro (⟨q1, q2⟩ | ⟨q1, q2⟩)
            · refine ⟨(σ (a + 1) (kx T)).toNat, by omega, ?_⟩
              rw [q2, Bool.and_true, hk.2.1 _ _ (by omega) hx, decide_eq_true (by omega)]; rfl
            · refine ⟨(σ (a + 2) (kx T)).toNat, by omega, ?_⟩
              rw [q2, Bool.and_true, hk.2.1 _ _ (by omega) hx, Bool.or_eq_true]
              exact Or.inr (decide_eq_true (by omega))
          · rintro ⟨g, hg, hb⟩
            rw [Bool.and_eq_true, hk.2.1 _ _ hg hx, Bool.or_eq_true, decide_eq_true_eq, decide_eq_true_eq] at hb
            rcases hb.1 with q | q
            · left; rw [q]; exact ⟨by omega, by rw [Int.toNat_natCast]; exact hb.2⟩
            · right; rw [q]; exact ⟨by omega, by rw [Int.toNat_natCast]; exact hb.2⟩
        · rw [decide_eq_false hpn]; simp
    · refine ⟨gb_and z (σ 26 2), ?_, and_R _ _, fun p => ?_⟩
      · unfold fx_9
        rw [isIn_in _ (by omega), gc_v, hLd, if_neg hl, gq_R (by omega) (by omega), if_pos rfl, e1, gc_v, gq_R (and_R _ _).1 (and_R _ _).2, if_neg (fun q => h0 (hz.mp q))]
      · rw [bt_and, b1, hL]
        unfold hd
        rw [if_neg hl, if_pos (by omega)]
        cases decide (p < kn T) <;> simp
/-- the sets of the court are those of T -/
def CS (σ : gb_S) (T : kT) : Prop := (∀ p, p < kn T → bt (σ 26 1) p = ka T p) ∧ (∀ p, bt (σ 26 2) p = (decide (p < kn T) && lv T p)) ∧ (∀ p, bt (σ 26 3) p = (decide (p < kn T) && hd T p)) ∧ (-2147483648 ≤ σ 26 2 ∧ σ 26 2 ≤ 2147483647) ∧ (-2147483648 ≤ σ 26 3 ∧ σ 26 3 ≤ 2147483647)
theorem KC_cong {σ' : gb_S} (h1 : σ' (a + 1) = σ (a + 1)) (h2 : σ' (a + 2) = σ (a + 2)) (h3 : σ' (a + 3) = σ (a + 3)) (hk : KC σ a T) : KC σ' a T := by
  unfold KC
  rw [h1, h2, h3]
  exact hk
theorem FK_cong {σ' : gb_S} (h2 : σ' 2 = σ 2) (h3 : σ' 3 = σ 3) (h4 : σ' 4 = σ 4) (h5 : σ' 5 = σ 5) (h6 : σ' e = σ e) (h7 : σ' (e + 1) = σ (e + 1)) (hf : FK σ e T w) : FK σ' e T w := by
  unfold FK
  rw [h2, h3, h4, h5, h6, h7]
  exact hf
/-- the court looks at an estate -/
theorem g7 (H : KH T ps) (hk : KC σ a T) (hf : FK σ e T w) (ha : a = 15 ∨ a = 20) (he : ∃ i, i < 14 ∧ e = 47 + 10 * i) : ∃ σ', fx_7 a e σ = some (.inl 0, σ') ∧ (∀ c, c ≠ 26 → σ' c = σ c) ∧ CS σ' T := by
  obtain ⟨i, hi, rfl⟩ := he
  have h6 := hf.2.2.2.2.2.1
  have h5 := hf.2.2.2.2.1
  have hal := hf.2.2.2.2.2.2.1
  have key : ∀ y, (∀ p, p < kn T → ka T p = !bt y p) → ∃ σ', fx_7_19 a (47 + 10 * i) y σ = some (.inl 0, σ') ∧ (∀ c, c ≠ 26 → σ' c = σ c) ∧ CS σ' T := by
    intro y hy
    have hn := H.1
    generalize hs : gb_up σ 26 1 (gb_xor y (-1)) = s0
    have f0 : ∀ c, c ≠ 26 → s0 c = σ c := fun c hc => by rw [← hs, up_ne _ _ _ _ hc]
    have a1 : s0 26 1 = gb_xor y (-1) := by rw [← hs, up_eq]
    obtain ⟨z, e1, r1, b1⟩ := g8 (σ := s0) (a := a) (e := 47 + 10 * i) H (KC_cong (f0 _ (by omega)) (f0 _ (by omega)) (f0 _ (by omega)) hk) (FK_cong (f0 _ (by omega)) (f0 _ (by omega)) (f0 _ (by omega)) (f0 _ (by omega)) (f0 _ (by omega)) (f0 _ (by omega)) hf) (fun p hp => by rw [a1, bt_not _ (by omega), hy p hp])
    generalize hs1 : gb_up s0 26 2 z = s1
    have f1 : ∀ c, c ≠ 26 → s1 c = σ c := fun c hc => by rw [← hs1, up_ne _ _ _ _ hc, f0 c hc]
    have a2 : s1 26 2 = z := by rw [← hs1, up_eq]
    have a3 : s1 26 1 = gb_xor y (-1) := by rw [← hs1, up_nj _ _ _ _ (by omega), a1]
    obtain ⟨v, e2, r2, b2⟩ := g9 (σ := s1) (a := a) H (KC_cong (f1 _ (by omega)) (f1 _ (by omega)) (f1 _ (by omega)) hk) (by rw [a2]; exact b1)
    refine ⟨gb_up s1 26 3 v, ?_, fun c hc => by rw [up_ne _ _ _ _ hc, f1 c hc], ?_⟩
    · unfold fx_7_19
      rw [hs, e1, gc_v, hs1, f1 _ (by omega), h5, e2, gc_v]
    · refine ⟨fun p hp => ?_, fun p => ?_, fun p => ?_, ?_, ?_⟩
      · rw [up_nj _ _ _ _ (by omega), a3, bt_not _ (by omega), hy p hp]
      · rw [up_nj _ _ _ _ (by omega), a2]; exact b1 p
      · rw [up_eq]; exact b2 p
      · rw [up_nj _ _ _ _ (by omega), a2]; exact r1
      · rw [up_eq]; exact r2
  unfold fx_7
  rw [gq_R (by omega) (by omega)]
  by_cases h0 : σ (47 + 10 * i) 4 = 0
  · rw [if_pos h0]
    exact key _ (fun p hp => by have := hal p hp; rw [if_pos h0] at this; exact this)
  · rw [if_neg h0]
    exact key _ (fun p hp => by have := hal p hp; rw [if_neg h0] at this; exact this)
end CO2
