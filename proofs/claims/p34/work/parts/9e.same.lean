section SM1
variable {σ σ' : gb_S} {c n nb nd : Nat} {P : pT} {ps : Nat → Nat} {De : Nat → dT} {Cf : Nat → List Nat} {R R' : Nat → Rat}
/-- the first m shares are the same -/
def smB (R R' : Nat → Rat) : Nat → Bool
  | 0 => true
  | m + 1 => smB R R' m && decide (R m = R' m)
theorem smB_iff : ∀ {m : Nat}, smB R R' m = true ↔ ∀ p, p < m → R p = R' p := by
  intro m
  induction m with
  | zero => exact ⟨fun _ p hp => absurd hp (Nat.not_lt_zero p), fun _ => rfl⟩
  | succ m ih =>
    rw [smB, Bool.and_eq_true, decide_eq_true_eq, ih]
    constructor
    · rintro ⟨h1, h2⟩ p hp
      by_cases h : p = m
      · rw [h]; exact h2
      · exact h1 p (by omega)
    · intro h
      exact ⟨fun p hp => h p (by omega), h m (by omega)⟩
theorem smB_false {i m : Nat} (h : i ≤ m) (hf : smB R R' i = false) : smB R R' m = false := by
  rw [← Bool.not_eq_true, smB_iff] at hf ⊢
  exact fun q => hf (fun p hp => q p (by omega))
theorem smB_14 (hn : n ≤ 14) (h1 : SR n R) (h2 : SR n R') : smB R R' 14 = smB R R' n := by
  cases h : smB R R' n with
  | false => exact smB_false hn h
  | true =>
    rw [smB_iff] at h ⊢
    intro p _
    by_cases hp : p < n
    · exact h p hp
    · rw [h1.2.1 p (by omega), h2.2.1 p (by omega)]
theorem smB_eq (h1 : SR n R) (h2 : SR n R') (h : smB R R' n = true) : R = R' := by
  rw [smB_iff] at h
  funext p
  by_cases hp : p < n
  · exact h p hp
  · rw [h1.2.1 p (by omega), h2.2.1 p (by omega)]
theorem rat_eq {x y : Rat} : x = y ↔ x.num = y.num ∧ (x.den : Int) = (y.den : Int) := by
  constructor
  · intro h; rw [h]; exact ⟨rfl, rfl⟩
  · rintro ⟨h1, h2⟩
    exact Rat.ext h1 (by omega)
theorem SR_b (hS : SR n R) (p : Nat) : (0 ≤ (R p).num ∧ (R p).num ≤ 1000000000) ∧ (0 ≤ ((R p).den : Int) ∧ ((R p).den : Int) ≤ 1000000000) := by
  have h := hS.1 p
  have h1 := num_le_den h.2.1
  have h2 : 0 ≤ (R p).num := Rat.num_nonneg.mpr h.1
  have h3 := h.2.2
  omega
/-- isSame -/
theorem c76 {a b : Nat} (h1 : cm σ a R) (h2 : cm σ b R') (s1 : SR n R) (s2 : SR n R') : fx_76 a b σ = some (.inl (ib (smB R R' 14)), σ) := by
  have key : ∀ (m f : Nat), m ≤ 14 → m < f → smB R R' (14 - m) = true → fx_76_2 f a b ((14 - m : Nat) : Int) σ = some (.inl (ib (smB R R' 14)), σ) := by
    intro m
    induction m with
    | zero =>
      intro f _ hf hs
      obtain ⟨f, rfl⟩ : ∃ q, f = q + 1 := ⟨f - 1, by omega⟩
      rw [Nat.sub_zero] at hs
      rw [fx_76_2, gq_R (by omega) (by omega), if_neg (by omega), hs, ibT]
    | succ m ih =>
      intro f hm hf hs
      obtain ⟨f, rfl⟩ : ∃ q, f = q + 1 := ⟨f - 1, by omega⟩
      have ihk := ih f (by omega) (by omega)
      generalize hi : 14 - (m + 1) = i at hs ⊢
      have hi2 : 14 - m = i + 1 := by omega
      rw [hi2, smB, hs, Bool.true_and] at ihk
      have b1 := SR_b s1 i
      have b2 := SR_b s2 i
      have k1 := h1 i (by omega)
      have k2 := h2 i (by omega)
      have hno : ¬ R i = R' i → smB R R' 14 = false := fun h => smB_false (i := i + 1) (by omega) (by rw [smB, decide_eq_false h, Bool.and_false])
      rw [fx_76_2, gq_R (by omega) (by omega), if_pos (by omega), gq_ix (by omega) (by omega), Int.toNat_natCast, k1.1, k1.2, k2.1, k2.2, gq_L (by omega) (by omega), gq_L (by omega) (by omega), show ((i : Nat) : Int) + 1 = ((i + 1 : Nat) : Int) by omega]
      by_cases hnum : (R i).num = (R' i).num
      · rw [if_pos hnum, gq_L (by omega) (by omega), gq_L (by omega) (by omega)]
        by_cases hden : ((R i).den : Int) = ((R' i).den : Int)
        · rw [if_pos hden]
          exact ihk (decide_eq_true (rat_eq.mpr ⟨hnum, hden⟩))
        · rw [if_neg hden, hno (fun h => hden (rat_eq.mp h).2), ibF]
      · rw [if_neg hnum, hno (fun h => hnum (rat_eq.mp h).1), ibF]
  exact key 14 gFU (Nat.le_refl _) (by unfold gFU; omega) rfl
/-- the shares that the reference has kept of an estate -/
def kpt (σ : gb_S) (n d : Nat) (K : Nat → Rat) : Prop := ∀ p, p < n → σ 220 (14 * d + p) = (K p).num ∧ σ 221 (14 * d + p) = ((K p).den : Int)
/-- areOthers, behind the shares -/
theorem r171l {d : Nat} (hn : n ≤ 14) (hd : d < 14) (h3 : σ 187 3 = (n : Int)) (h1 : cs σ n R) (h2 : kpt σ n d R') (s1 : SR n R) (s2 : SR n R') : fx_171_9 gFU (d : Int) 0 0 σ = some (.inl (ib (!smB R R' n)), σ) := by
  have key : ∀ (m f : Nat), m ≤ n → m < f → fx_171_9 f (d : Int) (ib (!smB R R' (n - m))) ((n - m : Nat) : Int) σ = some (.inl (ib (!smB R R' n)), σ) := by
    intro m
    induction m with
    | zero =>
      intro f _ hf
      obtain ⟨f, rfl⟩ : ∃ q, f = q + 1 := ⟨f - 1, by omega⟩
      rw [fx_171_9, gq_R (by omega) (by omega), h3, gq_R (by omega) (by omega), if_neg (by omega), Nat.sub_zero]
      cases smB R R' n with
      | false => rw [Bool.not_false, ibT, gq_B (Or.inr rfl)]
      | true => rw [Bool.not_true, ibF, gq_B (Or.inl rfl)]
    | succ m ih =>
      intro f hm hf
      obtain ⟨f, rfl⟩ : ∃ q, f = q + 1 := ⟨f - 1, by omega⟩
      have ihk := ih f (by omega) (by omega)
      generalize hi : n - (m + 1) = i
      have hi2 : n - m = i + 1 := by omega
      rw [hi2, smB] at ihk
      have b1 := SR_b s1 i
      have b2 := SR_b s2 i
      have k1 := h1 i (by omega)
      have k2 := h2 i (by omega)
      rw [fx_171_9, gq_R (by omega) (by omega), h3, gq_R (by omega) (by omega), if_pos (by omega), gq_R (ibR _).1 (ibR _).2, show ((i : Nat) : Int) + 1 = ((i + 1 : Nat) : Int) by omega]
      cases hs : smB R R' i with
      | false =>
        rw [hs, Bool.false_and, Bool.not_false, ibT] at ihk
        rw [Bool.not_false, ibT, if_neg (by decide)]
        exact ihk
      | true =>
        rw [hs, Bool.true_and] at ihk
        rw [Bool.not_true, ibF, if_pos rfl, gq_ix (by omega) (by omega), gq_ix (by omega) (by omega), Int.toNat_natCast, show ((14 * (d : Int)) + (i : Int)).toNat = 14 * d + i by omega, k1.1, k1.2, k2.1, k2.2, gq_L (by omega) (by omega), gq_L (by omega) (by omega)]
        by_cases hnum : (R i).num = (R' i).num
        · rw [if_pos hnum, gq_L (by omega) (by omega), gq_L (by omega) (by omega)]
          by_cases hden : ((R i).den : Int) = ((R' i).den : Int)
          · rw [decide_eq_true (rat_eq.mpr ⟨hnum, hden⟩), Bool.not_true, ibF] at ihk
            rw [if_pos hden]
            exact ihk
          · rw [decide_eq_false (fun h => hden (rat_eq.mp h).2), Bool.not_false, ibT] at ihk
            rw [if_neg hden]
            exact ihk
        · rw [decide_eq_false (fun h => hnum (rat_eq.mp h).1), Bool.not_false, ibT] at ihk
          rw [if_neg hnum]
          exact ihk
  have := key n gFU (Nat.le_refl _) (by unfold gFU; omega)
  rw [Nat.sub_self] at this
  exact this
/-- areOthers -/
theorem r171 {d : Nat} {K : Nat → Rat} (hb : RB σ n nb P ps) (hst : ST σ n P) (hd : d < n) (hk : kpt σ n d K) (hK : SR n K) : ∃ σ', fx_171 (d : Int) σ = some (.inl (ib (!smB (Rd σ n P d) K n)), σ') ∧ (∀ j, j ≠ 29 → σ' 187 j = σ 187 j) ∧ σ' 187 29 = 0 ∧ KF σ' n P ∧ ∀ c, c ≠ 187 → (c < 211 ∨ 219 < c) → σ' c = σ c := by
  have hn := hb.1
  obtain ⟨s, e, cc, j, z, k, f⟩ := gR168 hb hst hd
  refine ⟨s, ?_, j, z, k, f⟩
  unfold fx_171
  rw [e, gc_v]
  exact r171l hn (by omega) (by rw [j 3 (by omega)]; exact hb.2.1) cc (by unfold kpt; rw [f 220 (by omega) (by omega), f 221 (by omega) (by omega)]; exact hk) (Rd_SR hb hd) hK
end SM1
