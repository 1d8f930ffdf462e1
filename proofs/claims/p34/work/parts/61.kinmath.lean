section KM2
/-- an estate's kin: how many people; the row by age; who is a parent of whom; who was alive at the closing; who counts; the dead -/
abbrev kT : Type := Nat × (Nat → Nat) × (Nat → Nat → Bool) × (Nat → Bool) × (Nat → Bool) × Nat
def kn (T : kT) : Nat := T.1
def kr (T : kT) : Nat → Nat := T.2.1
def kp (T : kT) : Nat → Nat → Bool := T.2.2.1
def ka (T : kT) : Nat → Bool := T.2.2.2.1
def kc (T : kT) : Nat → Bool := T.2.2.2.2.1
def kx (T : kT) : Nat := T.2.2.2.2.2
/-- the row holds all people once, parents ahead of children; nobody has more than two parents -/
def KH (T : kT) (ps : Nat → Nat) : Prop := kn T ≤ 14 ∧ kx T < kn T ∧ (∀ i, i < kn T → kr T i < kn T ∧ ps (kr T i) = i) ∧ (∀ p, p < kn T → ps p < kn T ∧ kr T (ps p) = p) ∧ (∀ q k, kp T q k = true → q < kn T ∧ k < kn T ∧ ps q < ps k) ∧ (∀ k, k < kn T → ct (fun j => kp T (kr T j) k) (kn T) ≤ 2)
def lvf (T : kT) : Nat → Nat → Bool
  | 0, _ => false
  | k + 1, p => (kc T p && ka T p) || decide (0 < ct (fun c => kp T p c && lvf T k c) (kn T))
/-- the line of p is living -/
def lv (T : kT) (p : Nat) : Bool := lvf T 15 p
/-- p is a head whose line is living -/
def hd (T : kT) (p : Nat) : Bool := if lv T (kx T) = true then p == kx T else if 0 < ct (fun g => kp T g (kx T) && lv T g) (kn T) then kp T p (kx T) && lv T p else decide (0 < ct (fun g => kp T g (kx T) && kp T p g) (kn T)) && lv T p
def hc (T : kT) : Nat := ct (hd T) (kn T)
/-- how many children of q have living lines -/
def cc (T : kT) (q : Nat) : Nat := ct (fun k => kp T q k && lv T k) (kn T)
def hdv (T : kT) (p : Nat) : Rat := if hd T p = true then 1 / (hc T : Rat) else 0
def Kf (T : kT) : Nat → Nat → Rat
  | 0, _ => 0
  | k + 1, p => hdv T p + su (fun j => if (kp T (kr T j) p && (!ka T (kr T j) && lv T p)) = true then Kf T k (kr T j) / (cc T (kr T j) : Rat) else 0) (kn T)
/-- what comes to p by kin -/
def KK (T : kT) (p : Nat) : Rat := Kf T 15 p
/-- what comes to p from the person at j of the row -/
def tm (T : kT) (j p : Nat) : Rat := if (kp T (kr T j) p && (!ka T (kr T j) && lv T p)) = true then KK T (kr T j) / (cc T (kr T j) : Rat) else 0
/-- what has come to p from those ahead of i in the row -/
def cur (T : kT) (i p : Nat) : Rat := hdv T p + su (fun j => tm T j p) i
variable {T : kT} {ps : Nat → Nat}
theorem lvf_st (H : KH T ps) : ∀ (k p : Nat), p < kn T → kn T - ps p ≤ k → lvf T (k + 1) p = lvf T k p := by
  obtain ⟨h1, h2, h3, h4, h5, h6⟩ := H
  intro k
  induction k with
  | zero => intro p hp hk; have := (h4 p hp).1; omega
  | succ k ih =>
    intro p hp hk
    rw [lvf, lvf]
    congr 3
    refine ct_congr (fun c hc => ?_)
    by_cases hpc : kp T p c = true
    · have := h5 p c hpc
      rw [ih c this.2.1 (by omega)]
    · rw [Bool.not_eq_true] at hpc
      rw [hpc]
      rfl
theorem lv_eq (H : KH T ps) {p : Nat} (hp : p < kn T) : lv T p = ((kc T p && ka T p) || decide (0 < cc T p)) := by
  have h := lvf_st H 15 p hp (by have := H.1; omega)
  unfold lv
  rw [← h, lvf]
  rfl
theorem hd_lv {p : Nat} (h : hd T p = true) : lv T p = true := by
  unfold hd at h
  split at h
  · next hl => rw [beq_iff_eq] at h; rw [h]; exact hl
  · split at h
    · rw [Bool.and_eq_true] at h; exact h.2
    · rw [Bool.and_eq_true] at h; exact h.2
theorem hd_lt (H : KH T ps) {p : Nat} (h : hd T p = true) : p < kn T := by
  obtain ⟨h1, h2, h3, h4, h5, h6⟩ := H
  unfold hd at h
  split at h
  · rw [beq_iff_eq] at h; rw [h]; exact h2
  · split at h
    · rw [Bool.and_eq_true] at h; exact (h5 _ _ h.1).1
    · rw [Bool.and_eq_true, decide_eq_true_eq, ct_pos] at h
      obtain ⟨⟨g, hg, hb⟩, _⟩ := h
      rw [Bool.and_eq_true] at hb
      exact (h5 _ _ hb.2).1
theorem hdv_nonneg (p : Nat) : 0 ≤ hdv T p := by
  unfold hdv
  split
  · rw [Rat.div_def, Rat.one_mul]
    by_cases h : hc T = 0
    · rw [h]; show 0 ≤ (0 : Rat)⁻¹; rw [Rat.inv_zero]; exact Rat.le_refl
    · exact Rat.le_of_lt (Rat.inv_pos.mpr (Rat.natCast_pos.mpr (by omega)))
  · exact Rat.le_refl
theorem div_nn {a : Rat} {n : Nat} (h : 0 ≤ a) : 0 ≤ a / (n : Rat) := by
  rw [Rat.div_def]
  refine Rat.mul_nonneg h ?_
  by_cases hn : n = 0
  · rw [hn]; show 0 ≤ (0 : Rat)⁻¹; rw [Rat.inv_zero]; exact Rat.le_refl
  · exact Rat.le_of_lt (Rat.inv_pos.mpr (Rat.natCast_pos.mpr (by omega)))
theorem Kf_nonneg : ∀ (k p : Nat), 0 ≤ Kf T k p := by
  intro k
  induction k with
  | zero => intro p; exact Rat.le_refl
  | succ k ih =>
    intro p
    rw [Kf]
    refine Rat.add_nonneg (hdv_nonneg p) (su_nonneg fun j hj => ?_)
    split
    · exact div_nn (ih _)
    · exact Rat.le_refl
theorem KK_nonneg (p : Nat) : 0 ≤ KK T p := Kf_nonneg 15 p
theorem tm_nonneg (j p : Nat) : 0 ≤ tm T j p := by
  unfold tm
  split
  · exact div_nn (KK_nonneg _)
  · exact Rat.le_refl
theorem cur_nonneg (i p : Nat) : 0 ≤ cur T i p := Rat.add_nonneg (hdv_nonneg p) (su_nonneg fun j hj => tm_nonneg j p)
theorem Kf_st (H : KH T ps) : ∀ (k p : Nat), p < kn T → ps p < k → Kf T (k + 1) p = Kf T k p := by
  obtain ⟨h1, h2, h3, h4, h5, h6⟩ := H
  intro k
  induction k with
  | zero => intro p hp hk; omega
  | succ k ih =>
    intro p hp hk
    rw [Kf, Kf]
    congr 1
    refine su_congr (fun j hj => ?_)
    split
    · next hb =>
      rw [Bool.and_eq_true] at hb
      have := h5 _ _ hb.1
      rw [ih _ this.1 (by omega)]
    · rfl
theorem KK_eq (H : KH T ps) {p : Nat} (hp : p < kn T) : KK T p = cur T (kn T) p := by
  have h := Kf_st H 15 p hp (by have := (H.2.2.2.1 p hp).1; have := H.1; omega)
  unfold KK
  rw [← h, Kf]
  rfl
theorem tm_late (H : KH T ps) {j p : Nat} (hj : j < kn T) (hp : ps p ≤ j) : tm T j p = 0 := by
  unfold tm
  rw [if_neg]
  intro h
  rw [Bool.and_eq_true] at h
  have h5 := H.2.2.2.2.1 _ _ h.1
  have h3 := (H.2.2.1 j hj).2
  omega
theorem cur_late (H : KH T ps) {p : Nat} : ∀ {i : Nat}, ps p ≤ i → i ≤ kn T → cur T i p = cur T (ps p) p := by
  intro i
  induction i with
  | zero => intro h _; rw [show ps p = 0 by omega]
  | succ i ih =>
    intro h hi
    by_cases hq : ps p = i + 1
    · rw [hq]
    · have := ih (by omega) (by omega)
      rw [← this]
      unfold cur
      rw [su, tm_late H (by omega) (by omega)]
      grind
theorem KK_cur (H : KH T ps) {p i : Nat} (hp : p < kn T) (h : ps p ≤ i) (hi : i ≤ kn T) : KK T p = cur T i p := by
  rw [KK_eq H hp, cur_late H (by have := (H.2.2.2.1 p hp).1; omega) (Nat.le_refl _), cur_late H h hi]
theorem cur_lv {i p : Nat} (h : lv T p = false) : cur T i p = 0 := by
  unfold cur
  rw [su_zero (fun j _ => by unfold tm; rw [if_neg]; rw [h]; simp)]
  unfold hdv
  rw [if_neg (fun q => by rw [hd_lv q] at h; cases h)]
  grind
theorem KK_lv (H : KH T ps) {p : Nat} (hp : p < kn T) (h : lv T p = false) : KK T p = 0 := by rw [KK_eq H hp, cur_lv h]
theorem KK_cc (H : KH T ps) {p : Nat} (hp : p < kn T) (ha : ka T p = false) (h : cc T p = 0) : KK T p = 0 := by
  refine KK_lv H hp ?_
  rw [lv_eq H hp, ha, h]
  simp
/-- what is left at i of the row: those of the dead ahead of it have handed theirs on -/
def zz (T : kT) (ps : Nat → Nat) (i p : Nat) : Rat := if (decide (ps p < i) && !ka T p) = true then 0 else cur T i p
theorem zz_step (H : KH T ps) {i p : Nat} (hi : i < kn T) (hp : p < kn T) : zz T ps (i + 1) p = zz T ps i p + tm T i p - (if p = kr T i then (if ka T (kr T i) = true then 0 else KK T (kr T i)) else 0) := by
  have hq := H.2.2.1 i hi
  by_cases hpq : p = kr T i
  · subst hpq
    rw [if_pos rfl]
    have ht : tm T i (kr T i) = 0 := tm_late H hi (by omega)
    have hc : cur T (i + 1) (kr T i) = cur T i (kr T i) := by unfold cur; rw [su, ht]; grind
    have hK : KK T (kr T i) = cur T i (kr T i) := KK_cur H hq.1 (by omega) (by omega)
    unfold zz
    rw [hq.2, hc, hK, ht]
    by_cases ha : ka T (kr T i) = true
    · rw [ha]; simp; grind
    · rw [Bool.not_eq_true] at ha
      rw [ha]; simp; grind
  · rw [if_neg hpq]
    have hne : ps p ≠ i := fun h => hpq (by have := (H.2.2.2.1 p hp).2; rw [h] at this; exact this.symm)
    unfold zz
    by_cases hz : ps p < i
    · have ht : tm T i p = 0 := tm_late H hi (by omega)
      rw [decide_eq_true hz, decide_eq_true (show ps p < i + 1 by omega), ht]
      have hc : cur T (i + 1) p = cur T i p := by unfold cur; rw [su, ht]; grind
      rw [hc]
      grind
    · rw [decide_eq_false hz, decide_eq_false (show ¬ ps p < i + 1 by omega)]
      simp only [Bool.false_and]
      rw [if_neg (by decide), if_neg (by decide)]
      unfold cur
      rw [su]
      grind
theorem tm_sum (H : KH T ps) {i : Nat} (hi : i < kn T) : su (fun p => tm T i p) (kn T) = if ka T (kr T i) = true then 0 else KK T (kr T i) := by
  have hq := H.2.2.1 i hi
  by_cases ha : ka T (kr T i) = true
  · rw [if_pos ha]
    exact su_zero (fun p _ => by unfold tm; rw [ha]; simp)
  · rw [if_neg ha]
    rw [Bool.not_eq_true] at ha
    have : su (fun p => tm T i p) (kn T) = su (fun p => if (kp T (kr T i) p && lv T p) = true then KK T (kr T i) / (cc T (kr T i) : Rat) else 0) (kn T) := by
      refine su_congr (fun p _ => ?_)
      unfold tm
      rw [ha]
      simp
    rw [this, su_if (fun p => kp T (kr T i) p && lv T p)]
    show (cc T (kr T i) : Rat) * (KK T (kr T i) / (cc T (kr T i) : Rat)) = _
    by_cases hz : cc T (kr T i) = 0
    · rw [KK_cc H hq.1 ha hz, hz]
      exact Rat.zero_mul _
    · have : (cc T (kr T i) : Rat) ≠ 0 := fun h => hz (Rat.natCast_eq_zero_iff.mp h)
      rw [Rat.mul_comm, Rat.div_mul_cancel this]
theorem zz_sum (H : KH T ps) (hh : 0 < hc T) : ∀ {i : Nat}, i ≤ kn T → su (zz T ps i) (kn T) = 1 := by
  intro i
  induction i with
  | zero =>
    intro _
    have : su (zz T ps 0) (kn T) = su (fun p => if hd T p = true then 1 / (hc T : Rat) else 0) (kn T) := by
      refine su_congr (fun p _ => ?_)
      unfold zz cur su hdv
      simp
      grind
    rw [this, su_if]
    show (hc T : Rat) * (1 / (hc T : Rat)) = 1
    have : (hc T : Rat) ≠ 0 := fun h => by have := Rat.natCast_eq_zero_iff.mp h; omega
    rw [Rat.mul_comm, Rat.div_mul_cancel this]
  | succ i ih =>
    intro hi
    have h1 : su (zz T ps (i + 1)) (kn T) = su (fun p => zz T ps i p + tm T i p - (if p = kr T i then (if ka T (kr T i) = true then 0 else KK T (kr T i)) else 0)) (kn T) := su_congr (fun p hp => zz_step H hi hp)
    rw [h1, su_sub (fun p => zz T ps i p + tm T i p), su_add, tm_sum H hi, su_one (H.2.2.1 i hi).1]
    have := ih (by omega)
    grind
theorem zz_nonneg (i p : Nat) : 0 ≤ zz T ps i p := by
  unfold zz
  split
  · exact Rat.le_refl
  · exact cur_nonneg i p
theorem cur_le (H : KH T ps) (hh : 0 < hc T) {i p : Nat} (hi : i ≤ kn T) (hp : p < kn T) : cur T i p ≤ 1 := by
  by_cases hz : ps p < i
  · rw [cur_late H (by omega) hi]
    have h1 : ps p ≤ kn T := by omega
    have h2 := su_le (f := zz T ps (ps p)) (m := kn T) (fun q _ => zz_nonneg _ q) p hp
    rw [zz_sum H hh h1] at h2
    have : zz T ps (ps p) p = cur T (ps p) p := by unfold zz; simp
    rw [← this]
    exact h2
  · have h2 := su_le (f := zz T ps i) (m := kn T) (fun q _ => zz_nonneg _ q) p hp
    rw [zz_sum H hh hi] at h2
    have : zz T ps i p = cur T i p := by unfold zz; rw [decide_eq_false hz]; simp
    rw [← this]
    exact h2
theorem KK_le (H : KH T ps) (hh : 0 < hc T) {p : Nat} (hp : p < kn T) : KK T p ≤ 1 := by
  rw [KK_eq H hp]
  exact cur_le H hh (Nat.le_refl _) hp
/-- all of it comes to those who were alive -/
theorem KK_sum (H : KH T ps) (hh : 0 < hc T) : su (fun p => if ka T p = true then KK T p else 0) (kn T) = 1 := by
  rw [← zz_sum H hh (Nat.le_refl (kn T))]
  refine su_congr (fun p hp => ?_)
  have := (H.2.2.2.1 p hp).1
  unfold zz
  rw [decide_eq_true this, KK_eq H hp]
  by_cases ha : ka T p = true
  · rw [ha]; simp
  · rw [Bool.not_eq_true] at ha
    rw [ha]; simp
theorem Kf_none (hh : hc T = 0) : ∀ (k p : Nat), p < kn T → (∀ j, j < kn T → kr T j < kn T) → Kf T k p = 0 := by
  intro k
  induction k with
  | zero => intro p _ _; rfl
  | succ k ih =>
    intro p hp hr
    rw [Kf, su_zero]
    · have : hd T p = false := by
        cases h : hd T p with
        | false => rfl
        | true => have := ct_pos.mpr ⟨p, hp, h⟩; unfold hc at hh; omega
      unfold hdv
      rw [this]
      simp
      grind
    · intro j hj
      rw [ih _ (hr j hj) hr]
      split
      · rw [Rat.div_def, Rat.zero_mul]
      · rfl
theorem KK_none (H : KH T ps) (hh : hc T = 0) {p : Nat} (hp : p < kn T) : KK T p = 0 := Kf_none hh 15 p hp (fun j hj => (H.2.2.1 j hj).1)
/-- denominators -/
def Dn (T : kT) (i : Nat) : Nat := hc T * pr (fun j => max 1 (cc T (kr T j))) i
theorem Dn_pos (hh : 0 < hc T) (i : Nat) : 0 < Dn T i := Nat.mul_pos hh (pr_pos (fun j _ => by omega))
theorem iq_hdv (hh : 0 < hc T) (i p : Nat) : iq (hdv T p) (Dn T i) := by
  unfold hdv
  split
  · refine iq_mul _ ⟨1, ?_⟩
    have : (hc T : Rat) ≠ 0 := fun h => by have := Rat.natCast_eq_zero_iff.mp h; omega
    rw [Rat.div_mul_cancel this]
    rfl
  · exact iq_zero _
theorem Dn_succ (i : Nat) : Dn T (i + 1) = Dn T i * max 1 (cc T (kr T i)) := by
  unfold Dn
  rw [pr, Nat.mul_assoc]
theorem iq_tm {i p : Nat} (h : iq (KK T (kr T i)) (Dn T i)) : iq (tm T i p) (Dn T (i + 1)) := by
  unfold tm
  split
  · by_cases hz : cc T (kr T i) = 0
    · rw [hz]
      have : KK T (kr T i) / ((0 : Nat) : Rat) = 0 := by rw [Rat.div_def]; show _ * (0 : Rat)⁻¹ = 0; rw [Rat.inv_zero, Rat.mul_zero]
      rw [this]
      exact iq_zero _
    · obtain ⟨z, hz2⟩ := h
      refine ⟨z, ?_⟩
      have h0 : (cc T (kr T i) : Rat) ≠ 0 := fun h => hz (Rat.natCast_eq_zero_iff.mp h)
      rw [Dn_succ, show max 1 (cc T (kr T i)) = cc T (kr T i) by omega, Rat.natCast_mul, ← hz2]
      have : KK T (kr T i) / (cc T (kr T i) : Rat) * (cc T (kr T i) : Rat) = KK T (kr T i) := Rat.div_mul_cancel h0
      grind
  · exact iq_zero _
theorem iq_cur (H : KH T ps) (hh : 0 < hc T) : ∀ {i : Nat}, i ≤ kn T → ∀ p, p < kn T → iq (cur T i p) (Dn T i) := by
  intro i
  induction i with
  | zero =>
    intro _ p _
    unfold cur
    rw [su, Rat.add_zero]
    exact iq_hdv hh 0 p
  | succ i ih =>
    intro hi p hp
    have hq := H.2.2.1 i hi
    have hK : iq (KK T (kr T i)) (Dn T i) := by
      rw [KK_cur H hq.1 (by omega) (by omega : i ≤ kn T)]
      exact ih (by omega) _ hq.1
    have h1 : cur T (i + 1) p = cur T i p + tm T i p := by unfold cur; rw [su]; grind
    rw [h1]
    refine iq_add ?_ (iq_tm hK)
    rw [Dn_succ]
    exact iq_mul _ (ih (by omega) p hp)
theorem iq_up {x : Rat} {i : Nat} (h : iq x (Dn T i)) : ∀ {m : Nat}, i ≤ m → iq x (Dn T m) := by
  intro m
  induction m with
  | zero => intro hm; rw [show (0 : Nat) = i by omega]; exact h
  | succ m ih =>
    intro hm
    by_cases hq : i = m + 1
    · rw [← hq]; exact h
    · rw [Dn_succ]; exact iq_mul _ (ih (by omega))
theorem Dn_le (H : KH T ps) : Dn T (kn T) ≤ 400000 := by
  have h1 := H.1
  have hs : sn (fun j => cc T (kr T j)) (kn T) ≤ 28 := by
    have h2 : sn (fun j => cc T (kr T j)) (kn T) = sn (fun k => ct (fun j => kp T (kr T j) k && lv T k) (kn T)) (kn T) := sn_swap (fun j k => kp T (kr T j) k && lv T k) (kn T) (kn T)
    rw [h2]
    have h3 : sn (fun k => ct (fun j => kp T (kr T j) k && lv T k) (kn T)) (kn T) ≤ 2 * kn T := sn_bound (fun k hk => Nat.le_trans (ct_mono (fun j _ hb => by rw [Bool.and_eq_true] at hb; exact hb.1)) (H.2.2.2.2.2 k hk))
    omega
  have hp := pr_cube (fun j => max 1 (cc T (kr T j))) (fun j => cc T (kr T j)) (kn T) (fun j _ => cube3 _)
  have h3 : pr (fun j => max 1 (cc T (kr T j))) (kn T) ^ 3 ≤ 3 ^ 28 := Nat.le_trans hp (Nat.pow_le_pow_right (by omega) hs)
  have h4 : pr (fun j => max 1 (cc T (kr T j))) (kn T) < 28432 := by
    refine Nat.lt_of_not_le (fun hge => ?_)
    have := Nat.pow_le_pow_left hge 3
    have h5 : (3 : Nat) ^ 28 < 28432 ^ 3 := by decide
    omega
  have h5 : hc T ≤ 14 := Nat.le_trans (ct_le _ _) h1
  have h6 : Dn T (kn T) ≤ 14 * 28432 := Nat.mul_le_mul h5 (by omega)
  omega
end KM2
