section SH1
def si (f : Nat → Int) : Nat → Int
  | 0 => 0
  | m + 1 => si f m + f m
theorem si_congr {f g : Nat → Int} : ∀ {m : Nat}, (∀ i, i < m → f i = g i) → si f m = si g m := by
  intro m
  induction m with
  | zero => intro _; rfl
  | succ m ih => intro h; rw [si, si, ih (fun i hi => h i (by omega)), h m (by omega)]
theorem si_nonneg {f : Nat → Int} {m : Nat} (h : ∀ i, i < m → 0 ≤ f i) : 0 ≤ si f m := by
  induction m with
  | zero => exact Int.le_refl 0
  | succ m ih => rw [si]; have := ih (fun i hi => h i (by omega)); have := h m (by omega); omega
theorem si_le {f : Nat → Int} {c : Int} : ∀ {m : Nat}, (∀ i, i < m → f i ≤ c) → si f m ≤ c * (m : Int) := by
  intro m
  induction m with
  | zero => intro _; rw [si]; omega
  | succ m ih =>
    intro h
    rw [si]
    have h1 := ih (fun i hi => h i (by omega))
    have h2 := h m (by omega)
    rw [show ((m + 1 : Nat) : Int) = (m : Int) + 1 by omega, Int.mul_add, Int.mul_one]
    omega
theorem si_pos_mem {f : Nat → Int} : ∀ {m : Nat}, (∀ i, i < m → 0 ≤ f i) → ∀ i, i < m → f i ≤ si f m := by
  intro m
  induction m with
  | zero => intro _ i hi; omega
  | succ m ih =>
    intro h i hi
    rw [si]
    have h1 : 0 ≤ si f m := si_nonneg (fun i hi => h i (by omega))
    have h2 := h m (by omega)
    by_cases hq : i = m
    · subst hq; omega
    · have := ih (fun i hi => h i (by omega)) i (by omega); omega
theorem si_cast (f : Nat → Int) (m : Nat) : ((si f m : Int) : Rat) = su (fun i => ((f i : Int) : Rat)) m := by
  induction m with
  | zero => rfl
  | succ m ih => rw [si, su, Rat.intCast_add, ih]
theorem si_ext {f : Nat → Int} {n m : Nat} (h : n ≤ m) (hz : ∀ i, n ≤ i → i < m → f i = 0) : si f m = si f n := by
  induction m with
  | zero => rw [show n = 0 by omega]
  | succ m ih =>
    by_cases hq : n = m + 1
    · rw [hq]
    · rw [si, ih (by omega) (fun i h1 h2 => hz i h1 (by omega)), hz m (by omega) (by omega), Int.add_zero]
/-- the weights of those who were alive, together -/
def Ws (T : kT) (w : Nat → Int) : Int := si (fun p => if ka T p = true then w p else 0) (kn T)
/-- shares by kin count -/
def hk (T : kT) (w : Nat → Int) : Bool := !decide (0 < Ws T w) || lv T (kx T)
/-- in how many parts it goes -/
def pt (T : kT) (w : Nat → Int) : Nat := if (decide (0 < Ws T w) && lv T (kx T)) = true then 2 else 1
/-- the will's part of p -/
def Rw (T : kT) (w : Nat → Int) (p : Nat) : Rat := if 0 < Ws T w ∧ ka T p = true then ((w p : Int) : Rat) / (((Ws T w * (pt T w : Int)) : Int) : Rat) else 0
/-- kin's part of p -/
def Rk (T : kT) (w : Nat → Int) (p : Nat) : Rat := if (hk T w && ka T p) = true then KK T p / ((pt T w : Nat) : Rat) else 0
/-- the share of p -/
def Rs (T : kT) (w : Nat → Int) (p : Nat) : Rat := Rw T w p + Rk T w p
variable {T : kT} {ps : Nat → Nat} {w : Nat → Int}
theorem pt_or : pt T w = 1 ∨ pt T w = 2 := by unfold pt; split <;> simp
theorem hc_lv (H : KH T ps) (h : lv T (kx T) = true) : 0 < hc T := by
  refine ct_pos.mpr ⟨kx T, H.2.1, ?_⟩
  unfold hd
  rw [if_pos h]
  exact beq_self_eq_true _
theorem Ws_nonneg (hw : ∀ p, p < kn T → 0 ≤ w p) : 0 ≤ Ws T w := si_nonneg (fun p hp => by split; exact hw p hp; exact Int.le_refl 0)
theorem Ws_le (H : KH T ps) (hw : ∀ p, p < kn T → 0 ≤ w p ∧ w p ≤ 9) : Ws T w ≤ 126 := by
  have h1 : Ws T w ≤ 9 * (kn T : Int) := si_le (fun p hp => by split; exact (hw p hp).2; omega)
  have := H.1
  omega
theorem wl_le (hw : ∀ p, p < kn T → 0 ≤ w p) {p : Nat} (hp : p < kn T) (ha : ka T p = true) : w p ≤ Ws T w := by
  have := si_pos_mem (f := fun p => if ka T p = true then w p else 0) (m := kn T) (fun p hp => by split; exact hw p hp; exact Int.le_refl 0) p hp
  rw [if_pos ha] at this
  exact this
theorem Rw_sum (hW : 0 < Ws T w) : su (Rw T w) (kn T) = 1 / ((pt T w : Nat) : Rat) := by
  have e : su (Rw T w) (kn T) = su (fun p => (1 / (((Ws T w * (pt T w : Int)) : Int) : Rat)) * (((if ka T p = true then w p else 0) : Int) : Rat)) (kn T) := by
    refine su_congr (fun p _ => ?_)
    unfold Rw
    by_cases ha : ka T p = true
    · rw [if_pos ⟨hW, ha⟩, if_pos ha, Rat.div_def, Rat.div_def, Rat.one_mul, Rat.mul_comm]
    · rw [if_neg (fun q => ha q.2), if_neg ha]
      show (0 : Rat) = _ * (0 : Rat)
      rw [Rat.mul_zero]
  rw [e, su_mul, ← si_cast (fun p => if ka T p = true then w p else 0)]
  show (1 / (((Ws T w * (pt T w : Int)) : Int) : Rat)) * ((Ws T w : Int) : Rat) = _
  have h1 : ((Ws T w : Int) : Rat) ≠ 0 := fun h => by have := Rat.intCast_eq_zero_iff.mp h; omega
  have h2 : ((pt T w : Nat) : Rat) ≠ 0 := fun h => by have := Rat.natCast_eq_zero_iff.mp h; rcases pt_or (T := T) (w := w) with h | h <;> omega
  rw [Rat.intCast_mul, Rat.intCast_natCast]
  grind
theorem Rk_sum (H : KH T ps) (hh : 0 < hc T) (hq : hk T w = true) : su (Rk T w) (kn T) = 1 / ((pt T w : Nat) : Rat) := by
  have e : su (Rk T w) (kn T) = su (fun p => (1 / ((pt T w : Nat) : Rat)) * (if ka T p = true then KK T p else 0)) (kn T) := by
    refine su_congr (fun p _ => ?_)
    unfold Rk
    rw [hq]
    by_cases ha : ka T p = true
    · rw [ha, if_pos (by decide), if_pos rfl, Rat.div_def, Rat.div_def, Rat.one_mul, Rat.mul_comm]
    · rw [Bool.not_eq_true] at ha
      rw [ha, if_neg (by decide), if_neg (by decide), Rat.mul_zero]
  rw [e, su_mul, KK_sum H hh, Rat.mul_one]
/-- the shares are all, or there are none -/
theorem Rs_sum (H : KH T ps) : su (Rs T w) (kn T) = 1 ∨ ∀ p, p < kn T → Rs T w p = 0 := by
  have hadd : su (Rs T w) (kn T) = su (Rw T w) (kn T) + su (Rk T w) (kn T) := su_add _ _ _
  by_cases hW : 0 < Ws T w
  · left
    by_cases hl : lv T (kx T) = true
    · have hq : hk T w = true := by unfold hk; rw [hl]; simp
      have hp : pt T w = 2 := by unfold pt; rw [hl, decide_eq_true hW]; rfl
      rw [hadd, Rw_sum hW, Rk_sum H (hc_lv H hl) hq, hp]
      show (1 : Rat) / 2 + 1 / 2 = 1
      grind
    · rw [Bool.not_eq_true] at hl
      have hq : hk T w = false := by unfold hk; rw [hl, decide_eq_true hW]; rfl
      have hp : pt T w = 1 := by unfold pt; rw [hl, decide_eq_true hW]; rfl
      rw [hadd, Rw_sum hW, hp, su_zero (f := Rk T w) (fun p _ => by unfold Rk; rw [hq]; rfl)]
      show (1 : Rat) / 1 + 0 = 1
      grind
  · have hq : hk T w = true := by unfold hk; rw [decide_eq_false hW]; rfl
    have hp : pt T w = 1 := by unfold pt; rw [decide_eq_false hW]; rfl
    have hr : ∀ p, Rw T w p = 0 := fun p => by unfold Rw; rw [if_neg (fun q => hW q.1)]
    by_cases hh : 0 < hc T
    · left
      rw [hadd, su_zero (f := Rw T w) (fun p _ => hr p), Rk_sum H hh hq, hp]
      show (0 : Rat) + 1 / 1 = 1
      grind
    · right
      intro p hp2
      unfold Rs Rk
      rw [hr, KK_none H (by omega) hp2, hp]
      split
      · show (0 : Rat) + 0 / 1 = 0
        grind
      · grind
theorem Rw_nonneg (hw : ∀ p, p < kn T → 0 ≤ w p) {p : Nat} (hp : p < kn T) : 0 ≤ Rw T w p := by
  unfold Rw
  split
  · next h =>
    rw [Rat.div_def]
    refine Rat.mul_nonneg (Rat.intCast_nonneg.mpr (hw p hp)) (Rat.le_of_lt (Rat.inv_pos.mpr (Rat.intCast_pos.mpr ?_)))
    exact Int.mul_pos h.1 (by rcases pt_or (T := T) (w := w) with h | h <;> omega)
  · exact Rat.le_refl
theorem Rk_nonneg (p : Nat) : 0 ≤ Rk T w p := by
  unfold Rk
  split
  · exact div_nn (KK_nonneg p)
  · exact Rat.le_refl
theorem Rs_nonneg (hw : ∀ p, p < kn T → 0 ≤ w p) {p : Nat} (hp : p < kn T) : 0 ≤ Rs T w p := Rat.add_nonneg (Rw_nonneg hw hp) (Rk_nonneg p)
theorem Rs_le (H : KH T ps) (hw : ∀ p, p < kn T → 0 ≤ w p) {p : Nat} (hp : p < kn T) : Rs T w p ≤ 1 := by
  rcases Rs_sum (w := w) H with h | h
  · have := su_le (f := Rs T w) (m := kn T) (fun q hq => Rs_nonneg hw hq) p hp
    rw [h] at this
    exact this
  · rw [h p hp]; decide
end SH1
