section KM1
/-- sums and counts over the first m -/
def su (f : Nat → Rat) : Nat → Rat
  | 0 => 0
  | m + 1 => su f m + f m
def sn (f : Nat → Nat) : Nat → Nat
  | 0 => 0
  | m + 1 => sn f m + f m
def ct (b : Nat → Bool) : Nat → Nat
  | 0 => 0
  | m + 1 => ct b m + (if b m = true then 1 else 0)
def pr (f : Nat → Nat) : Nat → Nat
  | 0 => 1
  | m + 1 => pr f m * f m
theorem su_congr {f g : Nat → Rat} : ∀ {m : Nat}, (∀ i, i < m → f i = g i) → su f m = su g m := by
  intro m
  induction m with
  | zero => intro _; rfl
  | succ m ih => intro h; rw [su, su, ih (fun i hi => h i (by omega)), h m (by omega)]
theorem su_add (f g : Nat → Rat) (m : Nat) : su (fun i => f i + g i) m = su f m + su g m := by
  induction m with
  | zero => show (0 : Rat) = 0 + 0; grind
  | succ m ih => rw [su, su, su, ih]; grind
theorem su_sub (f g : Nat → Rat) (m : Nat) : su (fun i => f i - g i) m = su f m - su g m := by
  induction m with
  | zero => show (0 : Rat) = 0 - 0; grind
  | succ m ih => rw [su, su, su, ih]; grind
theorem su_mul (f : Nat → Rat) (c : Rat) (m : Nat) : su (fun i => c * f i) m = c * su f m := by
  induction m with
  | zero => rw [su, su]; grind
  | succ m ih => rw [su, su, ih]; grind
theorem su_zero {f : Nat → Rat} {m : Nat} (h : ∀ i, i < m → f i = 0) : su f m = 0 := by
  induction m with
  | zero => rfl
  | succ m ih => rw [su, ih (fun i hi => h i (by omega)), h m (by omega)]; grind
theorem su_if (b : Nat → Bool) (c : Rat) (m : Nat) : su (fun i => if b i = true then c else 0) m = (ct b m : Rat) * c := by
  induction m with
  | zero => rw [su, ct]; grind
  | succ m ih =>
    rw [su, ct, ih]
    split
    · rw [Rat.natCast_add]; grind
    · rw [Nat.add_zero]; grind
theorem su_one {x : Rat} {q : Nat} : ∀ {m : Nat}, q < m → su (fun i => if i = q then x else 0) m = x := by
  intro m
  induction m with
  | zero => intro h; omega
  | succ m ih =>
    intro h
    rw [su]
    by_cases hq : m = q
    · rw [if_pos hq, su_zero (fun i hi => if_neg (by omega))]; grind
    · rw [if_neg hq, ih (by omega)]; grind
theorem su_nonneg {f : Nat → Rat} {m : Nat} (h : ∀ i, i < m → 0 ≤ f i) : 0 ≤ su f m := by
  induction m with
  | zero => exact Rat.le_refl
  | succ m ih => rw [su]; exact Rat.add_nonneg (ih (fun i hi => h i (by omega))) (h m (by omega))
theorem su_le {f : Nat → Rat} : ∀ {m : Nat}, (∀ i, i < m → 0 ≤ f i) → ∀ i, i < m → f i ≤ su f m := by
  intro m
  induction m with
  | zero => intro _ i hi; omega
  | succ m ih =>
    intro h i hi
    rw [su]
    have h1 : 0 ≤ su f m := su_nonneg (fun i hi => h i (by omega))
    have h2 := h m (by omega)
    by_cases hq : i = m
    · subst hq; grind
    · have := ih (fun i hi => h i (by omega)) i (by omega); grind
theorem su_mono {f g : Nat → Rat} {m : Nat} (h : ∀ i, i < m → f i ≤ g i) : su f m ≤ su g m := by
  induction m with
  | zero => exact Rat.le_refl
  | succ m ih => rw [su, su]; have := ih (fun i hi => h i (by omega)); have := h m (by omega); grind
theorem ct_congr {b c : Nat → Bool} : ∀ {m : Nat}, (∀ i, i < m → b i = c i) → ct b m = ct c m := by
  intro m
  induction m with
  | zero => intro _; rfl
  | succ m ih => intro h; rw [ct, ct, ih (fun i hi => h i (by omega)), h m (by omega)]
theorem ct_le (b : Nat → Bool) (m : Nat) : ct b m ≤ m := by
  induction m with
  | zero => exact Nat.le_refl _
  | succ m ih => rw [ct]; split <;> omega
theorem ct_pos {b : Nat → Bool} : ∀ {m : Nat}, 0 < ct b m ↔ ∃ i, i < m ∧ b i = true := by
  intro m
  induction m with
  | zero => constructor
            · intro h; exact absurd h (Nat.lt_irrefl 0)
            · rintro ⟨i, hi, _⟩; omega
  | succ m ih =>
    rw [ct]
    constructor
    · intro h
      by_cases hm : b m = true
      · exact ⟨m, by omega, hm⟩
      · rw [if_neg hm, Nat.add_zero] at h
        obtain ⟨i, hi, hb⟩ := ih.mp h
        exact ⟨i, by omega, hb⟩
    · rintro ⟨i, hi, hb⟩
      by_cases hm : i = m
      · subst hm; rw [if_pos hb]; omega
      · have := ih.mpr ⟨i, by omega, hb⟩; omega
theorem ct_zero {b : Nat → Bool} {m : Nat} (h : ∀ i, i < m → b i = false) : ct b m = 0 := by
  induction m with
  | zero => rfl
  | succ m ih => rw [ct, ih (fun i hi => h i (by omega)), h m (by omega)]; rfl
theorem ct_mono {b c : Nat → Bool} {m : Nat} (h : ∀ i, i < m → b i = true → c i = true) : ct b m ≤ ct c m := by
  induction m with
  | zero => exact Nat.le_refl _
  | succ m ih =>
    rw [ct, ct]
    have := ih (fun i hi => h i (by omega))
    by_cases hm : b m = true
    · rw [if_pos hm, if_pos (h m (by omega) hm)]; omega
    · rw [if_neg hm]; split <;> omega
theorem sn_congr {f g : Nat → Nat} : ∀ {m : Nat}, (∀ i, i < m → f i = g i) → sn f m = sn g m := by
  intro m
  induction m with
  | zero => intro _; rfl
  | succ m ih => intro h; rw [sn, sn, ih (fun i hi => h i (by omega)), h m (by omega)]
theorem sn_add (f g : Nat → Nat) (m : Nat) : sn (fun i => f i + g i) m = sn f m + sn g m := by
  induction m with
  | zero => rfl
  | succ m ih => rw [sn, sn, sn, ih]; omega
theorem sn_ct (b : Nat → Bool) (m : Nat) : sn (fun i => if b i = true then 1 else 0) m = ct b m := by
  induction m with
  | zero => rfl
  | succ m ih => rw [sn, ct, ih]
theorem sn_bound {f : Nat → Nat} {c : Nat} : ∀ {m : Nat}, (∀ i, i < m → f i ≤ c) → sn f m ≤ c * m := by
  intro m
  induction m with
  | zero => intro _; exact Nat.le_refl _
  | succ m ih => intro h; rw [sn, Nat.mul_succ]; have := ih (fun i hi => h i (by omega)); have := h m (by omega); omega
theorem sn_mono {f g : Nat → Nat} {m : Nat} (h : ∀ i, i < m → f i ≤ g i) : sn f m ≤ sn g m := by
  induction m with
  | zero => exact Nat.le_refl _
  | succ m ih => rw [sn, sn]; have := ih (fun i hi => h i (by omega)); have := h m (by omega); omega
theorem sn_swap (b : Nat → Nat → Bool) (n m : Nat) : sn (fun j => ct (b j) n) m = sn (fun k => ct (fun j => b j k) m) n := by
  induction m with
  | zero =>
    rw [sn]
    have : ∀ n, sn (fun k => ct (fun j => b j k) 0) n = 0 := by
      intro n
      induction n with
      | zero => rfl
      | succ n ih => rw [sn, ih]; rfl
    rw [this]
  | succ m ih =>
    rw [sn, ih, ← sn_ct (b m) n, ← sn_add]
    rfl
theorem pr_cube (f g : Nat → Nat) (m : Nat) (h : ∀ i, i < m → f i ^ 3 ≤ 3 ^ g i) : pr f m ^ 3 ≤ 3 ^ sn g m := by
  induction m with
  | zero => exact Nat.le_refl _
  | succ m ih =>
    rw [pr, sn, Nat.mul_pow, Nat.pow_add]
    exact Nat.mul_le_mul (ih (fun i hi => h i (by omega))) (h m (by omega))
theorem pr_pos {f : Nat → Nat} {m : Nat} (h : ∀ i, i < m → 0 < f i) : 0 < pr f m := by
  induction m with
  | zero => exact Nat.one_pos
  | succ m ih => rw [pr]; exact Nat.mul_pos (ih (fun i hi => h i (by omega))) (h m (by omega))
theorem cube3 (c : Nat) : (max 1 c) ^ 3 ≤ 3 ^ c := by
  match c with
  | 0 => decide
  | 1 => decide
  | 2 => decide
  | 3 => decide
  | c + 4 =>
    have key : ∀ c : Nat, (c + 3) ^ 3 ≤ 3 ^ (c + 3) := by
      intro c
      induction c with
      | zero => decide
      | succ c ih =>
        have e : 3 ^ (c + 1 + 3) = 3 * 3 ^ (c + 3) := by rw [Nat.pow_succ]; omega
        rw [e]
        refine Nat.le_trans ?_ (Nat.mul_le_mul_left 3 ih)
        have h1 : ∀ x : Nat, x ^ 3 = x * x * x := fun x => by rw [Nat.pow_succ, Nat.pow_succ, Nat.pow_one]
        rw [h1, h1]
        have h2 : (c + 1 + 3) * (c + 1 + 3) * (c + 1 + 3) = c * c * c + 12 * (c * c) + 48 * c + 64 := by grind
        have h3 : (c + 3) * (c + 3) * (c + 3) = c * c * c + 9 * (c * c) + 27 * c + 27 := by grind
        rw [h2, h3]
        generalize c * c * c = u
        generalize c * c = v
        omega
    have := key (c + 1)
    rw [show max 1 (c + 4) = c + 1 + 3 by omega]
    exact this
/-- a fraction of denominator D -/
def iq (x : Rat) (D : Nat) : Prop := ∃ z : Int, x * (D : Rat) = (z : Rat)
theorem iq_add {x y : Rat} {D : Nat} (hx : iq x D) (hy : iq y D) : iq (x + y) D := by
  obtain ⟨a, ha⟩ := hx
  obtain ⟨b, hb⟩ := hy
  exact ⟨a + b, by rw [Rat.intCast_add, ← ha, ← hb]; grind⟩
theorem iq_mul {x : Rat} {D : Nat} (m : Nat) (hx : iq x D) : iq x (D * m) := by
  obtain ⟨a, ha⟩ := hx
  exact ⟨a * m, by rw [Rat.intCast_mul, ← ha, Rat.natCast_mul, Rat.intCast_natCast]; grind⟩
theorem iq_zero (D : Nat) : iq 0 D := ⟨0, by rw [Rat.zero_mul]; rfl⟩
theorem iq_den {x : Rat} {D : Nat} (hD : 0 < D) (hx : iq x D) : x.den ≤ D := by
  obtain ⟨z, hz⟩ := hx
  have hD0 : (D : Rat) ≠ 0 := fun h => by rw [Rat.natCast_eq_zero_iff] at h; omega
  have hx : x = mkRat z D := by
    rw [Rat.mkRat_eq_div, ← hz, Rat.mul_div_cancel hD0]
  rw [hx, Rat.den_mkRat, if_neg (by omega)]
  exact Nat.div_le_self _ _
theorem num_le_den {x : Rat} (h : x ≤ 1) : x.num ≤ x.den := by
  have := (Rat.le_iff x 1).mp h
  rw [Rat.one_num, Rat.one_den] at this
  omega
end KM1
