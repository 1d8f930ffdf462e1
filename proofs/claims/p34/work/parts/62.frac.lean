section FR1
theorem gq_t {α : Type} {p : Prop} [Decidable p] {X : Option α} (h : p) : gq p X = X := if_pos h
theorem gq_R {α : Type} {x : Int} {X : Option α} (h1 : -2147483648 ≤ x) (h2 : x ≤ 2147483647) : gq (gR x) X = X := if_pos ⟨h1, h2⟩
theorem gq_L {α : Type} {x : Int} {X : Option α} (h1 : -9223372036854775808 ≤ x) (h2 : x ≤ 9223372036854775807) : gq (gRL x) X = X := if_pos ⟨h1, h2⟩
theorem gq_ix {α : Type} {x n : Int} {X : Option α} (h1 : 0 ≤ x) (h2 : x < n) : gq (0 ≤ x ∧ x < n) X = X := if_pos ⟨h1, h2⟩
theorem gq_D {α : Type} {x y : Int} {X : Option α} (h1 : 0 ≤ x) (h2 : x ≤ 9223372036854775807) (h3 : 0 < y) (h4 : y ≤ 9223372036854775807) : gq ((0 ≤ x ∧ x ≤ 9223372036854775807) ∧ 0 < y ∧ y ≤ 9223372036854775807) X = X := if_pos ⟨⟨h1, h2⟩, h3, h4⟩
theorem gq_B {α : Type} {x : Int} {X : Option α} (h : x = 0 ∨ x = 1) : gq (x = 0 ∨ x = 1) X = X := if_pos h
theorem gc_v (x : Int) (s : gb_S) (k : Int → gb_S → Option gb_P) : gc (some (.inl x, s)) k = k x s := rfl
theorem gc_e (x : Nat) (s : gb_S) (k : Int → gb_S → Option gb_P) : gc (some (.inr x, s)) k = some (.inr x, s) := rfl
theorem gch_v (x : Int) (s : gb_S) (k : Int → gb_S → Option gb_P) (h : Nat → gb_S → Option gb_P) : gch (some (.inl x, s)) k h = k x s := rfl
theorem gch_e (x : Nat) (s : gb_S) (k : Int → gb_S → Option gb_P) (h : Nat → gb_S → Option gb_P) : gch (some (.inr x, s)) k h = h x s := rfl
theorem up_ap (σ : gb_S) (a j a' j' : Nat) (x : Int) : gb_up σ a j x a' j' = if a' = a ∧ j' = j then x else σ a' j' := rfl
theorem up_eq (σ : gb_S) (a j : Nat) (x : Int) : gb_up σ a j x a j = x := if_pos ⟨rfl, rfl⟩
theorem up_ne (σ : gb_S) (a j : Nat) (x : Int) {a' : Nat} (h : a' ≠ a) : gb_up σ a j x a' = σ a' := funext fun _ => if_neg (fun q => h q.1)
theorem up_nj (σ : gb_S) (a j : Nat) (x : Int) {a' j' : Nat} (h : j' ≠ j) : gb_up σ a j x a' j' = σ a' j' := if_neg (fun q => h q.2)
theorem fi_ne (σ : gb_S) (a : Nat) (x : Int) {a' : Nat} (h : a' ≠ a) : gb_fi σ a x a' = σ a' := funext fun _ => if_neg h
theorem fi_eq (σ : gb_S) (a : Nat) (x : Int) : gb_fi σ a x a = fun _ => x := funext fun _ => if_pos rfl
theorem cp_ne (σ : gb_S) (a b : Nat) {a' : Nat} (h : a' ≠ b) : gb_cp σ a b a' = σ a' := funext fun _ => if_neg h
theorem cp_eq (σ : gb_S) (a b : Nat) : gb_cp σ a b b = σ a := funext fun _ => if_pos rfl
variable {σ : gb_S}
theorem gFUs : ∃ k, gFU = k + 1 ∧ 1900 < k := ⟨1999, rfl, by decide⟩
/-- Euclid's algorithm -/
theorem gcd77 : ∀ (m k a b : Nat) (c : Int), m ≤ 49 → b ≤ a → a < 2 ^ m → 0 ≤ c → c + 2 * m ≤ 100 → 2 * m < k → fx_77_3 k (a : Int) (b : Int) c σ = some (.inl ((Nat.gcd a b : Nat) : Int), σ) := by
  intro m
  induction m with
  | zero =>
    intro k a b c _ h1 h2 h3 h4 h5
    have ha : a = 0 := by omega
    have hb : b = 0 := by omega
    subst ha; subst hb
    obtain ⟨k, rfl⟩ : ∃ q, k = q + 1 := ⟨k - 1, by omega⟩
    rw [fx_77_3, gq_R (by omega) (by omega)]
    split
    · rw [gq_L (by omega) (by omega), if_pos (by omega)]; rfl
    · rfl
  | succ m ih =>
    intro k a b c hm h1 h2 h3 h4 h5
    have hp : 2 ^ (m + 1) ≤ 2 ^ 50 := Nat.pow_le_pow_right (by omega) (by omega)
    have h2' : 2 ^ (m + 1) = 2 * 2 ^ m := by rw [Nat.pow_succ]; omega
    obtain ⟨k, rfl⟩ : ∃ q, k = q + 1 := ⟨k - 1, by omega⟩
    rw [fx_77_3, gq_R (by omega) (by omega), if_pos (by omega), gq_L (by omega) (by omega)]
    by_cases hb : b = 0
    · subst hb
      rw [if_pos (by omega), Nat.gcd_zero_right]
    · rw [if_neg (by omega), gq_D (by omega) (by omega) (by omega) (by omega), ← Int.natCast_emod]
      have hlt : a % b < b := Nat.mod_lt a (by omega)
      have hdm := Nat.div_add_mod a b
      have hq : 1 ≤ a / b := (Nat.one_le_div_iff (by omega)).mpr h1
      have hb1 : b ≤ b * (a / b) := Nat.le_mul_of_pos_right b hq
      obtain ⟨k, rfl⟩ : ∃ q, k = q + 1 := ⟨k - 1, by omega⟩
      rw [fx_77_3, gq_R (by omega) (by omega), if_pos (by omega), gq_L (by omega) (by omega)]
      by_cases hr : a % b = 0
      · rw [if_pos (by omega), Nat.gcd_comm, Nat.gcd_rec, hr, Nat.gcd_zero_left]
      · rw [if_neg (by omega), gq_D (by omega) (by omega) (by omega) (by omega), ← Int.natCast_emod]
        have hlt2 : b % (a % b) < a % b := Nat.mod_lt b (by omega)
        rw [ih k (a % b) (b % (a % b)) (c + 1 + 1) (by omega) (by omega) (by omega) (by omega) (by omega) (by omega)]
        rw [Nat.gcd_comm (a % b), ← Nat.gcd_rec, Nat.gcd_comm a b, Nat.gcd_rec b a]
theorem com77 (a b : Nat) (ha : a < 2 ^ 48) (hb : b < 2 ^ 48) : fx_77 (a : Int) (b : Int) σ = some (.inl ((Nat.gcd a b : Nat) : Int), σ) := by
  unfold fx_77
  by_cases h : b ≤ a
  · exact gcd77 48 gFU a b 0 (by omega) h ha (by omega) (by omega) (by decide)
  · obtain ⟨k, hk, hk2⟩ := gFUs
    rw [hk, fx_77_3, gq_R (by omega) (by omega), if_pos (by omega), gq_L (by omega) (by omega), if_neg (by omega), gq_D (by omega) (by omega) (by omega) (by omega), ← Int.natCast_emod]
    rw [Nat.mod_eq_of_lt (by omega), gcd77 48 k b a (0 + 1) (by omega) (by omega) hb (by omega) (by omega) (by omega), Nat.gcd_comm]
theorem gcd63 : ∀ (m k a b : Nat), m ≤ 49 → b ≤ a → a < 2 ^ m → 2 * m < k → fx_163_6 k (a : Int) (b : Int) σ = some (.inl ((Nat.gcd a b : Nat) : Int), σ) := by
  intro m
  induction m with
  | zero =>
    intro k a b _ h1 h2 h5
    have ha : a = 0 := by omega
    have hb : b = 0 := by omega
    subst ha; subst hb
    obtain ⟨k, rfl⟩ : ∃ q, k = q + 1 := ⟨k - 1, by omega⟩
    rw [fx_163_6, gq_L (by omega) (by omega), if_neg (by omega)]; rfl
  | succ m ih =>
    intro k a b hm h1 h2 h5
    have hp : 2 ^ (m + 1) ≤ 2 ^ 50 := Nat.pow_le_pow_right (by omega) (by omega)
    have h2' : 2 ^ (m + 1) = 2 * 2 ^ m := by rw [Nat.pow_succ]; omega
    obtain ⟨k, rfl⟩ : ∃ q, k = q + 1 := ⟨k - 1, by omega⟩
    rw [fx_163_6, gq_L (by omega) (by omega)]
    by_cases hb : b = 0
    · subst hb
      rw [if_neg (by omega), Nat.gcd_zero_right]
    · rw [if_pos (by omega), gq_D (by omega) (by omega) (by omega) (by omega), ← Int.natCast_emod]
      have hlt : a % b < b := Nat.mod_lt a (by omega)
      have hdm := Nat.div_add_mod a b
      have hq : 1 ≤ a / b := (Nat.one_le_div_iff (by omega)).mpr h1
      have hb1 : b ≤ b * (a / b) := Nat.le_mul_of_pos_right b hq
      obtain ⟨k, rfl⟩ : ∃ q, k = q + 1 := ⟨k - 1, by omega⟩
      rw [fx_163_6, gq_L (by omega) (by omega)]
      by_cases hr : a % b = 0
      · rw [if_neg (by omega), Nat.gcd_comm, Nat.gcd_rec, hr, Nat.gcd_zero_left]
      · rw [if_pos (by omega), gq_D (by omega) (by omega) (by omega) (by omega), ← Int.natCast_emod]
        have hlt2 : b % (a % b) < a % b := Nat.mod_lt b (by omega)
        rw [ih k (a % b) (b % (a % b)) (by omega) (by omega) (by omega) (by omega)]
        rw [Nat.gcd_comm (a % b), ← Nat.gcd_rec, Nat.gcd_comm a b, Nat.gcd_rec b a]
theorem com163 (a b : Nat) (ha : a < 2 ^ 48) (hb : b < 2 ^ 48) : fx_163 (a : Int) (b : Int) σ = some (.inl ((Nat.gcd a b : Nat) : Int), σ) := by
  unfold fx_163
  by_cases h : b ≤ a
  · exact gcd63 48 gFU a b (by omega) h ha (by decide)
  · obtain ⟨k, hk, hk2⟩ := gFUs
    rw [hk, fx_163_6, gq_L (by omega) (by omega), if_pos (by omega), gq_D (by omega) (by omega) (by omega) (by omega), ← Int.natCast_emod]
    rw [Nat.mod_eq_of_lt (by omega), gcd63 48 k b a (by omega) (by omega) hb (by omega), Nat.gcd_comm]
/-- the sum of two fractions in lowest terms, as both machines make it -/
theorem fr_add {q : Rat} {x : Int} {y : Nat} (hq : 0 ≤ q) (hx : 0 ≤ x) (hy : 0 < y) : ∃ (N D : Nat), q.num * (y : Int) + x * (q.den : Int) = (N : Int) ∧ (q.den : Int) * (y : Int) = (D : Int) ∧ 0 < D ∧ (q + (x : Rat) / ((y : Int) : Rat)).num = (N : Int) / ((Nat.gcd N D : Nat) : Int) ∧ ((q + (x : Rat) / ((y : Int) : Rat)).den : Int) = (D : Int) / ((Nat.gcd N D : Nat) : Int) := by
  have h0 : 0 ≤ q.num := Rat.num_nonneg.mpr hq
  have hN : 0 ≤ q.num * (y : Int) + x * (q.den : Int) := Int.add_nonneg (Int.mul_nonneg h0 (by omega)) (Int.mul_nonneg hx (by omega))
  have hD : 0 < q.den * y := Nat.mul_pos q.den_pos hy
  obtain ⟨N, hN2⟩ : ∃ N : Nat, q.num * (y : Int) + x * (q.den : Int) = (N : Int) := ⟨_, (Int.toNat_of_nonneg hN).symm⟩
  refine ⟨N, q.den * y, hN2, (Int.natCast_mul _ _).symm, hD, ?_⟩
  have e : q + (x : Rat) / ((y : Int) : Rat) = mkRat (N : Int) (q.den * y) := by
    rw [Rat.intCast_natCast, ← Rat.mkRat_eq_div]
    have := Rat.mkRat_add_mkRat q.num x (d₁ := q.den) (d₂ := y) q.den_nz (by omega)
    rw [Rat.mkRat_self, hN2] at this
    exact this
  rw [e, Rat.num_mkRat, Rat.den_mkRat, if_neg (by omega), if_neg (by omega), Int.natAbs_natCast, Nat.gcd_comm]
  exact ⟨rfl, rfl⟩
theorem add73 {a p : Nat} {q : Rat} {x : Int} {y : Nat} (hp : p < 14) (h1 : σ (a + 1) p = q.num) (h2 : σ (a + 2) p = (q.den : Int)) (hq : 0 ≤ q) (hx : 0 ≤ x) (hy : 0 < y) (b1 : q.num * (y : Int) + x * (q.den : Int) < 2 ^ 48) (b2 : (q.den : Int) * (y : Int) < 2 ^ 48) :
    fx_73 a (p : Int) x (y : Int) σ = some (.inl 0, gb_up (gb_up σ (a + 1) p (q + (x : Rat) / ((y : Int) : Rat)).num) (a + 2) p ((q + (x : Rat) / ((y : Int) : Rat)).den : Int)) := by
  obtain ⟨N, D, hN, hD, hD0, e1, e2⟩ := fr_add (q := q) hq hx hy
  rw [hN] at b1
  rw [hD] at b2
  have hyD : y ≤ D := by
    have h3 : 1 * (y : Int) ≤ (q.den : Int) * (y : Int) := Int.mul_le_mul_of_nonneg_right (by have := q.den_pos; omega) (by omega)
    omega
  have hg : 0 < Nat.gcd N D := Nat.gcd_pos_of_pos_right N hD0
  have hg2 : Nat.gcd N D ≤ D := Nat.gcd_le_right N hD0
  unfold fx_73
  rw [gq_R (by omega) (by omega), if_neg (by omega), if_pos (by omega), gq_L (by omega) (by omega), if_pos (by omega), gq_ix (by omega) (by omega), Int.toNat_natCast, h1, h2, hN, hD, com77 N D (by omega) (by omega), gc_v, gq_L (by omega) (by omega), if_pos (by omega), gq_D (by omega) (by omega) (by omega) (by omega), gq_D (by omega) (by omega) (by omega) (by omega), e1, e2]
theorem add164 {p : Nat} {q : Rat} {x : Int} {y : Nat} (hp : p < 14) (h1 : σ 218 p = q.num) (h2 : σ 219 p = (q.den : Int)) (hq : 0 ≤ q) (hx : 0 ≤ x) (hy : 0 < y) (b1 : q.num * (y : Int) + x * (q.den : Int) < 2 ^ 48) (b2 : (q.den : Int) * (y : Int) < 2 ^ 48) :
    fx_164 (p : Int) x (y : Int) σ = some (.inl 0, gb_up (gb_up σ 218 p (q + (x : Rat) / ((y : Int) : Rat)).num) 219 p ((q + (x : Rat) / ((y : Int) : Rat)).den : Int)) := by
  obtain ⟨N, D, hN, hD, hD0, e1, e2⟩ := fr_add (q := q) hq hx hy
  rw [hN] at b1
  rw [hD] at b2
  have hg : 0 < Nat.gcd N D := Nat.gcd_pos_of_pos_right N hD0
  have hg2 : Nat.gcd N D ≤ D := Nat.gcd_le_right N hD0
  unfold fx_164
  rw [gq_ix (by omega) (by omega), Int.toNat_natCast, h1, h2, hN, hD, com163 N D (by omega) (by omega), gc_v, gq_D (by omega) (by omega) (by omega) (by omega), gq_D (by omega) (by omega) (by omega) (by omega), e1, e2]
end FR1
