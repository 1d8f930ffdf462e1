section JH
variable {c : Int} {δ η : gb_S}
def jbo (η : gb_S) (x : Int) : Int := if x < 0 then 0 else if x < 14 then η 3 x.toNat else 0
def jdi (η : gb_S) (x : Int) : Int := if x < 0 then 0 else if x < 14 then η 4 x.toNat else 0
theorem gc_q {p : Prop} [Decidable p] (X : Option gb_P) (K : Int → gb_S → Option gb_P) : gc (gq p X) K = gq p (gc X K) := by
  unfold gq
  split <;> rfl
theorem jgf_q {f : gb_S → gb_S} {p : Prop} [Decidable p] (X : Option gb_P) (K : Int → gb_S → Option gb_P) : jgf f (gq p X) K = gq p (jgf f X K) := by
  unfold gq
  split <;> rfl
theorem gc_v' (x : Int) (s : gb_S) (K : Int → gb_S → Option gb_P) : gc (some (.inl x, s)) K = K x s := rfl
theorem j25 (x : Int) (ρ : gb_S) : fx_25 x (Jd η ρ) = gq (gR x) (some (.inl (jbo η x), Jd η ρ)) := by
  unfold fx_25 jbo
  congr 1
  by_cases h1 : x < 0
  · rw [if_pos h1, if_pos h1]
  · rw [if_neg h1, if_neg h1]
    by_cases h2 : x < 14
    · rw [if_pos h2, if_pos h2]
      unfold gq
      rw [if_pos ⟨by omega, h2⟩]
      rfl
    · rw [if_neg h2, if_neg h2]
theorem j26 (x : Int) (ρ : gb_S) : fx_26 x (Jd η ρ) = gq (gR x) (some (.inl (jdi η x), Jd η ρ)) := by
  unfold fx_26 jdi
  congr 1
  by_cases h1 : x < 0
  · rw [if_pos h1, if_pos h1]
  · rw [if_neg h1, if_neg h1]
    by_cases h2 : x < 14
    · rw [if_pos h2, if_pos h2]
      unfold gq
      rw [if_pos ⟨by omega, h2⟩]
      rfl
    · rw [if_neg h2, if_neg h2]
theorem jbo_c (H : DHd c δ η) (x : Int) : jbo η x = c * jbo δ x ∧ 0 ≤ jbo δ x ∧ jbo δ x ≤ 2000 := by
  unfold jbo
  by_cases h1 : x < 0
  · rw [if_pos h1, if_pos h1]; omega
  · rw [if_neg h1, if_neg h1]
    by_cases h2 : x < 14
    · rw [if_pos h2, if_pos h2]
      exact ⟨(H.2.1 _).1, (H.2.2 _).1⟩
    · rw [if_neg h2, if_neg h2]; omega
theorem jdi_c (H : DHd c δ η) (x : Int) : jdi η x = c * jdi δ x ∧ 0 ≤ jdi δ x ∧ jdi δ x ≤ 2000 := by
  unfold jdi
  by_cases h1 : x < 0
  · rw [if_pos h1, if_pos h1]; omega
  · rw [if_neg h1, if_neg h1]
    by_cases h2 : x < 14
    · rw [if_pos h2, if_pos h2]
      exact ⟨(H.2.1 _).2, (H.2.2 _).2⟩
    · rw [if_neg h2, if_neg h2]; omega
theorem jcl {y z : Int} (h : c = 1 ∨ c = 2) : (c * y < c * z) = (y < z) := by
  apply propext
  rcases h with rfl | rfl <;> omega
theorem gq_cR {y : Int} (h : c = 1 ∨ c = 2) (h1 : 0 ≤ y ∧ y ≤ 2000) (X : Option gb_P) : gq (gR (c * y)) X = X := by
  unfold gq
  rw [if_pos (by unfold gR; rcases h with rfl | rfl <;> omega)]
theorem gq_1R {y : Int} (h1 : 0 ≤ y ∧ y ≤ 2000) (X : Option gb_P) : gq (gR y) X = X := by
  unfold gq
  rw [if_pos (by unfold gR; omega)]
theorem j27v (H : DHd c δ η) (x y : Int) (ρ : gb_S) : fx_27 x y (Jd η ρ) = gq (gR x) (gq (gR y) (if jbo δ x < jbo δ y then some (.inl 1, Jd η ρ) else some (.inl 0, Jd η ρ))) := by
  unfold fx_27
  rw [j25, gc_q, gc_v', j25, gc_q, gc_v', (jbo_c H x).1, (jbo_c H y).1, gq_cR H.1 (jbo_c H x).2, gq_cR H.1 (jbo_c H y).2]
  simp only [jcl H.1]
theorem jm_27 (H : DHd c δ η) (x1 : Int) (x2 : Int) (ρ : gb_S) : fx_27 x1 x2 (Jd η ρ) = jop (Jd η) (jhm δ (fx_27 x1 x2) ρ) := by
  show _ = jop (Jd η) (fx_27 x1 x2 (Jd δ ρ))
  rw [j27v H, j27v H.one]
  simp only [jop_q, jop_i, jop_s, Jd_J]
theorem jm_8_81 {k21 : Nat → Int → Int → Int → gb_S → Option gb_P} (hk21 : ∀ (c : Int) (η : gb_S), DHd c δ η → ∀ (a2 : Nat) (x4 y x6 : Int) (_ : 5 ≤ a2) (_ : 0 ≤ y ∧ y ≤ 2000) (ρ : gb_S), k21 a2 x4 (c * y) x6 (Jd η ρ) = jop (Jd η) (jhm δ (k21 a2 x4 y x6) ρ)) (H : DHd c δ η) (a2 : Nat) (x4 y x6 x7 : Int) (ha2 : 5 ≤ a2) (hy : 0 ≤ y ∧ y ≤ 2000) (ρ : gb_S) :
    fx_8_81 k21 a2 x4 (c * y) x6 x7 (Jd η ρ) = jop (Jd η) (jhm δ (fx_8_81 k21 a2 x4 y x6 x7) ρ) := by
  show _ = jop (Jd η) (fx_8_81 k21 a2 x4 y x6 x7 (Jd δ ρ))
  unfold fx_8_81
  exact hk21 c η H _ _ _ _ ha2 hy _
theorem jm_8_62 {k21 : Nat → Int → Int → Int → gb_S → Option gb_P} (hk21 : ∀ (c : Int) (η : gb_S), DHd c δ η → ∀ (a2 : Nat) (x4 y x6 : Int) (_ : 5 ≤ a2) (_ : 0 ≤ y ∧ y ≤ 2000) (ρ : gb_S), k21 a2 x4 (c * y) x6 (Jd η ρ) = jop (Jd η) (jhm δ (k21 a2 x4 y x6) ρ)) (H : DHd c δ η) (a2 : Nat) (x4 y x6 x7 y0 : Int) (ha2 : 5 ≤ a2) (hy : 0 ≤ y ∧ y ≤ 2000) (ρ : gb_S) :
    fx_8_62 k21 a2 x4 (c * y) x6 x7 y0 (Jd η ρ) = jop (Jd η) (jhm δ (fx_8_62 k21 a2 x4 y x6 x7 y0) ρ) := by
  have H1 := H.one
  have k1 : ∀ (a2 : Nat) (x4 y x6 : Int) (_ : 5 ≤ a2) (_ : 0 ≤ y ∧ y ≤ 2000) (ρ : gb_S), k21 a2 x4 y x6 (Jd δ ρ) = jop (Jd δ) (jhm δ (k21 a2 x4 y x6) ρ) := fun a2 x4 y x6 h h2 ρ => by
    have e := hk21 1 δ H1 a2 x4 y x6 h h2 ρ
    rw [Int.one_mul] at e
    exact e
  have k2 : ∀ (a2 : Nat) (x4 y x6 x7 : Int) (_ : 5 ≤ a2) (_ : 0 ≤ y ∧ y ≤ 2000) (ρ : gb_S), fx_8_81 k21 a2 x4 y x6 x7 (Jd δ ρ) = jop (Jd δ) (jhm δ (fx_8_81 k21 a2 x4 y x6 x7) ρ) := fun a2 x4 y x6 x7 h h2 ρ => by
    have e := jm_8_81 hk21 H1 a2 x4 y x6 x7 h h2 ρ
    rw [Int.one_mul] at e
    exact e
  show _ = jop (Jd η) (fx_8_62 k21 a2 x4 y x6 x7 y0 (Jd δ ρ))
  unfold fx_8_62
  simp (disch := omega) only [jm_32 H, jm_32 H1, hk21 c η H, jm_8_81 hk21 H, k1, k2, gc_jop, jop_gc, jop_gf, jop_q, jop_i, jop_j]
theorem jn_8_21 (k : Nat) : ∀ (c : Int) (η : gb_S), DHd c δ η → ∀ (a2 : Nat) (x4 y x6 : Int) (_ : 5 ≤ a2) (_ : 0 ≤ y ∧ y ≤ 2000) (ρ : gb_S), fx_8_21 k a2 x4 (c * y) x6 (Jd η ρ) = jop (Jd η) (jhm δ (fx_8_21 k a2 x4 y x6) ρ) := by
  induction k with
  | zero => intros; rfl
  | succ k ih =>
    intro c η H a2 x4 y x6 ha2 hy ρ
    have H1 := H.one
    have k2 : ∀ (a2 : Nat) (x4 y x6 x7 y0 : Int) (_ : 5 ≤ a2) (_ : 0 ≤ y ∧ y ≤ 2000) (ρ : gb_S), fx_8_62 (fx_8_21 k) a2 x4 y x6 x7 y0 (Jd δ ρ) = jop (Jd δ) (jhm δ (fx_8_62 (fx_8_21 k) a2 x4 y x6 x7 y0) ρ) := fun a2 x4 y x6 x7 y0 h h2 ρ => by
      have e := jm_8_62 ih H1 a2 x4 y x6 x7 y0 h h2 ρ
      rw [Int.one_mul] at e
      exact e
    have b1 := fun x => gq_cR H.1 (jbo_c H x).2
    have b2 := fun x => gq_1R (jbo_c H x).2
    have b3 := gq_cR H.1 hy
    have b4 := gq_1R hy
    have b5 := fun x => (jbo_c H x).1
    show _ = jop (Jd η) (fx_8_21 (k + 1) a2 x4 y x6 (Jd δ ρ))
    rw [fx_8_21, fx_8_21]
    simp (disch := omega) only [Jd_rd, jm_28 H, jm_28 H1, jm_123 H, jm_123 H1, j25, gc_q, gc_v', jgf_q, b5, b1, b2, b3, b4, jcl H.1, jm_8_62 ih H, k2, gc_jop, jop_gc, jop_gf, jop_q, jop_i, jop_s, jop_j, Jd_J]
theorem jm_8 (H : DHd c δ η) (a2 a3 : Nat) (ha2 : 5 ≤ a2) (ha3 : 5 ≤ a3) (ρ : gb_S) : fx_8 a2 a3 (Jd η ρ) = jop (Jd η) (jhm δ (fx_8 a2 a3) ρ) := by
  have H1 := H.one
  have k2 : ∀ (k a2 : Nat) (x4 y x6 : Int) (_ : 5 ≤ a2) (_ : 0 ≤ y ∧ y ≤ 2000) (ρ : gb_S), fx_8_21 k a2 x4 y x6 (Jd δ ρ) = jop (Jd δ) (jhm δ (fx_8_21 k a2 x4 y x6) ρ) := fun k a2 x4 y x6 h h2 ρ => by
    have e := jn_8_21 k 1 δ H1 a2 x4 y x6 h h2 ρ
    rw [Int.one_mul] at e
    exact e
  have b5 := fun x => (jdi_c H x).1
  have b6 := fun x => (jdi_c H x).2
  have k3 := fun (x : Int) (ρ : gb_S) (x6 : Int) => jn_8_21 gFU c η H a2 0 (jdi δ x) x6 ha2 (b6 x) ρ
  have k4 := fun (x : Int) (ρ : gb_S) (x6 : Int) => k2 gFU a2 0 (jdi δ x) x6 ha2 (b6 x) ρ
  show _ = jop (Jd η) (fx_8 a2 a3 (Jd δ ρ))
  unfold fx_8
  simp (disch := omega) only [Jd_rd, j26, gc_q, gc_v', b5, k3, k4, jop_q, jop_j]
end JH
