/-! MAPS OF THE WORLD that a pure function goes along with -/
section JB
def jop (f : gb_S → gb_S) (X : Option gb_P) : Option gb_P := match X with
  | some (o, s) => some (o, f s)
  | none => none
def jgf (f : gb_S → gb_S) (m : Option gb_P) (k : Int → gb_S → Option gb_P) : Option gb_P := match m with
  | some (.inl x, s) => k x s
  | some (.inr e, s) => some (.inr e, f s)
  | none => none
variable {f : gb_S → gb_S}
theorem gc_jop (m : Option gb_P) (K : Int → gb_S → Option gb_P) : gc (jop f m) K = jgf f m (fun x s => K x (f s)) := by
  rcases m with _ | ⟨_ | _, _⟩ <;> rfl
theorem jop_gc (m : Option gb_P) (K : Int → gb_S → Option gb_P) : jop f (gc m K) = jgf f m (fun x s => jop f (K x s)) := by
  rcases m with _ | ⟨_ | _, _⟩ <;> rfl
theorem jop_q {p : Prop} [Decidable p] (X : Option gb_P) : jop f (gq p X) = gq p (jop f X) := by
  unfold gq
  split <;> rfl
theorem jop_i {p : Prop} [Decidable p] (X Y : Option gb_P) : jop f (if p then X else Y) = if p then jop f X else jop f Y := by
  split <;> rfl
theorem jop_s (o : Int ⊕ Nat) (s : gb_S) : jop f (some (o, s)) = some (o, f s) := rfl
theorem jop_n : jop f none = none := rfl
/-- the cells of an object are τ's, the others σ's -/
def Oc (τ σ : gb_S) : gb_S := fun a j => if a < 187 then τ a j else σ a j
theorem Oc_rd {τ σ : gb_S} {a j : Nat} (h : 187 ≤ a) : Oc τ σ a j = σ a j := if_neg (by omega)
theorem Oc_up {τ σ : gb_S} {a j : Nat} {x : Int} (h : 187 ≤ a) : gb_up (Oc τ σ) a j x = Oc τ (gb_up σ a j x) := by
  funext b i
  unfold gb_up Oc
  dsimp only
  by_cases h1 : b = a ∧ i = j
  · rw [if_pos h1, if_neg (by omega), if_pos h1]
  · rw [if_neg h1, if_neg h1]
theorem Oc_fi {τ σ : gb_S} {a : Nat} {x : Int} (h : 187 ≤ a) : gb_fi (Oc τ σ) a x = Oc τ (gb_fi σ a x) := by
  funext b i
  unfold gb_fi Oc
  dsimp only
  by_cases h1 : b = a
  · rw [if_pos h1, if_neg (by omega), if_pos h1]
  · rw [if_neg h1, if_neg h1]
theorem Oc_cp {τ σ : gb_S} {a b : Nat} (h : 187 ≤ a) (h2 : 187 ≤ b) : gb_cp (Oc τ σ) a b = Oc τ (gb_cp σ a b) := by
  funext c i
  unfold gb_cp Oc
  dsimp only
  by_cases h1 : c = b
  · rw [if_pos h1, if_neg (by omega), if_neg (by omega), if_pos h1]
  · rw [if_neg h1, if_neg h1]
theorem Oc_self (σ : gb_S) : Oc σ σ = σ := by
  funext a j
  unfold Oc
  split <;> rfl
/-- the days are η's, all else is σ's -/
def Jd (η σ : gb_S) : gb_S := fun a j => if a = 3 ∨ a = 4 ∨ (a = 1 ∧ j = 9) then η a j else σ a j
theorem Jd_rd {η σ : gb_S} {a j : Nat} (h : a = 2 ∨ 5 ≤ a) : Jd η σ a j = σ a j := if_neg (by omega)
theorem Jd_up {η σ : gb_S} {a j : Nat} {x : Int} (h : a = 2 ∨ 5 ≤ a) : gb_up (Jd η σ) a j x = Jd η (gb_up σ a j x) := by
  funext b i
  unfold gb_up Jd
  dsimp only
  by_cases h1 : b = a ∧ i = j
  · rw [if_pos h1, if_neg (by omega), if_pos h1]
  · rw [if_neg h1, if_neg h1]
theorem Jd_fi {η σ : gb_S} {a : Nat} {x : Int} (h : a = 2 ∨ 5 ≤ a) : gb_fi (Jd η σ) a x = Jd η (gb_fi σ a x) := by
  funext b i
  unfold gb_fi Jd
  dsimp only
  by_cases h1 : b = a
  · rw [if_pos h1, if_neg (by omega), if_pos h1]
  · rw [if_neg h1, if_neg h1]
theorem Jd_cp {η σ : gb_S} {a b : Nat} (h : a = 2 ∨ 5 ≤ a) (h2 : b = 2 ∨ 5 ≤ b) : gb_cp (Jd η σ) a b = Jd η (gb_cp σ a b) := by
  funext c i
  unfold gb_cp Jd
  dsimp only
  by_cases h1 : c = b
  · rw [if_pos h1, if_neg (by omega), if_neg (by omega), if_pos h1]
  · rw [if_neg h1, if_neg h1]
theorem Jd_J (η δ σ : gb_S) : Jd η (Jd δ σ) = Jd η σ := by
  funext a j
  unfold Jd
  split <;> rfl
theorem Jd_self (σ : gb_S) : Jd σ σ = σ := by
  funext a j
  unfold Jd
  split <;> rfl
theorem jop_gf {η δ : gb_S} (m : Option gb_P) (K : Int → gb_S → Option gb_P) : jop (Jd η) (jgf (Jd δ) m K) = jgf (Jd η) m (fun x s => jop (Jd η) (K x s)) := by
  rcases m with _ | ⟨_ | _, _⟩
  · rfl
  · rfl
  · show some (_, Jd η (Jd δ _)) = some (_, Jd η _)
    rw [Jd_J]
theorem jop_j {η δ : gb_S} (X : Option gb_P) : jop (Jd η) (jop (Jd δ) X) = jop (Jd η) X := by
  rcases X with _ | ⟨_, s⟩
  · rfl
  · show some (_, Jd η (Jd δ s)) = some (_, Jd η s)
    rw [Jd_J]
/-- what a function does where the days are δ's -/
def jhm (δ : gb_S) (F : gb_S → Option gb_P) (σ : gb_S) : Option gb_P := F (Jd δ σ)
/-- η's days are c times δ's -/
def DHd (c : Int) (δ η : gb_S) : Prop := (c = 1 ∨ c = 2) ∧ (∀ j, η 3 j = c * δ 3 j ∧ η 4 j = c * δ 4 j) ∧ ∀ j, (0 ≤ δ 3 j ∧ δ 3 j ≤ 2000) ∧ (0 ≤ δ 4 j ∧ δ 4 j ≤ 2000)
theorem DHd.one {c : Int} {δ η : gb_S} (h : DHd c δ η) : DHd 1 δ δ := ⟨Or.inl rfl, fun j => ⟨(Int.one_mul _).symm, (Int.one_mul _).symm⟩, h.2.2⟩
end JB
