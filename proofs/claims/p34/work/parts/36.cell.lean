section GCe
variable {β : Nat}
variable {c0 : gx_C} {σ σ' : gb_S}
theorem gb_row_eqv {a : Nat} (h : ∀ j, σ' a j = σ a j) : ∀ (ts : List Nat) (i : Nat), gb_row β σ' a i ts = gb_row β σ a i ts := by
  intro ts
  induction ts with
  | nil => intro i; rfl
  | cons t ts ih =>
    intro i
    show gb_sl β σ' a i t :: gb_row β σ' a (i + 1) ts = gb_sl β σ a i t :: gb_row β σ a (i + 1) ts
    rw [ih]
    congr 1
    match t with
    | 0 => show Value.int (Int32.ofInt (σ' a i)) = .int (Int32.ofInt (σ a i)); rw [h]
    | 1 => show Value.long (Int64.ofInt (σ' a i)) = .long (Int64.ofInt (σ a i)); rw [h]
    | t + 2 => rfl
theorem gb_tab_eqv : ∀ (cs : List (Nat × List Nat)) (i : Nat), (∀ a j, i ≤ a → σ' a j = σ a j) → gb_tab β σ' i cs = gb_tab β σ i cs := by
  intro cs
  induction cs with
  | nil => intro i _; rfl
  | cons c cs ih =>
    intro i h
    show (c.1, gb_row β σ' i 0 c.2) :: gb_tab β σ' (i + 1) cs = (c.1, gb_row β σ i 0 c.2) :: gb_tab β σ (i + 1) cs
    rw [ih (i + 1) (fun a j hh => h a j (by omega)), gb_row_eqv (fun j => h i j (Nat.le_refl i))]
/-- one whole cell changed -/
theorem gb_tab_cell {kd : Nat} {ts : List Nat} : ∀ (cs : List (Nat × List Nat)) (i k : Nat), cs[k]? = some (kd, ts) → (∀ a j, a ≠ i + k → σ' a j = σ a j) →
    gb_tab β σ' i cs = (gb_tab β σ i cs).set k (kd, gb_row β σ' (i + k) 0 ts) := by
  intro cs
  induction cs with
  | nil => intro i k h; cases h
  | cons c cs ih =>
    intro i k h hs
    cases k with
    | zero =>
      cases h
      show (kd, gb_row β σ' i 0 ts) :: gb_tab β σ' (i + 1) cs = (kd, gb_row β σ' (i + 0) 0 ts) :: gb_tab β σ (i + 1) cs
      rw [gb_tab_eqv cs (i + 1) (fun a j hh => hs a j (by omega))]
      rfl
    | succ k =>
      show (c.1, gb_row β σ' i 0 c.2) :: gb_tab β σ' (i + 1) cs = (c.1, gb_row β σ i 0 c.2) :: (gb_tab β σ (i + 1) cs).set k _
      rw [ih (i + 1) k h (fun a j hh => hs a j (by omega)), gb_row_eqv (fun j => hs i j (by omega)), show i + 1 + k = i + (k + 1) by omega]
theorem gb_cell {a kd : Nat} {ts : List Nat} (h : gb_sh[a]? = some (kd, ts)) (hs : ∀ a' j, a' ≠ a + 1 → σ' a' j = σ a' j) : (gb_H c0 σ).set (a + 1 + gx_b c0) (kd, gb_row (gx_b c0) σ' (a + 1) 0 ts) = gb_H c0 σ' := by
  refine (gx_set c0.1 _ c0.2.1 _ c0.2.2 a (gb_lt_sh h c0 σ)).trans ?_
  have e := gb_tab_cell (β := gx_b c0) (σ := σ) (σ' := σ') gb_sh 1 a h (fun a' j hh => hs a' j (by omega))
  rw [Nat.add_comm 1 a] at e
  exact congrArg (fun T => c0.1 :: (c0.2.1 ++ (T ++ c0.2.2))) e.symm
def gb_fi (σ : gb_S) (a : Nat) (x : Int) : gb_S := fun a' j => if a' = a then x else σ a' j
theorem gb_row_fi {a : Nat} {x : Int} (t : Nat) (v : Value) (hv : ∀ j, gb_sl (gx_b c0) (gb_fi σ a x) a j t = v) : ∀ (n i : Nat), gb_row (gx_b c0) (gb_fi σ a x) a i (List.replicate n t) = List.replicate n v := by
  intro n
  induction n with
  | zero => intro i; rfl
  | succ n ih =>
    intro i
    show gb_sl (gx_b c0) (gb_fi σ a x) a i t :: gb_row (gx_b c0) (gb_fi σ a x) a (i + 1) (List.replicate n t) = v :: List.replicate n v
    rw [ih, hv]
/-- Arrays.fill over ints, over longs -/
theorem gd_125 {a n : Nat} {x : Int} (ha : gb_sh[a]? = some (20, List.replicate n 0)) (hn : n ≤ 1000) : gb_B 1 c0 125 [vr c0 (a + 1), vi x] σ (fun o σ' => σ' = gb_fi σ (a + 1) x ∧ o = .inl none) := by
  refine ⟨9020, .inl none, gb_fi σ (a + 1) x, fun N d h1 h2 => ?_, rfl, rfl⟩
  obtain ⟨d, rfl⟩ : ∃ q, d = q + 1 := ⟨d - 1, by omega⟩
  have hl : (gb_row (gx_b c0) σ (a + 1) 0 (List.replicate n 0)).length = n := by rw [gb_row_len, List.length_replicate]
  have h := gb_clI (fz := true) (N := N) (d := d) (v := Int32.ofInt x) (gx_ne c0 a) (by rw [hl]; exact hn) (gb_get (c0 := c0) (σ := σ) ha) h1
  have e := gb_cell (c0 := c0) (σ := σ) (σ' := gb_fi σ (a + 1) x) ha (fun a' j hh => if_neg hh)
  rw [gb_row_fi 0 (vi x) (fun j => by show Value.int (Int32.ofInt (gb_fi σ (a + 1) x (a + 1) j)) = _; rw [gb_fi, if_pos rfl])] at e
  rw [hl, e] at h
  exact h
theorem gd_126 {a n : Nat} {x : Int} (ha : gb_sh[a]? = some (21, List.replicate n 1)) (hn : n ≤ 1000) : gb_B 1 c0 126 [vr c0 (a + 1), vl x] σ (fun o σ' => σ' = gb_fi σ (a + 1) x ∧ o = .inl none) := by
  refine ⟨9020, .inl none, gb_fi σ (a + 1) x, fun N d h1 h2 => ?_, rfl, rfl⟩
  obtain ⟨d, rfl⟩ : ∃ q, d = q + 1 := ⟨d - 1, by omega⟩
  have hl : (gb_row (gx_b c0) σ (a + 1) 0 (List.replicate n 1)).length = n := by rw [gb_row_len, List.length_replicate]
  have h := gb_clJ (fz := true) (N := N) (d := d) (v := Int64.ofInt x) (gx_ne c0 a) (by rw [hl]; exact hn) (gb_get (c0 := c0) (σ := σ) ha) h1
  have e := gb_cell (c0 := c0) (σ := σ) (σ' := gb_fi σ (a + 1) x) ha (fun a' j hh => if_neg hh)
  rw [gb_row_fi 1 (vl x) (fun j => by show Value.long (Int64.ofInt (gb_fi σ (a + 1) x (a + 1) j)) = _; rw [gb_fi, if_pos rfl])] at e
  rw [hl, e] at h
  exact h
end GCe
