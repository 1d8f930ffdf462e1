section GWp
abbrev gb_S : Type := Nat → Nat → Int
abbrev vi (x : Int) : Value := .int (Int32.ofInt x)
abbrev vl (x : Int) : Value := .long (Int64.ofInt x)
abbrev vr (c0 : gx_C) (a : Nat) : Value := .ref (a + gx_b c0)
def gb_R (x : Int) : Prop := -2147483648 ≤ x ∧ x ≤ 2147483647
/-- a body from pc on comes, in the frozen world, to an outcome of which Q holds; δ calls deep suffice -/
def gb_W (δ own : Nat) (rt : Option FieldType) (hnd : Nat → Nat → Option (Nat × Nat)) (K : List (Nat × Instr × Nat)) (c0 : gx_C) (pc : Nat) (lo : gh_L) (st : List Value) (σ : gb_S) (Q : gh_O → gb_S → Prop) : Prop :=
  ∃ (n : Nat) (o : gh_O) (σ' : gb_S), (∀ N d k : Nat, n ≤ N → δ ≤ d → n ≤ k → gh_ex true (gh_cl true N d) own rt hnd K k pc lo st (gb_H c0 σ) = some (o, gb_H c0 σ')) ∧ Q o σ'
/-- a call of μ -/
def gb_B (δ : Nat) (c0 : gx_C) (μ : Nat) (as : List Value) (σ : gb_S) (Q : gh_O → gb_S → Prop) : Prop :=
  ∃ (n : Nat) (o : gh_O) (σ' : gb_S), (∀ N d : Nat, n ≤ N → δ ≤ d → gh_cl true N d μ as (gb_H c0 σ) = some (o, gb_H c0 σ')) ∧ Q o σ'
variable {δ own : Nat} {rt : Option FieldType} {hnd : Nat → Nat → Option (Nat × Nat)} {K : List (Nat × Instr × Nat)} {c0 : gx_C} {pc : Nat} {lo : gh_L} {st : List Value} {σ : gb_S} {Q : gh_O → gb_S → Prop}
theorem gb_B_mono {δ' μ : Nat} {as : List Value} (h : δ ≤ δ') (hb : gb_B δ c0 μ as σ Q) : gb_B δ' c0 μ as σ Q := by
  obtain ⟨n, o, σ', h1, h2⟩ := hb
  exact ⟨n, o, σ', fun N d a b => h1 N d a (Nat.le_trans h b), h2⟩
theorem gb_W_of {Q' : gh_O → gb_S → Prop} (h : gb_W δ own rt hnd K c0 pc lo st σ Q) (hq : ∀ o σ', Q o σ' → Q' o σ') : gb_W δ own rt hnd K c0 pc lo st σ Q' := by
  obtain ⟨n, o, σ', h1, h2⟩ := h
  exact ⟨n, o, σ', h1, hq _ _ h2⟩
theorem gb_B_of {μ : Nat} {as : List Value} {Q' : gh_O → gb_S → Prop} (h : gb_B δ c0 μ as σ Q) (hq : ∀ o σ', Q o σ' → Q' o σ') : gb_B δ c0 μ as σ Q' := by
  obtain ⟨n, o, σ', h1, h2⟩ := h
  exact ⟨n, o, σ', h1, hq _ _ h2⟩
/-- one instruction -/
theorem gw_s {i : Instr} {len pc' : Nat} {lo' : gh_L} {st' : List Value} {σ' : gb_S} (hk : K.lookup pc = some (i, len)) (hs : gh_step true own rt pc i len lo st (gb_H c0 σ) = some (.inl (pc', lo', st', gb_H c0 σ')))
    (h : gb_W δ own rt hnd K c0 pc' lo' st' σ' Q) : gb_W δ own rt hnd K c0 pc lo st σ Q := by
  obtain ⟨n, o, σ9, h1, h2⟩ := h
  refine ⟨n + 1, o, σ9, fun N d k a b c => ?_, h2⟩
  obtain ⟨k, rfl⟩ : ∃ q, k = q + 1 := ⟨k - 1, by omega⟩
  exact (gb_exS hk hs).trans (h1 N d k (by omega) b (by omega))
/-- the end of a body -/
theorem gw_e {i : Instr} {len : Nat} {o : gh_O} (hk : K.lookup pc = some (i, len)) (hs : gh_step true own rt pc i len lo st (gb_H c0 σ) = some (.inr (.inl o))) (h : Q o σ) : gb_W δ own rt hnd K c0 pc lo st σ Q := by
  refine ⟨1, o, σ, fun N d k a b c => ?_, h⟩
  obtain ⟨k, rfl⟩ : ∃ q, k = q + 1 := ⟨k - 1, by omega⟩
  rw [gh_ex, hk]
  simp only [hs]
/-- a call; what it throws goes where the method's handlers say -/
theorem gw_c {i : Instr} {len μ : Nat} {as r : List Value} (hk : K.lookup pc = some (i, len)) (hs : gh_step true own rt pc i len lo st (gb_H c0 σ) = some (.inr (.inr (μ, as, r))))
    (h : gb_B δ c0 μ as σ (fun o σ' => match o with
      | .inl v => gb_W δ own rt hnd K c0 (pc + 3) lo (v.toList ++ r) σ' Q
      | .inr E => match hnd pc E with
        | none => Q (.inr E) σ'
        | some (pc', k) => gb_W δ own rt hnd K c0 pc' (lo.filter (fun q => !(q.1 == k) && !(q.1 + 1 == k && q.2.category == 2))) [] σ' Q)) : gb_W δ own rt hnd K c0 pc lo st σ Q := by
  obtain ⟨n, o, σ1, h1, h2⟩ := h
  cases o with
  | inl v =>
    obtain ⟨n2, o2, σ2, h3, h4⟩ := h2
    refine ⟨n + n2 + 1, o2, σ2, fun N d k a b c => ?_, h4⟩
    obtain ⟨k, rfl⟩ : ∃ q, k = q + 1 := ⟨k - 1, by omega⟩
    rw [gh_ex, hk]
    simp only [hs, h1 N d (by omega) b]
    exact h3 N d k (by omega) b (by omega)
  | inr E =>
    cases hh : hnd pc E with
    | none =>
      simp only [hh] at h2
      refine ⟨n + 1, .inr E, σ1, fun N d k a b c => ?_, h2⟩
      obtain ⟨k, rfl⟩ : ∃ q, k = q + 1 := ⟨k - 1, by omega⟩
      rw [gh_ex, hk]
      simp only [hs, h1 N d (by omega) b, hh]
    | some w =>
      obtain ⟨pc', k'⟩ := w
      simp only [hh] at h2
      obtain ⟨n2, o2, σ2, h3, h4⟩ := h2
      refine ⟨n + n2 + 1, o2, σ2, fun N d k a b c => ?_, h4⟩
      obtain ⟨k, rfl⟩ : ∃ q, k = q + 1 := ⟨k - 1, by omega⟩
      rw [gh_ex, hk]
      simp only [hs, h1 N d (by omega) b, hh]
      exact h3 N d k (by omega) b (by omega)
/-- a method's body is what its call does -/
theorem gw_m {μ : Nat} {as : List Value} (hm : gh_mt[μ]? = some (own, rt, hnd, K)) (hc : gh_cat as ≤ gh_ml.getD μ 0) (h : gb_W δ own rt hnd K c0 0 (lv_args 0 as) [] σ Q) : gb_B (δ + 1) c0 μ as σ Q := by
  obtain ⟨n, o, σ', h1, h2⟩ := h
  refine ⟨n, o, σ', fun N d a b => ?_, h2⟩
  obtain ⟨d, rfl⟩ : ∃ q, d = q + 1 := ⟨d - 1, by omega⟩
  rw [gh_cl, hm]
  simp only [if_pos hc]
  exact h1 N d N a (by omega) a
theorem gw_add {x y : Int} (hk : K.lookup pc = some (.iadd, 1)) (h : gb_W δ own rt hnd K c0 (pc + 1) lo (vi (x + y) :: st) σ Q) : gb_W δ own rt hnd K c0 pc lo (vi y :: vi x :: st) σ Q :=
  gw_s hk (by show gh_go (pc + 1) lo (.int (Int32.ofInt x + Int32.ofInt y) :: st) _ = _; rw [← Int32.ofInt_add]; rfl) h
theorem gw_sub {x y : Int} (hk : K.lookup pc = some (.isub, 1)) (h : gb_W δ own rt hnd K c0 (pc + 1) lo (vi (x - y) :: st) σ Q) : gb_W δ own rt hnd K c0 pc lo (vi y :: vi x :: st) σ Q :=
  gw_s hk (by show gh_go (pc + 1) lo (.int (Int32.ofInt x - Int32.ofInt y) :: st) _ = _; rw [← Int32.ofInt_sub]; rfl) h
theorem gw_mul {x y : Int} (hk : K.lookup pc = some (.imul, 1)) (h : gb_W δ own rt hnd K c0 (pc + 1) lo (vi (x * y) :: st) σ Q) : gb_W δ own rt hnd K c0 pc lo (vi y :: vi x :: st) σ Q :=
  gw_s hk (by show gh_go (pc + 1) lo (.int (Int32.ofInt x * Int32.ofInt y) :: st) _ = _; rw [← Int32.ofInt_mul]; rfl) h
end GWp
