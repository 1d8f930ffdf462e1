section GRet
variable {δ own : Nat} {hnd : Nat → Nat → Option (Nat × Nat)} {K : List (Nat × Instr × Nat)} {c0 : gx_C} {pc : Nat} {lo : gh_L} {st : List Value} {σ : gb_S} {Q : gh_O → gb_S → Prop}
theorem gw_iret {x : Int} (hk : K.lookup pc = some (.ireturn, 1)) (h : Q (.inl (some (vi x))) σ) : gb_W δ own (some .int) hnd K c0 pc lo [vi x] σ Q :=
  gw_e hk (by show (if gh_isI (vi x) = true ∧ gh_nok (some .int) (vi x) = true then (some (.inr (.inl (.inl (some (vi x))))) : Option gh_R) else none) = _; rw [if_pos ⟨rfl, decide_eq_true rfl⟩]) h
theorem gw_zret {x : Int} (hk : K.lookup pc = some (.ireturn, 1)) (hx : x = 0 ∨ x = 1) (h : Q (.inl (some (vi x))) σ) : gb_W δ own (some .boolean) hnd K c0 pc lo [vi x] σ Q := by
  refine gw_e hk ?_ h
  rcases hx with rfl | rfl <;> rfl
theorem gw_lret {x : Int} (hk : K.lookup pc = some (.lreturn, 1)) (h : Q (.inl (some (vl x))) σ) : gb_W δ own (some .long) hnd K c0 pc lo [vl x] σ Q :=
  gw_e hk (by show (if gh_isJ (vl x) = true ∧ gh_nok (some .long) (vl x) = true then (some (.inr (.inl (.inl (some (vl x))))) : Option gh_R) else none) = _; rw [if_pos ⟨rfl, decide_eq_true rfl⟩]) h
end GRet
