section GRet
variable {δ own : Nat} {hnd : Nat → Nat → Option (Nat × Nat)} {K : List (Nat × Instr × Nat)} {c0 : gh_C} {pc : Nat} {lo : gh_L} {st : List Value} {σ : gb_S} {Q : gh_O → gb_S → Prop}
theorem gw_iret {x : Int} (hk : K.lookup pc = some (.ireturn, 1)) (h : Q (.inl (some (vi x))) σ) : gb_W δ own (some .int) hnd K c0 pc lo [vi x] σ Q :=
  gw_e hk (by show (if gh_isI (vi x) = true ∧ gh_nok (some .int) (vi x) = true then (some (.inr (.inl (.inl (some (vi x))))) : Option gh_R) else none) = _; rw [if_pos ⟨rfl, decide_eq_true rfl⟩]) h
theorem gw_zret {x : Int} (hk : K.lookup pc = some (.ireturn, 1)) (hx : x = 0 ∨ x = 1) (h : Q (.inl (some (vi x))) σ) : gb_W δ own (some .boolean) hnd K c0 pc lo [vi x] σ Q := by
  refine gw_e hk ?_ h
  rcases hx with rfl | rfl <;> rfl
theorem gw_lret {x : Int} (hk : K.lookup pc = some (.lreturn, 1)) (h : Q (.inl (some (vl x))) σ) : gb_W δ own (some .long) hnd K c0 pc lo [vl x] σ Q :=
  gw_e hk (by show (if gh_isJ (vl x) = true ∧ gh_nok (some .long) (vl x) = true then (some (.inr (.inl (.inl (some (vl x))))) : Option gh_R) else none) = _; rw [if_pos ⟨rfl, decide_eq_true rfl⟩]) h
end GRet
section GT1
variable {c0 : gh_C} {σ : gb_S}
theorem gd_25 {x : Int} (hx : gb_R x) : gb_B 1 c0 25 [vr 2, vi x] σ (fun o σ' => σ' = σ ∧ o = .inl (some (vi (if 0 ≤ x ∧ x < 14 then σ 3 x.toNat else 0)))) := by
  refine gw_m (own := 2) (rt := some .int) (hnd := fun _ _ => none) (K := gk_25) rfl (Nat.le_of_ble_eq_true rfl) ?_
  refine gw_s rfl rfl ?_
  refine gw_if0 rfl (by decide) hx (fun h => ?_) (fun h => ?_)
  · refine gw_s rfl rfl ?_
    refine gw_e rfl rfl ⟨rfl, ?_⟩
    rw [if_neg (fun q => by have h : x < 0 := h; omega)]
  · refine gw_s rfl rfl ?_
    refine gw_s rfl rfl ?_
    refine gw_if (y := 14) rfl (by decide) hx (by unfold gb_R; omega) (fun h2 => ?_) (fun h2 => ?_)
    · refine gw_s rfl rfl ?_
      refine gw_e rfl rfl ⟨rfl, ?_⟩
      rw [if_neg (fun q => by have h2 : 14 ≤ x := h2; omega)]
    · have h : ¬ x < 0 := h
      have h2 : ¬ 14 ≤ x := h2
      refine gw_s rfl rfl ?_
      refine gw_get rfl rfl rfl rfl ?_
      refine gw_s rfl rfl ?_
      refine gw_iaload (n := 14) rfl rfl (by decide) (by omega) (by omega) ?_
      refine gw_goto rfl (by decide) ?_
      refine gw_iret rfl ⟨rfl, ?_⟩
      rw [if_pos ⟨by omega, by omega⟩]
end GT1
