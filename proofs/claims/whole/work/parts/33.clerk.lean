section GCk
variable {c0 : gh_C} {σ : gb_S}
/-- pass -/
theorem gd_79 {x : Int} (hx : gb_R x) (ht : 0 ≤ σ 1 9 ∧ σ 1 9 ≤ 2000) : gb_B 1 c0 79 [vr 1, vi x] σ (fun o σ' => if x < 1 ∨ 100 < x then σ' = σ ∧ o = .inr 1 else if 2000 < σ 1 9 + x then σ' = σ ∧ o = .inr 2 else σ' = gb_up σ 1 9 (σ 1 9 + x) ∧ o = .inl (some (vi (σ 1 9 + x)))) := by
  refine gw_m (own := 7) (rt := some .int) (hnd := fun _ _ => none) (K := gk_79) rfl (Nat.le_of_ble_eq_true rfl) ?_
  refine gw_s rfl rfl ?_
  refine gw_s rfl rfl ?_
  have T : (1 ≤ x → 100 < x) → gb_W 0 7 (some .int) (fun _ _ => none) gk_79 c0 11 (lv_args 0 [vr 1, vi x]) [] σ (fun o σ' => if x < 1 ∨ 100 < x then σ' = σ ∧ o = .inr 1 else if 2000 < σ 1 9 + x then σ' = σ ∧ o = .inr 2 else σ' = gb_up σ 1 9 (σ 1 9 + x) ∧ o = .inl (some (vi (σ 1 9 + x)))) := by
    intro h
    refine gw_e (o := .inr 1) rfl rfl ?_
    rw [if_pos (by omega)]
    exact ⟨rfl, rfl⟩
  refine gw_if (y := 1) rfl (by decide) hx (by unfold gb_R; omega) (fun h1 => ?_) (fun h1 => ?_)
  · have h1 : x < 1 := h1
    exact T (by omega)
  · have h1 : ¬ x < 1 := h1
    refine gw_s rfl rfl ?_
    refine gw_s rfl rfl ?_
    refine gw_if (y := 100) rfl (by decide) hx (by unfold gb_R; omega) (fun h2 => ?_) (fun h2 => ?_)
    · have h2 : x ≤ 100 := h2
      refine gw_s rfl rfl ?_
      refine gw_get rfl rfl rfl rfl ?_
      refine gw_s rfl rfl ?_
      refine gw_add (x := σ 1 9) rfl ?_
      refine gw_s rfl rfl ?_
      refine gw_if (y := 2000) rfl (by decide) (by unfold gb_R; omega) (by unfold gb_R; omega) (fun h3 => ?_) (fun h3 => ?_)
      · have h3 : σ 1 9 + x ≤ 2000 := h3
        refine gw_s rfl rfl ?_
        refine gw_s rfl rfl ?_
        refine gw_get rfl rfl rfl rfl ?_
        refine gw_s rfl rfl ?_
        refine gw_add (x := σ 1 9) rfl ?_
        refine gw_put rfl rfl rfl rfl ⟨rfl, rfl⟩ ?_
        refine gw_s rfl rfl ?_
        refine gw_get rfl rfl rfl rfl ?_
        refine gw_iret (x := gb_up σ 1 9 (σ 1 9 + x) 1 9) rfl ?_
        rw [if_neg (by omega), if_neg (by omega)]
        refine ⟨rfl, ?_⟩
        rw [gb_up, if_pos ⟨rfl, rfl⟩]
      · have h3 : ¬ σ 1 9 + x ≤ 2000 := h3
        refine gw_e (o := .inr 2) rfl rfl ?_
        rw [if_neg (by omega), if_pos (by omega)]
        exact ⟨rfl, rfl⟩
    · have h2 : ¬ x ≤ 100 := h2
      exact T (by omega)
end GCk
section GCk2
variable {c0 : gh_C} {σ : gb_S}
/-- today -/
theorem gd_80 : gb_B 1 c0 80 [vr 1] σ (fun o σ' => σ' = σ ∧ o = .inl (some (vi (σ 1 9)))) := by
  refine gw_m (own := 7) (rt := some .int) (hnd := fun _ _ => none) (K := gk_80) rfl (Nat.le_of_ble_eq_true rfl) ?_
  refine gw_s rfl rfl ?_
  refine gw_get rfl rfl rfl rfl ?_
  exact gw_iret (x := σ 1 9) rfl ⟨rfl, rfl⟩
/-- Kin.childSet, of either kin -/
theorem gd_32 {x : Int} (hx : gb_R x) (a : Nat) (ha : a = 15 ∨ a = 20) : gb_B 1 c0 32 [vr a, vi x] σ (fun o σ' => σ' = σ ∧ o = .inl (some (vi (if 0 ≤ x ∧ x < 14 then σ (a + 3) x.toNat else 0)))) := by
  refine gw_m (own := 3) (rt := some .int) (hnd := fun _ _ => none) (K := gk_32) rfl (Nat.le_of_ble_eq_true rfl) ?_
  refine gw_s rfl rfl ?_
  refine gw_if0 rfl (by decide) hx (fun h => ?_) (fun h => ?_)
  · refine gw_s rfl rfl ?_
    refine gw_e rfl rfl ⟨rfl, ?_⟩
    rw [if_neg (fun q => by have h : x < 0 := h; omega)]
  · refine gw_s rfl rfl ?_
    refine gw_s rfl rfl ?_
    refine gw_if (y := 14) rfl (by decide) hx (by unfold gb_R; omega) (fun h2 => ?_) (fun h2 => ?_)
    · refine gw_s rfl rfl ?_
      refine gw_e rfl rfl ⟨rfl, ?_⟩
      rw [if_neg (fun q => by have h2 : 14 ≤ x := h2; omega)]
    · have h : ¬ x < 0 := h
      have h2 : ¬ 14 ≤ x := h2
      refine gw_s rfl rfl ?_
      rcases ha with rfl | rfl
      · refine gw_get rfl rfl rfl rfl ?_
        refine gw_s rfl rfl ?_
        refine gw_iaload (n := 14) rfl rfl (by decide) (by omega) (by omega) ?_
        refine gw_goto rfl (by decide) ?_
        refine gw_iret rfl ⟨rfl, ?_⟩
        rw [if_pos ⟨by omega, by omega⟩]
      · refine gw_get rfl rfl rfl rfl ?_
        refine gw_s rfl rfl ?_
        refine gw_iaload (n := 14) rfl rfl (by decide) (by omega) (by omega) ?_
        refine gw_goto rfl (by decide) ?_
        refine gw_iret rfl ⟨rfl, ?_⟩
        rw [if_pos ⟨by omega, by omega⟩]
end GCk2
