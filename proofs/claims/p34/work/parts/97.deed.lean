section DD1
variable {σ σ' : gb_S} {c n nb nd : Nat} {P : pT} {ps : Nat → Nat} {De De' : Nat → dT} {Cf : Nat → List Nat}
/-- a deed entered -/
def en48 (σ : gb_S) (nd : Nat) (x1 x2 x3 x4 : Int) : gb_S := gb_up (gb_up (gb_up (gb_up (gb_up σ 31 nd x1) 32 nd x2) 33 nd x3) 34 nd x4) 30 5 ((nd : Int) + 1)
theorem c48 {x1 x2 x3 x4 : Int} (h : σ 30 5 = (nd : Int)) (hn : nd < 134) : fx_48 x1 x2 x3 x4 σ = some (.inl (nd : Int), en48 σ nd x1 x2 x3 x4) := by
  unfold fx_48 en48
  rw [h, gq_R (by omega) (by omega), if_pos (by omega), gq_ix (by omega) (by omega), Int.toNat_natCast, up_ne _ _ _ _ (by omega : (30 : Nat) ≠ 31), h, gq_ix (by omega) (by omega), Int.toNat_natCast, up_ne _ _ _ _ (by omega : (30 : Nat) ≠ 32), up_ne _ _ _ _ (by omega : (30 : Nat) ≠ 31), h, gq_ix (by omega) (by omega), Int.toNat_natCast, up_ne _ _ _ _ (by omega : (30 : Nat) ≠ 33), up_ne _ _ _ _ (by omega : (30 : Nat) ≠ 32), up_ne _ _ _ _ (by omega : (30 : Nat) ≠ 31), h, gq_ix (by omega) (by omega), Int.toNat_natCast, up_ne _ _ _ _ (by omega : (30 : Nat) ≠ 34), up_ne _ _ _ _ (by omega : (30 : Nat) ≠ 33), up_ne _ _ _ _ (by omega : (30 : Nat) ≠ 32), up_ne _ _ _ _ (by omega : (30 : Nat) ≠ 31), h, up_eq, Int.add_sub_cancel]
def en180 (σ : gb_S) (nd : Nat) (x1 x2 x3 x4 x5 : Int) : gb_S := gb_up (gb_up (gb_up (gb_up (gb_up (gb_up σ 204 nd x1) 205 nd x2) 206 nd x3) 207 nd x4) 208 nd x5) 187 25 ((nd : Int) + 1)
theorem r180 {x1 x2 x3 x4 x5 : Int} (h : σ 187 25 = (nd : Int)) (hn : nd < 134) : fx_180 x1 x2 x3 x4 x5 σ = some (.inl 0, en180 σ nd x1 x2 x3 x4 x5) := by
  unfold fx_180 en180
  rw [h, gq_ix (by omega) (by omega), Int.toNat_natCast, up_ne _ _ _ _ (by omega : (187 : Nat) ≠ 204), h, gq_ix (by omega) (by omega), Int.toNat_natCast, up_ne _ _ _ _ (by omega : (187 : Nat) ≠ 205), up_ne _ _ _ _ (by omega : (187 : Nat) ≠ 204), h, gq_ix (by omega) (by omega), Int.toNat_natCast, up_ne _ _ _ _ (by omega : (187 : Nat) ≠ 206), up_ne _ _ _ _ (by omega : (187 : Nat) ≠ 205), up_ne _ _ _ _ (by omega : (187 : Nat) ≠ 204), h, gq_ix (by omega) (by omega), Int.toNat_natCast, up_ne _ _ _ _ (by omega : (187 : Nat) ≠ 207), up_ne _ _ _ _ (by omega : (187 : Nat) ≠ 206), up_ne _ _ _ _ (by omega : (187 : Nat) ≠ 205), up_ne _ _ _ _ (by omega : (187 : Nat) ≠ 204), h, gq_ix (by omega) (by omega), Int.toNat_natCast, up_ne _ _ _ _ (by omega : (187 : Nat) ≠ 208), up_ne _ _ _ _ (by omega : (187 : Nat) ≠ 207), up_ne _ _ _ _ (by omega : (187 : Nat) ≠ 206), up_ne _ _ _ _ (by omega : (187 : Nat) ≠ 205), up_ne _ _ _ _ (by omega : (187 : Nat) ≠ 204), h]
theorem en48_o (σ : gb_S) (x1 x2 x3 x4 : Int) {c : Nat} (h : c < 30 ∨ 34 < c) : en48 σ nd x1 x2 x3 x4 c = σ c := by
  unfold en48
  rw [up_ne _ _ _ _ (by omega), up_ne _ _ _ _ (by omega), up_ne _ _ _ _ (by omega), up_ne _ _ _ _ (by omega), up_ne _ _ _ _ (by omega)]
theorem en180_o (σ : gb_S) (x1 x2 x3 x4 x5 : Int) {c : Nat} (h : c < 204 ∨ 208 < c) (h2 : c ≠ 187) : en180 σ nd x1 x2 x3 x4 x5 c = σ c := by
  unfold en180
  rw [up_ne _ _ _ _ (by omega), up_ne _ _ _ _ (by omega), up_ne _ _ _ _ (by omega), up_ne _ _ _ _ (by omega), up_ne _ _ _ _ (by omega), up_ne _ _ _ _ (by omega)]
theorem en180_j (σ : gb_S) (x1 x2 x3 x4 x5 : Int) {j : Nat} (h : j ≠ 25) : en180 σ nd x1 x2 x3 x4 x5 187 j = σ 187 j := by
  unfold en180
  rw [up_nj _ _ _ _ h, up_ne _ _ _ _ (by omega), up_ne _ _ _ _ (by omega), up_ne _ _ _ _ (by omega), up_ne _ _ _ _ (by omega), up_ne _ _ _ _ (by omega)]
def snD (De : Nat → dT) (nd : Nat) (e : dT) : Nat → dT := fun k => if k = nd then e else De k
theorem snD_eq {e : dT} : snD De nd e nd = e := if_pos rfl
theorem snD_ne {e : dT} {k : Nat} (h : k ≠ nd) : snD De nd e k = De k := if_neg h
theorem en48_1 (σ : gb_S) (x1 x2 x3 x4 : Int) (k : Nat) : en48 σ nd x1 x2 x3 x4 31 k = if k = nd then x1 else σ 31 k := by
  unfold en48
  rw [up_ne _ _ _ _ (by omega : (31 : Nat) ≠ 30), up_ne _ _ _ _ (by omega : (31 : Nat) ≠ 34), up_ne _ _ _ _ (by omega : (31 : Nat) ≠ 33), up_ne _ _ _ _ (by omega : (31 : Nat) ≠ 32)]
  by_cases h : k = nd
  · rw [h, up_eq, if_pos rfl]
  · rw [up_nj _ _ _ _ h, if_neg h]
theorem en48_2 (σ : gb_S) (x1 x2 x3 x4 : Int) (k : Nat) : en48 σ nd x1 x2 x3 x4 32 k = if k = nd then x2 else σ 32 k := by
  unfold en48
  rw [up_ne _ _ _ _ (by omega : (32 : Nat) ≠ 30), up_ne _ _ _ _ (by omega : (32 : Nat) ≠ 34), up_ne _ _ _ _ (by omega : (32 : Nat) ≠ 33)]
  by_cases h : k = nd
  · rw [h, up_eq, if_pos rfl]
  · rw [up_nj _ _ _ _ h, up_ne _ _ _ _ (by omega : (32 : Nat) ≠ 31), if_neg h]
theorem en48_3 (σ : gb_S) (x1 x2 x3 x4 : Int) (k : Nat) : en48 σ nd x1 x2 x3 x4 33 k = if k = nd then x3 else σ 33 k := by
  unfold en48
  rw [up_ne _ _ _ _ (by omega : (33 : Nat) ≠ 30), up_ne _ _ _ _ (by omega : (33 : Nat) ≠ 34)]
  by_cases h : k = nd
  · rw [h, up_eq, if_pos rfl]
  · rw [up_nj _ _ _ _ h, up_ne _ _ _ _ (by omega : (33 : Nat) ≠ 32), up_ne _ _ _ _ (by omega : (33 : Nat) ≠ 31), if_neg h]
theorem en48_4 (σ : gb_S) (x1 x2 x3 x4 : Int) (k : Nat) : en48 σ nd x1 x2 x3 x4 34 k = if k = nd then x4 else σ 34 k := by
  unfold en48
  rw [up_ne _ _ _ _ (by omega : (34 : Nat) ≠ 30)]
  by_cases h : k = nd
  · rw [h, up_eq, if_pos rfl]
  · rw [up_nj _ _ _ _ h, up_ne _ _ _ _ (by omega : (34 : Nat) ≠ 33), up_ne _ _ _ _ (by omega : (34 : Nat) ≠ 32), up_ne _ _ _ _ (by omega : (34 : Nat) ≠ 31), if_neg h]
theorem en180_1 (σ : gb_S) (x1 x2 x3 x4 x5 : Int) (k : Nat) : en180 σ nd x1 x2 x3 x4 x5 204 k = if k = nd then x1 else σ 204 k := by
  unfold en180
  rw [up_ne _ _ _ _ (by omega : (204 : Nat) ≠ 187), up_ne _ _ _ _ (by omega : (204 : Nat) ≠ 208), up_ne _ _ _ _ (by omega : (204 : Nat) ≠ 207), up_ne _ _ _ _ (by omega : (204 : Nat) ≠ 206), up_ne _ _ _ _ (by omega : (204 : Nat) ≠ 205)]
  by_cases h : k = nd
  · rw [h, up_eq, if_pos rfl]
  · rw [up_nj _ _ _ _ h, if_neg h]
theorem en180_2 (σ : gb_S) (x1 x2 x3 x4 x5 : Int) (k : Nat) : en180 σ nd x1 x2 x3 x4 x5 205 k = if k = nd then x2 else σ 205 k := by
  unfold en180
  rw [up_ne _ _ _ _ (by omega : (205 : Nat) ≠ 187), up_ne _ _ _ _ (by omega : (205 : Nat) ≠ 208), up_ne _ _ _ _ (by omega : (205 : Nat) ≠ 207), up_ne _ _ _ _ (by omega : (205 : Nat) ≠ 206)]
  by_cases h : k = nd
  · rw [h, up_eq, if_pos rfl]
  · rw [up_nj _ _ _ _ h, up_ne _ _ _ _ (by omega : (205 : Nat) ≠ 204), if_neg h]
theorem en180_3 (σ : gb_S) (x1 x2 x3 x4 x5 : Int) (k : Nat) : en180 σ nd x1 x2 x3 x4 x5 206 k = if k = nd then x3 else σ 206 k := by
  unfold en180
  rw [up_ne _ _ _ _ (by omega : (206 : Nat) ≠ 187), up_ne _ _ _ _ (by omega : (206 : Nat) ≠ 208), up_ne _ _ _ _ (by omega : (206 : Nat) ≠ 207)]
  by_cases h : k = nd
  · rw [h, up_eq, if_pos rfl]
  · rw [up_nj _ _ _ _ h, up_ne _ _ _ _ (by omega : (206 : Nat) ≠ 205), up_ne _ _ _ _ (by omega : (206 : Nat) ≠ 204), if_neg h]
theorem en180_4 (σ : gb_S) (x1 x2 x3 x4 x5 : Int) (k : Nat) : en180 σ nd x1 x2 x3 x4 x5 207 k = if k = nd then x4 else σ 207 k := by
  unfold en180
  rw [up_ne _ _ _ _ (by omega : (207 : Nat) ≠ 187), up_ne _ _ _ _ (by omega : (207 : Nat) ≠ 208)]
  by_cases h : k = nd
  · rw [h, up_eq, if_pos rfl]
  · rw [up_nj _ _ _ _ h, up_ne _ _ _ _ (by omega : (207 : Nat) ≠ 206), up_ne _ _ _ _ (by omega : (207 : Nat) ≠ 205), up_ne _ _ _ _ (by omega : (207 : Nat) ≠ 204), if_neg h]
theorem en180_5 (σ : gb_S) (x1 x2 x3 x4 x5 : Int) (k : Nat) : en180 σ nd x1 x2 x3 x4 x5 208 k = if k = nd then x5 else σ 208 k := by
  unfold en180
  rw [up_ne _ _ _ _ (by omega : (208 : Nat) ≠ 187)]
  by_cases h : k = nd
  · rw [h, up_eq, if_pos rfl]
  · rw [up_nj _ _ _ _ h, up_ne _ _ _ _ (by omega : (208 : Nat) ≠ 207), up_ne _ _ _ _ (by omega : (208 : Nat) ≠ 206), up_ne _ _ _ _ (by omega : (208 : Nat) ≠ 205), up_ne _ _ _ _ (by omega : (208 : Nat) ≠ 204), if_neg h]
/-- the class's deeds with one more -/
theorem DC_sn {e : dT} {x1 x2 x3 x4 : Int} (hd : DC σ nd De) (h35 : σ 35 nd = (if e.1 = 2 then 1 else 0)) (h1 : x1 = (if e.1 = 0 then -1 else (e.2.1 : Int))) (h2 : e.1 = 0 → x2 = (e.2.1 : Int)) (h3 : e.1 = 1 → x2 = (e.2.2.1 : Int)) (h4 : x3 = (e.2.2.2.1 : Int)) (h5 : x4 = (e.2.2.2.2 : Int)) : DC (en48 σ nd x1 x2 x3 x4) (nd + 1) (snD De nd e) := by
  refine ⟨?_, fun k hk => ?_⟩
  · unfold en48
    rw [up_eq]; omega
  · rw [en48_1, en48_2, en48_3, en48_4, en48_o _ _ _ _ _ (by omega : 35 < 30 ∨ 34 < 35)]
    by_cases hkn : k = nd
    · rw [hkn, snD_eq, if_pos rfl, if_pos rfl, if_pos rfl, if_pos rfl]
      exact ⟨h35, h4, h5, h1, h2, h3⟩
    · rw [snD_ne hkn, if_neg hkn, if_neg hkn, if_neg hkn, if_neg hkn]
      exact hd.2 k (by omega)
/-- the reference's deeds with one more -/
theorem DR_sn {e : dT} {x1 x2 x3 x4 x5 : Int} (hd : DR σ nd De) (h1 : x1 = (e.1 : Int)) (h2 : x2 = (e.2.1 : Int)) (h3 : e.1 = 1 → x3 = (e.2.2.1 : Int)) (h4 : x4 = (e.2.2.2.1 : Int)) (h5 : x5 = (e.2.2.2.2 : Int)) : DR (en180 σ nd x1 x2 x3 x4 x5) (nd + 1) (snD De nd e) := by
  refine ⟨?_, fun k hk => ?_⟩
  · unfold en180
    rw [up_eq]; omega
  · rw [en180_1, en180_2, en180_3, en180_4, en180_5]
    by_cases hkn : k = nd
    · rw [hkn, snD_eq, if_pos rfl, if_pos rfl, if_pos rfl, if_pos rfl, if_pos rfl]
      exact ⟨h1, h2, h3, h4, h5⟩
    · rw [snD_ne hkn, if_neg hkn, if_neg hkn, if_neg hkn, if_neg hkn, if_neg hkn]
      exact hd.2 k (by omega)
theorem ow_sn {Rf : Nat → Nat → Rat} {e : dT} {k : Nat} (h : k ≤ nd) : ow n Rf Cf (snD De nd e) k = ow n Rf Cf De k := ow_same (fun j hj => ⟨snD_ne (by omega), fun _ => ⟨rfl, rfl⟩⟩)
theorem EO_sn {e : dT} {d : Nat} (h : EO σ c n nd P De Cf d) : EO σ c n (nd + 1) P (snD De nd e) Cf d := by
  obtain ⟨e1, e2, e3, e4, e5, e6, e7, e8, e9, e10⟩ := h
  refine ⟨e1, e2, e3, e4, e5, e6, e7, e8, e9, fun u h1 => ?_⟩
  obtain ⟨g1, g2, g3, g4, ⟨k, k1, k2, k3, k4⟩, g6⟩ := e10 u h1
  exact ⟨g1, g2, g3, g4, ⟨k, by omega, k2, by rw [snD_ne (by omega)]; exact k3, fun u hu => by rw [ow_sn (by omega)]; exact k4 u hu⟩, g6⟩
/-- a grant or a handing more: what has to be shown -/
theorem IV_deed {e : dT} (hi : IV2 c σ n nb nd P ps De Cf) (f : ∀ c, ¬ scr c → c ≠ 187 → ¬ (30 ≤ c ∧ c ≤ 37) → ¬ (204 ≤ c ∧ c ≤ 209) → σ' c = σ c) (hj : ∀ j, j ≠ 29 → j ≠ 43 → j ≠ 25 → j ≠ 26 → σ' 187 j = σ 187 j) (hst : ST σ' n P) (hl : Rd σ' n P = Rd σ n P → LO σ' n (nd + 1) P (snD De nd e) Cf) : IV2 c σ' n nb (nd + 1) P ps (snD De nd e) Cf := by
  obtain ⟨i1, i2, i3, i4, i5, i6, i7, i8⟩ := hi
  have hR : Rd σ' n P = Rd σ n P := funext fun d => Rd_cong (fun c h => f c (by unfold scr; omega) (by omega) (by omega) (by omega)) n P d
  refine ⟨RB_cong (fun j h => hj j (by omega) (by omega) (by omega) (by omega)) (fun c h => ?_) i1, hst, ?_, FO_cong (fun c h => f c (by unfold scr; omega) (by omega) (by omega) (by omega)) i4, PO_cong (fun c h => f c (by unfold scr; omega) (by omega) (by omega) (by omega)) i5, KP_cong (fun c h => f c (by unfold scr; omega) (by omega) (by omega) (by omega)) i6, fun d hd => EO_sn (EO_cong hR (fun c h => f c (by unfold scr; omega) (by omega) (by omega) (by omega)) (i7 d hd)), hl hR⟩
  · exact f c (by unfold scr; omega) (by omega) (by omega) (by omega)
  · rw [hj 0 (by omega) (by omega) (by omega) (by omega), f 1 (by unfold scr; omega) (by omega) (by omega) (by omega)]; exact i3
theorem c115 {x y : Int} (h1 : -2147483648 ≤ x ∧ x ≤ 2147483647) (h2 : -2147483648 ≤ y ∧ y ≤ 2147483647) : fx_115 x y σ = some (if 0 ≤ x ∧ x < y ∧ y ≤ 60 then .inl 0 else .inr 1, σ) := by
  unfold fx_115
  rw [gq_R h1.1 h1.2]
  by_cases a1 : x < 0
  · rw [if_pos a1, if_neg (by omega)]
  · rw [if_neg a1]
    by_cases a2 : x < 60
    · rw [if_pos a2, gq_R h2.1 h2.2]
      by_cases a3 : x < y
      · rw [if_pos a3]
        by_cases a4 : 60 < y
        · rw [if_pos a4, if_neg (by omega)]
        · rw [if_neg a4, if_pos (by omega)]
      · rw [if_neg a3, if_neg (by omega)]
    · rw [if_neg a2, if_neg (by omega)]
end DD1
