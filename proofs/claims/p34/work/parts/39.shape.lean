section GFa
/-- the world's shape, cell by cell -/
theorem gcl_1 : gw_cl 1 = some (7, [4, 8, 17, 22, 27, 28, 32, 43, 46, 0]) := rfl
theorem gcl_2 : gw_cl 2 = some (2, [5, 6, 7, 0, 0]) := rfl
theorem gcl_6 : gw_cl 6 = some (5, [9, 10, 11, 12, 13, 0, 14, 15, 16, 0]) := rfl
theorem gcl_15 : gw_cl 15 = some (3, [18, 19, 20, 21]) := rfl
theorem gcl_20 : gw_cl 20 = some (3, [23, 24, 25, 26]) := rfl
theorem gcl_26 : gw_cl 26 = some (0, [29, 0, 0, 0, 0]) := rfl
theorem gcl_27 : gw_cl 27 = some (6, [30, 31]) := rfl
theorem gcl_30 : gw_cl 30 = some (4, [33, 34, 35, 36, 37, 0, 0, 38, 39, 40, 41, 42]) := rfl
theorem gcl_41 : gw_cl 41 = some (6, [44, 45]) := rfl
theorem gcl_44 : gw_cl 44 = some (6, [47, 48]) := rfl
theorem gar_3 : gb_ia 3 14 := ⟨rfl, Nat.le_of_ble_eq_true rfl⟩
theorem gar_4 : gb_ia 4 14 := ⟨rfl, Nat.le_of_ble_eq_true rfl⟩
theorem gar_5 : gb_ia 5 14 := ⟨rfl, Nat.le_of_ble_eq_true rfl⟩
theorem gar_7 : gb_ia 7 30 := ⟨rfl, Nat.le_of_ble_eq_true rfl⟩
theorem gar_8 : gb_ia 8 30 := ⟨rfl, Nat.le_of_ble_eq_true rfl⟩
theorem gar_9 : gb_ia 9 30 := ⟨rfl, Nat.le_of_ble_eq_true rfl⟩
theorem gar_10 : gb_ia 10 30 := ⟨rfl, Nat.le_of_ble_eq_true rfl⟩
theorem gar_11 : gb_ba 11 30 := ⟨rfl, Nat.le_of_ble_eq_true rfl⟩
theorem gar_12 : gb_ia 12 30 := ⟨rfl, Nat.le_of_ble_eq_true rfl⟩
theorem gar_13 : gb_ia 13 30 := ⟨rfl, Nat.le_of_ble_eq_true rfl⟩
theorem gar_14 : gb_ba 14 30 := ⟨rfl, Nat.le_of_ble_eq_true rfl⟩
theorem gar_31 : gb_ia 31 134 := ⟨rfl, Nat.le_of_ble_eq_true rfl⟩
theorem gar_32 : gb_ia 32 134 := ⟨rfl, Nat.le_of_ble_eq_true rfl⟩
theorem gar_33 : gb_ia 33 134 := ⟨rfl, Nat.le_of_ble_eq_true rfl⟩
theorem gar_34 : gb_ia 34 134 := ⟨rfl, Nat.le_of_ble_eq_true rfl⟩
theorem gar_35 : gb_ba 35 134 := ⟨rfl, Nat.le_of_ble_eq_true rfl⟩
theorem gar_36 : gb_ba 36 60 := ⟨rfl, Nat.le_of_ble_eq_true rfl⟩
theorem gar_37 : gb_ia 37 60 := ⟨rfl, Nat.le_of_ble_eq_true rfl⟩
theorem gar_38 : gb_ia 38 60 := ⟨rfl, Nat.le_of_ble_eq_true rfl⟩
theorem gar_39 : gb_ia 39 14 := ⟨rfl, Nat.le_of_ble_eq_true rfl⟩
theorem gar_40 : gb_ia 40 14 := ⟨rfl, Nat.le_of_ble_eq_true rfl⟩
def gFU : Nat := 2000
theorem gb_kd_big {a : Nat} (h : 187 ≤ a) : gb_kd a = 99 := by
  obtain ⟨b, rfl⟩ : ∃ b, a = b + 1 := ⟨a - 1, by omega⟩
  have hl : gb_sh.length = 186 := by decide +kernel
  have : gw_cl (b + 1) = none := by
    show gb_sh[b]? = none
    rw [List.getElem?_eq_none_iff, hl]
    omega
  unfold gb_kd
  rw [this]
def gb_kN (a : Nat) : Bool := !(gb_kd a == 3) || (a == 15 || a == 20)
def gb_sN (a : Nat) : Bool := !(gb_kd a == 6) || (decide (gw_cl a = some (6, [a + 3, a + 4])) && (decide (gw_cl (a + 1) = some (21, List.replicate 14 1)) && decide (gw_cl (a + 2) = some (21, List.replicate 14 1))))
def gb_eN (a : Nat) : Bool := !(gb_kd a == 1) || (decide (gw_cl a = some (1, [0, a + 3, a + 4, 0, 0, 0, 0, 0, a + 5, a + 8, a + 11])) && (decide (gw_cl (a + 1) = some (20, List.replicate 14 0)) && (decide (gw_cl (a + 2) = some (20, List.replicate 14 0)) && (decide (gb_kd (a + 3) = 6) && (decide (gb_kd (a + 6) = 6) && decide (gw_cl (a + 9) = some (20, List.replicate 60 0)))))))
def gb_iN (a : Nat) : Bool := !(gb_kd a == 20) || (decide (gw_cl a = some (20, List.replicate (gb_ln a) 0)) && decide (gb_ln a ≤ 1000))
theorem gb_allN : ∀ a ∈ List.range 187, (gb_kN a && (gb_sN a && (gb_eN a && gb_iN a))) = true := by decide +kernel
theorem gb_lt187 {a k : Nat} (h : gb_kd a = k) (hk : k < 99) : a ∈ List.range 187 := by
  rw [List.mem_range]
  exact Nat.lt_of_not_le fun q => by rw [gb_kd_big q] at h; omega
theorem gkin {a : Nat} (h : gb_kd a = 3) : a = 15 ∨ a = 20 := by
  have := gb_allN a (gb_lt187 h (by omega))
  rw [Bool.and_eq_true] at this
  have := this.1
  unfold gb_kN at this
  rw [h] at this
  simpa using this
theorem gkin0 {a : Nat} (h : gb_kd a = 3) : gw_cl a = some (3, [a + 3, a + 4, a + 5, a + 6]) := by rcases gkin h with rfl | rfl <;> rfl
theorem gkin1 {a : Nat} (h : gb_kd a = 3) : gb_ia (a + 1) 14 := by rcases gkin h with rfl | rfl <;> exact ⟨rfl, Nat.le_of_ble_eq_true rfl⟩
theorem gkin2 {a : Nat} (h : gb_kd a = 3) : gb_ia (a + 2) 14 := by rcases gkin h with rfl | rfl <;> exact ⟨rfl, Nat.le_of_ble_eq_true rfl⟩
theorem gkin3 {a : Nat} (h : gb_kd a = 3) : gb_ia (a + 3) 14 := by rcases gkin h with rfl | rfl <;> exact ⟨rfl, Nat.le_of_ble_eq_true rfl⟩
theorem gkin4 {a : Nat} (h : gb_kd a = 3) : gb_ia (a + 4) 14 := by rcases gkin h with rfl | rfl <;> exact ⟨rfl, Nat.le_of_ble_eq_true rfl⟩
theorem gsh {a : Nat} (h : gb_kd a = 6) : gw_cl a = some (6, [a + 3, a + 4]) ∧ gw_cl (a + 1) = some (21, List.replicate 14 1) ∧ gw_cl (a + 2) = some (21, List.replicate 14 1) := by
  have := gb_allN a (gb_lt187 h (by omega))
  simp only [Bool.and_eq_true] at this
  have := this.2.1
  unfold gb_sN at this
  rw [h] at this
  simpa using this
theorem gsh0 {a : Nat} (h : gb_kd a = 6) : gw_cl a = some (6, [a + 3, a + 4]) := (gsh h).1
theorem gsh1 {a : Nat} (h : gb_kd a = 6) : gb_la (a + 1) 14 := ⟨(gsh h).2.1, Nat.le_of_ble_eq_true rfl⟩
theorem gsh2 {a : Nat} (h : gb_kd a = 6) : gb_la (a + 2) 14 := ⟨(gsh h).2.2, Nat.le_of_ble_eq_true rfl⟩
theorem ges {a : Nat} (h : gb_kd a = 1) : gw_cl a = some (1, [0, a + 3, a + 4, 0, 0, 0, 0, 0, a + 5, a + 8, a + 11]) ∧ gw_cl (a + 1) = some (20, List.replicate 14 0) ∧ gw_cl (a + 2) = some (20, List.replicate 14 0) ∧ gb_kd (a + 3) = 6 ∧ gb_kd (a + 6) = 6 ∧ gw_cl (a + 9) = some (20, List.replicate 60 0) := by
  have := gb_allN a (gb_lt187 h (by omega))
  simp only [Bool.and_eq_true] at this
  have := this.2.2.1
  unfold gb_eN at this
  rw [h] at this
  simpa using this
theorem ges0 {a : Nat} (h : gb_kd a = 1) : gw_cl a = some (1, [0, a + 3, a + 4, 0, 0, 0, 0, 0, a + 5, a + 8, a + 11]) := (ges h).1
theorem ges1 {a : Nat} (h : gb_kd a = 1) : gb_ia (a + 1) 14 := ⟨(ges h).2.1, Nat.le_of_ble_eq_true rfl⟩
theorem ges2 {a : Nat} (h : gb_kd a = 1) : gb_ia (a + 2) 14 := ⟨(ges h).2.2.1, Nat.le_of_ble_eq_true rfl⟩
theorem ges3 {a : Nat} (h : gb_kd a = 1) : gb_kd (a + 3) = 6 := (ges h).2.2.2.1
theorem ges6 {a : Nat} (h : gb_kd a = 1) : gb_kd (a + 6) = 6 := (ges h).2.2.2.2.1
theorem ges9 {a : Nat} (h : gb_kd a = 1) : gb_ia (a + 9) 60 := ⟨(ges h).2.2.2.2.2, Nat.le_of_ble_eq_true rfl⟩
theorem gar {a : Nat} (h : gb_kd a = 20) : gb_ia a (gb_ln a) := by
  have := gb_allN a (gb_lt187 h (by omega))
  simp only [Bool.and_eq_true] at this
  have := this.2.2.2
  unfold gb_iN at this
  rw [h] at this
  simpa using this
theorem ges_all : ∀ n ∈ List.range 14, gb_kd (47 + 10 * n) = 1 := by decide +kernel
theorem ges_at {x : Int} (g : 0 ≤ x ∧ x < 14) : gb_kd (47 + 10 * x.toNat) = 1 := ges_all _ (List.mem_range.mpr (by omega))
variable {δ own : Nat} {rt : Option FieldType} {hnd : Nat → Nat → Option (Nat × Nat)} {K : List (Nat × Instr × Nat)} {c0 : gx_C} {e : Int ⊕ Nat → gh_O} {pc : Nat} {lo : gh_L} {st : List Value} {σ : gb_S} {X : Option gb_P}
theorem gg_cF {i : Instr} {len μ δ' : Nat} {as r : List Value} {s : gb_S} (p : Nat) (hk : K.lookup pc = some (i, len)) (hm : gb_M (some (.inl 0, s)) δ' c0 eV μ as σ) (hd : δ' ≤ δ) (hs : gh_step true own rt pc i len lo st (gb_H c0 σ) = some (.inr (.inr (μ, as, r)))) (hp : pc + 3 = p) (hn : ∀ E, hnd pc E = none) (he : ∀ E, e (.inr E) = .inr E)
    (h : gb_G X δ own rt hnd K c0 e p lo r s) : gb_G X δ own rt hnd K c0 e pc lo st σ := by
  subst hp
  intro o σ' hx
  have hb := gb_B_mono hd (hm _ _ rfl)
  refine gw_c hk hs (gb_B_of hb ?_)
  rintro o2 σ2 ⟨rfl, rfl⟩
  exact h o σ' hx
theorem gb_callC {i : Instr} {len μ δ' : Nat} {as r : List Value} {m : Option gb_P} {Y : Int → gb_S → Option gb_P} {hh : Nat → gb_S → Option gb_P} {e' : Int ⊕ Nat → gh_O} (hk : K.lookup pc = some (i, len)) (hm : gb_M m δ' c0 e' μ as σ) (hd : δ' ≤ δ) (hs : gh_step true own rt pc i len lo st (gb_H c0 σ) = some (.inr (.inr (μ, as, r)))) (he : ∀ E, e (.inr E) = .inr E) (he' : ∀ E, e' (.inr E) = .inr E)
    (w : Int → Option Value) (hw : ∀ x, e' (.inl x) = .inl (w x)) (h : ∀ x s, gb_G (Y x s) δ own rt hnd K c0 e (pc + 3) lo ((w x).toList ++ r) s)
    (h2 : ∀ E s, match hnd pc E with
      | none => hh E s = some (.inr E, s)
      | some (pc', k) => gb_G (hh E s) δ own rt hnd K c0 e pc' (lo.filter (fun q => !(q.1 == k) && !(q.1 + 1 == k && q.2.category == 2))) [] s) : gb_G (gch m Y hh) δ own rt hnd K c0 e pc lo st σ := by
  intro o σ' hx
  unfold gch at hx
  split at hx
  · next x s =>
    have hb := gb_B_mono hd (hm _ _ rfl)
    refine gw_c hk hs (gb_B_of hb ?_)
    rintro o2 σ2 ⟨rfl, rfl⟩
    rw [hw]
    exact h x _ o σ' hx
  · next E s =>
    have hb := gb_B_mono hd (hm _ _ rfl)
    refine gw_c hk hs (gb_B_of hb ?_)
    rintro o2 σ2 ⟨rfl, rfl⟩
    rw [he']
    have h3 := h2 E σ2
    split at h3
    · next hn =>
      rw [h3] at hx
      cases hx
      simp only [hn]
      exact ⟨(he E).symm, trivial⟩
    · next pc' k hn =>
      simp only [hn]
      exact h3 o σ' hx
  · cases hx
theorem gg_chI {i : Instr} {len μ δ' : Nat} {as r : List Value} {m : Option gb_P} {Y : Int → gb_S → Option gb_P} {hh : Nat → gb_S → Option gb_P} (p : Nat) (hk : K.lookup pc = some (i, len)) (hm : gb_M m δ' c0 eI μ as σ) (hd : δ' ≤ δ) (hs : gh_step true own rt pc i len lo st (gb_H c0 σ) = some (.inr (.inr (μ, as, r)))) (hp : pc + 3 = p) (he : ∀ E, e (.inr E) = .inr E)
    (h : ∀ x s, gb_G (Y x s) δ own rt hnd K c0 e p lo (vi x :: r) s)
    (h2 : ∀ E s, match hnd pc E with
      | none => hh E s = some (.inr E, s)
      | some (pc', k) => gb_G (hh E s) δ own rt hnd K c0 e pc' (lo.filter (fun q => !(q.1 == k) && !(q.1 + 1 == k && q.2.category == 2))) [] s) : gb_G (gch m Y hh) δ own rt hnd K c0 e pc lo st σ := by
  subst hp
  exact gb_callC hk hm hd hs he (fun _ => rfl) (fun x => some (vi x)) (fun _ => rfl) h h2
theorem gg_chL {i : Instr} {len μ δ' : Nat} {as r : List Value} {m : Option gb_P} {Y : Int → gb_S → Option gb_P} {hh : Nat → gb_S → Option gb_P} (p : Nat) (hk : K.lookup pc = some (i, len)) (hm : gb_M m δ' c0 eL μ as σ) (hd : δ' ≤ δ) (hs : gh_step true own rt pc i len lo st (gb_H c0 σ) = some (.inr (.inr (μ, as, r)))) (hp : pc + 3 = p) (he : ∀ E, e (.inr E) = .inr E)
    (h : ∀ x s, gb_G (Y x s) δ own rt hnd K c0 e p lo (vl x :: r) s)
    (h2 : ∀ E s, match hnd pc E with
      | none => hh E s = some (.inr E, s)
      | some (pc', k) => gb_G (hh E s) δ own rt hnd K c0 e pc' (lo.filter (fun q => !(q.1 == k) && !(q.1 + 1 == k && q.2.category == 2))) [] s) : gb_G (gch m Y hh) δ own rt hnd K c0 e pc lo st σ := by
  subst hp
  exact gb_callC hk hm hd hs he (fun _ => rfl) (fun x => some (vl x)) (fun _ => rfl) h h2
end GFa
