section CO4
variable {σ : gb_S} {T : kT} {ps : Nat → Nat} {a e r : Nat} {w : Nat → Int}
def wk (T : kT) (w : Nat → Int) (p : Nat) : Int := if ka T p = true then w p else 0
/-- the weight of p, if it was alive -/
theorem g11 (hs : CS σ T) (hf : FK σ e T w) (hn : kn T ≤ 14) {p : Nat} (hp : p < 14) : fx_11 e (p : Int) σ = some (.inl (wk T w p), σ) := by
  obtain ⟨f1, f2, f3, f4, f5, f6, f7, f8, f9, f10⟩ := hf
  unfold fx_11 wk
  rw [isIn_in _ hp, gc_v]
  by_cases hpn : p < kn T
  · rw [hs.1 p hpn]
    by_cases ha : ka T p = true
    · rw [if_pos ha, if_pos ha, gq_R (by omega) (by omega), if_neg (by omega), g13 hp, gc_v, (f9 p hp).1]
    · rw [if_neg ha, if_neg ha, gq_R (by omega) (by omega), if_pos rfl]
  · have hk0 : (if ka T p = true then w p else 0) = (0 : Int) := by rw [f8 p (by omega)]; rfl
    rw [hk0]
    by_cases hb : bt (σ 26 1) p = true
    · rw [if_pos hb, gq_R (by omega) (by omega), if_neg (by omega), g13 hp, gc_v, (f9 p hp).1, f10 p (by omega) hp]
    · rw [if_neg hb, gq_R (by omega) (by omega), if_pos rfl]
theorem Ws14 (hf : FK σ e T w) (hn : kn T ≤ 14) : si (wk T w) 14 = Ws T w := by
  unfold Ws
  exact si_ext (f := wk T w) hn (fun i h1 h2 => by unfold wk; rw [hf.2.2.2.2.2.2.2.1 i h1]; rfl)
theorem wk_b (hf : FK σ e T w) {p : Nat} (hp : p < 14) : 0 ≤ wk T w p ∧ wk T w p ≤ 9 := by
  have := hf.2.2.2.2.2.2.2.2.1 p hp
  unfold wk
  split <;> omega
theorem si_b (hf : FK σ e T w) : ∀ {i : Nat}, i ≤ 14 → 0 ≤ si (wk T w) i ∧ si (wk T w) i ≤ 9 * i := by
  intro i
  induction i with
  | zero => intro _; rw [si]; omega
  | succ i ih => intro h; rw [si]; have := ih (by omega); have := wk_b hf (p := i) (by omega); omega
theorem cm_up {x : Nat → Rat} {y : Rat} {p : Nat} (h : cm σ a x) (hy : x p = y) : cm σ a (fun q => if q = p then y else x q) := cm_ext (fun q _ => by
  by_cases hq : q = p
  · subst hq; rw [if_pos rfl]; exact hy
  · rw [if_neg hq]) h
/-- shares by will and by kin together -/
theorem g10_89 (H : KH T ps) (hr : 41 ≤ r ∧ r ≤ 184 ∧ (r % 10 = 0 ∨ r % 10 = 1 ∨ r % 10 = 3 ∨ r % 10 = 4)) (he : ∃ i, i < 14 ∧ e = 47 + 10 * i) : ∀ (m k : Nat) (σ : gb_S), m ≤ 14 → m < k → CS σ T → FK σ e T w → (∀ p, p < 14 → bt (σ 26 1) p = true → σ 28 p = (cur T (kn T) p).num ∧ σ 29 p = ((cur T (kn T) p).den : Int)) → cm σ r (fun p => if p < 14 - m then Rs T w p else 0) →
    ∃ σ', fx_10_89 k e r (Ws T w) (if 0 < Ws T w then 1 else 0) (if hk T w = true then 1 else 0) ((pt T w : Nat) : Int) ((14 - m : Nat) : Int) σ = some (.inl 0, σ') ∧ cm σ' r (Rs T w) ∧ ∀ c, c ≠ r + 1 → c ≠ r + 2 → σ' c = σ c := by
  have hn := H.1
  obtain ⟨ie, hie, rfl⟩ := he
  intro m
  induction m with
  | zero =>
    intro k σ _ hk1 hs hf hco hc
    obtain ⟨k, rfl⟩ : ∃ q, k = q + 1 := ⟨k - 1, by omega⟩
    refine ⟨σ, ?_, cm_ext (fun p hp => if_pos (by omega)) hc, fun _ _ _ => rfl⟩
    rw [fx_10_89, gq_R (by omega) (by omega), if_neg (by omega)]
  | succ m ih =>
    intro k σ hm hk1 hs hf hco hc
    obtain ⟨k, rfl⟩ : ∃ q, k = q + 1 := ⟨k - 1, by omega⟩
    generalize hj : 14 - (m + 1) = j
    rw [hj] at hc
    have hj2 : 14 - m = j + 1 := by omega
    rw [hj2] at ih
    have hj14 : j < 14 := by omega
    have hwp : ∀ p, p < kn T → 0 ≤ w p := fun p hp => (hf.2.2.2.2.2.2.2.2.1 p (by omega)).2.1
    have hW1 : Ws T w ≤ 126 := Ws_le H (fun p hp => (hf.2.2.2.2.2.2.2.2.1 p (by omega)).2)
    have hW0 : 0 ≤ Ws T w := Ws_nonneg hwp
    have hpt : pt T w = 1 ∨ pt T w = 2 := pt_or
    -- Rw and Rk at j
    have hRw0 : 0 ≤ Rw T w j ∧ Rw T w j ≤ 1 ∧ (Rw T w j).den ≤ 1048576 := by
      by_cases hjn : j < kn T
      · refine ⟨Rw_nonneg hwp hjn, ?_, ?_⟩
        · have h1 := Rs_le H hwp hjn (w := w)
          have h2 := Rk_nonneg (T := T) (w := w) j
          unfold Rs at h1
          grind
        · unfold Rw
          split
          · next hh =>
            have hpos : 0 < (Ws T w).toNat * pt T w := Nat.mul_pos (by omega) (by omega)
            have hiq : iq (((w j : Int) : Rat) / (((Ws T w * (pt T w : Int)) : Int) : Rat)) ((Ws T w).toNat * pt T w) := by
              refine ⟨w j, ?_⟩
              have e1 : (((Ws T w * (pt T w : Int)) : Int) : Rat) = ((((Ws T w).toNat * pt T w : Nat)) : Rat) := by
                rw [← Rat.intCast_natCast, Int.natCast_mul, Int.toNat_of_nonneg hW0]
              rw [e1]
              exact Rat.div_mul_cancel (fun q => by have := Rat.natCast_eq_zero_iff.mp q; omega)
            have h1 := iq_den hpos hiq
            have h2 : (Ws T w).toNat * pt T w ≤ 126 * 2 := Nat.mul_le_mul (by omega) (by omega)
            omega
          · decide
      · unfold Rw
        rw [if_neg (fun q => by rw [hf.2.2.2.2.2.2.2.1 j (by omega)] at q; exact absurd q.2 (by decide))]
        exact ⟨by decide, by decide, by decide⟩
    have hlast : ∀ σ1 : gb_S, (∀ c, c ≠ r + 1 → c ≠ r + 2 → σ1 c = σ c) → cm σ1 r (fun p => if p < j + 1 then Rs T w p else 0) → ∃ σ', fx_10_89 k (47 + 10 * ie) r (Ws T w) (if 0 < Ws T w then 1 else 0) (if hk T w = true then 1 else 0) ((pt T w : Nat) : Int) ((j : Int) + 1) σ1 = some (.inl 0, σ') ∧ cm σ' r (Rs T w) ∧ ∀ c, c ≠ r + 1 → c ≠ r + 2 → σ' c = σ c := by
      intro σ1 f1 c1
      rw [show ((j : Nat) : Int) + 1 = ((j + 1 : Nat) : Int) by omega]
      obtain ⟨s2, e2, c2, f2⟩ := ih k σ1 (by omega) (by omega) (CS_cong (f1 _ (by omega) (by omega)) hs) (FK_cong (f1 _ (by omega) (by omega)) (f1 _ (by omega) (by omega)) (f1 _ (by omega) (by omega)) (f1 _ (by omega) (by omega)) (f1 _ (by omega) (by omega)) (f1 _ (by omega) (by omega)) hf) (by rw [f1 26 (by omega) (by omega), f1 28 (by omega) (by omega), f1 29 (by omega) (by omega)]; exact hco) c1
      exact ⟨s2, e2, c2, fun c h1 h2 => by rw [f2 c h1 h2, f1 c h1 h2]⟩
    -- behind the will's part
    have h121 : ∀ σ1 : gb_S, (∀ c, c ≠ r + 1 → c ≠ r + 2 → σ1 c = σ c) → cm σ1 r (fun p => if p = j then Rw T w j else if p < j then Rs T w p else 0) → ∃ σ', fx_10_121 (fx_10_89 k) (47 + 10 * ie) r (Ws T w) (if 0 < Ws T w then 1 else 0) (if hk T w = true then 1 else 0) ((pt T w : Nat) : Int) ((j : Nat) : Int) σ1 = some (.inl 0, σ') ∧ cm σ' r (Rs T w) ∧ ∀ c, c ≠ r + 1 → c ≠ r + 2 → σ' c = σ c := by
      intro σ1 f1 c1
      have hskip : Rk T w j = 0 → cm σ1 r (fun p => if p < j + 1 then Rs T w p else 0) := fun h => cm_ext (fun p _ => by
        show (if p = j then Rw T w j else if p < j then Rs T w p else 0) = if p < j + 1 then Rs T w p else 0
        by_cases hp : p = j
        · subst hp
          rw [if_pos rfl, if_pos (by omega)]
          unfold Rs
          rw [h]
          grind
        · rw [if_neg hp]
          by_cases hq : p < j
          · rw [if_pos hq, if_pos (by omega)]
          · rw [if_neg hq, if_neg (by omega)]) c1
      unfold fx_10_121
      rw [gq_R (by split <;> omega) (by split <;> omega)]
      by_cases hkk : hk T w = true
      · rw [if_pos hkk, if_neg (by omega), f1 26 (by omega) (by omega), isIn_in _ hj14, gc_v]
        by_cases hb : bt (σ 26 1) j = true
        · rw [if_pos hb, gq_R (by omega) (by omega), if_neg (by omega), g71 hj14, gc_v, g72 hj14, gc_v, gq_R (by omega) (by omega)]
          rw [show σ1 (27 + 1) = σ 28 from f1 28 (by omega) (by omega), show σ1 (27 + 2) = σ 29 from f1 29 (by omega) (by omega)]
          rw [(hco j hj14 hb).1, (hco j hj14 hb).2]
          have hcb := cur_b H (i := kn T) (p := j) (Nat.le_refl _)
          have hnd := num_le_den hcb.2.1
          have hn0 : 0 ≤ (cur T (kn T) j).num := Rat.num_nonneg.mpr hcb.1
          have hd0 := (cur T (kn T) j).den_pos
          have hY2 : (cur T (kn T) j).den * pt T w ≤ 400000 * 2 := Nat.mul_le_mul hcb.2.2 (by omega)
          have hY1 : (cur T (kn T) j).den * 1 ≤ (cur T (kn T) j).den * pt T w := Nat.mul_le_mul_left _ (by omega)
          have hxj : (if j = j then Rw T w j else if j < j then Rs T w j else 0) = Rw T w j := if_pos rfl
          obtain ⟨s1, e1, c3, f3⟩ := addB (σ := σ1) (a := r) (p := j) (X := (cur T (kn T) j).num) (Y := (cur T (kn T) j).den * pt T w) hj14 c1 (by simp only [hxj]; exact hRw0.1) (by simp only [hxj]; exact hRw0.2.1) (by simp only [hxj]; exact hRw0.2.2) hn0 (by omega) (by omega) (by omega)
          rw [Int.natCast_mul] at e1
          rw [e1, gc_v]
          rw [if_pos hkk] at hlast
          refine hlast s1 (fun c h1 h2 => by rw [f3 c h1 h2, f1 c h1 h2]) (cm_ext (fun p _ => ?_) c3)
          show (if p = j then (if j = j then Rw T w j else if j < j then Rs T w j else 0) + _ else if p = j then Rw T w j else if p < j then Rs T w p else 0) = if p < j + 1 then Rs T w p else 0
          by_cases hp : p = j
          · subst hp
            rw [if_pos rfl, if_pos rfl, if_pos (by omega), rat_nd]
            unfold Rs
            congr 1
            unfold Rk
            by_cases hpn : p < kn T
            · rw [hkk, ← hs.1 p hpn, hb, if_pos (by rfl), KK_eq H hpn]
            · rw [hf.2.2.2.2.2.2.2.1 p (by omega), Bool.and_false, if_neg (by decide), cur_big H (by omega), Rat.div_def, Rat.zero_mul]
          · rw [if_neg hp, if_neg hp]
            by_cases hq : p < j
            · rw [if_pos hq, if_pos (by omega)]
            · rw [if_neg hq, if_neg (by omega)]
        · rw [if_neg hb, gq_R (by omega) (by omega), if_pos rfl]
          rw [if_pos hkk] at hlast
          refine hlast σ1 f1 (hskip ?_)
          unfold Rk
          have : ka T j = false := by
            by_cases hjn : j < kn T
            · rw [← hs.1 j hjn]; rw [Bool.not_eq_true] at hb; exact hb
            · exact hf.2.2.2.2.2.2.2.1 j (by omega)
          rw [this, Bool.and_false]
          rfl
      · rw [if_neg hkk, if_pos rfl]
        rw [if_neg hkk] at hlast
        refine hlast σ1 f1 (hskip ?_)
        unfold Rk
        rw [Bool.not_eq_true] at hkk
        rw [hkk]
        rfl
    rw [fx_10_89, gq_R (by omega) (by omega), if_pos (by omega), gq_R (by split <;> omega) (by split <;> omega)]
    by_cases hW : 0 < Ws T w
    · have hif : (if 0 < Ws T w then (1 : Int) else 0) = 1 := if_pos hW
      have hwb := wk_b hf hj14
      have hwl : wk T w j ≤ Ws T w := by
        rw [← Ws14 hf hn]
        exact si_pos_mem (f := wk T w) (fun i hi => (wk_b hf hi).1) j hj14
      rw [hif, if_neg (by decide), g11 hs hf hn hj14, gc_v, gq_R (by omega) (by omega), gq_R (by omega) (by omega), gq_R (by omega) (by omega)]
      have hxj : (if j < j then Rs T w j else (0 : Rat)) = 0 := if_neg (by omega)
      have hYpos : 0 < (Ws T w).toNat * pt T w := Nat.mul_pos (by omega) (by omega)
      have hYle : (Ws T w).toNat * pt T w ≤ 126 * 2 := Nat.mul_le_mul (by omega) (by omega)
      have hY1 : (Ws T w).toNat * 1 ≤ (Ws T w).toNat * pt T w := Nat.mul_le_mul_left _ (by omega)
      obtain ⟨s1, e1, c3, f3⟩ := addB (σ := σ) (a := r) (p := j) (X := wk T w j) (Y := (Ws T w).toNat * pt T w) hj14 hc (by simp only [hxj]; decide) (by simp only [hxj]; decide) (by simp only [hxj]; decide) hwb.1 (by omega) hYpos (by omega)
      have hcast : (((Ws T w).toNat * pt T w : Nat) : Int) = Ws T w * (pt T w : Int) := by rw [Int.natCast_mul, Int.toNat_of_nonneg hW0]
      rw [hcast] at e1 c3
      rw [e1, gc_v]
      have := h121 s1 f3 (cm_ext (fun p _ => by
        show (if p = j then (if j < j then Rs T w j else 0) + _ else if p < j then Rs T w p else 0) = if p = j then Rw T w j else if p < j then Rs T w p else 0
        by_cases hp : p = j
        · subst hp
          rw [if_pos rfl, if_pos rfl, if_neg (by omega)]
          unfold Rw wk
          by_cases ha : ka T p = true
          · rw [if_pos ha, if_pos ⟨hW, ha⟩]; grind
          · rw [if_neg ha, if_neg (fun q => ha q.2)]
            show 0 + (0 : Rat) / _ = 0
            rw [Rat.div_def, Rat.zero_mul]; grind
        · rw [if_neg hp, if_neg hp]) c3)
      rw [hif] at this
      exact this
    · have hif : (if 0 < Ws T w then (1 : Int) else 0) = 0 := if_neg hW
      rw [hif, if_pos rfl]
      have := h121 σ (fun _ _ _ => rfl) (cm_ext (fun p _ => by
        show (if p < j then Rs T w p else 0) = if p = j then Rw T w j else if p < j then Rs T w p else 0
        by_cases hp : p = j
        · subst hp
          rw [if_pos rfl, if_neg (by omega)]
          unfold Rw
          rw [if_neg (fun q => hW q.1)]
        · rw [if_neg hp]) hc)
      rw [hif] at this
      exact this
theorem g69 : ∃ σ', fx_69 a σ = some (.inl 0, σ') ∧ cm σ' a (fun _ => 0) ∧ ∀ c, c ≠ a + 1 → c ≠ a + 2 → σ' c = σ c := by
  refine ⟨_, rfl, fun p _ => ?_, fun c h1 h2 => by rw [fi_ne _ _ _ h2, fi_ne _ _ _ h1]⟩
  rw [fi_ne _ _ _ (by omega), fi_eq, fi_eq]
  exact ⟨rfl, rfl⟩
theorem g10_5 (H : KH T ps) (hr : 41 ≤ r ∧ r ≤ 184 ∧ (r % 10 = 0 ∨ r % 10 = 1 ∨ r % 10 = 3 ∨ r % 10 = 4)) (hs : CS σ T) (hf : FK σ e T w) : ∀ (m k : Nat), m ≤ 14 → m < k → ∃ y, fx_10_5 k e r (si (wk T w) (14 - m)) ((14 - m : Nat) : Int) σ = fx_10_37 e r (Ws T w) y σ ∧ y = if 0 < Ws T w then 1 else 0 := by
  have hn := H.1
  intro m
  induction m with
  | zero =>
    intro k _ hk1
    obtain ⟨k, rfl⟩ : ∃ q, k = q + 1 := ⟨k - 1, by omega⟩
    have hb := si_b hf (i := 14) (by omega)
    have hW := Ws14 hf hn
    show ∃ y, fx_10_5 (k + 1) e r (si (wk T w) 14) 14 σ = _ ∧ _
    rw [hW] at hb ⊢
    refine ⟨_, ?_, rfl⟩
    rw [fx_10_5, gq_R (by omega) (by omega), if_neg (by omega), gq_R (by omega) (by omega)]
    split <;> rfl
  | succ m ih =>
    intro k hm hk1
    obtain ⟨k, rfl⟩ : ∃ q, k = q + 1 := ⟨k - 1, by omega⟩
    have e1 : 14 - m = 14 - (m + 1) + 1 := by omega
    obtain ⟨y, h1, h2⟩ := ih k (by omega) (by omega)
    refine ⟨y, ?_, h2⟩
    rw [fx_10_5, gq_R (by omega) (by omega), if_pos (by omega), g11 hs hf hn (by omega), gc_v, ← h1, e1, si]
    rfl
theorem g10 (H : KH T ps) (hr : 41 ≤ r ∧ r ≤ 184 ∧ (r % 10 = 0 ∨ r % 10 = 1 ∨ r % 10 = 3 ∨ r % 10 = 4)) (he : ∃ i, i < 14 ∧ e = 47 + 10 * i) (hs : CS σ T) (hf : FK σ e T w) (hco : ∀ p, p < 14 → bt (σ 26 1) p = true → σ 28 p = (cur T (kn T) p).num ∧ σ 29 p = ((cur T (kn T) p).den : Int)) :
    ∃ σ', fx_10 e r σ = some (.inl 0, σ') ∧ cm σ' r (Rs T w) ∧ ∀ c, c ≠ r + 1 → c ≠ r + 2 → σ' c = σ c := by
  have hn := H.1
  have hx := H.2.1
  obtain ⟨s1, e1, c1, f1⟩ := g69 (σ := σ) (a := r)
  have he2 := he
  obtain ⟨ie, hie, rfl⟩ := he2
  obtain ⟨s2, e2, c2, f2⟩ := g10_89 H hr he 14 gFU s1 (Nat.le_refl _) (by unfold gFU; omega) (CS_cong (f1 _ (by omega) (by omega)) hs) (FK_cong (f1 _ (by omega) (by omega)) (f1 _ (by omega) (by omega)) (f1 _ (by omega) (by omega)) (f1 _ (by omega) (by omega)) (f1 _ (by omega) (by omega)) (f1 _ (by omega) (by omega)) hf) (by rw [f1 26 (by omega) (by omega), f1 28 (by omega) (by omega), f1 29 (by omega) (by omega)]; exact hco) (cm_ext (fun p _ => (if_neg (by omega)).symm) c1)
  refine ⟨s2, ?_, c2, fun c h1 h2 => by rw [f2 c h1 h2, f1 c h1 h2]⟩
  obtain ⟨y, h1, h2⟩ := g10_5 H hr hs hf 14 gFU (Nat.le_refl _) (by unfold gFU; omega)
  unfold fx_10
  refine h1.trans ?_
  subst h2
  have hfin : ∀ y0 : Int, y0 = (if hk T w = true then 1 else 0) → fx_10_63 (47 + 10 * ie) r (Ws T w) (if 0 < Ws T w then 1 else 0) y0 σ = some (.inl 0, s2) := by
    intro y0 hy0
    unfold fx_10_63
    rw [gq_R (by split <;> omega) (by split <;> omega)]
    by_cases hW : 0 < Ws T w
    · rw [if_pos hW, if_neg (by decide), gq_R (by rw [hy0]; split <;> omega) (by rw [hy0]; split <;> omega)]
      rw [if_pos hW] at e2
      by_cases hl : lv T (kx T) = true
      · have hq : hk T w = true := by unfold hk; rw [hl]; simp
        have hp : pt T w = 2 := by unfold pt; rw [hl, decide_eq_true hW]; rfl
        rw [hy0, hq, if_pos rfl, if_neg (by decide), e1, gc_v]
        rw [hq, if_pos rfl, hp] at e2
        exact e2
      · rw [Bool.not_eq_true] at hl
        have hq : hk T w = false := by unfold hk; rw [hl, decide_eq_true hW]; rfl
        have hp : pt T w = 1 := by unfold pt; rw [hl, decide_eq_true hW]; rfl
        rw [show y0 = 0 by rw [hy0, hq]; rfl, if_pos rfl, e1, gc_v]
        rw [hq, if_neg (by decide), hp] at e2
        exact e2
    · have hp : pt T w = 1 := by unfold pt; rw [decide_eq_false hW]; rfl
      rw [if_neg hW, if_pos rfl, e1, gc_v, hy0]
      rw [if_neg hW, hp] at e2
      exact e2
  unfold fx_10_37
  rw [gq_R (by split <;> omega) (by split <;> omega)]
  by_cases hW : 0 < Ws T w
  · rw [if_pos hW] at hfin ⊢
    rw [if_neg (by decide), hf.2.2.2.2.1, isIn_in _ (by omega), gc_v, hs.2.1, decide_eq_true hx, Bool.true_and]
    by_cases hl : lv T (kx T) = true
    · have hq : hk T w = true := by unfold hk; rw [hl]; simp
      rw [if_pos hl, gq_R (by omega) (by omega), if_neg (by decide)]
      exact hfin 1 (by rw [if_pos hq])
    · rw [Bool.not_eq_true] at hl
      have hq : hk T w = false := by unfold hk; rw [hl, decide_eq_true hW]; rfl
      rw [hl, if_neg (by decide), gq_R (by omega) (by omega), if_pos rfl]
      exact hfin 0 (by rw [hq]; rfl)
  · have hq : hk T w = true := by unfold hk; rw [decide_eq_false hW]; rfl
    rw [if_neg hW] at hfin ⊢
    rw [if_pos rfl]
    exact hfin 1 (by rw [if_pos hq])
/-- shareFromHeads -/
theorem g1 (H : KH T ps) (hkc : KC σ a T) (hf : FK σ e T w) (ha : a = 15 ∨ a = 20) (he : ∃ i, i < 14 ∧ e = 47 + 10 * i) (hr : 41 ≤ r ∧ r ≤ 184 ∧ (r % 10 = 0 ∨ r % 10 = 1 ∨ r % 10 = 3 ∨ r % 10 = 4)) :
    ∃ σ', fx_1 a e r σ = some (.inl 0, σ') ∧ cm σ' r (Rs T w) ∧ ∀ c, c ≠ 26 → c ≠ 28 → c ≠ 29 → c ≠ r + 1 → c ≠ r + 2 → σ' c = σ c := by
  have he2 := he
  obtain ⟨ie, hie, rfl⟩ := he2
  obtain ⟨s1, e1, f1, cs1⟩ := g7 H hkc hf ha he
  obtain ⟨s2, e2, c2, f2⟩ := g69 (σ := s1) (a := 27)
  have cs2 := CS_cong (f2 26 (by omega) (by omega)) cs1
  obtain ⟨s3, e3, c3, f3⟩ := g1_17 (a := a) (e := 47 + 10 * ie) (r := r) H 14 gFU s2 (Nat.le_refl _) (by unfold gFU; omega) cs2 (cm_ext (fun p _ => (if_neg (by omega)).symm) c2)
  have F3 : ∀ c, c ≠ 26 → c ≠ 28 → c ≠ 29 → s3 c = σ c := fun c h1 h2 h3 => by rw [f3 c h2 h3, f2 c h2 h3, f1 c h1]
  have cs3 := CS_cong (f3 26 (by omega) (by omega)) cs2
  obtain ⟨s4, e4, c4, f4⟩ := g1_39 (a := a) (e := 47 + 10 * ie) (r := r) H ha (kn T) gFU s3 (Nat.le_refl _) (by have := H.1; unfold gFU; omega) (KC_cong (F3 _ (by omega) (by omega) (by omega)) (F3 _ (by omega) (by omega) (by omega)) (F3 _ (by omega) (by omega) (by omega)) hkc) cs3 (by rw [F3 2 (by omega) (by omega) (by omega)]; exact hf.1) (fun j hj => by rw [F3 5 (by omega) (by omega) (by omega)]; exact hf.2.1 j hj) (cm_ext (fun p _ => by rw [Nat.sub_self]; unfold cur; rw [su]; grind) c3)
  have F4 : ∀ c, c ≠ 26 → c ≠ 28 → c ≠ 29 → s4 c = σ c := fun c h1 h2 h3 => by rw [f4 c h2 h3, F3 c h1 h2 h3]
  have cs4 := CS_cong (f4 26 (by omega) (by omega)) cs3
  obtain ⟨s5, e5, c5, f5⟩ := g10 (σ := s4) (e := 47 + 10 * ie) (r := r) (w := w) H hr he cs4 (FK_cong (F4 _ (by omega) (by omega) (by omega)) (F4 _ (by omega) (by omega) (by omega)) (F4 _ (by omega) (by omega) (by omega)) (F4 _ (by omega) (by omega) (by omega)) (F4 _ (by omega) (by omega) (by omega)) (F4 _ (by omega) (by omega) (by omega)) hf) (fun p hp _ => c4 p hp)
  refine ⟨s5, ?_, c5, fun c h1 h2 h3 h4 h5 => by rw [f5 c h4 h5, F4 c h1 h2 h3]⟩
  unfold fx_1
  rw [Nat.sub_self] at e3 e4
  rw [e1, gc_v, e2, gc_v]
  refine e3.trans ?_
  refine e4.trans ?_
  rw [e5, gc_v]
end CO4
