section RE4
variable {T : kT} {ps : Nat → Nat} {w : Nat → Int} {σ : gb_S}
/-- the reference's shares found last are x -/
def cs (σ : gb_S) (n : Nat) (x : Nat → Rat) : Prop := ∀ p, p < n → σ 216 p = (x p).num ∧ σ 217 p = ((x p).den : Int)
theorem zz_end (H : KH T ps) {p : Nat} (hp : p < kn T) : zz T ps (kn T) p = if ka T p = true then KK T p else 0 := by
  have := (H.2.2.2.1 p hp).1
  unfold zz
  rw [decide_eq_true this, KK_eq H hp]
  cases ka T p <;> simp
theorem wkx (hf : RF σ T w) {p : Nat} (hp : p < kn T) : 0 ≤ wk T w p ∧ wk T w p ≤ 9 := by
  have := (hf.2.2.2.2.2.2.1 p hp).2
  unfold wk
  split <;> omega
/-- the weights together -/
theorem g168_11 (H : KH T ps) {σ : gb_S} (hf : RF σ T w) (kin : Int) : ∀ (m k : Nat), m ≤ kn T → m < k → fx_168_11 k ((kx T : Nat) : Int) kin (si (wk T w) (kn T - m)) ((kn T - m : Nat) : Int) σ = fx_168_11 1 ((kx T : Nat) : Int) kin (Ws T w) ((kn T : Nat) : Int) σ := by
  have hn := H.1
  have hx := H.2.1
  have h3 := hf.1
  intro m
  induction m with
  | zero =>
    intro k _ hk
    obtain ⟨k, rfl⟩ : ∃ q, k = q + 1 := ⟨k - 1, by omega⟩
    obtain ⟨Z, hZ⟩ : ∃ Z, ∀ k, fx_168_11 (k + 1) ((kx T : Nat) : Int) kin (Ws T w) ((kn T : Nat) : Int) σ = Z := ⟨_, fun k => by rw [fx_168_11, gq_R (by omega) (by omega), gq_R (by omega) (by omega), if_neg (by omega)]⟩
    exact (hZ k).trans (hZ 0).symm
  | succ m ih =>
    intro k hm hk
    obtain ⟨k, rfl⟩ : ∃ q, k = q + 1 := ⟨k - 1, by omega⟩
    have ihk := ih k (by omega) (by omega)
    generalize hi : kn T - (m + 1) = i
    have hi2 : kn T - m = i + 1 := by omega
    rw [hi2, si] at ihk
    rw [fx_168_11, gq_R (by omega) (by omega), gq_R (by omega) (by omega), if_pos (by omega), g158 hn hx hf (by omega), gc_v, gq_R (bR _).1 (bR _).2, show ((i : Nat) : Int) + 1 = ((i + 1 : Nat) : Int) by omega]
    unfold wk at ihk ⊢
    by_cases ha : ka T i = true
    · rw [if_pos ha, if_neg (by decide), gq_ix (by omega) (by omega), show (14 * ((kx T : Nat) : Int) + ((i : Nat) : Int)).toNat = 14 * kx T + i by omega, (hf.2.2.2.2.2.2.1 i (by omega)).1]
      rw [if_pos ha] at ihk
      exact ihk
    · rw [if_neg ha, if_pos rfl]
      rw [if_neg ha] at ihk
      exact ihk
theorem g168_78 (H : KH T ps) {kin half : Int} (hkin : kin = if 0 < hc T then 1 else 0) (hhalf : half = if (decide (0 < Ws T w) && lv T (kx T)) = true then 1 else 0) : ∀ (m k : Nat) (σ : gb_S), m ≤ kn T → m < k → RF σ T w → (∀ p, p < kn T - m → σ 216 p = (Rs T w p).num ∧ σ 217 p = ((Rs T w p).den : Int)) → (∀ p, p < kn T → kn T - m ≤ p → σ 218 p = (zz T ps (kn T) p).num ∧ σ 219 p = ((zz T ps (kn T) p).den : Int)) →
    ∃ σ', fx_168_78 k ((kx T : Nat) : Int) kin (Ws T w) half ((kn T - m : Nat) : Int) σ = some (.inl 0, σ') ∧ cs σ' (kn T) (Rs T w) ∧ ∀ c, c ≠ 216 → c ≠ 217 → c ≠ 218 → c ≠ 219 → σ' c = σ c := by
  have hn := H.1
  have hx := H.2.1
  intro m
  induction m with
  | zero =>
    intro k σ _ hk1 hf hb hz
    obtain ⟨k, rfl⟩ : ∃ q, k = q + 1 := ⟨k - 1, by omega⟩
    have h3 := hf.1
    refine ⟨σ, ?_, fun p hp => hb p (by omega), fun _ _ _ _ _ => rfl⟩
    rw [fx_168_78, gq_R (by omega) (by omega), gq_R (by omega) (by omega), if_neg (by omega)]
  | succ m ih =>
    intro k σ hm hk1 hf hb hz
    obtain ⟨k, rfl⟩ : ∃ q, k = q + 1 := ⟨k - 1, by omega⟩
    have h3 := hf.1
    generalize hi : kn T - (m + 1) = i
    rw [hi] at hb hz
    have hi2 : kn T - m = i + 1 := by omega
    rw [hi2] at ih
    have hin : i < kn T := by omega
    have hwp : ∀ p, p < kn T → 0 ≤ w p := fun p hp => (hf.2.2.2.2.2.2.1 p hp).2.1
    have hW1 : Ws T w ≤ 126 := Ws_le H (fun p hp => (hf.2.2.2.2.2.2.1 p hp).2)
    have hW0 : 0 ≤ Ws T w := Ws_nonneg hwp
    have hwk := wkx hf hin
    have hwl : wk T w i ≤ Ws T w := by
      have := si_pos_mem (f := wk T w) (m := kn T) (fun p hp => (wkx hf hp).1) i hin
      exact this
    have hzi := hz i hin (Nat.le_refl _)
    have hze := zz_end H hin
    have hzb := zz_b H (i := kn T) (p := i) (Nat.le_refl _)
    have hznd := num_le_den hzb.2.1
    have hzn0 : 0 ≤ (zz T ps (kn T) i).num := Rat.num_nonneg.mpr hzb.1
    have hzd0 := (zz T ps (kn T) i).den_pos
    have hzd4 : (zz T ps (kn T) i).den ≤ 400000 := hzb.2.2
    -- the sum at i, from any beginning
    have h199 : ∀ (σ1 : gb_S) (N0 : Int) (D0 Y : Nat), (∀ c, c ≠ 218 → c ≠ 219 → σ1 c = σ c) → (∀ p, p ≠ i → σ1 218 p = σ 218 p ∧ σ1 219 p = σ 219 p) → σ1 218 i = N0 → σ1 219 i = (D0 : Int) → 0 ≤ N0 → N0 ≤ D0 → 0 < D0 → D0 ≤ 1048576 → wk T w i ≤ Y → 0 < Y → Y ≤ 1000 → mkRat N0 D0 + ((wk T w i : Int) : Rat) / ((Y : Int) : Rat) = Rs T w i →
        ∃ σ', fx_168_199 (fx_168_78 k) ((kx T : Nat) : Int) kin (Ws T w) half (i : Int) (Y : Int) (wk T w i) (i : Int) σ1 = some (.inl 0, σ') ∧ cs σ' (kn T) (Rs T w) ∧ ∀ c, c ≠ 216 → c ≠ 217 → c ≠ 218 → c ≠ 219 → σ' c = σ c := by
      intro σ1 N0 D0 Y f1 f1p h1 h2 hN hND hD hD2 hwY hY hY2 hval
      obtain ⟨s2, e2, v1, v2, v3, f2⟩ := addG (σ := σ1) (p := i) (N0 := N0) (D0 := D0) (X := wk T w i) (Y := Y) (by omega) h1 h2 hN hND hD hD2 hwk.1 hwY hY (by omega)
      unfold fx_168_199
      rw [e2, gc_v, gq_ix (by omega) (by omega), Int.toNat_natCast, show ((i : Nat) : Int) + 1 = ((i + 1 : Nat) : Int) by omega]
      rw [show gb_up s2 216 i (s2 218 i) 219 i = s2 219 i from congrFun (up_ne _ _ _ _ (by omega)) i, v1, v2, hval]
      generalize hs3 : gb_up (gb_up s2 216 i (Rs T w i).num) 217 i ((Rs T w i).den : Int) = s3
      have f3 : ∀ c, c ≠ 216 → c ≠ 217 → s3 c = s2 c := fun c h1 h2 => by rw [← hs3, up_ne _ _ _ _ h2, up_ne _ _ _ _ h1]
      have F3 : ∀ c, c ≠ 216 → c ≠ 217 → c ≠ 218 → c ≠ 219 → s3 c = σ c := fun c h1 h2 h3 h4 => by rw [f3 c h1 h2, f2 c h3 h4, f1 c h3 h4]
      obtain ⟨s4, e4, c4, f4⟩ := ih k s3 (by omega) (by omega) (RF_214 (fun c hc => F3 c (by omega) (by omega) (by omega) (by omega)) hf) (fun p hp => by
        rw [← hs3, up_ne _ _ _ _ (by omega : (216 : Nat) ≠ 217)]
        by_cases hpi : p = i
        · subst hpi; rw [up_eq, up_eq]; exact ⟨rfl, rfl⟩
        · simp only [up_nj _ _ _ _ hpi]
          rw [f2 216 (by omega) (by omega), f2 217 (by omega) (by omega), f1 216 (by omega) (by omega), f1 217 (by omega) (by omega)]
          exact hb p (by omega)) (fun p hp hip => by
        rw [f3 218 (by omega) (by omega), f3 219 (by omega) (by omega), (v3 p (by omega)).1, (v3 p (by omega)).2, (f1p p (by omega)).1, (f1p p (by omega)).2]
        exact hz p hp (by omega))
      exact ⟨s4, e4, c4, fun c h1 h2 h3 h4 => by rw [f4 c h1 h2 h3 h4, F3 c h1 h2 h3 h4]⟩
    -- the weight
    have h137 : ∀ (σ1 : gb_S) (N0 : Int) (D0 : Nat), (∀ c, c ≠ 218 → c ≠ 219 → σ1 c = σ c) → (∀ p, p ≠ i → σ1 218 p = σ 218 p ∧ σ1 219 p = σ 219 p) → σ1 218 i = N0 → σ1 219 i = (D0 : Int) → 0 ≤ N0 → N0 ≤ D0 → 0 < D0 → D0 ≤ 1048576 → mkRat N0 D0 = Rk T w i →
        ∃ σ', fx_168_137 (fx_168_78 k) ((kx T : Nat) : Int) kin (Ws T w) half (i : Int) σ1 = some (.inl 0, σ') ∧ cs σ' (kn T) (Rs T w) ∧ ∀ c, c ≠ 216 → c ≠ 217 → c ≠ 218 → c ≠ 219 → σ' c = σ c := by
      intro σ1 N0 D0 f1 f1p h1 h2 hN hND hD hD2 hval
      have hf1 : RF σ1 T w := RF_214 (fun c hc => f1 c (by omega) (by omega)) hf
      unfold fx_168_137
      rw [gq_R (by omega) (by omega)]
      by_cases hW : 0 < Ws T w
      · have hpt : pt T w = if lv T (kx T) = true then 2 else 1 := by unfold pt; rw [decide_eq_true hW, Bool.true_and]
        have hgo : ∀ y0, y0 = wk T w i → ∃ σ', fx_168_167 (fx_168_78 k) ((kx T : Nat) : Int) kin (Ws T w) half (i : Int) y0 σ1 = some (.inl 0, σ') ∧ cs σ' (kn T) (Rs T w) ∧ ∀ c, c ≠ 216 → c ≠ 217 → c ≠ 218 → c ≠ 219 → σ' c = σ c := by
          intro y0 hy
          subst hy
          have hv : ∀ Y : Nat, (Y : Int) = Ws T w * (pt T w : Int) → mkRat N0 D0 + ((wk T w i : Int) : Rat) / ((Y : Int) : Rat) = Rs T w i := by
            intro Y hY
            rw [hval, hY]
            unfold Rs Rw wk
            by_cases ha : ka T i = true
            · rw [if_pos ha, if_pos ⟨hW, ha⟩, Rat.add_comm]
            · rw [if_neg ha, if_neg (fun q => ha q.2), Rat.add_comm]
              congr 1
              show (0 : Rat) / _ = 0
              rw [Rat.div_def, Rat.zero_mul]
          unfold fx_168_167
          rw [gq_R (by omega) (by omega), gq_R (by omega) (by omega), if_neg (by omega), hhalf, decide_eq_true hW, Bool.true_and, gq_R (bR _).1 (bR _).2]
          by_cases hl : lv T (kx T) = true
          · rw [if_pos hl, if_neg (by decide)]
            rw [if_pos hl] at hpt
            have := h199 σ1 N0 D0 (2 * (Ws T w).toNat) f1 f1p h1 h2 hN hND hD hD2 (by omega) (by omega) (by omega) (hv _ (by rw [hpt]; omega))
            rw [hhalf, decide_eq_true hW, Bool.true_and, if_pos hl, show ((2 * (Ws T w).toNat : Nat) : Int) = 2 * Ws T w by omega] at this
            exact this
          · rw [if_neg hl, if_pos rfl]
            rw [if_neg hl] at hpt
            have := h199 σ1 N0 D0 ((Ws T w).toNat) f1 f1p h1 h2 hN hND hD hD2 (by omega) (by omega) (by omega) (hv _ (by rw [hpt]; omega))
            rw [hhalf, decide_eq_true hW, Bool.true_and, if_neg hl, show (((Ws T w).toNat : Nat) : Int) = Ws T w by omega] at this
            exact this
        rw [if_pos hW, g158 hn hx hf1 hin, gc_v, gq_R (bR _).1 (bR _).2]
        by_cases ha : ka T i = true
        · rw [if_pos ha, if_neg (by decide), gq_ix (by omega) (by omega), show (14 * ((kx T : Nat) : Int) + ((i : Nat) : Int)).toNat = 14 * kx T + i by omega, (hf1.2.2.2.2.2.2.1 i hin).1]
          exact hgo _ (by unfold wk; rw [if_pos ha])
        · rw [if_neg ha, if_pos rfl]
          exact hgo 0 (by unfold wk; rw [if_neg ha])
      · have hw0 : wk T w i = 0 := by omega
        have hWz : Ws T w = 0 := by omega
        rw [if_neg hW]
        unfold fx_168_167
        rw [gq_R (by omega) (by omega), gq_R (by omega) (by omega), if_pos hWz]
        have := h199 σ1 N0 D0 1 f1 f1p h1 h2 hN hND hD hD2 (by omega) (by omega) (by omega) (by
          rw [hval, hw0]
          unfold Rs Rw
          rw [if_neg (fun q => hW q.1)]
          show _ + (0 : Rat) / _ = 0 + _
          rw [Rat.div_def, Rat.zero_mul]
          grind)
        rw [hw0] at this
        exact this
    -- to nothing
    have h100 : Rk T w i = 0 → ∃ σ', fx_168_100 (fx_168_78 k) ((kx T : Nat) : Int) kin (Ws T w) half (i : Int) σ = some (.inl 0, σ') ∧ cs σ' (kn T) (Rs T w) ∧ ∀ c, c ≠ 216 → c ≠ 217 → c ≠ 218 → c ≠ 219 → σ' c = σ c := by
      intro hr
      unfold fx_168_100
      rw [gq_ix (by omega) (by omega), Int.toNat_natCast]
      refine h137 _ 0 1 (fun c h1 h2 => by rw [up_ne _ _ _ _ h2, up_ne _ _ _ _ h1]) (fun p hp => by
        constructor <;> simp only [up_nj _ _ _ _ hp]) (by rw [up_ne _ _ _ _ (by omega), up_eq]) (up_eq _ _ _ _) (by omega) (by omega) (by omega) (by omega) ?_
      rw [hr, Rat.zero_mkRat]
    have hkR : -2147483648 ≤ kin ∧ kin ≤ 2147483647 := by rw [hkin]; split <;> omega
    have hhR : -2147483648 ≤ half ∧ half ≤ 2147483647 := by rw [hhalf]; exact bR _
    -- kin's part
    have h96 : ¬ (0 < Ws T w ∧ lv T (kx T) = false) → ∃ σ', fx_168_96 (fx_168_78 k) ((kx T : Nat) : Int) kin (Ws T w) half (i : Int) σ = some (.inl 0, σ') ∧ cs σ' (kn T) (Rs T w) ∧ ∀ c, c ≠ 216 → c ≠ 217 → c ≠ 218 → c ≠ 219 → σ' c = σ c := by
      intro hno
      have hq : hk T w = true := by
        unfold hk
        by_cases hW : 0 < Ws T w
        · have : lv T (kx T) = true := by
            cases h : lv T (kx T) with
            | true => rfl
            | false => exact absurd ⟨hW, h⟩ hno
          rw [this]; simp
        · rw [decide_eq_false hW]; rfl
      have hRk : Rk T w i = zz T ps (kn T) i / ((pt T w : Nat) : Rat) := by
        rw [hze]
        unfold Rk
        rw [hq, Bool.true_and]
        by_cases ha : ka T i = true
        · rw [if_pos ha, if_pos ha]
        · rw [if_neg ha, if_neg ha, Rat.div_def, Rat.zero_mul]
      unfold fx_168_96
      rw [gq_R hkR.1 hkR.2]
      by_cases hh : 0 < hc T
      · rw [if_pos hh] at hkin
        rw [if_neg (by omega), gq_R hhR.1 hhR.2]
        by_cases hd : (decide (0 < Ws T w) && lv T (kx T)) = true
        · have hp2 : pt T w = 2 := by unfold pt; rw [if_pos hd]
          rw [if_neg (by rw [hhalf, if_pos hd]; decide), gq_ix (by omega) (by omega), Int.toNat_natCast, hzi.2]
          refine h137 _ (zz T ps (kn T) i).num ((zz T ps (kn T) i).den * 2) (fun c h1 h2 => up_ne _ _ _ _ h2) (fun p hp => by
            constructor <;> simp only [up_nj _ _ _ _ hp]) (by rw [up_ne _ _ _ _ (by omega)]; exact hzi.1) (by rw [up_eq, Int.natCast_mul]; rfl) hzn0 (by omega) (by omega) (by omega) ?_
          rw [hRk, hp2, Rat.mkRat_eq_div]
          have := rat_nd (zz T ps (kn T) i) 2
          rw [Rat.intCast_natCast] at this
          exact this
        · have hp1 : pt T w = 1 := by unfold pt; rw [if_neg hd]
          rw [if_pos (by rw [hhalf, if_neg hd])]
          refine h137 σ (zz T ps (kn T) i).num (zz T ps (kn T) i).den (fun _ _ _ => rfl) (fun _ _ => ⟨rfl, rfl⟩) hzi.1 hzi.2 hzn0 hznd hzd0 (by omega) ?_
          rw [hRk, hp1, Rat.mkRat_self]
          show _ = _ / (1 : Rat)
          grind
      · rw [if_neg hh] at hkin
        rw [if_pos hkin]
        refine h100 ?_
        rw [hRk, hze, KK_none H (by omega) hin]
        have : (if ka T i = true then (0 : Rat) else 0) = 0 := by split <;> rfl
        rw [this, Rat.div_def, Rat.zero_mul]
    rw [fx_168_78, gq_R (by omega) (by omega), gq_R (by omega) (by omega), if_pos (by omega), gq_R (by omega) (by omega)]
    by_cases hW : 0 < Ws T w
    · rw [if_pos hW, gq_R hhR.1 hhR.2]
      by_cases hl : lv T (kx T) = true
      · rw [if_neg (by rw [hhalf, decide_eq_true hW, hl]; decide)]
        exact h96 (fun q => by rw [hl] at q; exact absurd q.2 (by decide))
      · rw [Bool.not_eq_true] at hl
        rw [if_pos (by rw [hhalf, decide_eq_true hW, hl]; rfl)]
        refine h100 ?_
        unfold Rk hk
        rw [decide_eq_true hW, hl]
        rfl
    · rw [if_neg hW]
      exact h96 (fun q => hW q.1)
/-- the reference's shares, behind findsKin -/
theorem g168 (H : KH T ps) {σ s0 : gb_S} (h0 : fx_143 σ = some (.inl 0, s0)) (hf : RF s0 T w) : ∃ σ', fx_168 ((kx T : Nat) : Int) σ = some (.inl 0, σ') ∧ cs σ' (kn T) (Rs T w) ∧ ∀ c, c < 214 ∨ 219 < c → σ' c = s0 c := by
  have hn := H.1
  have hx := H.2.1
  obtain ⟨s1, e1, b1, c1, f1⟩ := g166 H h0 hf
  have hf1 : RF s1 T w := RF_214 (fun c hc => f1 c (by omega) (by omega) (by omega) (by omega)) hf
  have h3 := hf1.1
  have hW1 : Ws T w ≤ 126 := Ws_le H (fun p hp => (hf.2.2.2.2.2.2.1 p hp).2)
  have hW0 : 0 ≤ Ws T w := Ws_nonneg (fun p hp => (hf.2.2.2.2.2.2.1 p hp).2.1)
  have h214 := b1 (kx T) hx
  have hR2 : -2147483648 ≤ s1 214 (kx T) ∧ s1 214 (kx T) ≤ 2147483647 := by rw [h214]; exact bR _
  obtain ⟨s2, e2, c2, f2⟩ := g168_78 (w := w) (kin := if 0 < hc T then 1 else 0) (half := if (decide (0 < Ws T w) && lv T (kx T)) = true then 1 else 0) H rfl rfl (kn T) gFU s1 (Nat.le_refl _) (by unfold gFU; omega) hf1 (fun p hp => by omega) (fun p hp _ => c1 p hp)
  rw [Nat.sub_self] at e2
  refine ⟨s2, ?_, c2, fun c hc => by rw [f2 c (by omega) (by omega) (by omega) (by omega), f1 c (by omega) (by omega) (by omega) (by omega)]⟩
  have e3 := g168_11 H hf1 (if 0 < hc T then 1 else 0) (kn T) gFU (Nat.le_refl _) (by unfold gFU; omega)
  rw [Nat.sub_self] at e3
  unfold fx_168
  rw [e1, gc_v]
  refine Eq.trans e3 ?_
  show fx_168_11 (0 + 1) ((kx T : Nat) : Int) _ (Ws T w) ((kn T : Nat) : Int) s1 = _
  rw [fx_168_11, gq_R (by omega) (by omega), gq_R (by omega) (by omega), if_neg (by omega), gq_R (by omega) (by omega)]
  by_cases hW : 0 < Ws T w
  · rw [if_pos hW, gq_ix (by omega) (by omega), Int.toNat_natCast, gq_R hR2.1 hR2.2, h214]
    rw [decide_eq_true hW, Bool.true_and] at e2
    by_cases hl : lv T (kx T) = true
    · rw [if_pos hl, if_neg (by decide)]
      rw [if_pos hl] at e2
      exact e2
    · rw [if_neg hl, if_pos rfl]
      rw [if_neg hl] at e2
      exact e2
  · rw [if_neg hW]
    rw [decide_eq_false hW, Bool.false_and] at e2
    exact e2
end RE4
