section RE3
variable {T : kT} {ps : Nat → Nat} {w : Nat → Int}
theorem RF_214 {σ σ' : gb_S} (h : ∀ c, c < 214 → σ' c = σ c) (hf : RF σ T w) : RF σ' T w := RF_cong (fun c hc => h c (by omega)) hf
theorem g166_53 (H : KH T ps) {σ : gb_S} (hf : RF σ T w) (hl : rb σ 214 (kn T) (lv T)) (hh : rb σ 215 (kn T) (fun p => p == kx T)) : ∃ σ' hF, fx_166_53 gFU ((kx T : Nat) : Int) 0 σ = fx_166_82 gFU ((kx T : Nat) : Int) ((hc T : Nat) : Int) 0 σ' ∧ rb σ' 215 (kn T) hF ∧ (∀ p, p < kn T → (hF p && lv T p) = hd T p) ∧ ∀ c, c ≠ 215 → σ' c = σ c := by
  have hn := H.1
  have hx := H.2.1
  have hcle := ct_le (hd T) (kn T)
  obtain ⟨k, hk, hk2⟩ := gFUs
  rw [hk]
  have e0 := g161 (σ := σ) hn hf.1 hh hl
  rw [fx_166_53, gq_R (by omega) (by omega), if_pos (by omega), e0, gc_v]
  have hle0 := ct_le (fun k => (k == kx T) && lv T k) (kn T)
  rw [gq_R (by omega) (by omega)]
  by_cases hlx : lv T (kx T) = true
  · have hhd : ∀ p, p < kn T → ((p == kx T) && lv T p) = hd T p := by
      intro p hp
      unfold hd
      rw [if_pos hlx]
      by_cases hpx : p = kx T
      · subst hpx; rw [hlx]; simp
      · rw [beq_eq_false_iff_ne.mpr hpx]; rfl
    have hcc : ct (fun k => (k == kx T) && lv T k) (kn T) = hc T := ct_congr hhd
    have hpos := hc_lv H hlx
    rw [hcc, if_neg (by omega), e0, gc_v, hcc]
    exact ⟨σ, _, by rw [hk], hh, hhd, fun _ _ => rfl⟩
  · have hz : ct (fun k => (k == kx T) && lv T k) (kn T) = 0 := ct_zero (fun p _ => by
      by_cases hpx : p = kx T
      · subst hpx; rw [Bool.not_eq_true] at hlx; rw [hlx, Bool.and_false]
      · rw [beq_eq_false_iff_ne.mpr hpx]; rfl)
    rw [hz, if_pos (by omega)]
    obtain ⟨s1, e1, b1, f1⟩ := g162 (σ := σ) hn hf.1 hf.2.2.2.2.2.2.2 hh
    rw [e1, gc_v]
    have hf1 : RF s1 T w := RF_214 (fun c hc => f1 c (by omega)) hf
    have hl1 : rb s1 214 (kn T) (lv T) := by unfold rb; rw [f1 214 (by omega)]; exact hl
    -- the parents
    have hh1 : ∀ p, decide (0 < ct (fun g => (g == kx T) && kp T p g) (kn T)) = kp T p (kx T) := by
      intro p
      apply Bool.eq_iff_iff.mpr
      rw [decide_eq_true_eq, ct_pos]
      constructor
      · rintro ⟨g, hg, hb⟩
        rw [Bool.and_eq_true, beq_iff_eq] at hb
        rw [← hb.1]; exact hb.2
      · intro h
        exact ⟨kx T, hx, by rw [h]; simp⟩
    have b1' : rb s1 215 (kn T) (fun p => kp T p (kx T)) := fun p hp => by
      exact rbi (y := kp T p (kx T)) rfl (rbo (hh1 p) (b1 p hp))
    have e2 := g161 (σ := s1) hn hf1.1 b1' hl1
    obtain ⟨k, rfl⟩ : ∃ q, k = q + 1 := ⟨k - 1, by omega⟩
    have hle1 := ct_le (fun k => kp T k (kx T) && lv T k) (kn T)
    rw [show (0 : Int) + 1 = 1 by omega, fx_166_53, gq_R (by omega) (by omega), if_pos (by omega), e2, gc_v, gq_R (by omega) (by omega)]
    by_cases hp1 : 0 < ct (fun g => kp T g (kx T) && lv T g) (kn T)
    · have hhd : ∀ p, p < kn T → (kp T p (kx T) && lv T p) = hd T p := by
        intro p hp
        unfold hd
        rw [if_neg hlx, if_pos hp1]
      have hcc : ct (fun k => kp T k (kx T) && lv T k) (kn T) = hc T := ct_congr hhd
      rw [if_neg (by omega), e2, gc_v, hcc]
      exact ⟨s1, _, by rw [hk], b1', hhd, f1⟩
    · rw [if_pos (by omega)]
      obtain ⟨s2, e3, b2, f2⟩ := g162 (σ := s1) hn hf1.1 hf1.2.2.2.2.2.2.2 b1'
      rw [e3, gc_v]
      have hf2 : RF s2 T w := RF_214 (fun c hc => f2 c (by omega)) hf1
      have hl2 : rb s2 214 (kn T) (lv T) := by unfold rb; rw [f2 214 (by omega)]; exact hl1
      have e4 := g161 (σ := s2) hn hf2.1 b2 hl2
      have hhd : ∀ p, p < kn T → (decide (0 < ct (fun g => kp T g (kx T) && kp T p g) (kn T)) && lv T p) = hd T p := by
        intro p hp
        unfold hd
        rw [if_neg hlx, if_neg hp1]
      have hcc : ct (fun p => decide (0 < ct (fun g => kp T g (kx T) && kp T p g) (kn T)) && lv T p) (kn T) = hc T := ct_congr hhd
      obtain ⟨k, rfl⟩ : ∃ q, k = q + 1 := ⟨k - 1, by omega⟩
      rw [show (1 : Int) + 1 = 2 by omega, fx_166_53, gq_R (by omega) (by omega), if_neg (by omega), e4, gc_v, hcc]
      exact ⟨s2, _, by rw [hk], b2, hhd, fun c hc => by rw [f2 c hc, f1 c hc]⟩
theorem g166_82 (H : KH T ps) {hF : Nat → Bool} (hhd : ∀ p, p < kn T → (hF p && lv T p) = hd T p) : ∀ (m k : Nat) (σ : gb_S), m ≤ kn T → m < k → σ 187 3 = (kn T : Int) → rb σ 214 (kn T) (lv T) → rb σ 215 (kn T) hF → cr σ (kn T) (fun p => if p < kn T - m then hdv T p else 0) → ∃ σ', fx_166_82 k ((kx T : Nat) : Int) ((hc T : Nat) : Int) ((kn T - m : Nat) : Int) σ = fx_166_124 gFU ((kx T : Nat) : Int) ((hc T : Nat) : Int) 0 σ' ∧ cr σ' (kn T) (hdv T) ∧ ∀ c, c ≠ 218 → c ≠ 219 → σ' c = σ c := by
  have hn := H.1
  have hcle := ct_le (hd T) (kn T)
  have hcle2 : hc T ≤ 14 := Nat.le_trans hcle hn
  intro m
  induction m with
  | zero =>
    intro k σ _ hk h3 hl hh hcm
    obtain ⟨k, rfl⟩ : ∃ q, k = q + 1 := ⟨k - 1, by omega⟩
    refine ⟨σ, ?_, cr_ext (fun p hp => if_pos (by omega)) hcm, fun _ _ _ => rfl⟩
    rw [fx_166_82, gq_R (by omega) (by omega), gq_R (by omega) (by omega), if_neg (by omega)]
  | succ m ih =>
    intro k σ hm hk h3 hl hh hcm
    obtain ⟨k, rfl⟩ : ∃ q, k = q + 1 := ⟨k - 1, by omega⟩
    generalize hi : kn T - (m + 1) = i
    rw [hi] at hcm
    have hi2 : kn T - m = i + 1 := by omega
    rw [hi2] at ih
    have hin : i < kn T := by omega
    have h1 := hh i hin
    have h2 := hl i hin
    have hR1 : -2147483648 ≤ σ 215 i ∧ σ 215 i ≤ 2147483647 := by rw [h1]; exact bR _
    have hR2 : -2147483648 ≤ σ 214 i ∧ σ 214 i ≤ 2147483647 := by rw [h2]; exact bR _
    have hd2 := hhd i hin
    have hskip : hd T i = false → ∃ σ', fx_166_82 k ((kx T : Nat) : Int) ((hc T : Nat) : Int) (((i + 1 : Nat) : Nat) : Int) σ = fx_166_124 gFU ((kx T : Nat) : Int) ((hc T : Nat) : Int) 0 σ' ∧ cr σ' (kn T) (hdv T) ∧ ∀ c, c ≠ 218 → c ≠ 219 → σ' c = σ c := by
      intro h
      refine ih k σ (by omega) (by omega) h3 hl hh (cr_ext (fun p _ => ?_) hcm)
      show (if p < i then hdv T p else 0) = if p < i + 1 then hdv T p else 0
      by_cases hp : p = i
      · subst hp; rw [if_neg (by omega), if_pos (by omega), hdv_no h]
      · by_cases hq : p < i
        · rw [if_pos hq, if_pos (by omega)]
        · rw [if_neg hq, if_neg (by omega)]
    rw [fx_166_82, gq_R (by omega) (by omega), gq_R (by omega) (by omega), if_pos (by omega), gq_ix (by omega) (by omega), Int.toNat_natCast, gq_R hR1.1 hR1.2, show ((i : Nat) : Int) + 1 = ((i + 1 : Nat) : Int) by omega]
    by_cases a1 : hF i = true
    · rw [if_neg (by rw [h1, if_pos a1]; decide), gq_R hR2.1 hR2.2]
      by_cases a2 : lv T i = true
      · rw [if_neg (by rw [h2, if_pos a2]; decide), gq_R (by omega) (by omega)]
        rw [a1, a2] at hd2
        have hhi : hd T i = true := hd2.symm
        have hpos : 0 < hc T := (ct_pos (b := hd T)).mpr ⟨i, hin, hhi⟩
        have hxi : (if i < i then hdv T i else (0 : Rat)) = 0 := if_neg (by omega)
        obtain ⟨s1, e1, c1, f1⟩ := addR (σ := σ) (p := i) (X := 1) (Y := hc T) hn hin hcm (by simp only [hxi]; decide) (by simp only [hxi]; decide) (by simp only [hxi]; decide) (by omega) (by omega) hpos (by omega)
        rw [e1, gc_v]
        obtain ⟨s2, e2, c2, f2⟩ := ih k s1 (by omega) (by omega) (by rw [f1 187 (by omega) (by omega)]; exact h3) (by unfold rb; rw [f1 214 (by omega) (by omega)]; exact hl) (by unfold rb; rw [f1 215 (by omega) (by omega)]; exact hh) (cr_ext (fun p _ => by
          show (if p = i then (if i < i then hdv T i else 0) + ((1 : Int) : Rat) / ((hc T : Int) : Rat) else if p < i then hdv T p else 0) = if p < i + 1 then hdv T p else 0
          by_cases hp : p = i
          · subst hp
            rw [if_pos rfl, if_neg (by omega), if_pos (by omega)]
            unfold hdv
            rw [if_pos hhi, Rat.intCast_natCast]
            show 0 + (1 : Rat) / _ = 1 / _
            grind
          · rw [if_neg hp]
            by_cases hq : p < i
            · rw [if_pos hq, if_pos (by omega)]
            · rw [if_neg hq, if_neg (by omega)]) c1)
        exact ⟨s2, e2, c2, fun c h1 h2 => by rw [f2 c h1 h2, f1 c h1 h2]⟩
      · rw [if_pos (by rw [h2, if_neg a2])]
        rw [Bool.not_eq_true] at a2
        rw [a2, Bool.and_false] at hd2
        exact hskip hd2.symm
    · rw [if_pos (by rw [h1, if_neg a1])]
      rw [Bool.not_eq_true] at a1
      rw [a1, Bool.false_and] at hd2
      exact hskip hd2.symm
/-- how many living children -/
theorem g165 (H : KH T ps) {σ : gb_S} (h3 : σ 187 3 = (kn T : Int)) (hk : KR σ T) (hl : rb σ 214 (kn T) (lv T)) {q : Nat} (hq : q < kn T) : fx_165 (q : Int) σ = some (.inl ((cc T q : Nat) : Int), σ) := by
  have hn := H.1
  have key : ∀ (m k : Nat), m ≤ kn T → m < k → fx_165_4 k (q : Int) ((ct (fun k => kp T q k && lv T k) (kn T - m) : Nat) : Int) ((kn T - m : Nat) : Int) σ = some (.inl ((cc T q : Nat) : Int), σ) := by
    intro m
    induction m with
    | zero =>
      intro k _ hk1
      obtain ⟨k, rfl⟩ : ∃ q, k = q + 1 := ⟨k - 1, by omega⟩
      rw [fx_165_4, gq_R (by omega) (by omega), gq_R (by omega) (by omega), if_neg (by omega), Nat.sub_zero]
      rfl
    | succ m ih =>
      intro k hm hk1
      obtain ⟨k, rfl⟩ : ∃ q, k = q + 1 := ⟨k - 1, by omega⟩
      generalize hi : kn T - (m + 1) = i
      have hi2 : kn T - m = i + 1 := by omega
      rw [hi2] at ih
      have h2 := hl i (by omega)
      have hR2 : -2147483648 ≤ σ 214 i ∧ σ 214 i ≤ 2147483647 := by rw [h2]; exact bR _
      have ihk := ih k (by omega) (by omega)
      have hct : ct (fun k => kp T q k && lv T k) (i + 1) = ct (fun k => kp T q k && lv T k) i + (if (kp T q i && lv T i) = true then 1 else 0) := rfl
      rw [hct] at ihk
      rw [fx_165_4, gq_R (by omega) (by omega), gq_R (by omega) (by omega), if_pos (by omega), g144 hn hk hq (by omega), gc_v, gq_R (bR _).1 (bR _).2, show ((i : Nat) : Int) + 1 = ((i + 1 : Nat) : Int) by omega]
      by_cases a1 : kp T q i = true
      · rw [if_pos a1, if_neg (by decide), gq_ix (by omega) (by omega), Int.toNat_natCast, gq_R hR2.1 hR2.2]
        by_cases a2 : lv T i = true
        · rw [if_neg (by rw [h2, if_pos a2]; decide)]
          rw [a1, a2] at ihk
          exact ihk
        · rw [if_pos (by rw [h2, if_neg a2])]
          rw [Bool.not_eq_true] at a2
          rw [a1, a2] at ihk
          exact ihk
      · rw [if_neg a1, if_pos rfl]
        rw [Bool.not_eq_true] at a1
        rw [a1] at ihk
        exact ihk
  have := key (kn T) gFU (Nat.le_refl _) (by unfold gFU; omega)
  rw [Nat.sub_self] at this
  exact this
theorem zz_b (H : KH T ps) {i p : Nat} (hi : i ≤ kn T) : 0 ≤ zz T ps i p ∧ zz T ps i p ≤ 1 ∧ (zz T ps i p).den ≤ 400000 := by
  unfold zz
  split
  · exact ⟨by decide, by decide, by decide⟩
  · exact cur_b H hi
/-- a dead person's part goes on to its children, and is gone there -/
theorem g167_39 (H : KH T ps) {i : Nat} (hi : i < kn T) (hcc : 0 < cc T (kr T i)) (ha : ka T (kr T i) = false) : ∀ (m k : Nat) (σ : gb_S), m ≤ kn T → m < k → σ 187 3 = (kn T : Int) → KR σ T → rb σ 214 (kn T) (lv T) → cr σ (kn T) (fun p => if p = kr T i then 0 else if p < kn T - m then zz T ps (i + 1) p else zz T ps i p) →
    ∃ σ', fx_167_39 k ((kr T i : Nat) : Int) (KK T (kr T i)).num (((KK T (kr T i)).den * cc T (kr T i) : Nat) : Int) ((kn T - m : Nat) : Int) σ = some (.inl 0, σ') ∧ cr σ' (kn T) (zz T ps (i + 1)) ∧ ∀ c, c ≠ 218 → c ≠ 219 → σ' c = σ c := by
  have hn := H.1
  have hq := H.2.2.1 i hi
  have hzself : zz T ps (i + 1) (kr T i) = 0 := by
    unfold zz
    rw [hq.2, ha, decide_eq_true (by omega)]
    rfl
  have hzst : ∀ p, p < kn T → p ≠ kr T i → zz T ps (i + 1) p = zz T ps i p + tm T i p := fun p hp hne => by
    rw [zz_step H hi hp, if_neg hne]; grind
  intro m
  induction m with
  | zero =>
    intro k σ _ hk h3 hkr hl hcm
    obtain ⟨k, rfl⟩ : ∃ q, k = q + 1 := ⟨k - 1, by omega⟩
    refine ⟨σ, ?_, cr_ext (fun p hp => ?_) hcm, fun _ _ _ => rfl⟩
    · rw [fx_167_39, gq_R (by omega) (by omega), gq_R (by omega) (by omega), if_neg (by omega)]
    · by_cases hpq : p = kr T i
      · rw [if_pos hpq, hpq, hzself]
      · rw [if_neg hpq, if_pos (by omega)]
  | succ m ih =>
    intro k σ hm hk h3 hkr hl hcm
    obtain ⟨k, rfl⟩ : ∃ q, k = q + 1 := ⟨k - 1, by omega⟩
    generalize hj : kn T - (m + 1) = j
    rw [hj] at hcm
    have hj2 : kn T - m = j + 1 := by omega
    rw [hj2] at ih
    have hjn : j < kn T := by omega
    have h2 := hl j hjn
    have hR2 : -2147483648 ≤ σ 214 j ∧ σ 214 j ≤ 2147483647 := by rw [h2]; exact bR _
    have hskip : tm T i j = 0 → ∃ σ', fx_167_39 k ((kr T i : Nat) : Int) (KK T (kr T i)).num (((KK T (kr T i)).den * cc T (kr T i) : Nat) : Int) ((j + 1 : Nat) : Int) σ = some (.inl 0, σ') ∧ cr σ' (kn T) (zz T ps (i + 1)) ∧ ∀ c, c ≠ 218 → c ≠ 219 → σ' c = σ c := by
      intro h
      refine ih k σ (by omega) (by omega) h3 hkr hl (cr_ext (fun p hp => ?_) hcm)
      by_cases hpq : p = kr T i
      · rw [if_pos hpq, if_pos hpq]
      · rw [if_neg hpq, if_neg hpq]
        by_cases hpj : p = j
        · subst hpj
          rw [if_neg (by omega), if_pos (by omega), hzst p hp hpq, h]
          grind
        · by_cases hlt : p < j
          · rw [if_pos hlt, if_pos (by omega)]
          · rw [if_neg hlt, if_neg (by omega)]
    rw [fx_167_39, gq_R (by omega) (by omega), gq_R (by omega) (by omega), if_pos (by omega), g144 hn hkr hq.1 hjn, gc_v, gq_R (bR _).1 (bR _).2, show ((j : Nat) : Int) + 1 = ((j + 1 : Nat) : Int) by omega]
    by_cases a1 : kp T (kr T i) j = true
    · rw [if_pos a1, if_neg (by decide), gq_ix (by omega) (by omega), Int.toNat_natCast, gq_R hR2.1 hR2.2]
      by_cases a2 : lv T j = true
      · rw [if_neg (by rw [h2, if_pos a2]; decide)]
        have hne : j ≠ kr T i := fun h => by
          have := H.2.2.2.2.1 _ _ a1
          rw [h] at this; omega
        have hKb := cur_b H (i := kn T) (p := kr T i) (Nat.le_refl _)
        rw [← KK_eq H hq.1] at hKb
        have hnd := num_le_den hKb.2.1
        have hn0 : 0 ≤ (KK T (kr T i)).num := Rat.num_nonneg.mpr hKb.1
        have hd0 := (KK T (kr T i)).den_pos
        have hcl : cc T (kr T i) ≤ 14 := Nat.le_trans (ct_le _ _) hn
        have hY2 : (KK T (kr T i)).den * cc T (kr T i) ≤ 400000 * 14 := Nat.mul_le_mul hKb.2.2 hcl
        have hY1 : (KK T (kr T i)).den * 1 ≤ (KK T (kr T i)).den * cc T (kr T i) := Nat.mul_le_mul_left _ hcc
        have hxj : (if j = kr T i then (0 : Rat) else if j < j then zz T ps (i + 1) j else zz T ps i j) = zz T ps i j := by rw [if_neg hne, if_neg (by omega)]
        have hzb := zz_b H (i := i) (p := j) (by omega)
        obtain ⟨s1, e1, c1, f1⟩ := addR (σ := σ) (p := j) (X := (KK T (kr T i)).num) (Y := (KK T (kr T i)).den * cc T (kr T i)) hn hjn hcm (by simp only [hxj]; exact hzb.1) (by simp only [hxj]; exact hzb.2.1) (by simp only [hxj]; omega) hn0 (by omega) (by omega) (by omega)
        rw [e1, gc_v]
        obtain ⟨s2, e2, c2, f2⟩ := ih k s1 (by omega) (by omega) (by rw [f1 187 (by omega) (by omega)]; exact h3) (by unfold KR; rw [f1 212 (by omega) (by omega), f1 213 (by omega) (by omega)]; exact hkr) (by unfold rb; rw [f1 214 (by omega) (by omega)]; exact hl) (cr_ext (fun p hp => by
          show (if p = j then (if j = kr T i then (0 : Rat) else if j < j then zz T ps (i + 1) j else zz T ps i j) + _ else if p = kr T i then 0 else if p < j then zz T ps (i + 1) p else zz T ps i p) = if p = kr T i then 0 else if p < j + 1 then zz T ps (i + 1) p else zz T ps i p
          by_cases hpj : p = j
          · subst hpj
            rw [if_pos rfl, hxj, if_neg hne, if_pos (by omega), hzst p hp hne, rat_nd]
            congr 1
            unfold tm
            rw [a1, ha, a2]
            rfl
          · rw [if_neg hpj]
            by_cases hpq : p = kr T i
            · rw [if_pos hpq, if_pos hpq]
            · rw [if_neg hpq, if_neg hpq]
              by_cases hlt : p < j
              · rw [if_pos hlt, if_pos (by omega)]
              · rw [if_neg hlt, if_neg (by omega)]) c1)
        exact ⟨s2, e2, c2, fun c h1 h2 => by rw [f2 c h1 h2, f1 c h1 h2]⟩
      · rw [if_pos (by rw [h2, if_neg a2])]
        rw [Bool.not_eq_true] at a2
        exact hskip (by unfold tm; rw [a2]; simp)
    · rw [if_neg a1, if_pos rfl]
      rw [Bool.not_eq_true] at a1
      exact hskip (by unfold tm; rw [a1]; simp)
theorem g167 (H : KH T ps) {σ : gb_S} {i : Nat} (hi : i < kn T) (hcc : 0 < cc T (kr T i)) (ha : ka T (kr T i) = false) (h3 : σ 187 3 = (kn T : Int)) (hkr : KR σ T) (hl : rb σ 214 (kn T) (lv T)) (hcm : cr σ (kn T) (zz T ps i)) :
    ∃ σ', fx_167 ((kr T i : Nat) : Int) σ = some (.inl 0, σ') ∧ cr σ' (kn T) (zz T ps (i + 1)) ∧ ∀ c, c ≠ 218 → c ≠ 219 → σ' c = σ c := by
  have hn := H.1
  have hq := H.2.2.1 i hi
  have hzK : zz T ps i (kr T i) = KK T (kr T i) := by
    unfold zz
    rw [hq.2, decide_eq_false (by omega), Bool.false_and, if_neg (by decide)]
    exact (KK_cur H hq.1 (by omega) (by omega)).symm
  have hcl : cc T (kr T i) ≤ 14 := Nat.le_trans (ct_le _ _) hn
  generalize hs1 : gb_up (gb_up σ 218 (kr T i) 0) 219 (kr T i) 1 = s1
  have f1 : ∀ c, c ≠ 218 → c ≠ 219 → s1 c = σ c := fun c h1 h2 => by rw [← hs1, up_ne _ _ _ _ h2, up_ne _ _ _ _ h1]
  obtain ⟨s2, e2, c2, f2⟩ := g167_39 H hi hcc ha (kn T) gFU s1 (Nat.le_refl _) (by unfold gFU; omega) (by rw [f1 187 (by omega) (by omega)]; exact h3) (by unfold KR; rw [f1 212 (by omega) (by omega), f1 213 (by omega) (by omega)]; exact hkr) (by unfold rb; rw [f1 214 (by omega) (by omega)]; exact hl) (fun p hp => by
    dsimp only
    rw [← hs1]
    by_cases hpq : p = kr T i
    · subst hpq
      rw [if_pos rfl, up_ne _ _ _ _ (by omega), up_eq, up_eq]
      exact ⟨rfl, rfl⟩
    · rw [if_neg hpq, if_neg (by omega), up_ne _ _ _ _ (by omega), up_nj _ _ _ _ hpq, up_nj _ _ _ _ hpq, up_ne _ _ _ _ (by omega)]
      exact hcm p hp)
  rw [Nat.sub_self] at e2
  refine ⟨s2, ?_, c2, fun c h1 h2 => by rw [f2 c h1 h2, f1 c h1 h2]⟩
  unfold fx_167
  rw [gq_ix (by omega) (by omega), g165 H h3 hkr hl hq.1, gc_v, gq_R (by omega) (by omega), Int.toNat_natCast, hs1, (hcm _ hq.1).1, (hcm _ hq.1).2, hzK, ← Int.natCast_mul]
  exact e2
theorem g166_124 (H : KH T ps) : ∀ (m k : Nat) (σ : gb_S), m ≤ kn T → m < k → RF σ T w → rb σ 214 (kn T) (lv T) → cr σ (kn T) (zz T ps (kn T - m)) →
    ∃ σ', fx_166_124 k ((kx T : Nat) : Int) ((hc T : Nat) : Int) ((kn T - m : Nat) : Int) σ = some (.inl (if 0 < hc T then 1 else 0), σ') ∧ cr σ' (kn T) (zz T ps (kn T)) ∧ ∀ c, c ≠ 218 → c ≠ 219 → σ' c = σ c := by
  have hn := H.1
  have hx := H.2.1
  have hcle2 : hc T ≤ 14 := Nat.le_trans (ct_le (hd T) (kn T)) hn
  intro m
  induction m with
  | zero =>
    intro k σ _ hk hf hl hcm
    obtain ⟨k, rfl⟩ : ∃ q, k = q + 1 := ⟨k - 1, by omega⟩
    have h3 := hf.1
    refine ⟨σ, ?_, hcm, fun _ _ _ => rfl⟩
    rw [fx_166_124, gq_R (by omega) (by omega), gq_R (by omega) (by omega), if_neg (by omega), gq_R (by omega) (by omega)]
    by_cases hh : 0 < hc T
    · rw [if_pos (by omega), if_pos hh]
    · rw [if_neg (by omega), if_neg hh]
  | succ m ih =>
    intro k σ hm hk hf hl hcm
    obtain ⟨k, rfl⟩ : ∃ q, k = q + 1 := ⟨k - 1, by omega⟩
    have h3 := hf.1
    generalize hi : kn T - (m + 1) = i
    rw [hi] at hcm
    have hi2 : kn T - m = i + 1 := by omega
    rw [hi2] at ih
    have hin : i < kn T := by omega
    have hq := H.2.2.1 i hin
    have hrow := hf.2.1 i hin
    have hzK : zz T ps i (kr T i) = KK T (kr T i) := by
      unfold zz
      rw [hq.2, decide_eq_false (by omega), Bool.false_and, if_neg (by decide)]
      exact (KK_cur H hq.1 (by omega) (by omega)).symm
    have hKb := cur_b H (i := kn T) (p := kr T i) (Nat.le_refl _)
    rw [← KK_eq H hq.1] at hKb
    have hnd := num_le_den hKb.2.1
    have hn0 : 0 ≤ (KK T (kr T i)).num := Rat.num_nonneg.mpr hKb.1
    have hskip : (∀ p, p < kn T → zz T ps (i + 1) p = zz T ps i p) → ∃ σ', fx_166_124 k ((kx T : Nat) : Int) ((hc T : Nat) : Int) ((i + 1 : Nat) : Int) σ = some (.inl (if 0 < hc T then 1 else 0), σ') ∧ cr σ' (kn T) (zz T ps (kn T)) ∧ ∀ c, c ≠ 218 → c ≠ 219 → σ' c = σ c := fun h => ih k σ (by omega) (by omega) hf hl (cr_ext (fun p hp => (h p hp).symm) hcm)
    have hztm : (tm T i = fun _ => 0) → (ka T (kr T i) = true ∨ KK T (kr T i) = 0) → ∀ p, p < kn T → zz T ps (i + 1) p = zz T ps i p := by
      intro h1 h2 p hp
      rw [zz_step H hin hp, h1]
      have : (if p = kr T i then (if ka T (kr T i) = true then (0 : Rat) else KK T (kr T i)) else 0) = 0 := by
        split
        · split
          · rfl
          · next hh => exact h2.resolve_left hh
        · rfl
      rw [this]
      grind
    rw [fx_166_124, gq_R (by omega) (by omega), gq_R (by omega) (by omega), if_pos (by omega), gq_ix (by omega) (by omega), Int.toNat_natCast, hrow, gq_ix (by omega) (by omega), Int.toNat_natCast, (hcm _ hq.1).1, hzK, gq_L (by omega) (by omega), show ((i : Nat) : Int) + 1 = ((i + 1 : Nat) : Int) by omega]
    by_cases hz : 0 < (KK T (kr T i)).num
    · rw [if_pos hz, g158 hn hx hf hq.1, gc_v, gq_R (bR _).1 (bR _).2]
      by_cases ha : ka T (kr T i) = true
      · rw [if_pos ha, if_neg (by decide)]
        exact hskip (hztm (funext fun p => by unfold tm; rw [ha]; simp) (Or.inl ha))
      · rw [if_neg ha, if_pos rfl]
        rw [Bool.not_eq_true] at ha
        have hcc : 0 < cc T (kr T i) := by
          refine Nat.pos_of_ne_zero (fun h => ?_)
          have h0 := KK_cc H hq.1 ha h
          rw [h0] at hz
          exact absurd hz (by decide)
        obtain ⟨s1, e1, c1, f1⟩ := g167 H hin hcc ha h3 hf.2.2.2.2.2.2.2 hl hcm
        rw [e1, gc_v]
        obtain ⟨s2, e2, c2, f2⟩ := ih k s1 (by omega) (by omega) (RF_214 (fun c hc => f1 c (by omega) (by omega)) hf) (by unfold rb; rw [f1 214 (by omega) (by omega)]; exact hl) c1
        exact ⟨s2, e2, c2, fun c h1 h2 => by rw [f2 c h1 h2, f1 c h1 h2]⟩
    · rw [if_neg hz]
      have h0 : KK T (kr T i) = 0 := Rat.num_eq_zero.mp (by omega)
      refine hskip (hztm (funext fun p => ?_) (Or.inr h0))
      unfold tm
      rw [h0]
      split
      · rw [Rat.div_def, Rat.zero_mul]
      · rfl
theorem g166_7 : ∀ (m k : Nat) (σ : gb_S), kn T ≤ 14 → m ≤ kn T → m < k → kx T < kn T → σ 187 3 = (kn T : Int) → (∀ p, p < kn T - m → σ 215 p = if (p == kx T) = true then 1 else 0) → (∀ p, p < kn T - m → σ 218 p = 0 ∧ σ 219 p = 1) →
    ∃ σ', fx_166_7 k ((kx T : Nat) : Int) ((kn T - m : Nat) : Int) σ = fx_166_53 gFU ((kx T : Nat) : Int) 0 σ' ∧ rb σ' 215 (kn T) (fun p => p == kx T) ∧ cr σ' (kn T) (fun _ => 0) ∧ ∀ c, c ≠ 215 → c ≠ 218 → c ≠ 219 → σ' c = σ c := by
  intro m
  induction m with
  | zero =>
    intro k σ hn _ hk hx h3 hb hc
    obtain ⟨k, rfl⟩ : ∃ q, k = q + 1 := ⟨k - 1, by omega⟩
    refine ⟨σ, ?_, fun p hp => hb p (by omega), fun p hp => hc p (by omega), fun _ _ _ _ => rfl⟩
    rw [fx_166_7, gq_R (by omega) (by omega), gq_R (by omega) (by omega), if_neg (by omega)]
  | succ m ih =>
    intro k σ hn hm hk hx h3 hb hc
    obtain ⟨k, rfl⟩ : ∃ q, k = q + 1 := ⟨k - 1, by omega⟩
    generalize hi : kn T - (m + 1) = i
    rw [hi] at hb hc
    have hi2 : kn T - m = i + 1 := by omega
    rw [hi2] at ih
    have hstep : ∀ y : Int, (y = if (i == kx T) = true then 1 else 0) → ∃ σ', fx_166_7 k ((kx T : Nat) : Int) ((i : Int) + 1) (gb_up (gb_up (gb_up σ 215 i y) 218 i 0) 219 i 1) = fx_166_53 gFU ((kx T : Nat) : Int) 0 σ' ∧ rb σ' 215 (kn T) (fun p => p == kx T) ∧ cr σ' (kn T) (fun _ => 0) ∧ ∀ c, c ≠ 215 → c ≠ 218 → c ≠ 219 → σ' c = σ c := by
      intro y hy
      rw [show ((i : Nat) : Int) + 1 = ((i + 1 : Nat) : Int) by omega]
      generalize hs1 : gb_up (gb_up (gb_up σ 215 i y) 218 i 0) 219 i 1 = s1
      have f1 : ∀ c, c ≠ 215 → c ≠ 218 → c ≠ 219 → s1 c = σ c := fun c h1 h2 h3 => by rw [← hs1, up_ne _ _ _ _ h3, up_ne _ _ _ _ h2, up_ne _ _ _ _ h1]
      obtain ⟨s2, e2, b2, c2, f2⟩ := ih k s1 hn (by omega) (by omega) hx (by rw [f1 187 (by omega) (by omega) (by omega)]; exact h3) (fun p hp => by
        rw [← hs1, up_ne _ _ _ _ (by omega), up_ne _ _ _ _ (by omega)]
        by_cases hpi : p = i
        · subst hpi; rw [up_eq]; exact hy
        · rw [up_nj _ _ _ _ hpi]; exact hb p (by omega)) (fun p hp => by
        rw [← hs1, up_ne _ _ _ _ (by omega : (218 : Nat) ≠ 219)]
        by_cases hpi : p = i
        · subst hpi; rw [up_eq, up_eq]; exact ⟨rfl, rfl⟩
        · simp only [up_nj _ _ _ _ hpi]; exact hc p (by omega))
      exact ⟨s2, e2, b2, c2, fun c h1 h2 h3 => by rw [f2 c h1 h2 h3, f1 c h1 h2 h3]⟩
    rw [fx_166_7, gq_R (by omega) (by omega), gq_R (by omega) (by omega), if_pos (by omega), gq_R (by omega) (by omega)]
    unfold fx_166_30
    by_cases hix : (i : Int) = ((kx T : Nat) : Int)
    · rw [if_pos hix, gq_ix (by omega) (by omega), gq_B (Or.inr rfl), gq_ix (by omega) (by omega), Int.toNat_natCast]
      exact hstep 1 (by rw [show (i == kx T) = true from beq_iff_eq.mpr (by omega)]; rfl)
    · rw [if_neg hix, gq_ix (by omega) (by omega), gq_B (Or.inl rfl), gq_ix (by omega) (by omega), Int.toNat_natCast]
      exact hstep 0 (by rw [show (i == kx T) = false from beq_eq_false_iff_ne.mpr (by omega)]; rfl)
/-- sharesByKin, behind findsKin -/
theorem g166 (H : KH T ps) {σ s0 : gb_S} (h0 : fx_143 σ = some (.inl 0, s0)) (hf : RF s0 T w) : ∃ σ', fx_166 ((kx T : Nat) : Int) σ = some (.inl (if 0 < hc T then 1 else 0), σ') ∧ rb σ' 214 (kn T) (lv T) ∧ cr σ' (kn T) (zz T ps (kn T)) ∧ ∀ c, c ≠ 214 → c ≠ 215 → c ≠ 218 → c ≠ 219 → σ' c = s0 c := by
  have hn := H.1
  have hx := H.2.1
  obtain ⟨s1, e1, b1, f1⟩ := g160 H h0 hf
  obtain ⟨s2, e2, b2, c2, f2⟩ := g166_7 (T := T) (kn T) gFU s1 hn (Nat.le_refl _) (by unfold gFU; omega) hx (by rw [f1 187 (by omega)]; exact hf.1) (fun p hp => by omega) (fun p hp => by omega)
  have F2 : ∀ c, c ≠ 214 → c ≠ 215 → c ≠ 218 → c ≠ 219 → s2 c = s0 c := fun c h1 h2 h3 h4 => by rw [f2 c h2 h3 h4, f1 c h1]
  have hf2 : RF s2 T w := RF_214 (fun c hc => F2 c (by omega) (by omega) (by omega) (by omega)) hf
  have hl2 : rb s2 214 (kn T) (lv T) := by unfold rb; rw [f2 214 (by omega) (by omega) (by omega)]; exact b1
  obtain ⟨s3, hF, e3, b3, hhd, f3⟩ := g166_53 H hf2 hl2 b2
  have hl3 : rb s3 214 (kn T) (lv T) := by unfold rb; rw [f3 214 (by omega)]; exact hl2
  obtain ⟨s4, e4, c4, f4⟩ := g166_82 H hhd (kn T) gFU s3 (Nat.le_refl _) (by unfold gFU; omega) (by rw [f3 187 (by omega)]; exact hf2.1) hl3 b3 (cr_ext (fun p _ => by rw [if_neg (by omega)]) (cr_cong (f3 218 (by omega)) (f3 219 (by omega)) c2))
  have hf4 : RF s4 T w := RF_214 (fun c hc => by rw [f4 c (by omega) (by omega), f3 c (by omega)]) hf2
  have hl4 : rb s4 214 (kn T) (lv T) := by unfold rb; rw [f4 214 (by omega) (by omega)]; exact hl3
  obtain ⟨s5, e5, c5, f5⟩ := g166_124 (w := w) H (kn T) gFU s4 (Nat.le_refl _) (by unfold gFU; omega) hf4 hl4 (cr_ext (fun p _ => by
    rw [Nat.sub_self]
    unfold zz
    rw [decide_eq_false (by omega), Bool.false_and, if_neg (by decide)]
    unfold cur
    rw [su]
    grind) c4)
  refine ⟨s5, ?_, ?_, c5, fun c h1 h2 h3 h4 => by rw [f5 c h3 h4, f4 c h3 h4, f3 c h2, F2 c h1 h2 h3 h4]⟩
  · unfold fx_166
    rw [Nat.sub_self] at e2 e4 e5
    rw [e1, gc_v]
    exact e2.trans (e3.trans (e4.trans e5))
  · unfold rb; rw [f5 214 (by omega) (by omega)]; exact hl4
end RE3
