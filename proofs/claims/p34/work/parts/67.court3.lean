section CO3
variable {σ : gb_S} {T : kT} {ps : Nat → Nat} {a e r : Nat} {w : Nat → Int}
/-- the shares at a are x -/
def cm (σ : gb_S) (a : Nat) (x : Nat → Rat) : Prop := ∀ p, p < 14 → σ (a + 1) p = (x p).num ∧ σ (a + 2) p = ((x p).den : Int)
theorem cm_cong {σ' : gb_S} {x : Nat → Rat} (h1 : σ' (a + 1) = σ (a + 1)) (h2 : σ' (a + 2) = σ (a + 2)) (h : cm σ a x) : cm σ' a x := by
  unfold cm
  rw [h1, h2]
  exact h
theorem cm_ext {x y : Nat → Rat} (hxy : ∀ p, p < 14 → x p = y p) (h : cm σ a x) : cm σ a y := fun p hp => by rw [← hxy p hp]; exact h p hp
theorem addB {p : Nat} {x : Nat → Rat} {X : Int} {Y : Nat} (hp : p < 14) (hc : cm σ a x) (h0 : 0 ≤ x p) (h1 : x p ≤ 1) (h2 : (x p).den ≤ 1048576) (hX : 0 ≤ X) (hXY : X ≤ Y) (hY : 0 < Y) (hY2 : Y ≤ 16777216) :
    ∃ σ', fx_73 a (p : Int) X (Y : Int) σ = some (.inl 0, σ') ∧ cm σ' a (fun q => if q = p then x p + (X : Rat) / ((Y : Int) : Rat) else x q) ∧ ∀ c, c ≠ a + 1 → c ≠ a + 2 → σ' c = σ c := by
  have hn := num_le_den h1
  have hn0 : 0 ≤ (x p).num := Rat.num_nonneg.mpr h0
  have hd0 := (x p).den_pos
  have m1 : (x p).num * (Y : Int) ≤ 1048576 * 16777216 := Int.mul_le_mul (by omega) (by omega) (by omega) (by omega)
  have m2 : X * ((x p).den : Int) ≤ 16777216 * 1048576 := Int.mul_le_mul (by omega) (by omega) (by omega) (by omega)
  have m3 : ((x p).den : Int) * (Y : Int) ≤ 1048576 * 16777216 := Int.mul_le_mul (by omega) (by omega) (by omega) (by omega)
  have e := add73 (σ := σ) (a := a) (p := p) (q := x p) (x := X) (y := Y) hp (hc p hp).1 (hc p hp).2 h0 hX hY (by omega) (by omega)
  refine ⟨_, e, ?_, fun c c1 c2 => by rw [up_ne _ _ _ _ c2, up_ne _ _ _ _ c1]⟩
  intro q hq
  by_cases hqp : q = p
  · subst hqp
    simp only [if_true]
    exact ⟨by rw [up_ne _ _ _ _ (by omega), up_eq], up_eq _ _ _ _⟩
  · simp only [if_neg hqp]
    rw [up_ne _ _ _ _ (by omega), up_nj _ _ _ _ hqp, up_nj _ _ _ _ hqp, up_ne _ _ _ _ (by omega)]
    exact hc q hq
theorem ct_ext {b : Nat → Bool} {n m : Nat} (h : n ≤ m) : ct (fun p => decide (p < n) && b p) m = ct b n := by
  induction m with
  | zero => rw [show n = 0 by omega]; rfl
  | succ m ih =>
    by_cases hq : n = m + 1
    · subst hq
      exact ct_congr (fun i hi => by rw [decide_eq_true hi]; rfl)
    · rw [ct, ih (by omega), decide_eq_false (by omega)]; rfl
theorem hdv_big (H : KH T ps) {p : Nat} (hp : kn T ≤ p) : hdv T p = 0 := by
  unfold hdv
  rw [if_neg (fun q => by have := hd_lt H q; omega)]
theorem tm_big (H : KH T ps) {j p : Nat} (hp : kn T ≤ p) : tm T j p = 0 := by
  unfold tm
  rw [if_neg]
  intro h
  rw [Bool.and_eq_true] at h
  have := H.2.2.2.2.1 _ _ h.1
  omega
theorem cur_big (H : KH T ps) {i p : Nat} (hp : kn T ≤ p) : cur T i p = 0 := by
  unfold cur
  rw [hdv_big H hp, su_zero (fun j _ => tm_big H hp)]
  grind
theorem hdv_no {p : Nat} (h : hd T p = false) : hdv T p = 0 := by
  unfold hdv
  rw [h]
  rfl
theorem cur_none (H : KH T ps) (hh : hc T = 0) {i p : Nat} (hi : i ≤ kn T) (hp : p < kn T) : cur T i p = 0 := by
  unfold cur
  have h1 : hd T p = false := by
    cases h : hd T p with
    | false => rfl
    | true => have := (ct_pos (b := hd T)).mpr ⟨p, hp, h⟩; unfold hc at hh; omega
  rw [hdv_no h1, su_zero]
  · grind
  · intro j hj
    unfold tm
    rw [KK_none H hh (H.2.2.1 j (by omega)).1]
    split
    · rw [Rat.div_def, Rat.zero_mul]
    · rfl
theorem cur_b (H : KH T ps) {i p : Nat} (hi : i ≤ kn T) : 0 ≤ cur T i p ∧ cur T i p ≤ 1 ∧ (cur T i p).den ≤ 400000 := by
  refine ⟨cur_nonneg i p, ?_⟩
  by_cases hp : p < kn T
  · by_cases hh : 0 < hc T
    · refine ⟨cur_le H hh hi hp, ?_⟩
      exact Nat.le_trans (iq_den (Dn_pos hh _) (iq_up (iq_cur H hh hi p hp) hi)) (Dn_le H)
    · rw [cur_none H (by omega) hi hp]
      exact ⟨by decide, by decide⟩
  · rw [cur_big H (by omega)]
    exact ⟨by decide, by decide⟩
theorem rat_nd (x : Rat) (c : Nat) : (x.num : Rat) / (((x.den * c : Nat) : Int) : Rat) = x / (c : Rat) := by
  have h : x = (x.num : Rat) / (x.den : Rat) := by rw [← Rat.mkRat_eq_div, Rat.mkRat_self]
  have h2 : (x.den : Rat) ≠ 0 := fun q => x.den_nz (Rat.natCast_eq_zero_iff.mp q)
  rw [Rat.intCast_natCast, Rat.natCast_mul]
  generalize (x.den : Rat) = d at h h2 ⊢
  rw [Rat.div_def, Rat.div_def, Rat.inv_mul_rev, h, Rat.div_def]
  grind
/-- a head is added -/
theorem g6 (H : KH T ps) (hs : CS σ T) {i : Nat} (hi : i < 14) (hcm : cm σ 27 (fun p => if p < i then hdv T p else 0)) : ∃ σ', fx_6 (i : Int) σ = some (.inl 0, σ') ∧ cm σ' 27 (fun p => if p < i + 1 then hdv T p else 0) ∧ ∀ c, c ≠ 28 → c ≠ 29 → σ' c = σ c := by
  obtain ⟨s1, s2, s3, s4, s5⟩ := hs
  have hn := H.1
  unfold fx_6
  rw [isIn_in _ hi, gc_v, s3 i]
  by_cases hb : (decide (i < kn T) && hd T i) = true
  · rw [if_pos hb, gq_R (by omega) (by omega), if_neg (by omega)]
    rw [Bool.and_eq_true, decide_eq_true_eq] at hb
    have hz := bt_14 s5 (fun p h1 h2 => by rw [s3 p, decide_eq_false (by omega)]; rfl)
    have hct : ct (bt (σ 26 3)) 14 = hc T := by
      unfold hc
      rw [← ct_ext (b := hd T) (n := kn T) (m := 14) hn]
      exact ct_congr (fun p _ => s3 p)
    have hpos : 0 < hc T := (ct_pos (b := hd T)).mpr ⟨i, hb.1, hb.2⟩
    have hle : hc T ≤ 14 := Nat.le_trans (ct_le _ _) hn
    rw [bitc hz, gc_v, hct, gq_R (by omega) (by omega)]
    obtain ⟨σ', e1, e2, e3⟩ := addB (σ := σ) (a := 27) (p := i) (X := 1) (Y := hc T) hi hcm (by simp) (by simp; decide) (by simp) (by omega) (by omega) hpos (by omega)
    refine ⟨σ', by rw [e1]; rfl, cm_ext (fun p _ => ?_) e2, e3⟩
    show (if p = i then (if i < i then hdv T i else 0) + ((1 : Int) : Rat) / ((hc T : Int) : Rat) else if p < i then hdv T p else 0) = if p < i + 1 then hdv T p else 0
    by_cases hp : p = i
    · subst hp
      rw [if_pos rfl, if_neg (by omega), if_pos (by omega)]
      unfold hdv
      rw [if_pos hb.2, Rat.intCast_natCast]
      show 0 + (1 : Rat) / _ = 1 / _
      grind
    · rw [if_neg hp]
      by_cases hq : p < i
      · rw [if_pos hq, if_pos (by omega)]
      · rw [if_neg hq, if_neg (by omega)]
  · rw [if_neg hb, gq_R (by omega) (by omega), if_pos rfl]
    refine ⟨σ, rfl, cm_ext (fun p _ => ?_) hcm, fun _ _ _ => rfl⟩
    show (if p < i then hdv T p else 0) = if p < i + 1 then hdv T p else 0
    by_cases hp : p = i
    · subst hp
      rw [if_neg (by omega), if_pos (by omega)]
      by_cases hpn : p < kn T
      · rw [decide_eq_true hpn, Bool.true_and, Bool.not_eq_true] at hb
        exact (hdv_no hb).symm
      · exact (hdv_big H (by omega)).symm
    · by_cases hq : p < i
      · rw [if_pos hq, if_pos (by omega)]
      · rw [if_neg hq, if_neg (by omega)]
theorem CS_cong {σ' : gb_S} (h : σ' 26 = σ 26) (hs : CS σ T) : CS σ' T := by
  unfold CS
  rw [h]
  exact hs
theorem g1_17 (H : KH T ps) : ∀ (m k : Nat) (σ : gb_S), m ≤ 14 → m < k → CS σ T → cm σ 27 (fun p => if p < 14 - m then hdv T p else 0) → ∃ σ', fx_1_17 k a e r ((14 - m : Nat) : Int) σ = fx_1_39 gFU a e r 0 σ' ∧ cm σ' 27 (hdv T) ∧ ∀ c, c ≠ 28 → c ≠ 29 → σ' c = σ c := by
  intro m
  induction m with
  | zero =>
    intro k σ _ hk hs hc
    obtain ⟨k, rfl⟩ : ∃ q, k = q + 1 := ⟨k - 1, by omega⟩
    refine ⟨σ, ?_, cm_ext (fun p hp => if_pos (by omega)) hc, fun _ _ _ => rfl⟩
    rw [fx_1_17, gq_R (by omega) (by omega), if_neg (by omega)]
  | succ m ih =>
    intro k σ hm hk hs hc
    obtain ⟨k, rfl⟩ : ∃ q, k = q + 1 := ⟨k - 1, by omega⟩
    obtain ⟨s1, e1, c1, f1⟩ := g6 (i := 14 - (m + 1)) H hs (by omega) hc
    rw [fx_1_17, gq_R (by omega) (by omega), if_pos (by omega), e1, gc_v]
    rw [show 14 - (m + 1) + 1 = 14 - m by omega] at c1
    obtain ⟨s2, e2, c2, f2⟩ := ih k s1 (by omega) (by omega) (CS_cong (f1 _ (by omega) (by omega)) hs) c1
    refine ⟨s2, ?_, c2, fun c h1 h2 => by rw [f2 c h1 h2, f1 c h1 h2]⟩
    rw [show ((14 - (m + 1) : Nat) : Int) + 1 = ((14 - m : Nat) : Int) by omega]
    exact e2
/-- what comes to a dead person goes on to its children -/
theorem g2_30 (H : KH T ps) {i : Nat} (hi : i < kn T) (hcc : 0 < cc T (kr T i)) (ha : ka T (kr T i) = false) {ls : Int} (hl : ∀ p, bt ls p = (kp T (kr T i) p && lv T p)) : ∀ (m k : Nat) (σ : gb_S), m ≤ 14 → m < k → cm σ 27 (fun p => if p < 14 - m then cur T (i + 1) p else cur T i p) →
    ∃ σ', fx_2_30 k ((kr T i : Nat) : Int) ls (((cur T i (kr T i)).den * cc T (kr T i) : Nat) : Int) ((14 - m : Nat) : Int) σ = some (.inl 0, σ') ∧ cm σ' 27 (cur T (i + 1)) ∧ ∀ c, c ≠ 28 → c ≠ 29 → σ' c = σ c := by
  have hn := H.1
  have hq := H.2.2.1 i hi
  have hself : cur T (i + 1) (kr T i) = cur T i (kr T i) := by unfold cur; rw [su, tm_late H hi (by omega)]; grind
  have hKi : KK T (kr T i) = cur T i (kr T i) := KK_cur H hq.1 (by omega) (by omega)
  intro m
  induction m with
  | zero =>
    intro k σ _ hk hc
    obtain ⟨k, rfl⟩ : ∃ q, k = q + 1 := ⟨k - 1, by omega⟩
    refine ⟨σ, ?_, cm_ext (fun p hp => if_pos (by omega)) hc, fun _ _ _ => rfl⟩
    rw [fx_2_30, gq_R (by omega) (by omega), if_neg (by omega)]
  | succ m ih =>
    intro k σ hm hk hc
    obtain ⟨k, rfl⟩ : ∃ q, k = q + 1 := ⟨k - 1, by omega⟩
    generalize hj : 14 - (m + 1) = j
    rw [hj] at hc
    have hj2 : 14 - m = j + 1 := by omega
    rw [hj2] at ih
    rw [fx_2_30, gq_R (by omega) (by omega), if_pos (by omega), isIn_in _ (by omega), gc_v, hl j]
    rw [show ((j : Nat) : Int) + 1 = ((j + 1 : Nat) : Int) by omega]
    have hstep : cur T (i + 1) j = cur T i j + tm T i j := by unfold cur; rw [su]; grind
    by_cases hb : (kp T (kr T i) j && lv T j) = true
    · rw [if_pos hb, gq_R (by omega) (by omega), if_neg (by omega), g71 (by omega), gc_v]
      rw [(hc (kr T i) (by omega)).1]
      have hx : (if kr T i < j then cur T (i + 1) (kr T i) else cur T i (kr T i)) = cur T i (kr T i) := by rw [hself]; split <;> rfl
      have hbq := cur_b H (i := i) (p := kr T i) (by omega)
      have hbj := cur_b H (i := i) (p := j) (by omega)
      have hxj : (if j < j then cur T (i + 1) j else cur T i j) = cur T i j := if_neg (by omega)
      have hcl : cc T (kr T i) ≤ 14 := Nat.le_trans (ct_le _ _) hn
      have hY : (cur T i (kr T i)).den * cc T (kr T i) ≤ 400000 * 14 := Nat.mul_le_mul hbq.2.2 hcl
      have hY1 : (cur T i (kr T i)).den * 1 ≤ (cur T i (kr T i)).den * cc T (kr T i) := Nat.mul_le_mul_left _ hcc
      have hnd := num_le_den hbq.2.1
      have hn0 : 0 ≤ (cur T i (kr T i)).num := Rat.num_nonneg.mpr hbq.1
      have hd0 := (cur T i (kr T i)).den_pos
      simp only [hx]
      obtain ⟨s1, e1, c1, f1⟩ := addB (σ := σ) (a := 27) (p := j) (X := (cur T i (kr T i)).num) (Y := (cur T i (kr T i)).den * cc T (kr T i)) (by omega) hc (by simp only [hxj]; exact hbj.1) (by simp only [hxj]; exact hbj.2.1) (by simp only [hxj]; omega) hn0 (by omega) (by omega) (by omega)
      rw [e1, gc_v]
      obtain ⟨s2, e2, c2, f2⟩ := ih k s1 (by omega) (by omega) (cm_ext (fun p _ => by
        show (if p = j then (if j < j then cur T (i + 1) j else cur T i j) + _ else if p < j then cur T (i + 1) p else cur T i p) = if p < j + 1 then cur T (i + 1) p else cur T i p
        by_cases hpj : p = j
        · subst hpj
          rw [if_pos rfl, if_neg (by omega), if_pos (by omega), hstep, rat_nd]
          congr 1
          unfold tm
          rw [ha, if_pos (by rw [Bool.not_false, Bool.true_and]; exact hb), hKi]
        · rw [if_neg hpj]
          by_cases hp : p < j
          · rw [if_pos hp, if_pos (by omega)]
          · rw [if_neg hp, if_neg (by omega)]) c1)
      exact ⟨s2, e2, c2, fun c h1 h2 => by rw [f2 c h1 h2, f1 c h1 h2]⟩
    · rw [if_neg hb, gq_R (by omega) (by omega), if_pos rfl]
      refine ih k σ (by omega) (by omega) (cm_ext (fun p _ => ?_) hc)
      show (if p < j then cur T (i + 1) p else cur T i p) = if p < j + 1 then cur T (i + 1) p else cur T i p
      by_cases hpj : p = j
      · subst hpj
        rw [if_neg (by omega), if_pos (by omega), hstep]
        have : tm T i p = 0 := by
          unfold tm
          rw [if_neg]
          intro h
          apply hb
          rw [Bool.and_eq_true, Bool.and_eq_true] at h
          rw [h.1, h.2.2]; rfl
        rw [this]
        grind
      · by_cases hp : p < j
        · rw [if_pos hp, if_pos (by omega)]
        · rw [if_neg hp, if_neg (by omega)]
theorem g2 (H : KH T ps) (hk : KC σ a T) (hs : CS σ T) {i : Nat} (hi : i < kn T) (hcc : 0 < cc T (kr T i)) (ha : ka T (kr T i) = false) (hc : cm σ 27 (cur T i)) : ∃ σ', fx_2 ((kr T i : Nat) : Int) a σ = some (.inl 0, σ') ∧ cm σ' 27 (cur T (i + 1)) ∧ ∀ c, c ≠ 28 → c ≠ 29 → σ' c = σ c := by
  have hn := H.1
  have hq := H.2.2.1 i hi
  have hl : ∀ p, bt (gb_and (σ (a + 3) (kr T i)) (σ 26 2)) p = (kp T (kr T i) p && lv T p) := by
    intro p
    rw [bt_and, hs.2.1 p]
    by_cases hp : p < kn T
    · rw [(hk.2.2 _ hq.1).2 p (by omega), decide_eq_true hp]; rfl
    · rw [decide_eq_false hp]
      cases hkp : kp T (kr T i) p with
      | false => simp
      | true => have := H.2.2.2.2.1 _ _ hkp; omega
  have hz := bt_14 (and_R (σ (a + 3) (kr T i)) (σ 26 2)) (fun p h1 h2 => by
    rw [hl p]
    cases hkp : kp T (kr T i) p with
    | false => rfl
    | true => have := H.2.2.2.2.1 _ _ hkp; omega)
  have hct : ct (bt (gb_and (σ (a + 3) (kr T i)) (σ 26 2))) 14 = cc T (kr T i) := by
    unfold cc
    rw [← ct_ext (b := fun k => kp T (kr T i) k && lv T k) (n := kn T) (m := 14) hn]
    refine ct_congr (fun p _ => ?_)
    rw [hl p]
    by_cases hp : p < kn T
    · rw [decide_eq_true hp]; rfl
    · rw [decide_eq_false hp]
      cases hkp : kp T (kr T i) p with
      | false => rfl
      | true => have := H.2.2.2.2.1 _ _ hkp; omega
  have hcl : cc T (kr T i) ≤ 14 := Nat.le_trans (ct_le _ _) hn
  obtain ⟨s, e1, c1, f1⟩ := g2_30 H hi hcc ha hl 14 gFU σ (Nat.le_refl _) (by unfold gFU; omega) (cm_ext (fun p _ => (if_neg (by omega)).symm) hc)
  refine ⟨s, ?_, c1, f1⟩
  unfold fx_2
  rw [g32 (by omega), gc_v, g72 (by omega), gc_v, bitc hz, gc_v, hct, gq_R (by omega) (by omega), (hc (kr T i) (by omega)).2]
  rw [← Int.natCast_mul]
  exact e1
theorem g1_39 (H : KH T ps) (ha : a = 15 ∨ a = 20) : ∀ (m k : Nat) (σ : gb_S), m ≤ kn T → m < k → KC σ a T → CS σ T → σ 2 3 = (kn T : Int) → (∀ i, i < kn T → σ 5 i = (kr T i : Int)) → cm σ 27 (cur T (kn T - m)) → ∃ σ', fx_1_39 k a e r ((kn T - m : Nat) : Int) σ = gc (fx_10 e r σ') (fun _ s => some (.inl 0, s)) ∧ cm σ' 27 (cur T (kn T)) ∧ ∀ c, c ≠ 28 → c ≠ 29 → σ' c = σ c := by
  have hn := H.1
  intro m
  induction m with
  | zero =>
    intro k σ _ hk hkc hs h1 h2 hc
    obtain ⟨k, rfl⟩ : ∃ q, k = q + 1 := ⟨k - 1, by omega⟩
    refine ⟨σ, ?_, hc, fun _ _ _ => rfl⟩
    rw [fx_1_39, gq_R (by omega) (by omega), gq_R (by omega) (by omega), if_neg (by omega)]
  | succ m ih =>
    intro k σ hm hk hkc hs h1 h2 hc
    obtain ⟨k, rfl⟩ : ∃ q, k = q + 1 := ⟨k - 1, by omega⟩
    generalize hi : kn T - (m + 1) = i
    rw [hi] at hc
    have hi2 : kn T - m = i + 1 := by omega
    rw [hi2] at ih
    have hin : i < kn T := by omega
    have hq := H.2.2.1 i hin
    rw [fx_1_39, gq_R (by omega) (by omega), gq_R (by omega) (by omega), if_pos (by omega), g28 (by omega), gc_v, h2 i hin, isIn_in _ (by omega), gc_v, hs.1 _ hq.1]
    rw [show ((i : Nat) : Int) + 1 = ((i + 1 : Nat) : Int) by omega]
    have hKi : KK T (kr T i) = cur T i (kr T i) := KK_cur H hq.1 (by omega) (by omega)
    by_cases hal : ka T (kr T i) = true
    · rw [if_pos hal, gq_R (by omega) (by omega), if_neg (by omega)]
      refine ih k σ (by omega) (by omega) hkc hs h1 h2 (cm_ext (fun p _ => ?_) hc)
      unfold cur
      rw [su]
      have : tm T i p = 0 := by unfold tm; rw [hal]; simp
      rw [this]
      grind
    · rw [if_neg hal, gq_R (by omega) (by omega), if_pos rfl, g71 (by omega), gc_v, (hc (kr T i) (by omega)).1]
      rw [Bool.not_eq_true] at hal
      have hbq := cur_b H (i := i) (p := kr T i) (by omega)
      have hnd := num_le_den hbq.2.1
      have hn0 : 0 ≤ (cur T i (kr T i)).num := Rat.num_nonneg.mpr hbq.1
      rw [gq_L (by omega) (by omega)]
      by_cases hz : 0 < (cur T i (kr T i)).num
      · rw [if_pos hz]
        have hcc : 0 < cc T (kr T i) := by
          refine Nat.pos_of_ne_zero (fun h => ?_)
          have h0 := KK_cc H hq.1 hal h
          rw [hKi] at h0
          rw [h0] at hz
          exact absurd hz (by decide)
        obtain ⟨s1, e1, c1, f1⟩ := g2 H hkc hs hin hcc hal hc
        rw [e1, gc_v]
        obtain ⟨s2, e2, c2, f2⟩ := ih k s1 (by omega) (by omega) (KC_cong (f1 _ (by omega) (by omega)) (f1 _ (by omega) (by omega)) (f1 _ (by omega) (by omega)) hkc) (CS_cong (f1 _ (by omega) (by omega)) hs) (by rw [f1 2 (by omega) (by omega)]; exact h1) (fun j hj => by rw [f1 5 (by omega) (by omega)]; exact h2 j hj) c1
        exact ⟨s2, e2, c2, fun c h1 h2 => by rw [f2 c h1 h2, f1 c h1 h2]⟩
      · rw [if_neg hz]
        refine ih k σ (by omega) (by omega) hkc hs h1 h2 (cm_ext (fun p _ => ?_) hc)
        unfold cur
        rw [su]
        have : tm T i p = 0 := by
          unfold tm
          have h0 : cur T i (kr T i) = 0 := Rat.num_eq_zero.mp (by omega)
          rw [hKi, h0]
          split
          · rw [Rat.div_def, Rat.zero_mul]
          · rfl
        rw [this]
        grind
end CO3
