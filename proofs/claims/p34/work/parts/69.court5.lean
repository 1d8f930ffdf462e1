section CO5
variable {T : kT} {ps : Nat → Nat} {a e r : Nat} {w : Nat → Int}
/-- what comes to p from the parent y, if it is one -/
def tx (T : kT) (ps : Nat → Nat) (y : Int) (p : Nat) : Rat := if y = -1 then 0 else tm T (ps y.toNat) p
theorem su_tx (H : KH T ps) {y : Int} (h1 : -1 ≤ y) (h2 : y < kn T) (p : Nat) : su (fun j => if y = (kr T j : Int) then tm T j p else 0) (kn T) = tx T ps y p := by
  unfold tx
  by_cases hy : y = -1
  · rw [if_pos hy]
    exact su_zero (fun j _ => if_neg (by omega))
  · rw [if_neg hy]
    obtain ⟨q, rfl⟩ : ∃ q : Nat, y = (q : Int) := ⟨y.toNat, by omega⟩
    have hq := H.2.2.2.1 q (by omega)
    rw [Int.toNat_natCast, ← su_one (x := tm T (ps q) p) hq.1]
    refine su_congr (fun j hj => ?_)
    by_cases hjq : j = ps q
    · subst hjq
      rw [if_pos rfl, hq.2, if_pos rfl]
    · rw [if_neg hjq, if_neg]
      intro h
      apply hjq
      have := (H.2.2.1 j hj).2
      rw [← this]
      congr 1
      omega
theorem KK_tx {σ : gb_S} (H : KH T ps) (hk : KC σ a T) {p : Nat} (hp : p < kn T) : KK T p = hdv T p + tx T ps (σ (a + 1) p) p + tx T ps (σ (a + 2) p) p := by
  have h1 := hk.1 p hp
  rw [KK_eq H hp]
  unfold cur
  rw [← su_tx H h1.1 h1.2.1 p, ← su_tx H h1.2.2.1 h1.2.2.2.1 p, Rat.add_assoc, ← su_add]
  congr 1
  refine su_congr (fun j hj => ?_)
  have hkp := hk.2.1 (kr T j) p (H.2.2.1 j hj).1 hp
  by_cases ha : σ (a + 1) p = (kr T j : Int)
  · have hb : ¬ σ (a + 2) p = (kr T j : Int) := fun q => by have := h1.2.2.2.2 (ha.trans q.symm); omega
    rw [if_pos ha, if_neg hb]; grind
  · rw [if_neg ha]
    by_cases hb : σ (a + 2) p = (kr T j : Int)
    · rw [if_pos hb]; grind
    · rw [if_neg hb]
      have : tm T j p = 0 := by
        unfold tm
        rw [hkp, decide_eq_false ha, decide_eq_false hb]
        simp
      rw [this]; grind
theorem tx_nonneg (y : Int) (p : Nat) : 0 ≤ tx T ps y p := by
  unfold tx
  split
  · exact Rat.le_refl
  · exact tm_nonneg _ _
/-- parts of what comes to somebody are small, too -/
theorem part_b {σ : gb_S} (H : KH T ps) (hk : KC σ a T) {p : Nat} (hp : p < kn T) : (0 ≤ hdv T p ∧ hdv T p ≤ 1 ∧ (hdv T p).den ≤ 400000) ∧ (0 ≤ hdv T p + tx T ps (σ (a + 1) p) p ∧ hdv T p + tx T ps (σ (a + 1) p) p ≤ 1 ∧ (hdv T p + tx T ps (σ (a + 1) p) p).den ≤ 400000) := by
  have h0 := hdv_nonneg (T := T) p
  have h1 := tx_nonneg (T := T) (ps := ps) (σ (a + 1) p) p
  have h2 := tx_nonneg (T := T) (ps := ps) (σ (a + 2) p) p
  have hK := KK_tx H hk hp
  have hkk := hk.1 p hp
  by_cases hh : 0 < hc T
  · have hle := KK_le H hh hp
    have i1 : iq (hdv T p) (Dn T (kn T)) := iq_hdv hh _ _
    have i2 : iq (tx T ps (σ (a + 1) p) p) (Dn T (kn T)) := by
      unfold tx
      split
      · exact iq_zero _
      · have hq := H.2.2.2.1 (σ (a + 1) p).toNat (by omega)
        have hK2 : iq (KK T (kr T (ps (σ (a + 1) p).toNat))) (Dn T (ps (σ (a + 1) p).toNat)) := by
          rw [KK_cur H (H.2.2.1 _ hq.1).1 (Nat.le_of_eq (H.2.2.1 _ hq.1).2) (by omega : ps (σ (a + 1) p).toNat ≤ kn T)]
          exact iq_cur H hh (by omega) _ (H.2.2.1 _ hq.1).1
        exact iq_up (iq_tm hK2) hq.1
    have d1 := iq_den (Dn_pos hh _) i1
    have d2 := iq_den (Dn_pos hh _) (iq_add i1 i2)
    have d3 := Dn_le H
    refine ⟨⟨h0, by grind, by omega⟩, by grind, by grind, by omega⟩
  · have hz : hdv T p = 0 := by
      have := cur_none H (by omega) (i := 0) (by omega) hp
      unfold cur at this
      rw [su] at this
      grind
    have hz2 : tx T ps (σ (a + 1) p) p = 0 := by
      have h9 := KK_none H (by omega) hp
      rw [hz] at hK
      grind
    rw [hz, hz2]
    exact ⟨⟨by decide, by decide, by decide⟩, by grind, by grind, by rw [Rat.add_zero]; decide⟩
/-- a head's part is added -/
theorem g6x {σ : gb_S} (H : KH T ps) (hs : CS σ T) {i : Nat} {x : Nat → Rat} (hi : i < 14) (hcm : cm σ 27 x) (hx : x i = 0) : ∃ σ', fx_6 (i : Int) σ = some (.inl 0, σ') ∧ cm σ' 27 (fun q => if q = i then hdv T i else x q) ∧ ∀ c, c ≠ 28 → c ≠ 29 → σ' c = σ c := by
  obtain ⟨s1, s2, s3, s4, s5⟩ := hs
  have hn := H.1
  unfold fx_6
  rw [isIn_in _ hi, gc_v, s3 i]
  by_cases hb : (decide (i < kn T) && hd T i) = true
  · rw [if_pos hb, gq_R (by omega) (by omega), if_neg (by omega)]
    rw [Bool.and_eq_true, decide_eq_true_eq] at hb
    have hz := bt_14 s5 (fun p h1 h2 => by rw [s3 p, decide_eq_false (by omega)]; rfl)
    have hct : ct (bt (σ 26 3)) 14 = hc T := by
      unfold hc
      rw [← ct_ext (b := hd T) (n := kn T) (m := 14) hn]
      exact ct_congr (fun p _ => s3 p)
    have hpos : 0 < hc T := (ct_pos (b := hd T)).mpr ⟨i, hb.1, hb.2⟩
    have hle : hc T ≤ 14 := Nat.le_trans (ct_le _ _) hn
    rw [bitc hz, gc_v, hct, gq_R (by omega) (by omega)]
    obtain ⟨σ', e1, e2, e3⟩ := addB (σ := σ) (a := 27) (p := i) (X := 1) (Y := hc T) hi hcm (by rw [hx]; decide) (by rw [hx]; decide) (by rw [hx]; decide) (by omega) (by omega) hpos (by omega)
    refine ⟨σ', by rw [e1]; rfl, cm_ext (fun p _ => ?_) e2, e3⟩
    show (if p = i then x i + ((1 : Int) : Rat) / ((hc T : Int) : Rat) else x p) = if p = i then hdv T i else x p
    by_cases hp : p = i
    · subst hp
      rw [if_pos rfl, if_pos rfl, hx]
      unfold hdv
      rw [if_pos hb.2, Rat.intCast_natCast]
      show 0 + (1 : Rat) / _ = 1 / _
      grind
    · rw [if_neg hp, if_neg hp]
  · rw [if_neg hb, gq_R (by omega) (by omega), if_pos rfl]
    refine ⟨σ, rfl, cm_ext (fun p _ => ?_) hcm, fun _ _ _ => rfl⟩
    show x p = if p = i then hdv T i else x p
    by_cases hp : p = i
    · subst hp
      rw [if_pos rfl, hx]
      by_cases hpn : p < kn T
      · rw [decide_eq_true hpn, Bool.true_and, Bool.not_eq_true] at hb
        exact (hdv_no hb).symm
      · exact (hdv_big H (by omega)).symm
    · rw [if_neg hp]
/-- behind a call of findComing for p -/
def FC (T : kT) (ps : Nat → Nat) (p : Nat) (σ σ' : gb_S) (x x' : Nat → Rat) : Prop := cm σ' 27 x' ∧ (∀ q, q < kn T → ps q ≤ ps p → x' q = if bt (σ' 26 4) q = true then KK T q else 0) ∧ (∀ q, (kn T ≤ q ∨ ps p < ps q) → x' q = x q ∧ bt (σ' 26 4) q = bt (σ 26 4) q) ∧ (lv T p = true → bt (σ' 26 4) p = true) ∧ (∀ c, c ≠ 26 → c ≠ 28 → c ≠ 29 → σ' c = σ c) ∧ (∀ j, j ≠ 4 → σ' 26 j = σ 26 j) ∧ ∀ q, bt (σ 26 4) q = true → bt (σ' 26 4) q = true
theorem CS_26 {σ σ' : gb_S} (h : ∀ j, j ≠ 4 → σ' 26 j = σ 26 j) (hs : CS σ T) : CS σ' T := by
  unfold CS
  rw [h 1 (by omega), h 2 (by omega), h 3 (by omega)]
  exact hs
/-- the part of a parent is added -/
theorem g5 {σ : gb_S} (H : KH T ps) (ha : a = 15 ∨ a = 20) {p : Nat} {k : Nat} {dp : Nat} {x : Nat → Rat} {y : Int} (hp : p < kn T) (hlp : lv T p = true) (hkc : KC σ a T) (hs : CS σ T) (hcm : cm σ 27 x) (hy1 : -1 ≤ y) (hy2 : y < kn T) (hyp : y ≠ -1 → kp T y.toNat p = true) (hdp : dp + ps p ≤ 13)
    (hx : ∀ q, q < kn T → ps q < ps p → x q = if bt (σ 26 4) q = true then KK T q else 0) (hxp : 0 ≤ x p ∧ x p ≤ 1 ∧ (x p).den ≤ 1048576)
    (ih : ∀ (q : Nat) (σ : gb_S) (x : Nat → Rat) (dq : Nat), q < kn T → ps q < ps p → dq + ps q ≤ 13 → KC σ a T → CS σ T → cm σ 27 x → (∀ q', q' < kn T → ps q' ≤ ps q → x q' = if bt (σ 26 4) q' = true then KK T q' else 0) → ∃ σ' x', fx_4 k (q : Int) a (dq : Int) σ = some (.inl 0, σ') ∧ FC T ps q σ σ' x x') :
    ∃ σ' x', fx_5 (fx_4 k) y (p : Int) a (dp : Int) σ = some (.inl 0, σ') ∧ cm σ' 27 x' ∧ (∀ q, q < kn T → ps q < ps p → x' q = if bt (σ' 26 4) q = true then KK T q else 0) ∧ x' p = x p + tx T ps y p ∧ (∀ q, q ≠ p → (kn T ≤ q ∨ ps p ≤ ps q) → x' q = x q) ∧ (∀ q, (kn T ≤ q ∨ ps p ≤ ps q) → bt (σ' 26 4) q = bt (σ 26 4) q) ∧ (∀ c, c ≠ 26 → c ≠ 28 → c ≠ 29 → σ' c = σ c) ∧ (∀ j, j ≠ 4 → σ' 26 j = σ 26 j) ∧ (∀ q, bt (σ 26 4) q = true → bt (σ' 26 4) q = true) := by
  have hn := H.1
  unfold fx_5
  rw [gq_R (by omega) (by omega)]
  by_cases hy : y = -1
  · rw [if_pos hy]
    refine ⟨σ, x, rfl, hcm, hx, ?_, fun _ _ _ => rfl, fun _ _ => rfl, fun _ _ _ _ => rfl, fun _ _ => rfl, fun _ h => h⟩
    unfold tx
    rw [if_pos hy]
    grind
  · rw [if_neg hy]
    have hkp := hyp hy
    obtain ⟨q, rfl⟩ : ∃ q : Nat, y = (q : Int) := ⟨y.toNat, by omega⟩
    rw [Int.toNat_natCast] at hkp
    have hqn : q < kn T := by omega
    have hqp := (H.2.2.2.2.1 _ _ hkp).2.2
    rw [isIn_in _ (by omega), gc_v, hs.1 q hqn]
    have hpsq := H.2.2.2.1 q hqn
    by_cases hal : ka T q = true
    · rw [if_pos hal, gq_R (by omega) (by omega), if_neg (by omega)]
      refine ⟨σ, x, rfl, hcm, hx, ?_, fun _ _ _ => rfl, fun _ _ => rfl, fun _ _ _ _ => rfl, fun _ _ => rfl, fun _ h => h⟩
      unfold tx tm
      rw [if_neg hy, Int.toNat_natCast, hpsq.2, hal]
      simp
      grind
    · rw [if_neg hal, gq_R (by omega) (by omega), if_pos rfl]
      rw [Bool.not_eq_true] at hal
      obtain ⟨s1, x1, e1, c1, b1, u1, l1, f1, f26, mo⟩ := ih q σ x (dp + 1) hqn hqp (by omega) hkc hs hcm (fun q' h1 h2 => hx q' h1 (by omega))
      rw [show ((dp : Nat) : Int) + 1 = ((dp + 1 : Nat) : Int) by omega, e1, gc_v]
      have hkc1 : KC s1 a T := KC_cong (f1 _ (by omega) (by omega) (by omega)) (f1 _ (by omega) (by omega) (by omega)) (f1 _ (by omega) (by omega) (by omega)) hkc
      have hs1 : CS s1 T := CS_26 f26 hs
      -- the parent's line is living, its children's too
      have hcc : 0 < cc T q := (ct_pos (b := fun k => kp T q k && lv T k)).mpr ⟨p, hp, by rw [hkp, hlp]; rfl⟩
      have hlq : lv T q = true := by rw [lv_eq H hqn, decide_eq_true hcc]; simp
      have hxq : x1 q = KK T q := by rw [b1 q hqn (Nat.le_refl _), if_pos (l1 hlq)]
      have hl : ∀ k, bt (gb_and (s1 (a + 3) q) (s1 26 2)) k = (kp T q k && lv T k) := by
        intro k
        rw [bt_and, hs1.2.1 k]
        by_cases hk : k < kn T
        · rw [(hkc1.2.2 _ hqn).2 k (by omega), decide_eq_true hk]; rfl
        · rw [decide_eq_false hk]
          cases hkp : kp T q k with
          | false => simp
          | true => have := H.2.2.2.2.1 _ _ hkp; omega
      have hz := bt_14 (and_R (s1 (a + 3) q) (s1 26 2)) (fun k h1 h2 => by
        rw [hl k]
        cases hkp : kp T q k with
        | false => rfl
        | true => have := H.2.2.2.2.1 _ _ hkp; omega)
      have hct : ct (bt (gb_and (s1 (a + 3) q) (s1 26 2))) 14 = cc T q := by
        unfold cc
        rw [← ct_ext (b := fun k => kp T q k && lv T k) (n := kn T) (m := 14) hn]
        refine ct_congr (fun k _ => ?_)
        rw [hl k]
        by_cases hk : k < kn T
        · rw [decide_eq_true hk]; rfl
        · rw [decide_eq_false hk]
          cases hkp : kp T q k with
          | false => rfl
          | true => have := H.2.2.2.2.1 _ _ hkp; omega
      have hcl : cc T q ≤ 14 := Nat.le_trans (ct_le _ _) hn
      have hKb := cur_b H (i := kn T) (p := q) (Nat.le_refl _)
      rw [← KK_eq H hqn] at hKb
      have hnd := num_le_den hKb.2.1
      have hn0 : 0 ≤ (KK T q).num := Rat.num_nonneg.mpr hKb.1
      have hd0 := (KK T q).den_pos
      have hY2 : (KK T q).den * cc T q ≤ 400000 * 14 := Nat.mul_le_mul hKb.2.2 hcl
      have hY1 : (KK T q).den * 1 ≤ (KK T q).den * cc T q := Nat.mul_le_mul_left _ hcc
      have hxp1 : x1 p = x p := (u1 p (Or.inr hqp)).1
      rw [g32 (by omega), gc_v, bitc hz, gc_v, hct, g71 (by omega), gc_v, g72 (by omega), gc_v, gq_R (by omega) (by omega), (c1 q (by omega)).1, (c1 q (by omega)).2, hxq, ← Int.natCast_mul]
      obtain ⟨s2, e2, c2, f2⟩ := addB (σ := s1) (a := 27) (p := p) (X := (KK T q).num) (Y := (KK T q).den * cc T q) (by omega) c1 (by rw [hxp1]; exact hxp.1) (by rw [hxp1]; exact hxp.2.1) (by rw [hxp1]; exact hxp.2.2) hn0 (by omega) (by omega) (by omega)
      rw [e2, gc_v]
      have f4 : s2 26 = s1 26 := f2 26 (by omega) (by omega)
      refine ⟨s2, _, rfl, c2, ?_, ?_, ?_, ?_, ?_, ?_, fun q h => by rw [f4]; exact mo q h⟩
      · intro q' h1 h2
        have hne : q' ≠ p := fun h => by subst h; omega
        show (if q' = p then _ else x1 q') = _
        rw [if_neg hne, f4]
        by_cases hlt : ps q' ≤ ps q
        · exact b1 q' h1 hlt
        · rw [(u1 q' (Or.inr (by omega))).1, (u1 q' (Or.inr (by omega))).2]
          exact hx q' h1 h2
      · show (if p = p then x1 p + _ else x1 p) = _
        rw [if_pos rfl, hxp1, rat_nd]
        congr 1
        unfold tx tm
        rw [if_neg hy, Int.toNat_natCast, hpsq.2, hkp, hal, hlp]
        rfl
      · intro q' hne h
        show (if q' = p then _ else x1 q') = _
        rw [if_neg hne]
        exact (u1 q' (h.imp id (fun h => by omega))).1
      · intro q' h
        rw [f4]
        exact (u1 q' (h.imp id (fun h => by omega))).2
      · intro c h1 h2 h3
        rw [f2 c h2 h3, f1 c h1 h2 h3]
      · intro j hj
        rw [f4, f26 j hj]
/-- findComing -/
theorem g4 (H : KH T ps) (ha : a = 15 ∨ a = 20) : ∀ (m k : Nat) (p : Nat) (σ : gb_S) (x : Nat → Rat) (dp : Nat), p < kn T → ps p < m → m ≤ k → dp + ps p ≤ 13 → KC σ a T → CS σ T → cm σ 27 x → (∀ q', q' < kn T → ps q' ≤ ps p → x q' = if bt (σ 26 4) q' = true then KK T q' else 0) → ∃ σ' x', fx_4 k (p : Int) a (dp : Int) σ = some (.inl 0, σ') ∧ FC T ps p σ σ' x x' := by
  have hn := H.1
  intro m
  induction m with
  | zero => intro k p σ x dp _ h; omega
  | succ m ih =>
    intro k p σ x dp hp hpm hk hdp hkc hs hcm hx
    obtain ⟨k, rfl⟩ : ∃ q, k = q + 1 := ⟨k - 1, by omega⟩
    rw [fx_4, gq_R (by omega) (by omega), if_pos (by omega), isIn_in _ (by omega), gc_v]
    by_cases hf : bt (σ 26 4) p = true
    · rw [if_pos hf, gq_R (by omega) (by omega), if_neg (by omega)]
      exact ⟨σ, x, rfl, hcm, hx, fun _ _ => ⟨rfl, rfl⟩, fun _ => hf, fun _ _ _ _ => rfl, fun _ _ => rfl, fun _ h => h⟩
    · rw [if_neg hf, gq_R (by omega) (by omega), if_pos rfl, isIn_in _ (by omega), gc_v, hs.2.1 p, decide_eq_true hp, Bool.true_and]
      by_cases hl : lv T p = true
      · rw [if_pos hl, gq_R (by omega) (by omega), if_neg (by omega)]
        generalize hs0 : gb_up σ 26 4 (gb_or (σ 26 4) (gb_shl 1 (p : Int))) = s0
        have f0 : ∀ c, c ≠ 26 → s0 c = σ c := fun c hc => by rw [← hs0, up_ne _ _ _ _ hc]
        have f06 : ∀ j, j ≠ 4 → s0 26 j = σ 26 j := fun j hj => by rw [← hs0, up_nj _ _ _ _ hj]
        have b0 : ∀ q, bt (s0 26 4) q = (bt (σ 26 4) q || decide (q = p)) := fun q => by rw [← hs0, up_eq, bt_or, bt_shl (by omega)]
        have hs00 : CS s0 T := CS_26 f06 hs
        have hx0 : x p = 0 := by rw [hx p hp (Nat.le_refl _), if_neg hf]
        obtain ⟨s1, e1, c1, f1⟩ := g6x H hs00 (i := p) (by omega) (cm_cong (f0 _ (by omega)) (f0 _ (by omega)) hcm) hx0
        have F1 : ∀ c, c ≠ 26 → c ≠ 28 → c ≠ 29 → s1 c = σ c := fun c h1 h2 h3 => by rw [f1 c h2 h3, f0 c h1]
        have k1 : KC s1 a T := KC_cong (F1 _ (by omega) (by omega) (by omega)) (F1 _ (by omega) (by omega) (by omega)) (F1 _ (by omega) (by omega) (by omega)) hkc
        have hs1 : CS s1 T := CS_cong (f1 26 (by omega) (by omega)) hs00
        have hpar := k1.1 p hp
        have hb := part_b H k1 hp
        have hyp1 : s1 (a + 1) p ≠ -1 → kp T (s1 (a + 1) p).toNat p = true := fun h => by
          rw [k1.2.1 _ _ (by omega) hp, decide_eq_true (by omega)]; rfl
        have hyp2 : s1 (a + 2) p ≠ -1 → kp T (s1 (a + 2) p).toNat p = true := fun h => by
          rw [k1.2.1 _ _ (by omega) hp, Bool.or_eq_true]; exact Or.inr (decide_eq_true (by omega))
        have ih' : ∀ (q : Nat) (σ : gb_S) (x : Nat → Rat) (dq : Nat), q < kn T → ps q < ps p → dq + ps q ≤ 13 → KC σ a T → CS σ T → cm σ 27 x → (∀ q', q' < kn T → ps q' ≤ ps q → x q' = if bt (σ 26 4) q' = true then KK T q' else 0) → ∃ σ' x', fx_4 k (q : Int) a (dq : Int) σ = some (.inl 0, σ') ∧ FC T ps q σ σ' x x' := fun q σ x dq h1 h2 h3 h4 h5 h6 h7 => ih k q σ x dq h1 (by omega) (by omega) h3 h4 h5 h6 h7
        obtain ⟨s2, x2, e2, c2, b2, xp2, u2, v2, f2, f26, mo2⟩ := g5 (x := fun q => if q = p then hdv T p else x q) (y := s1 (a + 1) p) H ha hp hl k1 hs1 c1 hpar.1 hpar.2.1 hyp1 hdp (fun q h1 h2 => by
          have hne : q ≠ p := fun h => by subst h; omega
          rw [if_neg hne, hx q h1 (by omega), f1 26 (by omega) (by omega), b0 q, decide_eq_false hne, Bool.or_false]) (by simp only [if_true]; have := hb.1; exact ⟨this.1, this.2.1, by omega⟩) ih'
        simp only [if_true] at xp2
        have F2 : ∀ c, c ≠ 26 → c ≠ 28 → c ≠ 29 → s2 c = σ c := fun c h1 h2 h3 => by rw [f2 c h1 h2 h3, F1 c h1 h2 h3]
        have k2 : KC s2 a T := KC_cong (F2 _ (by omega) (by omega) (by omega)) (F2 _ (by omega) (by omega) (by omega)) (F2 _ (by omega) (by omega) (by omega)) hkc
        have hs2 : CS s2 T := CS_26 f26 hs1
        have e21 : s2 (a + 2) p = s1 (a + 2) p := by rw [f2 (a + 2) (by omega) (by omega) (by omega)]
        obtain ⟨s3, x3, e3, c3, b3, xp3, u3, v3, f3, f36, mo3⟩ := g5 (x := x2) (y := s1 (a + 2) p) H ha hp hl k2 hs2 c2 hpar.2.2.1 hpar.2.2.2.1 hyp2 hdp b2 (by rw [xp2]; have := hb.2; exact ⟨this.1, this.2.1, by omega⟩) ih'
        refine ⟨s3, x3, ?_, c3, ?_, ?_, ?_, ?_, ?_, fun q h => mo3 q (mo2 q (by rw [f1 26 (by omega) (by omega), b0 q, h]; rfl))⟩
        · rw [e1, gc_v, g30 (by omega), gc_v, e2, gc_v, g31 (by omega), gc_v, e21, e3, gc_v]
        · intro q h1 h2
          by_cases hqp : q = p
          · subst hqp
            rw [xp3, xp2, ← KK_tx H k1 hp, v3 q (Or.inr (Nat.le_refl _)), v2 q (Or.inr (Nat.le_refl _)), f1 26 (by omega) (by omega), b0 q]
            simp
          · have hlt : ps q < ps p := by
              refine Nat.lt_of_le_of_ne h2 (fun h => hqp ?_)
              have a1 := (H.2.2.2.1 q h1).2
              have a2 := (H.2.2.2.1 p hp).2
              rw [h] at a1
              exact a1.symm.trans a2
            exact b3 q h1 hlt
        · intro q h
          have hne : q ≠ p := fun hh => by subst hh; omega
          have h' : kn T ≤ q ∨ ps p ≤ ps q := h.imp id (fun h => by omega)
          rw [u3 q hne h', u2 q hne h', v3 q h', v2 q h', f1 26 (by omega) (by omega), b0 q, decide_eq_false hne, Bool.or_false]
          exact ⟨if_neg hne, rfl⟩
        · intro _
          rw [v3 p (Or.inr (Nat.le_refl _)), v2 p (Or.inr (Nat.le_refl _)), f1 26 (by omega) (by omega), b0 p]
          simp
        · intro c h1 h2 h3
          rw [f3 c h1 h2 h3, F2 c h1 h2 h3]
        · intro j hj
          rw [f36 j hj, f26 j hj, f1 26 (by omega) (by omega), f06 j hj]
      · rw [if_neg hl, gq_R (by omega) (by omega), if_pos rfl]
        exact ⟨σ, x, rfl, hcm, hx, fun _ _ => ⟨rfl, rfl⟩, fun h => absurd h hl, fun _ _ _ _ => rfl, fun _ _ => rfl, fun _ h => h⟩
theorem g3_22 (H : KH T ps) (ha : a = 15 ∨ a = 20) : ∀ (m k : Nat) (σ : gb_S) (x : Nat → Rat), m ≤ kn T → m < k → KC σ a T → CS σ T → σ 2 3 = (kn T : Int) → cm σ 27 x → (∀ q, q < kn T → x q = if bt (σ 26 4) q = true then KK T q else 0) → (∀ q, kn T ≤ q → x q = 0) → (∀ q, q < kn T - m → ka T q = true → lv T q = true → bt (σ 26 4) q = true) →
    ∃ σ' x', fx_3_22 k a e r ((kn T - m : Nat) : Int) σ = gc (fx_10 e r σ') (fun _ s => some (.inl 0, s)) ∧ cm σ' 27 x' ∧ (∀ q, q < kn T → ka T q = true → x' q = KK T q) ∧ (∀ q, kn T ≤ q → x' q = 0) ∧ CS σ' T ∧ ∀ c, c ≠ 26 → c ≠ 28 → c ≠ 29 → σ' c = σ c := by
  have hn := H.1
  intro m
  induction m with
  | zero =>
    intro k σ x _ hk hkc hs h23 hcm hx hb hf
    obtain ⟨k, rfl⟩ : ∃ q, k = q + 1 := ⟨k - 1, by omega⟩
    refine ⟨σ, x, ?_, hcm, fun q h1 h2 => ?_, hb, hs, fun _ _ _ _ => rfl⟩
    · rw [fx_3_22, gq_R (by omega) (by omega), gq_R (by omega) (by omega), if_neg (by omega)]
    · rw [hx q h1]
      cases hl : lv T q with
      | true => rw [if_pos (hf q (by omega) h2 hl)]
      | false => rw [KK_lv H h1 hl]; split <;> rfl
  | succ m ih =>
    intro k σ x hm hk hkc hs h23 hcm hx hb hf
    obtain ⟨k, rfl⟩ : ∃ q, k = q + 1 := ⟨k - 1, by omega⟩
    generalize hi : kn T - (m + 1) = i
    rw [hi] at hf
    have hi2 : kn T - m = i + 1 := by omega
    rw [hi2] at ih
    have hin : i < kn T := by omega
    rw [fx_3_22, gq_R (by omega) (by omega), gq_R (by omega) (by omega), if_pos (by omega), isIn_in _ (by omega), gc_v, hs.1 i hin, show ((i : Nat) : Int) + 1 = ((i + 1 : Nat) : Int) by omega]
    by_cases hal : ka T i = true
    · rw [if_pos hal, gq_R (by omega) (by omega), if_neg (by omega)]
      obtain ⟨s1, x1, e1, c1, b1, u1, l1, f1, f26, mo⟩ := g4 H ha 20 20 i σ x 0 hin (by have := (H.2.2.2.1 i hin).1; omega) (Nat.le_refl _) (by have := (H.2.2.2.1 i hin).1; omega) hkc hs hcm (fun q h1 _ => hx q h1)
      rw [show (0 : Int) = ((0 : Nat) : Int) from rfl, e1, gc_v]
      have hx1 : ∀ q, q < kn T → x1 q = if bt (s1 26 4) q = true then KK T q else 0 := fun q h1 => by
        by_cases hq : ps q ≤ ps i
        · exact b1 q h1 hq
        · rw [(u1 q (Or.inr (by omega))).1, (u1 q (Or.inr (by omega))).2]; exact hx q h1
      obtain ⟨s2, x2, e2, c2, k2, z2, cs2, f2⟩ := ih k s1 x1 (by omega) (by omega) (KC_cong (f1 _ (by omega) (by omega) (by omega)) (f1 _ (by omega) (by omega) (by omega)) (f1 _ (by omega) (by omega) (by omega)) hkc) (CS_26 f26 hs) (by rw [f1 2 (by omega) (by omega) (by omega)]; exact h23) c1 hx1 (fun q h => by rw [(u1 q (Or.inl h)).1]; exact hb q h) (fun q h1 h2 h3 => by
        by_cases hq : ps q ≤ ps i
        · by_cases hqi : q = i
          · subst hqi; exact l1 h3
          · exact mo q (hf q (by omega) h2 h3)
        · rw [(u1 q (Or.inr (by omega))).2]; exact hf q (by
            have : q ≠ i := fun h => by subst h; omega
            omega) h2 h3)
      exact ⟨s2, x2, e2, c2, k2, z2, cs2, fun c h1 h2 h3 => by rw [f2 c h1 h2 h3, f1 c h1 h2 h3]⟩
    · rw [if_neg hal, gq_R (by omega) (by omega), if_pos rfl]
      exact ih k σ x (by omega) (by omega) hkc hs h23 hcm hx hb (fun q h1 h2 h3 => by
        by_cases hqi : q = i
        · subst hqi; exact absurd h2 hal
        · exact hf q (by omega) h2 h3)
/-- shareFromPersons -/
theorem g3 {σ : gb_S} (H : KH T ps) (hkc : KC σ a T) (hf : FK σ e T w) (ha : a = 15 ∨ a = 20) (he : ∃ i, i < 14 ∧ e = 47 + 10 * i) (hr : 41 ≤ r ∧ r ≤ 184 ∧ (r % 10 = 0 ∨ r % 10 = 1 ∨ r % 10 = 3 ∨ r % 10 = 4)) :
    ∃ σ', fx_3 a e r σ = some (.inl 0, σ') ∧ cm σ' r (Rs T w) ∧ ∀ c, c ≠ 26 → c ≠ 28 → c ≠ 29 → c ≠ r + 1 → c ≠ r + 2 → σ' c = σ c := by
  have hn := H.1
  have he2 := he
  obtain ⟨ie, hie, rfl⟩ := he2
  obtain ⟨s1, e1, f1, cs1⟩ := g7 H hkc hf ha he
  obtain ⟨s2, e2, c2, f2⟩ := g69 (σ := s1) (a := 27)
  generalize hs3 : gb_up s2 26 4 0 = s3
  have f3 : ∀ c, c ≠ 26 → s3 c = s2 c := fun c hc => by rw [← hs3, up_ne _ _ _ _ hc]
  have F3 : ∀ c, c ≠ 26 → c ≠ 28 → c ≠ 29 → s3 c = σ c := fun c h1 h2 h3 => by rw [f3 c h1, f2 c h2 h3, f1 c h1]
  have cs3 : CS s3 T := CS_26 (fun j hj => by rw [← hs3, up_nj _ _ _ _ hj]) (CS_cong (f2 26 (by omega) (by omega)) cs1)
  have hb3 : ∀ q, bt (s3 26 4) q = false := fun q => by rw [← hs3, up_eq, bt_zero]
  obtain ⟨s4, x4, e4, c4, k4, z4, cs4, f4⟩ := g3_22 (a := a) (e := 47 + 10 * ie) (r := r) H ha (kn T) gFU s3 (fun _ => 0) (Nat.le_refl _) (by unfold gFU; omega) (KC_cong (F3 _ (by omega) (by omega) (by omega)) (F3 _ (by omega) (by omega) (by omega)) (F3 _ (by omega) (by omega) (by omega)) hkc) cs3 (by rw [F3 2 (by omega) (by omega) (by omega)]; exact hf.1) (cm_cong (f3 _ (by omega)) (f3 _ (by omega)) c2) (fun q _ => by rw [hb3 q]; rfl) (fun _ _ => rfl) (fun q hq => by omega)
  have F4 : ∀ c, c ≠ 26 → c ≠ 28 → c ≠ 29 → s4 c = σ c := fun c h1 h2 h3 => by rw [f4 c h1 h2 h3, F3 c h1 h2 h3]
  have hf4 := FK_cong (F4 _ (by omega) (by omega) (by omega)) (F4 _ (by omega) (by omega) (by omega)) (F4 _ (by omega) (by omega) (by omega)) (F4 _ (by omega) (by omega) (by omega)) (F4 _ (by omega) (by omega) (by omega)) (F4 _ (by omega) (by omega) (by omega)) hf
  obtain ⟨s5, e5, c5, f5⟩ := g10 (σ := s4) (e := 47 + 10 * ie) (r := r) (w := w) H hr he cs4 hf4 (fun p hp hb => by
    have hx : x4 p = cur T (kn T) p := by
      by_cases hpn : p < kn T
      · rw [cs4.1 p hpn] at hb
        rw [k4 p hpn hb, KK_eq H hpn]
      · rw [z4 p (by omega), cur_big H (by omega)]
    rw [← hx]
    exact c4 p hp)
  refine ⟨s5, ?_, c5, fun c h1 h2 h3 h4 h5 => by rw [f5 c h4 h5, F4 c h1 h2 h3]⟩
  unfold fx_3
  rw [Nat.sub_self] at e4
  rw [e1, gc_v, e2, gc_v, hs3]
  refine e4.trans ?_
  rw [e5, gc_v]
end CO5
