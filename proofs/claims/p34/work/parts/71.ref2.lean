section RE2
variable {T : kT} {ps : Nat → Nat} {w : Nat → Int}
theorem fr_addG {N0 x : Int} {D0 y : Nat} (h0 : 0 ≤ N0) (hD0 : 0 < D0) (hx : 0 ≤ x) (hy : 0 < y) : ∃ (N D : Nat), N0 * (y : Int) + x * (D0 : Int) = (N : Int) ∧ (D0 : Int) * (y : Int) = (D : Int) ∧ 0 < D ∧ (mkRat N0 D0 + (x : Rat) / ((y : Int) : Rat)).num = (N : Int) / ((Nat.gcd N D : Nat) : Int) ∧ ((mkRat N0 D0 + (x : Rat) / ((y : Int) : Rat)).den : Int) = (D : Int) / ((Nat.gcd N D : Nat) : Int) := by
  have hN : 0 ≤ N0 * (y : Int) + x * (D0 : Int) := Int.add_nonneg (Int.mul_nonneg h0 (by omega)) (Int.mul_nonneg hx (by omega))
  have hD : 0 < D0 * y := Nat.mul_pos hD0 hy
  obtain ⟨N, hN2⟩ : ∃ N : Nat, N0 * (y : Int) + x * (D0 : Int) = (N : Int) := ⟨_, (Int.toNat_of_nonneg hN).symm⟩
  refine ⟨N, D0 * y, hN2, (Int.natCast_mul _ _).symm, hD, ?_⟩
  have e : mkRat N0 D0 + (x : Rat) / ((y : Int) : Rat) = mkRat (N : Int) (D0 * y) := by
    rw [Rat.intCast_natCast, ← Rat.mkRat_eq_div, Rat.mkRat_add_mkRat N0 x (by omega) (by omega), hN2]
  rw [e, Rat.num_mkRat, Rat.den_mkRat, if_neg (by omega), if_neg (by omega), Int.natAbs_natCast, Nat.gcd_comm]
  exact ⟨rfl, rfl⟩
theorem addG {σ : gb_S} {p : Nat} {N0 X : Int} {D0 Y : Nat} (hp : p < 14) (h1 : σ 218 p = N0) (h2 : σ 219 p = (D0 : Int)) (h3 : 0 ≤ N0) (h4 : N0 ≤ D0) (h5 : 0 < D0) (h6 : D0 ≤ 1048576) (hX : 0 ≤ X) (hXY : X ≤ Y) (hY : 0 < Y) (hY2 : Y ≤ 16777216) :
    ∃ σ', fx_164 (p : Int) X (Y : Int) σ = some (.inl 0, σ') ∧ σ' 218 p = (mkRat N0 D0 + (X : Rat) / ((Y : Int) : Rat)).num ∧ σ' 219 p = ((mkRat N0 D0 + (X : Rat) / ((Y : Int) : Rat)).den : Int) ∧ (∀ q, q ≠ p → σ' 218 q = σ 218 q ∧ σ' 219 q = σ 219 q) ∧ ∀ c, c ≠ 218 → c ≠ 219 → σ' c = σ c := by
  have m1 : N0 * (Y : Int) ≤ 1048576 * 16777216 := Int.mul_le_mul (by omega) (by omega) (by omega) (by omega)
  have m2 : X * (D0 : Int) ≤ 16777216 * 1048576 := Int.mul_le_mul (by omega) (by omega) (by omega) (by omega)
  have m3 : (D0 : Int) * (Y : Int) ≤ 1048576 * 16777216 := Int.mul_le_mul (by omega) (by omega) (by omega) (by omega)
  obtain ⟨N, D, hN, hD, hD0, e1, e2⟩ := fr_addG h3 h5 hX hY
  have hg : 0 < Nat.gcd N D := Nat.gcd_pos_of_pos_right N hD0
  have hg2 : Nat.gcd N D ≤ D := Nat.gcd_le_right N hD0
  refine ⟨gb_up (gb_up σ 218 p ((N : Int) / ((Nat.gcd N D : Nat) : Int))) 219 p ((D : Int) / ((Nat.gcd N D : Nat) : Int)), ?_, ?_, ?_, ?_, ?_⟩
  · unfold fx_164
    rw [gq_ix (by omega) (by omega), Int.toNat_natCast, h1, h2, hN, hD, com163 N D (by omega) (by omega), gc_v, gq_D (by omega) (by omega) (by omega) (by omega), gq_D (by omega) (by omega) (by omega) (by omega)]
  · rw [up_ne _ _ _ _ (by omega), up_eq, e1]
  · rw [up_eq, e2]
  · intro q hq
    rw [up_ne _ _ _ _ (by omega : (218 : Nat) ≠ 219), up_nj _ _ _ _ hq, up_nj _ _ _ _ hq, up_ne _ _ _ _ (by omega : (219 : Nat) ≠ 218)]
    exact ⟨rfl, rfl⟩
  · intro c h1 h2
    rw [up_ne _ _ _ _ h2, up_ne _ _ _ _ h1]
/-- kin's shares in the reference are x -/
def cr (σ : gb_S) (n : Nat) (x : Nat → Rat) : Prop := ∀ p, p < n → σ 218 p = (x p).num ∧ σ 219 p = ((x p).den : Int)
theorem cr_ext {σ : gb_S} {n : Nat} {x y : Nat → Rat} (hxy : ∀ p, p < n → x p = y p) (h : cr σ n x) : cr σ n y := fun p hp => by rw [← hxy p hp]; exact h p hp
theorem cr_cong {σ σ' : gb_S} {n : Nat} {x : Nat → Rat} (h1 : σ' 218 = σ 218) (h2 : σ' 219 = σ 219) (h : cr σ n x) : cr σ' n x := by
  unfold cr
  rw [h1, h2]
  exact h
theorem addR {σ : gb_S} {n p : Nat} {x : Nat → Rat} {X : Int} {Y : Nat} (hn : n ≤ 14) (hp : p < n) (hc : cr σ n x) (h0 : 0 ≤ x p) (h1 : x p ≤ 1) (h2 : (x p).den ≤ 1048576) (hX : 0 ≤ X) (hXY : X ≤ Y) (hY : 0 < Y) (hY2 : Y ≤ 16777216) :
    ∃ σ', fx_164 (p : Int) X (Y : Int) σ = some (.inl 0, σ') ∧ cr σ' n (fun q => if q = p then x p + (X : Rat) / ((Y : Int) : Rat) else x q) ∧ ∀ c, c ≠ 218 → c ≠ 219 → σ' c = σ c := by
  have hnd := num_le_den h1
  obtain ⟨s, e1, e2, e3, e4, e5⟩ := addG (σ := σ) (p := p) (N0 := (x p).num) (D0 := (x p).den) (X := X) (Y := Y) (by omega) (hc p hp).1 (hc p hp).2 (Rat.num_nonneg.mpr h0) hnd (x p).den_pos h2 hX hXY hY hY2
  rw [Rat.mkRat_self] at e2 e3
  refine ⟨s, e1, fun q hq => ?_, e5⟩
  by_cases hqp : q = p
  · subst hqp
    simp only [if_true]
    exact ⟨e2, e3⟩
  · simp only [if_neg hqp]
    rw [(e4 q hqp).1, (e4 q hqp).2]
    exact hc q hq
/-- how many heads have living lines -/
theorem g161 {σ : gb_S} {h : Nat → Bool} (hn : kn T ≤ 14) (h3 : σ 187 3 = (kn T : Int)) (hh : rb σ 215 (kn T) h) (hl : rb σ 214 (kn T) (lv T)) : fx_161 σ = some (.inl ((ct (fun k => h k && lv T k) (kn T) : Nat) : Int), σ) := by
  have key : ∀ (m k : Nat), m ≤ kn T → m < k → fx_161_4 k ((ct (fun k => h k && lv T k) (kn T - m) : Nat) : Int) ((kn T - m : Nat) : Int) σ = some (.inl ((ct (fun k => h k && lv T k) (kn T) : Nat) : Int), σ) := by
    intro m
    induction m with
    | zero =>
      intro k _ hk
      obtain ⟨k, rfl⟩ : ∃ q, k = q + 1 := ⟨k - 1, by omega⟩
      rw [fx_161_4, gq_R (by omega) (by omega), gq_R (by omega) (by omega), if_neg (by omega), Nat.sub_zero]
    | succ m ih =>
      intro k hm hk
      obtain ⟨k, rfl⟩ : ∃ q, k = q + 1 := ⟨k - 1, by omega⟩
      generalize hi : kn T - (m + 1) = i
      have hi2 : kn T - m = i + 1 := by omega
      rw [hi2] at ih
      have h1 := hh i (by omega)
      have h2 := hl i (by omega)
      have hR1 : -2147483648 ≤ σ 215 i ∧ σ 215 i ≤ 2147483647 := by rw [h1]; exact bR _
      have hR2 : -2147483648 ≤ σ 214 i ∧ σ 214 i ≤ 2147483647 := by rw [h2]; exact bR _
      have ihk := ih k (by omega) (by omega)
      have hct : ct (fun k => h k && lv T k) (i + 1) = ct (fun k => h k && lv T k) i + (if (h i && lv T i) = true then 1 else 0) := rfl
      rw [hct] at ihk
      rw [fx_161_4, gq_R (by omega) (by omega), gq_R (by omega) (by omega), if_pos (by omega), gq_ix (by omega) (by omega), Int.toNat_natCast, gq_R hR1.1 hR1.2, show ((i : Nat) : Int) + 1 = ((i + 1 : Nat) : Int) by omega]
      by_cases a1 : h i = true
      · rw [if_neg (by rw [h1, if_pos a1]; decide), gq_R hR2.1 hR2.2]
        by_cases a2 : lv T i = true
        · rw [if_neg (by rw [h2, if_pos a2]; decide)]
          rw [a1, a2] at ihk
          exact ihk
        · rw [if_pos (by rw [h2, if_neg a2])]
          rw [Bool.not_eq_true] at a2
          rw [a1, a2] at ihk
          exact ihk
      · rw [if_pos (by rw [h1, if_neg a1])]
        rw [Bool.not_eq_true] at a1
        rw [a1] at ihk
        exact ihk
  have := key (kn T) gFU (Nat.le_refl _) (by unfold gFU; omega)
  rw [Nat.sub_self] at this
  exact this
theorem bt1 {x : Int} {k : Nat} (hk : k < 14) : gb_and (gb_shr x (k : Int)) 1 = if bt x k = true then 1 else 0 := by rw [and_one, bt_shr x hk]
/-- the parents of the heads become the heads -/
theorem g162 {σ : gb_S} {h : Nat → Bool} (hn : kn T ≤ 14) (h3 : σ 187 3 = (kn T : Int)) (hk : KR σ T) (hh : rb σ 215 (kn T) h) : ∃ σ', fx_162 σ = some (.inl 0, σ') ∧ rb σ' 215 (kn T) (fun p => decide (0 < ct (fun g => h g && kp T p g) (kn T))) ∧ ∀ c, c ≠ 215 → σ' c = σ c := by
  -- third: the parents
  have k3 : ∀ (m k : Nat) (σ : gb_S) (s : Int), m ≤ kn T → m < k → σ 187 3 = (kn T : Int) → KR σ T → (∀ p, p < kn T → bt s p = h p) → rb σ 215 (kn T) (fun p => decide (0 < ct (fun g => h g && kp T p g) (kn T - m))) → ∃ σ', fx_162_62 k s ((kn T - m : Nat) : Int) σ = some (.inl 0, σ') ∧ rb σ' 215 (kn T) (fun p => decide (0 < ct (fun g => h g && kp T p g) (kn T))) ∧ ∀ c, c ≠ 215 → σ' c = σ c := by
    intro m
    induction m with
    | zero =>
      intro k σ s _ hk1 h3 hk hs hb
      obtain ⟨k, rfl⟩ : ∃ q, k = q + 1 := ⟨k - 1, by omega⟩
      refine ⟨σ, ?_, hb, fun _ _ => rfl⟩
      rw [fx_162_62, gq_R (by omega) (by omega), gq_R (by omega) (by omega), if_neg (by omega)]
    | succ m ih =>
      intro k σ s hm hk1 h3 hk hs hb
      obtain ⟨k, rfl⟩ : ∃ q, k = q + 1 := ⟨k - 1, by omega⟩
      generalize hi : kn T - (m + 1) = i
      rw [hi] at hb
      have hi2 : kn T - m = i + 1 := by omega
      rw [hi2] at ih
      have hin : i < kn T := by omega
      have hpar := hk.1 i hin
      have hgo : ∀ σ1 : gb_S, (∀ c, c ≠ 215 → σ1 c = σ c) → (∀ p, p < kn T → σ1 215 p = if decide (0 < ct (fun g => h g && kp T p g) (i + 1)) = true then 1 else 0) → ∃ σ', fx_162_62 k s ((i : Int) + 1) σ1 = some (.inl 0, σ') ∧ rb σ' 215 (kn T) (fun p => decide (0 < ct (fun g => h g && kp T p g) (kn T))) ∧ ∀ c, c ≠ 215 → σ' c = σ c := by
        intro σ1 f1 b1
        rw [show ((i : Nat) : Int) + 1 = ((i + 1 : Nat) : Int) by omega]
        obtain ⟨s2, e2, b2, f2⟩ := ih k σ1 s (by omega) (by omega) (by rw [f1 _ (by omega)]; exact h3) (by unfold KR; rw [f1 212 (by omega), f1 213 (by omega)]; exact hk) hs b1
        exact ⟨s2, e2, b2, fun c hc => by rw [f2 c hc, f1 c hc]⟩
      have hct : ∀ p, ct (fun g => h g && kp T p g) (i + 1) = ct (fun g => h g && kp T p g) i + (if (h i && kp T p i) = true then 1 else 0) := fun p => rfl
      rw [fx_162_62, gq_R (by omega) (by omega), gq_R (by omega) (by omega), if_pos (by omega), gq_R (and_R _ _).1 (and_R _ _).2, bt1 (by omega), hs i hin]
      by_cases hhi : h i = true
      · rw [if_pos hhi, if_pos rfl]
        unfold fx_162_84 fx_162_111
        simp only [gq_R (show (-2147483648 : Int) ≤ 1 by omega) (show (1 : Int) ≤ 2147483647 by omega), if_neg (show ¬ (1 : Int) = 0 by omega)]
        rw [gq_ix (by omega) (by omega), Int.toNat_natCast, gq_R (by omega) (by omega)]
        -- behind the first parent
        have h2nd : ∀ σ1 : gb_S, (∀ c, c ≠ 215 → σ1 c = σ c) → (∀ p, p < kn T → σ1 215 p = if (decide (0 < ct (fun g => h g && kp T p g) i) || decide (σ 212 i = (p : Int))) = true then 1 else 0) → ∃ σ', gq (0 ≤ (i : Int) ∧ (i : Int) < 14) (gq (gR (σ1 213 i)) (if σ1 213 i = -1 then fx_162_62 k s ((i : Int) + 1) σ1 else gq (0 ≤ σ1 213 i ∧ σ1 213 i < 14) (fx_162_62 k s ((i : Int) + 1) (gb_up σ1 215 (σ1 213 i).toNat 1)))) = some (.inl 0, σ') ∧ rb σ' 215 (kn T) (fun p => decide (0 < ct (fun g => h g && kp T p g) (kn T))) ∧ ∀ c, c ≠ 215 → σ' c = σ c := by
          intro σ1 f1 b1
          have e13 : σ1 213 = σ 213 := f1 213 (by omega)
          rw [gq_ix (by omega) (by omega), e13, gq_R (by omega) (by omega)]
          have hval : ∀ p, p < kn T → decide (0 < ct (fun g => h g && kp T p g) (i + 1)) = (decide (0 < ct (fun g => h g && kp T p g) i) || decide (σ 212 i = (p : Int)) || decide (σ 213 i = (p : Int))) := by
            intro p hp
            rw [hct, hhi, Bool.true_and, hk.2 p i hp hin, Bool.or_assoc]
            cases decide (σ 212 i = (p : Int)) || decide (σ 213 i = (p : Int)) with
            | true => rw [if_pos rfl, decide_eq_true (by omega), Bool.or_true]
            | false => rw [if_neg (by decide), Nat.add_zero, Bool.or_false]
          by_cases hy : σ 213 i = -1
          · rw [if_pos hy]
            refine hgo σ1 f1 (fun p hp => ?_)
            rw [hval p hp, b1 p hp, decide_eq_false (show ¬ σ 213 i = (p : Int) by omega), Bool.or_false]
          · rw [if_neg hy, gq_ix (by omega) (by omega)]
            refine hgo _ (fun c hc => by rw [up_ne _ _ _ _ hc, f1 c hc]) (fun p hp => ?_)
            rw [hval p hp]
            by_cases hp2 : p = (σ 213 i).toNat
            · rw [hp2, up_eq, decide_eq_true (show σ 213 i = (((σ 213 i).toNat : Nat) : Int) by omega), Bool.or_true, if_pos rfl]
            · rw [up_nj _ _ _ _ hp2, b1 p hp, decide_eq_false (show ¬ σ 213 i = (p : Int) by omega), Bool.or_false]
        by_cases hy : σ 212 i = -1
        · rw [if_pos hy]
          refine h2nd σ (fun _ _ => rfl) (fun p hp => ?_)
          rw [decide_eq_false (show ¬ σ 212 i = (p : Int) by omega), Bool.or_false]
          exact hb p hp
        · rw [if_neg hy, gq_ix (by omega) (by omega)]
          refine h2nd _ (fun c hc => up_ne _ _ _ _ hc) (fun p hp => ?_)
          by_cases hp2 : p = (σ 212 i).toNat
          · rw [hp2, up_eq, decide_eq_true (show σ 212 i = (((σ 212 i).toNat : Nat) : Int) by omega), Bool.or_true, if_pos rfl]
          · rw [up_nj _ _ _ _ hp2, decide_eq_false (show ¬ σ 212 i = (p : Int) by omega), Bool.or_false]
            exact hb p hp
      · rw [if_neg hhi, if_neg (by decide)]
        unfold fx_162_84 fx_162_111
        simp only [gq_R (show (-2147483648 : Int) ≤ 0 by omega) (show (0 : Int) ≤ 2147483647 by omega), if_true]
        refine hgo σ (fun _ _ => rfl) (fun p hp => ?_)
        rw [Bool.not_eq_true] at hhi
        rw [hct, hhi, Bool.false_and, show (if false = true then (1 : Nat) else 0) = 0 from rfl, Nat.add_zero]
        exact hb p hp
  -- second: none is a head
  have k2 : ∀ (m k : Nat) (σ : gb_S) (s : Int), m ≤ kn T → m < k → σ 187 3 = (kn T : Int) → KR σ T → (∀ p, p < kn T → bt s p = h p) → (∀ p, p < kn T - m → σ 215 p = 0) → ∃ σ', fx_162_39 k s ((kn T - m : Nat) : Int) σ = some (.inl 0, σ') ∧ rb σ' 215 (kn T) (fun p => decide (0 < ct (fun g => h g && kp T p g) (kn T))) ∧ ∀ c, c ≠ 215 → σ' c = σ c := by
    intro m
    induction m with
    | zero =>
      intro k σ s _ hk1 h3 hk hs hb
      obtain ⟨k, rfl⟩ : ∃ q, k = q + 1 := ⟨k - 1, by omega⟩
      obtain ⟨s2, e2, b2, f2⟩ := k3 (kn T) gFU σ s (Nat.le_refl _) (by unfold gFU; omega) h3 hk hs (fun p hp => by
        rw [hb p (by omega), Nat.sub_self]
        rfl)
      refine ⟨s2, ?_, b2, f2⟩
      rw [Nat.sub_self] at e2
      rw [fx_162_39, gq_R (by omega) (by omega), gq_R (by omega) (by omega), if_neg (by omega)]
      exact e2
    | succ m ih =>
      intro k σ s hm hk1 h3 hk hs hb
      obtain ⟨k, rfl⟩ : ∃ q, k = q + 1 := ⟨k - 1, by omega⟩
      generalize hi : kn T - (m + 1) = i
      rw [hi] at hb
      have hi2 : kn T - m = i + 1 := by omega
      rw [hi2] at ih
      rw [fx_162_39, gq_R (by omega) (by omega), gq_R (by omega) (by omega), if_pos (by omega), gq_ix (by omega) (by omega), Int.toNat_natCast, show ((i : Nat) : Int) + 1 = ((i + 1 : Nat) : Int) by omega]
      obtain ⟨s2, e2, b2, f2⟩ := ih k (gb_up σ 215 i 0) s (by omega) (by omega) (by rw [up_ne _ _ _ _ (by omega)]; exact h3) (by unfold KR; rw [up_ne _ _ _ _ (by omega), up_ne _ _ _ _ (by omega)]; exact hk) hs (fun p hp => by
        by_cases hpi : p = i
        · rw [hpi, up_eq]
        · rw [up_nj _ _ _ _ hpi]; exact hb p (by omega))
      exact ⟨s2, e2, b2, fun c hc => by rw [f2 c hc, up_ne _ _ _ _ hc]⟩
  -- first: who is a head
  have k1 : ∀ (m k : Nat) (s : Int), m ≤ kn T → m < k → (∀ p, bt s p = (decide (p < kn T - m) && h p)) → ∃ σ', fx_162_4 k s ((kn T - m : Nat) : Int) σ = some (.inl 0, σ') ∧ rb σ' 215 (kn T) (fun p => decide (0 < ct (fun g => h g && kp T p g) (kn T))) ∧ ∀ c, c ≠ 215 → σ' c = σ c := by
    intro m
    induction m with
    | zero =>
      intro k s _ hk1 hs
      obtain ⟨k, rfl⟩ : ∃ q, k = q + 1 := ⟨k - 1, by omega⟩
      obtain ⟨s2, e2, b2, f2⟩ := k2 (kn T) gFU σ s (Nat.le_refl _) (by unfold gFU; omega) h3 hk (fun p hp => by rw [hs p, decide_eq_true (by omega)]; rfl) (fun p hp => by omega)
      refine ⟨s2, ?_, b2, f2⟩
      rw [Nat.sub_self] at e2
      rw [fx_162_4, gq_R (by omega) (by omega), gq_R (by omega) (by omega), if_neg (by omega)]
      exact e2
    | succ m ih =>
      intro k s hm hk1 hs
      obtain ⟨k, rfl⟩ : ∃ q, k = q + 1 := ⟨k - 1, by omega⟩
      generalize hi : kn T - (m + 1) = i
      rw [hi] at hs
      have hi2 : kn T - m = i + 1 := by omega
      rw [hi2] at ih
      have h1 := hh i (by omega)
      have hR1 : -2147483648 ≤ σ 215 i ∧ σ 215 i ≤ 2147483647 := by rw [h1]; exact bR _
      rw [fx_162_4, gq_R (by omega) (by omega), gq_R (by omega) (by omega), if_pos (by omega), gq_ix (by omega) (by omega), Int.toNat_natCast, gq_R hR1.1 hR1.2, show ((i : Nat) : Int) + 1 = ((i + 1 : Nat) : Int) by omega]
      have hlt : ∀ p, decide (p < i + 1) = (decide (p < i) || decide (p = i)) := fun p => by
        rw [← Bool.decide_or]
        exact decide_eq_decide.mpr (by omega)
      by_cases hhi : h i = true
      · rw [if_neg (by rw [h1, if_pos hhi]; decide)]
        refine ih k _ (by omega) (by omega) (fun p => ?_)
        rw [bt_or, bt_shl (by omega), hs p, hlt]
        by_cases hp : p = i
        · subst hp; rw [hhi]; simp
        · rw [decide_eq_false hp, Bool.or_false, Bool.or_false]
      · rw [if_pos (by rw [h1, if_neg hhi])]
        refine ih k _ (by omega) (by omega) (fun p => ?_)
        rw [bt_or, bt_zero, Bool.or_false, hs p, hlt]
        by_cases hp : p = i
        · subst hp; rw [Bool.not_eq_true] at hhi; rw [hhi]; simp
        · rw [decide_eq_false hp, Bool.or_false]
  have := k1 (kn T) gFU 0 (Nat.le_refl _) (by unfold gFU; omega) (fun p => by rw [bt_zero, Nat.sub_self]; rfl)
  rw [Nat.sub_self] at this
  exact this
end RE2
