section RE1
variable {T : kT} {ps : Nat → Nat} {w : Nat → Int}
/-- parents in the reference's rows -/
def KR (σ : gb_S) (T : kT) : Prop := (∀ k, k < kn T → -1 ≤ σ 212 k ∧ σ 212 k < (kn T : Int) ∧ -1 ≤ σ 213 k ∧ σ 213 k < (kn T : Int)) ∧ (∀ q k, q < kn T → k < kn T → kp T q k = (decide (σ 212 k = (q : Int)) || decide (σ 213 k = (q : Int))))
/-- the reference's books are those of T -/
def RF (σ : gb_S) (T : kT) (w : Nat → Int) : Prop := σ 187 3 = (kn T : Int) ∧ (∀ i, i < kn T → σ 210 i = (kr T i : Int)) ∧ (∀ p, p < kn T → (0 ≤ σ 188 p ∧ σ 188 p ≤ 2000) ∧ (-1 ≤ σ 189 p ∧ σ 189 p ≤ 2000) ∧ kc T p = decide (σ 188 p ≤ σ 189 (kx T))) ∧ (σ 198 (kx T) = 0 ∨ σ 198 (kx T) = 1) ∧ (0 ≤ σ 200 (kx T) ∧ σ 200 (kx T) ≤ 14) ∧ (∀ p, p < kn T → ka T p = if σ 198 (kx T) = 0 then decide (σ 189 p = -1) else (decide (σ 200 (kx T) ≤ (p : Int)) || bt (σ 199 (kx T)) p)) ∧ (∀ p, p < kn T → σ 197 (14 * kx T + p) = w p ∧ 0 ≤ w p ∧ w p ≤ 9) ∧ KR σ T
theorem RF_cong {σ σ' : gb_S} (h : ∀ c, c = 187 ∨ c = 188 ∨ c = 189 ∨ c = 197 ∨ c = 198 ∨ c = 199 ∨ c = 200 ∨ c = 210 ∨ c = 212 ∨ c = 213 → σ' c = σ c) (hf : RF σ T w) : RF σ' T w := by
  unfold RF KR
  rw [h 187 (by simp), h 188 (by simp), h 189 (by simp), h 197 (by simp), h 198 (by simp), h 199 (by simp), h 200 (by simp), h 210 (by simp), h 212 (by simp), h 213 (by simp)]
  exact hf
theorem g158 {σ : gb_S} (hn : kn T ≤ 14) (hx : kx T < kn T) (hf : RF σ T w) {p : Nat} (hp : p < kn T) : fx_158 (p : Int) ((kx T : Nat) : Int) σ = some (.inl (if ka T p = true then 1 else 0), σ) := by
  obtain ⟨f1, f2, f3, f4, f5, f6, f7, f8⟩ := hf
  have h3 := f3 p hp
  unfold fx_158
  rw [gq_ix (by omega) (by omega), Int.toNat_natCast, gq_R (by omega) (by omega), f6 p hp]
  by_cases hc : σ 198 (kx T) = 0
  · rw [if_pos hc, if_pos hc, gq_ix (by omega) (by omega), Int.toNat_natCast, gq_R (by omega) (by omega)]
    by_cases hd : σ 189 p = -1
    · rw [if_pos hd, if_pos (decide_eq_true hd)]
    · rw [if_neg hd, decide_eq_false hd, if_neg (by decide)]
  · rw [if_neg hc, if_neg hc, gq_R (by omega) (by omega), gq_R (by omega) (by omega)]
    by_cases hk : (p : Int) < σ 200 (kx T)
    · have hR := and_R (gb_shr (σ 199 (kx T)) (p : Int)) 1
      rw [if_pos hk, gq_R hR.1 hR.2, and_one, bt_shr _ (by omega), decide_eq_false (by omega), Bool.false_or]
      by_cases hb : bt (σ 199 (kx T)) p = true
      · rw [if_pos hb, if_pos rfl]
      · rw [if_neg hb, if_neg (by decide)]
    · rw [if_neg hk, decide_eq_true (by omega), Bool.true_or, if_pos rfl]
theorem g159 {σ : gb_S} (hn : kn T ≤ 14) (hx : kx T < kn T) (hf : RF σ T w) {p : Nat} (hp : p < kn T) : fx_159 (p : Int) ((kx T : Nat) : Int) σ = some (.inl (if kc T p = true then 1 else 0), σ) := by
  obtain ⟨f1, f2, f3, f4, f5, f6, f7, f8⟩ := hf
  have h3 := f3 p hp
  have h4 := f3 (kx T) hx
  unfold fx_159
  rw [gq_ix (by omega) (by omega), gq_ix (by omega) (by omega), Int.toNat_natCast, Int.toNat_natCast, gq_R (by omega) (by omega), gq_R (by omega) (by omega), h3.2.2]
  by_cases hc : σ 189 (kx T) < σ 188 p
  · rw [if_pos hc, decide_eq_false (by omega), if_neg (by decide)]
  · rw [if_neg hc, if_pos (decide_eq_true (by omega))]
theorem g144 {σ : gb_S} (hn : kn T ≤ 14) (hk : KR σ T) {q k : Nat} (hq : q < kn T) (hk1 : k < kn T) : fx_144 (q : Int) (k : Int) σ = some (.inl (if kp T q k = true then 1 else 0), σ) := by
  have h1 := hk.1 k hk1
  unfold fx_144
  rw [gq_ix (by omega) (by omega), Int.toNat_natCast, gq_R (by omega) (by omega), gq_R (by omega) (by omega), hk.2 q k hq hk1]
  by_cases ha : σ 212 k = (q : Int)
  · rw [if_pos ha, decide_eq_true ha, Bool.true_or, if_pos rfl]
  · rw [if_neg ha, decide_eq_false ha, Bool.false_or, gq_R (by omega) (by omega)]
    by_cases hb : σ 213 k = (q : Int)
    · rw [if_pos hb, if_pos (decide_eq_true hb)]
    · rw [if_neg hb, decide_eq_false hb, if_neg (by decide)]
/-- a row of booleans -/
def rb (σ : gb_S) (c n : Nat) (b : Nat → Bool) : Prop := ∀ p, p < n → σ c p = if b p = true then 1 else 0
theorem rb_up {σ : gb_S} {c n i : Nat} {b : Nat → Bool} {y : Bool} (h : ∀ p, p < n → p ≠ i → σ c p = if b p = true then 1 else 0) (hy : b i = y) : rb (gb_up σ c i (if y = true then 1 else 0)) c n b := by
  intro p hp
  by_cases hq : p = i
  · subst hq; rw [up_eq, hy]
  · rw [up_nj _ _ _ _ hq]; exact h p hp hq
theorem b01 (b : Bool) : (if b = true then (1 : Int) else 0) = 0 ∨ (if b = true then (1 : Int) else 0) = 1 := by cases b <;> simp
theorem b0 {b : Bool} : ((if b = true then (1 : Int) else 0) = 0) ↔ b = false := by cases b <;> simp
theorem bR (b : Bool) : -2147483648 ≤ (if b = true then (1 : Int) else 0) ∧ (if b = true then (1 : Int) else 0) ≤ 2147483647 := by cases b <;> simp
theorem rbi {x : Int} {b y : Bool} (h : b = y) (hx : x = if y = true then 1 else 0) : x = if b = true then 1 else 0 := by rw [h]; exact hx
theorem rbo {x : Int} {b y : Bool} (h : b = y) (hx : x = if b = true then 1 else 0) : x = if y = true then 1 else 0 := by rw [← h]; exact hx
/-- who counts and was alive -/
def ac (T : kT) (p : Nat) : Bool := kc T p && ka T p
theorem g160_6 (H : KH T ps) : ∀ (m k : Nat) (σ : gb_S), m ≤ kn T → m < k → RF σ T w → (∀ p, p < kn T - m → σ 214 p = if ac T p = true then 1 else 0) → ∃ σ', fx_160_6 k ((kx T : Nat) : Int) ((kn T - m : Nat) : Int) σ = fx_160_56 gFU ((kn T : Int) - 1) σ' ∧ rb σ' 214 (kn T) (ac T) ∧ ∀ c, c ≠ 214 → σ' c = σ c := by
  have hn := H.1
  have hx := H.2.1
  intro m
  induction m with
  | zero =>
    intro k σ _ hk hf hb
    obtain ⟨k, rfl⟩ : ∃ q, k = q + 1 := ⟨k - 1, by omega⟩
    refine ⟨σ, ?_, fun p hp => hb p (by omega), fun _ _ => rfl⟩
    have h1 := hf.1
    rw [fx_160_6, gq_R (by omega) (by omega), gq_R (by omega) (by omega), if_neg (by omega), h1]
  | succ m ih =>
    intro k σ hm hk hf hb
    obtain ⟨k, rfl⟩ : ∃ q, k = q + 1 := ⟨k - 1, by omega⟩
    have h1 := hf.1
    generalize hi : kn T - (m + 1) = i
    rw [hi] at hb
    have hi2 : kn T - m = i + 1 := by omega
    rw [hi2] at ih
    have hstep : ∀ y : Bool, ac T i = y → ∃ σ', fx_160_6 k ((kx T : Nat) : Int) ((i : Int) + 1) (gb_up σ 214 i (if y = true then 1 else 0)) = fx_160_56 gFU ((kn T : Int) - 1) σ' ∧ rb σ' 214 (kn T) (ac T) ∧ ∀ c, c ≠ 214 → σ' c = σ c := by
      intro y hy
      rw [show ((i : Nat) : Int) + 1 = ((i + 1 : Nat) : Int) by omega]
      obtain ⟨s2, e2, b2, f2⟩ := ih k (gb_up σ 214 i (if y = true then 1 else 0)) (by omega) (by omega) (RF_cong (fun c hc => up_ne _ _ _ _ (by omega)) hf) (rb_up (n := i + 1) (fun p hp hpi => hb p (by omega)) hy)
      exact ⟨s2, e2, b2, fun c hc => by rw [f2 c hc, up_ne _ _ _ _ hc]⟩
    have hac : ac T i = (kc T i && ka T i) := rfl
    rw [fx_160_6, gq_R (by omega) (by omega), gq_R (by omega) (by omega), if_pos (by omega), g159 hn hx hf (by omega), gc_v, gq_R (bR _).1 (bR _).2]
    by_cases hc : kc T i = true
    · rw [if_pos hc, if_neg (by decide), g158 hn hx hf (by omega), gc_v, gq_R (bR _).1 (bR _).2]
      by_cases ha : ka T i = true
      · rw [if_pos ha, if_neg (by decide), gq_ix (by omega) (by omega), Int.toNat_natCast]
        exact hstep true (by rw [hac, hc, ha]; rfl)
      · rw [if_neg ha, if_pos rfl, gq_ix (by omega) (by omega), Int.toNat_natCast]
        rw [Bool.not_eq_true] at ha
        exact hstep false (by rw [hac, hc, ha]; rfl)
    · rw [if_neg hc, if_pos rfl, gq_ix (by omega) (by omega), Int.toNat_natCast]
      rw [Bool.not_eq_true] at hc
      exact hstep false (by rw [hac, hc]; rfl)
/-- among the first c children of p -/
theorem g160_70 (H : KH T ps) {i : Nat} (hi : i < kn T) (k56 : Int → gb_S → Option gb_P) (x2 : Int) : ∀ (m k : Nat) (σ : gb_S), m ≤ kn T → m < k → RF σ T w → (∀ p, p < kn T → p ≠ kr T i → σ 214 p = if (if i < ps p then lv T p else ac T p) = true then 1 else 0) → (σ 214 (kr T i) = if (ac T (kr T i) || decide (0 < ct (fun c => kp T (kr T i) c && lv T c) (kn T - m))) = true then 1 else 0) →
    ∃ σ', fx_160_70 k k56 x2 ((kr T i : Nat) : Int) ((kn T - m : Nat) : Int) σ = k56 (x2 + (-1)) σ' ∧ rb σ' 214 (kn T) (fun p => if i ≤ ps p then lv T p else ac T p) ∧ ∀ c, c ≠ 214 → σ' c = σ c := by
  have hn := H.1
  have hq := H.2.2.1 i hi
  intro m
  induction m with
  | zero =>
    intro k σ _ hk hf hb hs
    obtain ⟨k, rfl⟩ : ∃ q, k = q + 1 := ⟨k - 1, by omega⟩
    have h1 := hf.1
    refine ⟨σ, ?_, ?_, fun _ _ => rfl⟩
    · rw [fx_160_70, gq_R (by omega) (by omega), gq_R (by omega) (by omega), if_neg (by omega)]
    · intro p hp
      by_cases hpq : p = kr T i
      · subst hpq
        refine rbi (y := lv T (kr T i)) (if_pos (Nat.le_of_eq hq.2.symm)) ?_
        rw [hs, lv_eq H hq.1]
        rfl
      · have hne : ps p ≠ i := fun h => hpq (by have := (H.2.2.2.1 p hp).2; rw [h] at this; exact this.symm)
        by_cases h : i < ps p
        · exact rbi (y := lv T p) (if_pos (show i ≤ ps p by omega)) (rbo (if_pos h) (hb p hp hpq))
        · exact rbi (y := ac T p) (if_neg (show ¬ i ≤ ps p by omega)) (rbo (if_neg h) (hb p hp hpq))
  | succ m ih =>
    intro k σ hm hk hf hb hs
    obtain ⟨k, rfl⟩ : ∃ q, k = q + 1 := ⟨k - 1, by omega⟩
    have h1 := hf.1
    generalize hj : kn T - (m + 1) = j
    rw [hj] at hs
    have hj2 : kn T - m = j + 1 := by omega
    rw [hj2] at ih
    have hjn : j < kn T := by omega
    have hstep : ∀ y : Bool, y = (ac T (kr T i) || decide (0 < ct (fun c => kp T (kr T i) c && lv T c) (j + 1))) → ∃ σ', fx_160_70 k k56 x2 ((kr T i : Nat) : Int) ((j : Int) + 1) (gb_up σ 214 (kr T i) (if y = true then 1 else 0)) = k56 (x2 + (-1)) σ' ∧ rb σ' 214 (kn T) (fun p => if i ≤ ps p then lv T p else ac T p) ∧ ∀ c, c ≠ 214 → σ' c = σ c := by
      intro y hy
      rw [show ((j : Nat) : Int) + 1 = ((j + 1 : Nat) : Int) by omega]
      obtain ⟨s2, e2, b2, f2⟩ := ih k (gb_up σ 214 (kr T i) (if y = true then 1 else 0)) (by omega) (by omega) (RF_cong (fun c hc => up_ne _ _ _ _ (by omega)) hf) (fun p hp hpq => by rw [up_nj _ _ _ _ hpq]; exact hb p hp hpq) (by rw [up_eq, hy])
      exact ⟨s2, e2, b2, fun c hc => by rw [f2 c hc, up_ne _ _ _ _ hc]⟩
    have hct : ct (fun c => kp T (kr T i) c && lv T c) (j + 1) = ct (fun c => kp T (kr T i) c && lv T c) j + (if (kp T (kr T i) j && lv T j) = true then 1 else 0) := rfl
    have h214 : -2147483648 ≤ σ 214 (kr T i) ∧ σ 214 (kr T i) ≤ 2147483647 := by rw [hs]; exact bR _
    rw [fx_160_70, gq_R (by omega) (by omega), gq_R (by omega) (by omega), if_pos (by omega), gq_ix (by omega) (by omega), Int.toNat_natCast, gq_R h214.1 h214.2]
    by_cases h0 : σ 214 (kr T i) = 0
    · rw [if_pos h0, g144 hn hf.2.2.2.2.2.2.2 hq.1 hjn, gc_v, gq_R (bR _).1 (bR _).2]
      rw [h0] at hs
      have hs' := b0.mp hs.symm
      rw [Bool.or_eq_false_iff, decide_eq_false_iff_not] at hs'
      by_cases hkp : kp T (kr T i) j = true
      · rw [if_pos hkp, if_neg (by decide), gq_ix (by omega) (by omega), Int.toNat_natCast]
        have hp5 := H.2.2.2.2.1 _ _ hkp
        have hbj := hb j hjn (fun h => by rw [h, hq.2] at hp5; omega)
        rw [if_pos (show i < ps j by omega)] at hbj
        have hRj : -2147483648 ≤ σ 214 j ∧ σ 214 j ≤ 2147483647 := by rw [hbj]; exact bR _
        rw [gq_R hRj.1 hRj.2]
        by_cases hlj : lv T j = true
        · rw [if_neg (by rw [hbj, if_pos hlj]; decide)]
          exact hstep true (by rw [hct, hkp, hlj, if_pos (by rfl), decide_eq_true (by omega)]; simp)
        · rw [if_pos (by rw [hbj, if_neg hlj])]
          rw [Bool.not_eq_true] at hlj
          exact hstep false (by rw [hct, hkp, hlj, if_neg (by decide), hs'.1, decide_eq_false (by omega)]; rfl)
      · rw [if_neg hkp, if_pos rfl]
        rw [Bool.not_eq_true] at hkp
        exact hstep false (by rw [hct, hkp, Bool.false_and, if_neg (by decide), hs'.1, decide_eq_false (by omega)]; rfl)
    · rw [if_neg h0]
      refine hstep true ?_
      rw [hs] at h0
      have : (ac T (kr T i) || decide (0 < ct (fun c => kp T (kr T i) c && lv T c) j)) = true := by
        cases hh : (ac T (kr T i) || decide (0 < ct (fun c => kp T (kr T i) c && lv T c) j)) with
        | true => rfl
        | false => exact absurd (b0.mpr hh) h0
      rw [Bool.or_eq_true, decide_eq_true_eq] at this
      symm
      rw [Bool.or_eq_true, decide_eq_true_eq, hct]
      rcases this with h | h
      · exact Or.inl h
      · exact Or.inr (by omega)
theorem g160_56 (H : KH T ps) : ∀ (m k : Nat) (σ : gb_S), m ≤ kn T → m < k → RF σ T w → rb σ 214 (kn T) (fun p => if m ≤ ps p then lv T p else ac T p) → ∃ σ', fx_160_56 k ((m : Int) - 1) σ = some (.inl 0, σ') ∧ rb σ' 214 (kn T) (lv T) ∧ ∀ c, c ≠ 214 → σ' c = σ c := by
  have hn := H.1
  intro m
  induction m with
  | zero =>
    intro k σ _ hk hf hb
    obtain ⟨k, rfl⟩ : ∃ q, k = q + 1 := ⟨k - 1, by omega⟩
    refine ⟨σ, ?_, fun p hp => ?_, fun _ _ => rfl⟩
    · rw [fx_160_56, gq_R (by omega) (by omega), if_pos (by omega)]
    · exact rbo (if_pos (Nat.zero_le _)) (hb p hp)
  | succ m ih =>
    intro k σ hm hk hf hb
    obtain ⟨k, rfl⟩ : ∃ q, k = q + 1 := ⟨k - 1, by omega⟩
    have hq := H.2.2.1 m (by omega)
    have h2 := hf.2.1 m (by omega)
    rw [fx_160_56, gq_R (by omega) (by omega), if_neg (by omega), show ((m + 1 : Nat) : Int) - 1 = (m : Int) by omega, gq_ix (by omega) (by omega), Int.toNat_natCast, h2]
    obtain ⟨s1, e1, b1, f1⟩ := g160_70 (w := w) H (i := m) (by omega) (fx_160_56 k) (m : Int) (kn T) gFU σ (Nat.le_refl _) (by unfold gFU; omega) hf (fun p hp hpq => by
      by_cases h : m < ps p
      · exact rbi (if_pos h) (rbo (if_pos (show m + 1 ≤ ps p by omega)) (hb p hp))
      · exact rbi (if_neg h) (rbo (if_neg (show ¬ m + 1 ≤ ps p by omega)) (hb p hp))) (by
      refine rbi (y := ac T (kr T m)) ?_ (rbo (if_neg (show ¬ m + 1 ≤ ps (kr T m) by omega)) (hb _ hq.1))
      rw [Nat.sub_self]
      show (ac T (kr T m) || false) = _
      rw [Bool.or_false])
    rw [Nat.sub_self] at e1
    obtain ⟨s2, e2, b2, f2⟩ := ih k s1 (by omega) (by omega) (RF_cong (fun c hc => f1 c (by omega)) hf) b1
    refine ⟨s2, ?_, b2, fun c hc => by rw [f2 c hc, f1 c hc]⟩
    refine Eq.trans e1 ?_
    rw [show (m : Int) + (-1) = (m : Int) - 1 by omega]
    exact e2
/-- findsLines, behind findsKin -/
theorem g160 (H : KH T ps) {σ s0 : gb_S} (h0 : fx_143 σ = some (.inl 0, s0)) (hf : RF s0 T w) : ∃ σ', fx_160 ((kx T : Nat) : Int) σ = some (.inl 0, σ') ∧ rb σ' 214 (kn T) (lv T) ∧ ∀ c, c ≠ 214 → σ' c = s0 c := by
  have hn := H.1
  obtain ⟨s1, e1, b1, f1⟩ := g160_6 (w := w) H (kn T) gFU s0 (Nat.le_refl _) (by unfold gFU; omega) hf (fun p hp => by omega)
  obtain ⟨s2, e2, b2, f2⟩ := g160_56 (w := w) H (kn T) gFU s1 (Nat.le_refl _) (by unfold gFU; omega) (RF_cong (fun c hc => f1 c (by omega)) hf) (fun p hp => by
    exact rbi (if_neg (show ¬ kn T ≤ ps p by have := (H.2.2.2.1 p hp).1; omega)) (b1 p hp))
  refine ⟨s2, ?_, b2, fun c hc => by rw [f2 c hc, f1 c hc]⟩
  unfold fx_160
  rw [Nat.sub_self] at e1
  rw [h0, gc_v]
  exact e1.trans e2
end RE1
