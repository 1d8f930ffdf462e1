section QA1
/-- a command of the script: the law's helper, then the reference; they agree, and go on together -/
def CM (rng : Int → Prop) (c : Nat) (hx mx : gb_S → Option gb_P) (σ : gb_S) : Prop := ∃ k σ1 b σ2, hx σ = some (.inl k, σ1) ∧ mx σ1 = some (.inl b, σ2) ∧ σ2 187 43 = k ∧ (k = 0 → σ2 224 0 = b) ∧ (0 ≤ k ∧ k ≤ 3) ∧ rng b ∧ ∃ n nb nd P ps De Cf, IV2 (c + 1) σ2 n nb nd P ps De Cf
/-- the reference answers b, thrown is t -/
def RQ (mx : gb_S → Option gb_P) (t b : Int) (n : Nat) (P : pT) (σ : gb_S) : Prop := ∃ s, mx σ = some (.inl b, s) ∧ SC σ s ∧ ST s n P ∧ s 187 43 = t ∧ s 224 = σ 224
/-- the class touches its own scratch alone -/
def SK (σ s : gb_S) : Prop := ∀ c, (¬ scr c ∨ (187 ≤ c ∧ c ≠ 224)) → s c = σ c
variable {c : Nat} {σ : gb_S} {n nb nd : Nat} {P : pT} {ps : Nat → Nat} {De : Nat → dT} {Cf : Nat → List Nat}
theorem IV_mono (h : IV2 c σ n nb nd P ps De Cf) : IV2 (c + 1) σ n nb nd P ps De Cf := by
  obtain ⟨i1, i2, i3, i4, i5, i6, i7, i8⟩ := h
  refine ⟨i1, i2, i3, i4, i5, i6, fun d hd => ?_, i8⟩
  obtain ⟨e1, e2, e3, e4, e5, e6, e7, e8, e9, e10⟩ := i7 d hd
  exact ⟨e1, e2, e3, e4, e5, e6, e7, ⟨e8.1, by omega⟩, e9, e10⟩
theorem SK_SC {s : gb_S} (h : SK σ s) : SC σ s := ⟨fun c h1 _ => h c (Or.inl h1), fun j _ _ => by rw [h 187 (Or.inr (by omega))]⟩
theorem SK_IV {s : gb_S} (h : SK σ s) (hi : IV2 c σ n nb nd P ps De Cf) : IV2 c s n nb nd P ps De Cf :=
  SC_IV (SK_SC h) (ST_cong (by rw [h 187 (Or.inr (by omega))]) (h 212 (Or.inr (by omega))) (h 213 (Or.inr (by omega))) hi.2.1) hi
theorem SK_refl (σ : gb_S) : SK σ σ := fun _ _ => rfl
theorem SK_trans {a b d : gb_S} (h1 : SK a b) (h2 : SK b d) : SK a d := fun x h => by rw [h2 x h, h1 x h]
theorem SK_out {s : gb_S} (h : SK σ s) (v : Int) : SK σ (gb_up s 224 0 v) := fun c hc => by
  have : c ≠ 224 := by
    rcases hc with hc | hc
    · intro q; apply hc; unfold scr; omega
    · omega
  rw [up_ne _ _ _ _ this]
  exact h c hc
theorem CM_val {rng : Int → Prop} {hx mx : gb_S → Option gb_P} {s : gb_S} {v : Int} (hi : IV2 c σ n nb nd P ps De Cf) (hk : SK σ s) (h1 : hx σ = some (.inl 0, gb_up s 224 0 v)) (h2 : ∀ σ', SC σ σ' → IV2 c σ' n nb nd P ps De Cf → RQ mx 0 v n P σ') (hr : rng v) : CM rng c hx mx σ := by
  obtain ⟨s2, e2, sc, st, t, o⟩ := h2 _ (SK_SC (SK_out hk v)) (SK_IV (SK_out hk v) hi)
  exact ⟨0, _, v, s2, h1, e2, t, fun _ => by rw [o, up_eq], by omega, hr, n, nb, nd, P, ps, De, Cf, IV_mono (SC_IV sc st (SK_IV (SK_out hk v) hi))⟩
theorem CM_thr {rng : Int → Prop} {hx mx : gb_S → Option gb_P} {k b : Int} (hi : IV2 c σ n nb nd P ps De Cf) (h1 : hx σ = some (.inl k, σ)) (hk : 1 ≤ k ∧ k ≤ 3) (h2 : RQ mx k b n P σ) (hr : rng b) : CM rng c hx mx σ := by
  obtain ⟨s2, e2, sc, st, t, o⟩ := h2
  exact ⟨k, σ, b, s2, h1, e2, t, fun q => by omega, by omega, hr, n, nb, nd, P, ps, De, Cf, IV_mono (SC_IV sc st hi)⟩
/-- thrown is noted -/
theorem up43_SC (t : Int) : SC σ (gb_up σ 187 43 t) := ⟨fun c _ h => up_ne _ _ _ _ h, fun j _ h => up_nj _ _ _ _ h⟩
theorem up43_ST (t : Int) (h : ST σ n P) : ST (gb_up σ 187 43 t) n P := ST_cong (up_nj _ _ _ _ (by omega)) (up_ne _ _ _ _ (by omega)) (up_ne _ _ _ _ (by omega)) h
theorem up43_IV (t : Int) (hi : IV2 c σ n nb nd P ps De Cf) : IV2 c (gb_up σ 187 43 t) n nb nd P ps De Cf := SC_IV (up43_SC t) (up43_ST t hi.2.1) hi
/-- the reference's questions -/
theorem g126 {x lo hi : Int} (h1 : -2147483648 ≤ x ∧ x ≤ 2147483647) (h2 : -2147483648 ≤ lo ∧ lo ≤ 2147483647) (h3 : -2147483648 ≤ hi ∧ hi ≤ 2147483647) : fx_126 x lo hi σ = some (.inl (if decide (lo ≤ x ∧ x ≤ hi) = true then 1 else 0), σ) := by
  unfold fx_126
  rw [gq_R h1.1 h1.2, gq_R h2.1 h2.2]
  by_cases a1 : x < lo
  · rw [if_pos a1, decide_eq_false (by omega)]; rfl
  · rw [if_neg a1, gq_R h3.1 h3.2]
    by_cases a2 : hi < x
    · rw [if_pos a2, decide_eq_false (by omega)]; rfl
    · rw [if_neg a2, decide_eq_true (by omega)]; rfl
theorem g127 (b : Bool) : fx_127 (if b = true then 1 else 0) σ = some (.inl (if b = true then 1 else 0), gb_up σ 187 43 (if b = true then 0 else 1)) := by
  unfold fx_127
  cases b
  · rw [show (if false = true then (1 : Int) else 0) = 0 from rfl, gq_R (by omega) (by omega), if_pos rfl, gq_B (Or.inl rfl)]; rfl
  · rw [show (if true = true then (1 : Int) else 0) = 1 from rfl, gq_R (by omega) (by omega), if_neg (by decide), gq_B (Or.inr rfl)]; rfl
theorem g128 (b1 b2 : Bool) : fx_128 (if b1 = true then 1 else 0) (if b2 = true then 1 else 0) σ = some (.inl (if (b1 && b2) = true then 1 else 0), gb_up σ 187 43 (if b1 = true then (if b2 = true then 0 else 2) else 1)) := by
  unfold fx_128 fx_128_18
  cases b1
  · rw [show (if false = true then (1 : Int) else 0) = 0 from rfl, gq_R (by omega) (by omega), if_pos rfl, up_eq, gq_R (by omega) (by omega), if_neg (by decide)]; rfl
  · rw [show (if true = true then (1 : Int) else 0) = 1 from rfl, gq_R (by omega) (by omega), if_neg (by decide)]
    cases b2
    · rw [show (if false = true then (1 : Int) else 0) = 0 from rfl, gq_R (by omega) (by omega), if_pos rfl, up_eq, gq_R (by omega) (by omega), if_neg (by decide)]; rfl
    · rw [show (if true = true then (1 : Int) else 0) = 1 from rfl, gq_R (by omega) (by omega), if_neg (by decide), up_eq, gq_R (by omega) (by omega), if_pos rfl]; rfl
theorem g129 (b1 b2 b3 : Bool) : fx_129 (if b1 = true then 1 else 0) (if b2 = true then 1 else 0) (if b3 = true then 1 else 0) σ = some (.inl (if (b1 && (b2 && b3)) = true then 1 else 0), gb_up σ 187 43 (if b1 = true then (if b2 = true then (if b3 = true then 0 else 3) else 2) else 1)) := by
  unfold fx_129 fx_129_26
  cases b1
  · rw [show (if false = true then (1 : Int) else 0) = 0 from rfl, gq_R (by omega) (by omega), if_pos rfl, up_eq, gq_R (by omega) (by omega), if_neg (by decide)]; rfl
  · rw [show (if true = true then (1 : Int) else 0) = 1 from rfl, gq_R (by omega) (by omega), if_neg (by decide)]
    cases b2
    · rw [show (if false = true then (1 : Int) else 0) = 0 from rfl, gq_R (by omega) (by omega), if_pos rfl, up_eq, gq_R (by omega) (by omega), if_neg (by decide)]; rfl
    · rw [show (if true = true then (1 : Int) else 0) = 1 from rfl, gq_R (by omega) (by omega), if_neg (by decide)]
      cases b3
      · rw [show (if false = true then (1 : Int) else 0) = 0 from rfl, gq_R (by omega) (by omega), if_pos rfl, up_eq, gq_R (by omega) (by omega), if_neg (by decide)]; rfl
      · rw [show (if true = true then (1 : Int) else 0) = 1 from rfl, gq_R (by omega) (by omega), if_neg (by decide), up_eq, gq_R (by omega) (by omega), if_pos rfl]; rfl
theorem g131 {x : Int} (h1 : -2147483648 ≤ x ∧ x ≤ 2147483647) (hn : n ≤ 14) (h3 : σ 187 3 = (n : Int)) : fx_131 x σ = some (.inl (if decide (0 ≤ x ∧ x < (n : Int)) = true then 1 else 0), σ) := by
  unfold fx_131
  rw [g126 h1 (by omega) (by omega), gc_v, gq_B (by cases decide (0 ≤ x ∧ x ≤ σ 187 3 - 1) <;> simp)]
  have : decide (0 ≤ x ∧ x ≤ σ 187 3 - 1) = decide (0 ≤ x ∧ x < (n : Int)) := decide_eq_decide.mpr (by omega)
  rw [this]
theorem g132 {x : Int} (h1 : -2147483648 ≤ x ∧ x ≤ 2147483647) {m : Nat} (hn : m ≤ 30) (h3 : σ 187 8 = (m : Int)) : fx_132 x σ = some (.inl (if decide (0 ≤ x ∧ x < (m : Int)) = true then 1 else 0), σ) := by
  unfold fx_132
  rw [g126 h1 (by omega) (by omega), gc_v, gq_B (by cases decide (0 ≤ x ∧ x ≤ σ 187 8 - 1) <;> simp)]
  have : decide (0 ≤ x ∧ x ≤ σ 187 8 - 1) = decide (0 ≤ x ∧ x < (m : Int)) := decide_eq_decide.mpr (by omega)
  rw [this]
theorem g133 {x : Int} (h1 : -2147483648 ≤ x ∧ x ≤ 2147483647) {m : Nat} (hn : m ≤ 30) (h3 : σ 187 12 = (m : Int)) : fx_133 x σ = some (.inl (if decide (0 ≤ x ∧ x < (m : Int)) = true then 1 else 0), σ) := by
  unfold fx_133
  rw [g126 h1 (by omega) (by omega), gc_v, gq_B (by cases decide (0 ≤ x ∧ x ≤ σ 187 12 - 1) <;> simp)]
  have : decide (0 ≤ x ∧ x ≤ σ 187 12 - 1) = decide (0 ≤ x ∧ x < (m : Int)) := decide_eq_decide.mpr (by omega)
  rw [this]
theorem g134 {x : Int} (h1 : -2147483648 ≤ x ∧ x ≤ 2147483647) : fx_134 x σ = some (.inl (if decide (0 ≤ x ∧ x < 60) = true then 1 else 0), σ) := by
  unfold fx_134
  rw [g126 h1 (by omega) (by omega), gc_v, gq_B (by cases decide (0 ≤ x ∧ x ≤ 59) <;> simp)]
  have : decide (0 ≤ x ∧ x ≤ 59) = decide (0 ≤ x ∧ x < 60) := decide_eq_decide.mpr (by omega)
  rw [this]
/-- the class's conditions -/
theorem c110 {x : Int} (h1 : -2147483648 ≤ x ∧ x ≤ 2147483647) (hn : n ≤ 14) (h3 : σ 2 3 = (n : Int)) : fx_110 x σ = some (if 0 ≤ x ∧ x < (n : Int) then .inl 0 else .inr 0, σ) := by
  unfold fx_110
  rw [gq_R h1.1 h1.2]
  by_cases a1 : x < 0
  · rw [if_pos a1, if_neg (by omega)]
  · rw [if_neg a1, gq_R (by omega) (by omega)]
    by_cases a2 : x < σ 2 3
    · rw [if_pos a2, if_pos (by omega)]
    · rw [if_neg a2, if_neg (by omega)]
theorem c110y {p : Nat} (hp : p < n) (hn : n ≤ 14) (h3 : σ 2 3 = (n : Int)) : fx_110 (p : Int) σ = some (.inl 0, σ) := by
  rw [c110 (by omega) hn h3, if_pos (by omega)]
theorem c110n {x : Int} (h1 : -2147483648 ≤ x ∧ x ≤ 2147483647) (hn : n ≤ 14) (h3 : σ 2 3 = (n : Int)) (h : ¬ (0 ≤ x ∧ x < (n : Int))) : fx_110 x σ = some (.inr 0, σ) := by
  rw [c110 h1 hn h3, if_neg h]
theorem c24 {p : Nat} (hp : p < 14) : fx_24 (p : Int) σ = some (.inl (if bt (σ 2 4) p = true then 1 else 0), σ) := by
  unfold fx_24
  rw [isIn_in _ hp, gc_v, gq_B (by cases bt (σ 2 4) p <;> simp)]
theorem c116 {p : Nat} (hp : p < 14) : fx_116 (p : Int) σ = some (if bt (σ 2 4) p = true then .inr 2 else .inl 0, σ) := by
  unfold fx_116
  rw [c24 hp, gc_v, gq_R (bR _).1 (bR _).2]
  cases bt (σ 2 4) p <;> rfl
theorem c117 {p : Nat} (hp : p < 14) : fx_117 (p : Int) σ = some (if bt (σ 2 4) p = true then .inl 0 else .inr 2, σ) := by
  unfold fx_117
  rw [c24 hp, gc_v, gq_R (bR _).1 (bR _).2]
  cases bt (σ 2 4) p <;> rfl
theorem FO_dead (hf : FO σ n) {p : Nat} (hp : p < n) : bt (σ 2 4) p = !decide (σ 189 p = -1) := by
  rw [hf.2.2.2.2.1 p, decide_eq_true hp, Bool.true_and]
/-- 1: today -/
theorem qc1 (hi : IV2 c σ n nb nd P ps De Cf) : fx_80 σ = some (.inl (σ 1 9), σ) ∧ RQ (fun s => fx_136 s) 0 (σ 1 9) n P σ := by
  refine ⟨rfl, gb_up σ 187 43 0, ?_, up43_SC 0, up43_ST 0 hi.2.1, up_eq _ _ _ _, up_ne _ _ _ _ (by omega)⟩
  show fx_136 σ = _
  unfold fx_136 fx_130
  rw [gc_v, hi.2.2.1.1]
/-- 4: people -/
theorem qc4 (hi : IV2 c σ n nb nd P ps De Cf) : fx_83 σ = some (.inl (n : Int), σ) ∧ RQ (fun s => fx_139 s) 0 (n : Int) n P σ := by
  refine ⟨by unfold fx_83; rw [hi.2.2.2.1.1], gb_up σ 187 43 0, ?_, up43_SC 0, up43_ST 0 hi.2.1, up_eq _ _ _ _, up_ne _ _ _ _ (by omega)⟩
  show fx_139 σ = _
  unfold fx_139 fx_130
  rw [gc_v, hi.1.2.1]
/-- a question of the reference about one person, refused or answered -/
theorem rq_no {x : Int} (h1 : -2147483648 ≤ x ∧ x ≤ 2147483647) (hi : IV2 c σ n nb nd P ps De Cf) {X : Int → gb_S → Option gb_P} (h : ¬ (0 ≤ x ∧ x < (n : Int))) (hX : ∀ s, X 0 s = some (.inl 0, s)) : RQ (fun s => gc (fx_131 x s) (fun r1 s2 => gc (fx_127 r1 s2) X)) 1 0 n P σ := by
  refine ⟨gb_up σ 187 43 1, ?_, up43_SC 1, up43_ST 1 hi.2.1, up_eq _ _ _ _, up_ne _ _ _ _ (by omega)⟩
  dsimp only
  rw [g131 h1 hi.1.1 hi.1.2.1, gc_v, g127, gc_v, decide_eq_false h]
  exact hX _
theorem rq_yes {p : Nat} (hp : p < n) (hi : IV2 c σ n nb nd P ps De Cf) {X : Int → gb_S → Option gb_P} {b : Int} (hX : ∃ s, X 1 (gb_up σ 187 43 0) = some (.inl b, s) ∧ SC σ s ∧ ST s n P ∧ s 187 43 = 0 ∧ s 224 = σ 224) : RQ (fun s => gc (fx_131 (p : Int) s) (fun r1 s2 => gc (fx_127 r1 s2) X)) 0 b n P σ := by
  obtain ⟨s, h1, h2⟩ := hX
  refine ⟨s, ?_, h2⟩
  have hn := hi.1.1
  dsimp only
  rw [g131 (by omega) hn hi.1.2.1, gc_v, g127, gc_v, decide_eq_true (by omega)]
  exact h1
theorem sa {s : gb_S} (h : SC σ s) {c : Nat} (h1 : ¬ scr c) (h2 : c ≠ 187) : s c = σ c := h.1 c h1 h2
/-- nothing but thrown was written -/
theorem rq_t {b : Int} (hi : IV2 c σ n nb nd P ps De Cf) {Y : Option gb_P} (h : Y = some (.inl b, gb_up σ 187 43 0)) : ∃ s, Y = some (.inl b, s) ∧ SC σ s ∧ ST s n P ∧ s 187 43 = 0 ∧ s 224 = σ 224 := ⟨_, h, up43_SC 0, up43_ST 0 hi.2.1, up_eq _ _ _ _, up_ne _ _ _ _ (by omega)⟩
/-- 5: isAlive -/
theorem qc5 {x : Int} (h1 : -2147483648 ≤ x ∧ x ≤ 2147483647) (hi : IV2 c σ n nb nd P ps De Cf) : CM (fun b => b = 0 ∨ b = 1) c (fx_199 x) (fx_140 x) σ := by
  have hn := hi.1.1
  by_cases h : 0 ≤ x ∧ x < (n : Int)
  · obtain ⟨p, rfl⟩ : ∃ p : Nat, x = (p : Int) := ⟨x.toNat, by omega⟩
    have hp : p < n := by omega
    refine CM_val (s := σ) (v := if decide (σ 189 p = -1) = true then 1 else 0) hi (SK_refl _) ?_ (fun σ' hsc hi' => ?_) (by cases decide (σ 189 p = -1) <;> simp)
    · unfold fx_199 fx_84
      rw [c110y hp hn hi.2.2.2.1.1, gc_v, c24 (by omega), gc_v, FO_dead hi.2.2.2.1 hp, gq_R (bR _).1 (bR _).2]
      cases hd : decide (σ 189 p = -1) with
      | true => rw [show (if (!true) = true then (1 : Int) else 0) = 0 from rfl, if_pos rfl, gch_v, gq_R (by omega) (by omega), if_neg (by decide)]; rfl
      | false => rw [show (if (!false) = true then (1 : Int) else 0) = 1 from rfl, if_neg (by decide), gch_v, gq_R (by omega) (by omega), if_pos rfl]; rfl
    · refine rq_yes hp hi' (rq_t hi' ?_)
      have e := sa hsc (c := 189) (by unfold scr; omega) (by omega)
      have hb := (hi.1.2.2.2.2.2.2.2.2.1 p hp).2
      rw [gq_R (by omega) (by omega), if_neg (by decide), gq_ix (by omega) (by omega), Int.toNat_natCast, up_ne _ _ _ _ (by omega : (189 : Nat) ≠ 187), e, gq_R (by omega) (by omega)]
      by_cases hd : σ 189 p = -1
      · rw [if_pos hd, decide_eq_true hd]; rfl
      · rw [if_neg hd, decide_eq_false hd]; rfl
  · refine CM_thr (k := 1) (b := 0) hi ?_ (by omega) ?_ (Or.inl rfl)
    · unfold fx_199 fx_84
      rw [c110n h1 hn hi.2.2.2.1.1 h, gc_e, gch_e, if_pos rfl]
    · exact rq_no h1 hi h (fun s => by rw [gq_R (by omega) (by omega), if_pos rfl])
/-- 9: strength -/
theorem PO_PC (hi : IV2 c σ n nb nd P ps De Cf) : PC σ (-1) P ∧ PR σ nb P := by
  obtain ⟨i1, i2, i3, i4, i5, i6, i7, i8⟩ := hi
  obtain ⟨b1, b2, b3, b4, b5, b6, b7, b8, b9, b10, b11⟩ := id i1
  obtain ⟨p1, p2, p3, p4, p5⟩ := i5
  refine ⟨⟨p1, fun k hk => ?_⟩, b4⟩
  obtain ⟨r1, r2, r3, r4, r5⟩ := b4.2.2.2.2 k hk
  obtain ⟨q1, q2, q3, q4, q5⟩ := p3 k hk
  have hod := od_b (op := σ 196) (ag := σ 194) (dw := σ 195) (k := k) (m := nb) (fun j hj => (b4.2.2.2.1 j hj).2.2)
  have hnb := b4.2.2.1
  refine ⟨by rw [q1, r1], by rw [q2, r2], by rw [q3]; exact r3, by rw [q5]; omega, by rw [q4]; exact r4, ?_⟩
  rw [if_neg (by omega), q3, q4, q5]
  exact r5
theorem qc9 {x : Int} (h1 : -2147483648 ≤ x ∧ x ≤ 2147483647) (hi : IV2 c σ n nb nd P ps De Cf) : CM (fun b => -2147483648 ≤ b ∧ b ≤ 2147483647) c (fx_203 x) (fx_148 x) σ := by
  have hH := hi.1.2.2.1
  have h30 := hH.1
  have hpc := PO_PC hi
  have h65 := hi.2.2.2.2.1.1
  have h8 := hpc.2.1
  by_cases h : 0 ≤ x ∧ x < (P.1 : Int)
  · obtain ⟨k, rfl⟩ : ∃ k : Nat, x = (k : Int) := ⟨x.toNat, by omega⟩
    have hk : k < P.1 := by omega
    have hst := (hH.2 k hk).2.2
    refine CM_val (s := σ) (v := P.2.2.2 k) hi (SK_refl _) ?_ (fun σ' hsc hi' => ?_) (by omega)
    · unfold fx_203 fx_88 fx_111
      rw [gq_R (by omega) (by omega), if_neg (by omega), gq_R (by omega) (by omega), if_pos (by omega), gc_v, g67 hH hpc.1 hk, gc_v]
      have : (if σ 11 k = 0 then max 0 (σ 9 k - σ 10 k) else 0) = P.2.2.2 k := by
        have h9 := (hpc.1.2 k hk).2.2.2.2.2
        rw [if_neg (show ¬ (k : Int) = -1 by omega)] at h9
        exact h9.symm
      rw [this, gch_v, gq_R (by omega) (by omega)]
    · have hpr := (PO_PC (up43_IV 0 hi')).2
      refine ⟨gb_up σ' 187 43 0, ?_, up43_SC 0, up43_ST 0 hi'.2.1, up_eq _ _ _ _, up_ne _ _ _ _ (by omega)⟩
      unfold fx_148
      rw [g132 (by omega) h30 (PO_PC hi').2.1, gc_v, g127, gc_v, decide_eq_true (by omega), if_pos rfl, if_pos rfl, gq_R (by omega) (by omega), if_neg (by decide), g141 h30 hpr hk, gc_v]
  · refine CM_thr (k := 1) (b := 0) hi ?_ (by omega) ?_ (by omega)
    · unfold fx_203 fx_88 fx_111
      rw [gq_R h1.1 h1.2]
      by_cases a1 : x < 0
      · rw [if_pos a1, gc_e, gch_e, if_pos rfl]
      · rw [if_neg a1, gq_R (by omega) (by omega), if_neg (by omega), gc_e, gch_e, if_pos rfl]
    · refine ⟨gb_up σ 187 43 1, ?_, up43_SC 1, up43_ST 1 hi.2.1, up_eq _ _ _ _, up_ne _ _ _ _ (by omega)⟩
      unfold fx_148
      rw [g132 h1 h30 h8, gc_v, g127, gc_v, decide_eq_false h]
      exact (gq_R (by decide) (by decide)).trans (if_pos rfl)
/-- 10: openDoubts -/
theorem qc10 (hi : IV2 c σ n nb nd P ps De Cf) : ∃ v : Int, fx_89 σ = some (.inl v, σ) ∧ (0 ≤ v ∧ v ≤ 30) ∧ RQ (fun s => fx_149 s) 0 v n P σ := by
  obtain ⟨i1, i2, i3, i4, i5, i6, i7, i8⟩ := id hi
  obtain ⟨b1, b2, b3, b4, b5, b6, b7, b8, b9, b10, b11⟩ := id i1
  obtain ⟨p1, p2, p3, p4, p5⟩ := i5
  have hnb := b4.2.2.1
  have h12 := b4.2.1
  have hle := ct_le (fun j => !decide (σ 196 j = 0)) nb
  refine ⟨((ct (fun j => !decide (σ 196 j = 0)) nb : Nat) : Int), ?_, by omega, gb_up σ 187 43 0, ?_, up43_SC 0, up43_ST 0 i2, up_eq _ _ _ _, up_ne _ _ _ _ (by omega)⟩
  · have key : ∀ (m f : Nat), m ≤ nb → m < f → fx_89_4 f ((ct (fun j => !decide (σ 196 j = 0)) (nb - m) : Nat) : Int) ((nb - m : Nat) : Int) σ = some (.inl ((ct (fun j => !decide (σ 196 j = 0)) nb : Nat) : Int), σ) := by
      intro m
      induction m with
      | zero =>
        intro f _ hf
        obtain ⟨f, rfl⟩ : ∃ q, f = q + 1 := ⟨f - 1, by omega⟩
        rw [fx_89_4, gq_R (by omega) (by omega), gq_R (by omega) (by omega), if_neg (by omega), Nat.sub_zero]
      | succ m ih =>
        intro f hm hf
        obtain ⟨f, rfl⟩ : ∃ q, f = q + 1 := ⟨f - 1, by omega⟩
        have ihk := ih f (by omega) (by omega)
        generalize hj : nb - (m + 1) = j
        have hj2 : nb - m = j + 1 := by omega
        rw [hj2, ct] at ihk
        have h4 := p4 j (by omega)
        have hb4 := b4.2.2.2.1 j (by omega)
        have e64 : fx_64 (j : Int) σ = some (.inl (if decide (σ 196 j = 0) = true then 0 else 1), σ) := by
          unfold fx_64
          rw [gq_R (by omega) (by omega), if_neg (by omega), gq_R (by omega) (by omega), if_pos (by omega), gq_ix (by omega) (by omega), Int.toNat_natCast, h4.2.2.1, gq_R (by omega) (by omega)]
          by_cases h0 : σ 196 j = 0
          · rw [if_pos h0, decide_eq_true h0]; rfl
          · rw [if_neg h0, decide_eq_false h0]; rfl
        rw [fx_89_4, gq_R (by omega) (by omega), gq_R (by omega) (by omega), if_pos (by omega), e64, gc_v, show ((j : Nat) : Int) + 1 = ((j + 1 : Nat) : Int) by omega]
        cases hd : decide (σ 196 j = 0) with
        | true =>
          rw [if_pos rfl, gq_R (by omega) (by omega), if_pos rfl]
          rw [hd, if_neg (by decide), Nat.add_zero] at ihk
          exact ihk
        | false =>
          rw [if_neg (by decide), gq_R (by omega) (by omega), if_neg (by decide)]
          rw [hd, if_pos (by decide)] at ihk
          exact ihk
    have := key nb gFU (Nat.le_refl _) (by unfold gFU; omega)
    rw [Nat.sub_self] at this
    exact this
  · have key : ∀ (m f : Nat), m ≤ nb → m < f → fx_149_4 f ((ct (fun j => !decide (σ 196 j = 0)) (nb - m) : Nat) : Int) ((nb - m : Nat) : Int) σ = some (.inl ((ct (fun j => !decide (σ 196 j = 0)) nb : Nat) : Int), gb_up σ 187 43 0) := by
      intro m
      induction m with
      | zero =>
        intro f _ hf
        obtain ⟨f, rfl⟩ : ∃ q, f = q + 1 := ⟨f - 1, by omega⟩
        rw [fx_149_4, gq_R (by omega) (by omega), gq_R (by omega) (by omega), if_neg (by omega), Nat.sub_zero]
        unfold fx_130
        rw [gc_v]
      | succ m ih =>
        intro f hm hf
        obtain ⟨f, rfl⟩ : ∃ q, f = q + 1 := ⟨f - 1, by omega⟩
        have ihk := ih f (by omega) (by omega)
        generalize hj : nb - (m + 1) = j
        have hj2 : nb - m = j + 1 := by omega
        rw [hj2, ct] at ihk
        have hb4 := b4.2.2.2.1 j (by omega)
        rw [fx_149_4, gq_R (by omega) (by omega), gq_R (by omega) (by omega), if_pos (by omega), gq_ix (by omega) (by omega), Int.toNat_natCast, gq_R (by omega) (by omega), show ((j : Nat) : Int) + 1 = ((j + 1 : Nat) : Int) by omega]
        by_cases h0 : σ 196 j = 0
        · rw [if_pos h0]
          rw [decide_eq_true h0, if_neg (by decide)] at ihk
          exact ihk
        · rw [if_neg h0]
          rw [decide_eq_false h0, if_pos (by decide)] at ihk
          exact ihk
    have := key nb gFU (Nat.le_refl _) (by unfold gFU; omega)
    rw [Nat.sub_self] at this
    exact this
/-- 15, 17, 23: claims, isClosed, reopenings -/
theorem qc15 {x : Int} (h1 : -2147483648 ≤ x ∧ x ≤ 2147483647) (hi : IV2 c σ n nb nd P ps De Cf) : CM (fun b => -2147483648 ≤ b ∧ b ≤ 2147483647) c (fx_208 x) (fx_155 x) σ := by
  have hn := hi.1.1
  by_cases h : 0 ≤ x ∧ x < (n : Int)
  · obtain ⟨p, rfl⟩ : ∃ p : Nat, x = (p : Int) := ⟨x.toNat, by omega⟩
    have hp : p < n := by omega
    obtain ⟨e1, e2, e3, e4, e5, e6, e7, e8, e9, e10⟩ := hi.2.2.2.2.2.2.1 p (by omega)
    have hl := e3.2.1
    refine CM_val (s := σ) (v := ((Cf p).length : Int)) hi (SK_refl _) ?_ (fun σ' hsc hi' => ?_) (by omega)
    · unfold fx_208 fx_94
      rw [c110y hp hn hi.2.2.2.1.1, gc_v, gq_ix (by omega) (by omega), Int.toNat_natCast, e3.1, gch_v, gq_R (by omega) (by omega)]
    · refine rq_yes hp hi' (rq_t hi' ?_)
      have e := sa hsc (c := 202) (by unfold scr; omega) (by omega)
      rw [gq_R (by omega) (by omega), if_neg (by decide), gq_ix (by omega) (by omega), Int.toNat_natCast, up_ne _ _ _ _ (by omega : (202 : Nat) ≠ 187), e, e4.1]
  · refine CM_thr (k := 1) (b := 0) hi ?_ (by omega) ?_ (by omega)
    · unfold fx_208 fx_94
      rw [c110n h1 hn hi.2.2.2.1.1 h, gc_e, gch_e, if_pos rfl]
    · exact rq_no h1 hi h (fun s => by rw [gq_R (by omega) (by omega), if_pos rfl])
theorem qc17 {x : Int} (h1 : -2147483648 ≤ x ∧ x ≤ 2147483647) (hi : IV2 c σ n nb nd P ps De Cf) : CM (fun b => b = 0 ∨ b = 1) c (fx_210 x) (fx_157 x) σ := by
  have hn := hi.1.1
  by_cases h : 0 ≤ x ∧ x < (n : Int)
  · obtain ⟨p, rfl⟩ : ∃ p : Nat, x = (p : Int) := ⟨x.toNat, by omega⟩
    have hp : p < n := by omega
    obtain ⟨e1, e2, e3, e4, e5, e6, e7, e8, e9, e10⟩ := hi.2.2.2.2.2.2.1 p (by omega)
    refine CM_val (s := σ) (v := σ 198 p) hi (SK_refl _) ?_ (fun σ' hsc hi' => ?_) e6
    · unfold fx_210 fx_96
      rw [c110y hp hn hi.2.2.2.1.1, gc_v, gq_ix (by omega) (by omega), Int.toNat_natCast, e5, gq_B e6, gch_v]
      rcases e6 with e6 | e6
      · rw [e6, gq_R (by omega) (by omega), if_pos rfl]
      · rw [e6, gq_R (by omega) (by omega), if_neg (by decide)]
    · refine rq_yes hp hi' (rq_t hi' ?_)
      have e := sa hsc (c := 198) (by unfold scr; omega) (by omega)
      rw [gq_R (by omega) (by omega), if_neg (by decide), gq_ix (by omega) (by omega), Int.toNat_natCast, up_ne _ _ _ _ (by omega : (198 : Nat) ≠ 187), e]
      rcases e6 with e6 | e6
      · rw [e6, gq_R (by omega) (by omega), if_pos rfl]
      · rw [e6, gq_R (by omega) (by omega), if_neg (by decide)]
  · refine CM_thr (k := 1) (b := 0) hi ?_ (by omega) ?_ (Or.inl rfl)
    · unfold fx_210 fx_96
      rw [c110n h1 hn hi.2.2.2.1.1 h, gc_e, gch_e, if_pos rfl]
    · exact rq_no h1 hi h (fun s => by rw [gq_R (by omega) (by omega), if_pos rfl])
theorem qc23 {x : Int} (h1 : -2147483648 ≤ x ∧ x ≤ 2147483647) (hc : c ≤ 1000) (hi : IV2 c σ n nb nd P ps De Cf) : CM (fun b => -2147483648 ≤ b ∧ b ≤ 2147483647) c (fx_216 x) (fx_179 x) σ := by
  have hn := hi.1.1
  by_cases h : 0 ≤ x ∧ x < (n : Int)
  · obtain ⟨p, rfl⟩ : ∃ p : Nat, x = (p : Int) := ⟨x.toNat, by omega⟩
    have hp : p < n := by omega
    obtain ⟨e1, e2, e3, e4, e5, e6, e7, e8, e9, e10⟩ := hi.2.2.2.2.2.2.1 p (by omega)
    refine CM_val (s := σ) (v := σ 203 p) hi (SK_refl _) ?_ (fun σ' hsc hi' => ?_) (by omega)
    · unfold fx_216 fx_102
      rw [c110y hp hn hi.2.2.2.1.1, gc_v, gq_ix (by omega) (by omega), Int.toNat_natCast, e7, gch_v, gq_R (by omega) (by omega)]
    · refine rq_yes hp hi' (rq_t hi' ?_)
      have e := sa hsc (c := 203) (by unfold scr; omega) (by omega)
      rw [gq_R (by omega) (by omega), if_neg (by decide), gq_ix (by omega) (by omega), Int.toNat_natCast, up_ne _ _ _ _ (by omega : (203 : Nat) ≠ 187), e]
  · refine CM_thr (k := 1) (b := 0) hi ?_ (by omega) ?_ (by omega)
    · unfold fx_216 fx_102
      rw [c110n h1 hn hi.2.2.2.1.1 h, gc_e, gch_e, if_pos rfl]
    · exact rq_no h1 hi h (fun s => by rw [gq_R (by omega) (by omega), if_pos rfl])
end QA1
