section QB1
variable {c : Nat} {σ : gb_S} {n nb nd : Nat} {P : pT} {ps : Nat → Nat} {De : Nat → dT} {Cf : Nat → List Nat}
theorem bt_ext {a b : Int} (ha : -2147483648 ≤ a ∧ a ≤ 2147483647) (hb : -2147483648 ≤ b ∧ b ≤ 2147483647) (h : ∀ p, p < 32 → bt a p = bt b p) : a = b := by
  have h1 : (Int32.ofInt a).toBitVec = (Int32.ofInt b).toBitVec := by
    apply BitVec.eq_of_getLsbD_eq
    intro i hi
    exact h i hi
  have h2 : Int32.ofInt a = Int32.ofInt b := Int32.toBitVec_inj.mp h1
  rw [← gb_toI ha, ← gb_toI hb, h2]
/-- findsKin, under the invariant -/
theorem r143 (hi : IV2 c σ n nb nd P ps De Cf) : ∃ s, fx_143 σ = some (.inl 0, s) ∧ KF s n P ∧ SC σ s ∧ ST s n P ∧ s 187 43 = σ 187 43 ∧ s 224 = σ 224 := by
  obtain ⟨b1, b2, b3, b4, b5, b6, b7, b8, b9, b10, b11⟩ := id hi.1
  obtain ⟨s, e, k, z, j, f⟩ := g143 b1 b3 (fun k hk => (b5 k hk).1) b2 b4 hi.2.1
  exact ⟨s, e, k, ⟨fun c h1 h2 => f c h2 (by unfold scr at h1; omega) (by unfold scr at h1; omega) (by unfold scr at h1; omega), fun i h1 _ => j i h1⟩, Or.inl ⟨z, k⟩, j 43 (by omega), f 224 (by omega) (by omega) (by omega) (by omega)⟩
/-- 11: parentOf -/
theorem qc11 {x y : Int} (h1 : -2147483648 ≤ x ∧ x ≤ 2147483647) (h2 : -2147483648 ≤ y ∧ y ≤ 2147483647) (hi : IV2 c σ n nb nd P ps De Cf) : CM (fun b => -2147483648 ≤ b ∧ b ≤ 2147483647) c (fx_204 x y) (fx_150 x y) σ := by
  have hn := hi.1.1
  have hH := hi.1.2.2.1
  have href : ∀ (σ' : gb_S) (b1 b2 : Bool) (X : Option gb_P), IV2 c σ' n nb nd P ps De Cf → b1 = decide (0 ≤ x ∧ x < (n : Int)) → b2 = decide (0 ≤ y ∧ y ≤ 1) → (∀ r, r = (if (b1 && b2) = true then (1 : Int) else 0) → (gq (gR r) (if r = 0 then some (.inl 0, gb_up σ' 187 43 (if b1 = true then (if b2 = true then 0 else 2) else 1)) else gc (fx_143 (gb_up σ' 187 43 (if b1 = true then (if b2 = true then 0 else 2) else 1))) (fun _ s9 => gq (gR y) (if y = 0 then gq (0 ≤ x ∧ x < 14) (some (.inl (s9 212 x.toNat), s9)) else gq (0 ≤ x ∧ x < 14) (some (.inl (s9 213 x.toNat), s9))))) : Option gb_P) = X) → fx_150 x y σ' = X := by
    intro σ' b1 b2 X hi' hb1 hb2 h
    unfold fx_150
    rw [g131 h1 hn hi'.1.2.1, gc_v, g126 h2 (by omega) (by omega), gc_v, ← hb1, ← hb2, g128, gc_v]
    exact h _ rfl
  by_cases h : 0 ≤ x ∧ x < (n : Int)
  · obtain ⟨p, rfl⟩ : ∃ p : Nat, x = (p : Int) := ⟨x.toNat, by omega⟩
    have hp : p < n := by omega
    have hF1 := F1_b hH p
    have hF2 := F2_b hH p
    by_cases hy : 0 ≤ y ∧ y ≤ 1
    · refine CM_val (s := σ) (v := if y = 0 then F1 P p else F2 P p) hi (SK_refl _) ?_ (fun σ' hsc hi' => ?_) (by split <;> omega)
      · unfold fx_204 fx_90 fx_90_24
        rw [c110y hp hn hi.2.2.2.1.1, gc_v, gq_R h2.1 h2.2, g30 (by omega), gc_v, g31 (by omega), gc_v, ((hi.2.2.2.2.2.1).1 p (by omega)).1, ((hi.2.2.2.2.2.1).1 p (by omega)).2]
        by_cases hy0 : y = 0
        · rw [if_pos hy0, gq_R h2.1 h2.2, if_pos hy0, if_pos hy0, gch_v, gq_R (by omega) (by omega)]
        · rw [if_neg hy0, if_pos (by omega), gq_R h2.1 h2.2, if_neg hy0, if_neg hy0, gch_v, gq_R (by omega) (by omega)]
      · obtain ⟨s, e, k, sc, st, t, o⟩ := r143 (up43_IV 0 hi')
        refine ⟨s, ?_, SC_trans (up43_SC 0) sc, st, by rw [t, up_eq], by rw [o, up_ne _ _ _ _ (by omega)]⟩
        refine href σ' true true _ hi' (by rw [decide_eq_true h]) (by rw [decide_eq_true hy]) (fun r hr => ?_)
        rw [hr, show (if (true && true) = true then (1 : Int) else 0) = 1 from rfl, gq_R (by omega) (by omega), if_neg (by decide), if_pos rfl, if_pos rfl, e, gc_v, gq_R h2.1 h2.2]
        by_cases hy0 : y = 0
        · rw [if_pos hy0, if_pos hy0, gq_ix (by omega) (by omega), Int.toNat_natCast, (k p hp).1]
        · rw [if_neg hy0, if_neg hy0, gq_ix (by omega) (by omega), Int.toNat_natCast, (k p hp).2]
    · refine CM_thr (k := 2) (b := 0) hi ?_ (by omega) ?_ (by omega)
      · unfold fx_204 fx_90
        rw [c110y hp hn hi.2.2.2.1.1, gc_v, gq_R h2.1 h2.2, if_neg (by omega), if_neg (by omega), gch_e, if_neg (by decide), if_pos rfl]
      · refine ⟨gb_up σ 187 43 2, ?_, up43_SC 2, up43_ST 2 hi.2.1, up_eq _ _ _ _, up_ne _ _ _ _ (by omega)⟩
        refine href σ true false _ hi (by rw [decide_eq_true h]) (by rw [decide_eq_false hy]) (fun r hr => ?_)
        rw [hr]
        exact (gq_R (by decide) (by decide)).trans (if_pos rfl)
  · refine CM_thr (k := 1) (b := 0) hi ?_ (by omega) ?_ (by omega)
    · unfold fx_204 fx_90
      rw [c110n h1 hn hi.2.2.2.1.1 h, gc_e, gch_e, if_pos rfl]
    · refine ⟨gb_up σ 187 43 1, ?_, up43_SC 1, up43_ST 1 hi.2.1, up_eq _ _ _ _, up_ne _ _ _ _ (by omega)⟩
      refine href σ false (decide (0 ≤ y ∧ y ≤ 1)) _ hi (by rw [decide_eq_false h]) rfl (fun r hr => ?_)
      rw [hr, Bool.false_and]
      exact (gq_R (by decide) (by decide)).trans (if_pos rfl)
theorem KF_KR {s : gb_S} (hb : RB σ n nb P ps) (hk : KF s n P) (d : Nat) : KR s (TT σ n P d) := by
  refine ⟨fun k hk2 => ?_, fun q k hq hk2 => ?_⟩
  · have hk3 : k < n := hk2
    rw [(hk k hk3).1, (hk k hk3).2]
    have h1 := F1_b hb.2.2.1 k
    have h2 := F2_b hb.2.2.1 k
    refine ⟨h1.1, ?_, h2.1, ?_⟩
    · show F1 P k < (n : Int)
      refine Int.lt_of_not_ge (fun hge => ?_)
      have := (F1_mem hb (k := k) (q := (F1 P k).toNat) (by omega)).1
      omega
    · show F2 P k < (n : Int)
      refine Int.lt_of_not_ge (fun hge => ?_)
      have := (F2_mem hb (k := k) (q := (F2 P k).toNat) (by omega)).1
      omega
  · show TP n P q k = _
    unfold TP
    rw [(hk k hk2).1, (hk k hk2).2, decide_eq_true (show q < n from hq), decide_eq_true (show k < n from hk2)]
    rfl
/-- 12: childrenOf -/
theorem qc12 {x : Int} (h1 : -2147483648 ≤ x ∧ x ≤ 2147483647) (hi : IV2 c σ n nb nd P ps De Cf) : CM (fun b => -2147483648 ≤ b ∧ b ≤ 2147483647) c (fx_205 x) (fx_151 x) σ := by
  have hn := hi.1.1
  by_cases h : 0 ≤ x ∧ x < (n : Int)
  · obtain ⟨p, rfl⟩ : ∃ p : Nat, x = (p : Int) := ⟨x.toNat, by omega⟩
    have hp : p < n := by omega
    have hkp := (hi.2.2.2.2.2.1).2 p (by omega)
    refine CM_val (s := σ) (v := σ 18 p) hi (SK_refl _) ?_ (fun σ' hsc hi' => ?_) hkp.1
    · unfold fx_205 fx_91
      rw [c110y hp hn hi.2.2.2.1.1, gc_v, g32 (by omega), gc_v, gch_v, gq_R hkp.1.1 hkp.1.2]
    · obtain ⟨s, e, k, sc, st, t, o⟩ := r143 (up43_IV 0 hi')
      refine rq_yes hp hi' ⟨s, ?_, SC_trans (up43_SC 0) sc, st, by rw [t, up_eq], by rw [o, up_ne _ _ _ _ (by omega)]⟩
      rw [gq_R (by omega) (by omega), if_neg (by decide), e, gc_v]
      have hkr := KF_KR hi'.1 k p
      have h3 : s 187 3 = (n : Int) := by rw [sc.2 3 (by omega) (by omega), up_nj _ _ _ _ (by omega)]; exact hi'.1.2.1
      have key : ∀ (m f : Nat) (z : Int), m ≤ n → m < f → (-2147483648 ≤ z ∧ z ≤ 2147483647) → (∀ q, bt z q = (decide (q < n - m) && TP n P p q)) → fx_151_22 f (p : Int) z ((n - m : Nat) : Int) s = some (.inl (σ 18 p), s) := by
        intro m
        induction m with
        | zero =>
          intro f z _ hf hz hb
          obtain ⟨f, rfl⟩ : ∃ q, f = q + 1 := ⟨f - 1, by omega⟩
          rw [fx_151_22, gq_R (by omega) (by omega), gq_R (by omega) (by omega), if_neg (by omega)]
          have : z = σ 18 p := bt_ext hz hkp.1 (fun q hq => by
            rw [hb q, hkp.2 q, Nat.sub_zero]
            unfold TP
            rw [decide_eq_true hp, Bool.true_and]
            by_cases hqn : q < n
            · rw [decide_eq_true hqn, decide_eq_true (show q < 14 by omega)]; rfl
            · rw [decide_eq_false hqn, Bool.false_and]
              have e1 : decide (F1 P q = (p : Int)) = false := decide_eq_false (fun h => hqn (F1_mem hi.1 h).2.1)
              have e2 : decide (F2 P q = (p : Int)) = false := decide_eq_false (fun h => hqn (F2_mem hi.1 h).2.1)
              rw [e1, e2]
              simp)
          rw [this]
        | succ m ih =>
          intro f z hm hf hz hb
          obtain ⟨f, rfl⟩ : ∃ q, f = q + 1 := ⟨f - 1, by omega⟩
          generalize hj : n - (m + 1) = j at hb ⊢
          have hj2 : n - m = j + 1 := by omega
          rw [hj2] at ih
          have hlt : ∀ q, decide (q < j + 1) = (decide (q < j) || decide (q = j)) := fun q => by
            rw [← Bool.decide_or]
            exact decide_eq_decide.mpr (by omega)
          rw [fx_151_22, gq_R (by omega) (by omega), gq_R (by omega) (by omega), if_pos (by omega), g144 (T := TT σ' n P p) hn hkr (show p < n from hp) (show j < n by omega), gc_v, gq_R (bR _).1 (bR _).2, show ((j : Nat) : Int) + 1 = ((j + 1 : Nat) : Int) by omega]
          show (if (if TP n P p j = true then (1 : Int) else 0) = 0 then _ else _) = _
          by_cases ht : TP n P p j = true
          · rw [if_pos ht, if_neg (by decide)]
            refine ih f _ (by omega) (by omega) (or_R _ _) (fun q => ?_)
            rw [bt_or, bt_shl (by omega), hb q, hlt]
            by_cases hq : q = j
            · subst hq; rw [ht]; simp
            · rw [decide_eq_false hq, Bool.or_false, Bool.or_false]
          · rw [if_neg ht, if_pos rfl]
            refine ih f _ (by omega) (by omega) (or_R _ _) (fun q => ?_)
            rw [bt_or, bt_zero, Bool.or_false, hb q, hlt]
            by_cases hq : q = j
            · subst hq; rw [Bool.not_eq_true] at ht; rw [ht]; simp
            · rw [decide_eq_false hq, Bool.or_false]
      have := key n gFU 0 (Nat.le_refl _) (by unfold gFU; omega) (by omega) (fun q => by rw [bt_zero, Nat.sub_self]; rfl)
      rw [Nat.sub_self] at this
      exact this
  · refine CM_thr (k := 1) (b := 0) hi ?_ (by omega) ?_ (by omega)
    · unfold fx_205 fx_91
      rw [c110n h1 hn hi.2.2.2.1.1 h, gc_e, gch_e, if_pos rfl]
    · exact rq_no h1 hi h (fun s => by rw [gq_R (by omega) (by omega), if_pos rfl])
/-- the shares that the class gives by now -/
theorem c119 (hi : IV2 c σ n nb nd P ps De Cf) {d : Nat} (hd : d < n) (hx : σ 189 d ≠ -1) : ∃ r s, fx_119 (d : Int) σ = some (.inl ((r : Nat) : Int), s) ∧ SK σ s ∧ gb_kd r = 6 ∧ cm s r (Rd σ n P d) ∧ (r = 41 ∨ r = 47 + 10 * d + 3) := by
  have hn := hi.1.1
  obtain ⟨e1, e2, e3, e4, e5, e6, e7, e8, e9, e10⟩ := hi.2.2.2.2.2.2.1 d (by omega)
  unfold fx_119
  rw [gq_ix (by omega) (by omega), Int.toNat_natCast, e5]
  by_cases h0 : σ 198 d = 0
  · obtain ⟨s, e, cc, f⟩ := g1 (r := 41) (TT_KH hi.1 hd) (KP_KC hi.1 hi.2.2.2.2.2.1 d) (IV_FK hi hd hx) (Or.inl rfl) ⟨d, by omega, rfl⟩ (by omega)
    rw [gq_R (by omega) (by omega), if_pos h0, e, gc_v]
    exact ⟨41, s, rfl, fun x hx => f x (by unfold scr at hx; omega) (by unfold scr at hx; omega) (by unfold scr at hx; omega) (by unfold scr at hx; omega) (by unfold scr at hx; omega), rfl, cc, Or.inl rfl⟩
  · have h1 : σ 198 d = 1 := by rcases e6 with h | h; exact absurd h h0; exact h
    rw [gq_R (by rw [h1]; omega) (by rw [h1]; omega), if_neg h0]
    have hc := (e10 () h1).2.2.2.2.2
    exact ⟨47 + 10 * d + 3, σ, rfl, SK_refl _, ges3 (ges_all d (List.mem_range.mpr (by omega))), hc, Or.inr rfl⟩
/-- the reference's question about an estate: refused -/
theorem r173n {x y : Int} (h1 : -2147483648 ≤ x ∧ x ≤ 2147483647) (h2 : -2147483648 ≤ y ∧ y ≤ 2147483647) (hi : IV2 c σ n nb nd P ps De Cf) (h : ¬ (0 ≤ x ∧ x < (n : Int)) ∨ ¬ (0 ≤ y ∧ y < (n : Int))) : fx_173 x y σ = some (.inl 0, gb_up σ 187 43 1) := by
  have hn := hi.1.1
  have e21 : fx_173_21 y 0 σ = some (.inl 0, gb_up σ 187 43 1) := by
    unfold fx_173_21 fx_173_43
    rw [gq_R (by omega) (by omega), if_pos rfl]
    have := g128 (σ := σ) false false
    rw [show (if false = true then (1 : Int) else 0) = 0 from rfl] at this
    rw [this, gc_v]
    rw [show (if (false && false) = true then (1 : Int) else 0) = 0 from rfl, gq_R (by omega) (by omega), if_pos rfl, gq_B (Or.inl rfl)]
    rfl
  unfold fx_173
  rw [g131 h1 hn hi.1.2.1, gc_v, gq_R (bR _).1 (bR _).2]
  by_cases hx : 0 ≤ x ∧ x < (n : Int)
  · have hy : ¬ (0 ≤ y ∧ y < (n : Int)) := by omega
    rw [decide_eq_true hx, if_pos rfl, if_neg (by decide), g131 h2 hn hi.1.2.1, gc_v, gq_R (bR _).1 (bR _).2, decide_eq_false hy]
    exact e21
  · rw [decide_eq_false hx]
    exact e21
/-- alive -/
theorem r173a {p d : Nat} (hp : p < n) (hd : d < n) (hi : IV2 c σ n nb nd P ps De Cf) (hx : σ 189 d = -1) : fx_173 (p : Int) (d : Int) σ = some (.inl 0, gb_up σ 187 43 2) := by
  have hn := hi.1.1
  unfold fx_173
  rw [g131 (by omega) hn hi.1.2.1, gc_v, gq_R (bR _).1 (bR _).2, decide_eq_true (show 0 ≤ (p : Int) ∧ (p : Int) < (n : Int) by omega), if_pos rfl, if_neg (by decide), g131 (by omega) hn hi.1.2.1, gc_v, gq_R (bR _).1 (bR _).2, decide_eq_true (show 0 ≤ (d : Int) ∧ (d : Int) < (n : Int) by omega), if_pos rfl, if_neg (by decide)]
  unfold fx_173_21 fx_173_43
  have := g128 (σ := σ) true false
  rw [show (if false = true then (1 : Int) else 0) = 0 from rfl, show (if true = true then (1 : Int) else 0) = 1 from rfl] at this
  rw [gq_R (by omega) (by omega), if_neg (by decide), gq_ix (by omega) (by omega), Int.toNat_natCast, hx, gq_R (by omega) (by omega), if_pos rfl, this, gc_v]
  rw [show (if (true && false) = true then (1 : Int) else 0) = 0 from rfl, gq_R (by omega) (by omega), if_pos rfl, gq_B (Or.inl rfl)]
  rfl
/-- dead: shares are found -/
theorem r173y {p d : Nat} (hp : p < n) (hd : d < n) (hi : IV2 c σ n nb nd P ps De Cf) (hx : σ 189 d ≠ -1) : ∃ s, fx_173 (p : Int) (d : Int) σ = some (.inl 1, s) ∧ cs s n (Rd σ n P d) ∧ SC σ s ∧ ST s n P ∧ s 187 43 = 0 ∧ s 224 = σ 224 := by
  have hn := hi.1.1
  have hb := (hi.1.2.2.2.2.2.2.2.2.1 d hd).2
  obtain ⟨s, e, cc, j, z, k, f⟩ := gR168 (up43_IV 0 hi).1 (up43_IV 0 hi).2.1 hd
  rw [SC_Rd (up43_SC 0)] at cc
  refine ⟨s, ?_, cc, SC_trans (up43_SC 0) ⟨fun c h1 h2 => f c h2 (by unfold scr at h1; omega), fun i h1 _ => j i h1⟩, Or.inl ⟨z, k⟩, by rw [j 43 (by omega), up_eq], by rw [f 224 (by omega) (by omega), up_ne _ _ _ _ (by omega)]⟩
  unfold fx_173
  rw [g131 (by omega) hn hi.1.2.1, gc_v, gq_R (bR _).1 (bR _).2, decide_eq_true (show 0 ≤ (p : Int) ∧ (p : Int) < (n : Int) by omega), if_pos rfl, if_neg (by decide), g131 (by omega) hn hi.1.2.1, gc_v, gq_R (bR _).1 (bR _).2, decide_eq_true (show 0 ≤ (d : Int) ∧ (d : Int) < (n : Int) by omega), if_pos rfl, if_neg (by decide)]
  unfold fx_173_21 fx_173_43
  have := g128 (σ := σ) true true
  rw [show (if true = true then (1 : Int) else 0) = 1 from rfl] at this
  rw [gq_R (by omega) (by omega), if_neg (by decide), gq_ix (by omega) (by omega), Int.toNat_natCast, gq_R (by omega) (by omega), if_neg hx, this, gc_v]
  rw [show (if (true && true) = true then (1 : Int) else 0) = 1 from rfl, gq_R (by omega) (by omega), if_neg (by decide), if_pos rfl, if_pos rfl, e, gc_v, gq_B (Or.inr rfl)]
theorem R_rng {d : Nat} (hS : SR n (Rd σ n P d)) (p : Nat) : (0 ≤ (Rd σ n P d p).num ∧ (Rd σ n P d p).num ≤ 1000000000) ∧ (0 ≤ ((Rd σ n P d p).den : Int) ∧ ((Rd σ n P d p).den : Int) ≤ 1000000000) := by
  have h := hS.1 p
  have h1 := num_le_den h.2.1
  have h2 : 0 ≤ (Rd σ n P d p).num := Rat.num_nonneg.mpr h.1
  have h3 := h.2.2
  omega
end QB1
