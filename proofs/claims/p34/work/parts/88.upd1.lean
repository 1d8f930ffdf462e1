section UA1
variable {σ σ' : gb_S} {c n nb nd : Nat} {P : pT} {ps : Nat → Nat} {De : Nat → dT} {Cf : Nat → List Nat}
theorem FO_cong (f : ∀ c, (2 ≤ c ∧ c ≤ 5) ∨ c = 188 ∨ c = 189 ∨ c = 210 → σ' c = σ c) (h : FO σ n) : FO σ' n := by
  unfold FO
  rw [f 2 (by omega), f 3 (by omega), f 4 (by omega), f 5 (by omega), f 188 (by omega), f 189 (by omega), f 210 (by omega)]
  exact h
theorem PO_cong (f : ∀ c, (6 ≤ c ∧ c ≤ 14) ∨ (190 ≤ c ∧ c ≤ 196) → σ' c = σ c) (h : PO σ nb P) : PO σ' nb P := by
  unfold PO
  rw [f 6 (by omega), f 7 (by omega), f 8 (by omega), f 9 (by omega), f 10 (by omega), f 11 (by omega), f 12 (by omega), f 13 (by omega), f 14 (by omega), f 190 (by omega), f 191 (by omega), f 192 (by omega), f 193 (by omega), f 194 (by omega), f 195 (by omega), f 196 (by omega)]
  exact h
theorem KP_cong {a : Nat} (f : ∀ c, a + 1 ≤ c ∧ c ≤ a + 3 → σ' c = σ c) (h : KP σ a P) : KP σ' a P := by
  unfold KP
  rw [f (a + 1) (by omega), f (a + 2) (by omega), f (a + 3) (by omega)]
  exact h
theorem EO_cong {d : Nat} (hR : Rd σ' n P = Rd σ n P) (f : ∀ c, (47 + 10 * d ≤ c ∧ c ≤ 49 + 10 * d) ∨ c = 51 + 10 * d ∨ c = 52 + 10 * d ∨ c = 56 + 10 * d ∨ c = 189 ∨ (197 ≤ c ∧ c ≤ 203) → σ' c = σ c) (he : EO σ c n nd P De Cf d) : EO σ' c n nd P De Cf d := by
  have e0 : σ' (47 + 10 * d) = σ (47 + 10 * d) := f _ (by omega)
  have e1 : σ' (47 + 10 * d + 1) = σ (47 + 10 * d + 1) := f _ (by omega)
  have e2 : σ' (47 + 10 * d + 2) = σ (47 + 10 * d + 2) := f _ (by omega)
  have e4 : σ' (47 + 10 * d + 3 + 1) = σ (47 + 10 * d + 3 + 1) := f _ (by omega)
  have e5 : σ' (47 + 10 * d + 3 + 2) = σ (47 + 10 * d + 3 + 2) := f _ (by omega)
  have e9 : σ' (56 + 10 * d) = σ (56 + 10 * d) := f _ (by omega)
  unfold EO CL CR cm ww
  rw [e0, e1, e2, e4, e5, e9, hR, f 189 (by omega), f 197 (by omega), f 198 (by omega), f 199 (by omega), f 200 (by omega), f 201 (by omega), f 202 (by omega), f 203 (by omega)]
  exact he
theorem DR_cong (h25 : σ' 187 25 = σ 187 25) (f : ∀ c, 204 ≤ c ∧ c ≤ 208 → σ' c = σ c) (h : DR σ nd De) : DR σ' nd De := by
  unfold DR
  rw [h25, f 204 (by omega), f 205 (by omega), f 206 (by omega), f 207 (by omega), f 208 (by omega)]
  exact h
theorem LO_cong (hn : n ≤ 14) (hR : Rd σ' n P = Rd σ n P) (f : ∀ c, (30 ≤ c ∧ c ≤ 37) ∨ c = 198 ∨ (204 ≤ c ∧ c ≤ 209) ∨ (47 ≤ c ∧ c ≤ 177 ∧ c % 10 = 7) → σ' c = σ c) (h25 : σ' 187 25 = σ 187 25) (h26 : σ' 187 26 = σ 187 26) (hl : LO σ n nd P De Cf) : LO σ' n nd P De Cf := by
  obtain ⟨l1, l2, l3, l4, l5, l6, l7, l8, l9, l10⟩ := hl
  refine ⟨DC_cong (by rw [f 30 (by omega)]) (fun c h1 h2 => f c (by omega)) l1, DR_cong h25 (fun c hc => f c (by omega)) l2, l3, l4, fun k hk h2 => ?_, ?_, ?_, ?_, ?_, ?_⟩
  · have hn := (l3.2 k hk).2.1
    rw [f 198 (by omega), f (47 + 10 * (De k).2.1) (by omega)]
    exact l5 k hk h2
  · rw [f 30 (by omega), h26]; exact l6
  · rw [h26]; exact l7
  · rw [f 36 (by omega), f 209 (by omega), f 35 (by omega)]; exact l8
  · rw [f 37 (by omega), hR]; exact l9
  · rw [f 209 (by omega), f 198 (by omega), h26]; exact l10
/-- the day alone is another -/
theorem IV_day (hc : ∀ c, ¬ scr c → c ≠ 187 → c ≠ 1 → σ' c = σ c) (hj : ∀ j, j ≠ 29 → j ≠ 43 → j ≠ 0 → σ' 187 j = σ 187 j) (hst : ST σ' n P) (hd : σ' 187 0 = σ' 1 9 ∧ 0 ≤ σ' 1 9 ∧ σ' 1 9 ≤ 2000) (hi : IV2 c σ n nb nd P ps De Cf) : IV2 c σ' n nb nd P ps De Cf := by
  obtain ⟨i1, i2, i3, i4, i5, i6, i7, i8⟩ := hi
  have hn := i1.1
  have hR : Rd σ' n P = Rd σ n P := funext fun d => Rd_cong (fun c h => hc c (by unfold scr; omega) (by omega) (by omega)) n P d
  have hns : ∀ c, ¬ scr c → c ≠ 187 → c ≠ 1 → σ' c = σ c := hc
  refine ⟨RB_cong (fun j h => hj j (by omega) (by omega) (by omega)) (fun c h => hc c (by unfold scr; omega) (by omega) (by omega)) i1, hst, hd, FO_cong (fun c h => hc c (by unfold scr; omega) (by omega) (by omega)) i4, PO_cong (fun c h => hc c (by unfold scr; omega) (by omega) (by omega)) i5, KP_cong (fun c h => hc c (by unfold scr; omega) (by omega) (by omega)) i6, fun d hd => EO_cong hR (fun c h => hc c (by unfold scr; omega) (by omega) (by omega)) (i7 d hd), LO_cong hn hR (fun c h => hc c (by unfold scr; omega) (by omega) (by omega)) (hj 25 (by omega) (by omega) (by omega)) (hj 26 (by omega) (by omega) (by omega)) i8⟩
/-- 0: pass -/
theorem uc0 {x : Int} (h1 : -2147483648 ≤ x ∧ x ≤ 2147483647) (hi : IV2 c σ n nb nd P ps De Cf) : CM rI c (fx_196 x) (fx_135 x) σ := by
  have hd := hi.2.2.1
  have href : ∀ (σ' : gb_S) (b1 b2 : Bool), IV2 c σ' n nb nd P ps De Cf → b1 = decide (1 ≤ x ∧ x ≤ 100) → (b1 = true → b2 = !decide (2000 < σ' 187 0 + x)) → fx_135 x σ' = (gq (gR (if (b1 && b2) = true then (1 : Int) else 0)) (if (if (b1 && b2) = true then (1 : Int) else 0) = 0 then some (.inl 0, gb_up σ' 187 43 (if b1 = true then (if b2 = true then 0 else 2) else 1)) else some (.inl ((gb_up (gb_up σ' 187 43 (if b1 = true then (if b2 = true then 0 else 2) else 1)) 187 0 ((gb_up σ' 187 43 (if b1 = true then (if b2 = true then 0 else 2) else 1)) 187 0 + x)) 187 0), gb_up (gb_up σ' 187 43 (if b1 = true then (if b2 = true then 0 else 2) else 1)) 187 0 ((gb_up σ' 187 43 (if b1 = true then (if b2 = true then 0 else 2) else 1)) 187 0 + x))) : Option gb_P) := by
    intro σ' b1 b2 hi' hb1 hb2
    have hd' := hi'.2.2.1
    unfold fx_135
    rw [g126 h1 (by omega) (by omega), gc_v, ← hb1, gq_R (bR _).1 (bR _).2]
    cases b1 with
    | false =>
      rw [show (if false = true then (1 : Int) else 0) = 0 from rfl, if_pos rfl]
      unfold fx_135_31
      have := g128 (σ := σ') false false
      rw [show (if false = true then (1 : Int) else 0) = 0 from rfl] at this
      rw [this, gc_v]
      rfl
    | true =>
      have hb2 := hb2 rfl
      rw [eq_comm, decide_eq_true_eq] at hb1
      rw [show (if true = true then (1 : Int) else 0) = 1 from rfl, if_neg (by decide), gq_R (by omega) (by omega)]
      unfold fx_135_31
      by_cases h2 : 2000 < σ' 187 0 + x
      · rw [decide_eq_true h2] at hb2
        subst hb2
        have := g128 (σ := σ') true false
        rw [show (if false = true then (1 : Int) else 0) = 0 from rfl, show (if true = true then (1 : Int) else 0) = 1 from rfl] at this
        rw [if_pos h2, this, gc_v]
        rfl
      · rw [decide_eq_false h2] at hb2
        subst hb2
        have := g128 (σ := σ') true true
        rw [show (if true = true then (1 : Int) else 0) = 1 from rfl] at this
        rw [if_neg h2, this, gc_v]
        rfl
  by_cases ha : 1 ≤ x ∧ x ≤ 100
  · by_cases hb : 2000 < σ 1 9 + x
    · refine CM_thr (k := 2) (b := 0) hi ?_ (by omega) ⟨gb_up σ 187 43 2, ?_, up43_SC 2, up43_ST 2 hi.2.1, up_eq _ _ _ _, up_ne _ _ _ _ (by omega)⟩ (by unfold rI; omega)
      · unfold fx_196 fx_79
        rw [gq_R (by omega) (by omega), if_neg (by omega), if_neg (by omega), gq_R (by omega) (by omega), if_pos hb, gch_e, if_neg (by decide), if_pos rfl]
      · rw [href σ true false hi (by rw [decide_eq_true ha]) (fun _ => by rw [decide_eq_true (by omega)]; rfl)]
        exact (gq_R (by decide) (by decide)).trans (if_pos rfl)
    · have hR2 : -2147483648 ≤ σ 1 9 + x ∧ σ 1 9 + x ≤ 2147483647 := by omega
      have e1 : fx_196 x σ = some (.inl 0, gb_up (gb_up σ 1 9 (σ 1 9 + x)) 224 0 (σ 1 9 + x)) := by
        unfold fx_196 fx_79
        rw [gq_R (by omega) (by omega), if_neg (by omega), if_neg (by omega), gq_R (by omega) (by omega), if_neg hb, gch_v, up_eq, gq_R (by omega) (by omega)]
      have hf1 : ∀ c, ¬ scr c → c ≠ 187 → c ≠ 1 → gb_up (gb_up σ 1 9 (σ 1 9 + x)) 224 0 (σ 1 9 + x) c = σ c := fun c h1 h2 h3 => by
        rw [up_ne _ _ _ _ (by intro q; apply h1; unfold scr; omega), up_ne _ _ _ _ h3]
      have h187 : gb_up (gb_up σ 1 9 (σ 1 9 + x)) 224 0 (σ 1 9 + x) 187 = σ 187 := by rw [up_ne _ _ _ _ (by omega), up_ne _ _ _ _ (by omega)]
      -- the reference behind it
      have e2 : fx_135 x (gb_up (gb_up σ 1 9 (σ 1 9 + x)) 224 0 (σ 1 9 + x)) = some (.inl (σ 1 9 + x), gb_up (gb_up (gb_up (gb_up σ 1 9 (σ 1 9 + x)) 224 0 (σ 1 9 + x)) 187 43 0) 187 0 (σ 1 9 + x)) := by
        unfold fx_135
        rw [g126 h1 (by omega) (by omega), gc_v, decide_eq_true ha, if_pos rfl, gq_R (by omega) (by omega), if_neg (by decide), h187, hd.1, gq_R (by omega) (by omega), if_neg hb]
        unfold fx_135_31
        have := g128 (σ := gb_up (gb_up σ 1 9 (σ 1 9 + x)) 224 0 (σ 1 9 + x)) true true
        rw [show (if true = true then (1 : Int) else 0) = 1 from rfl] at this
        rw [this, gc_v, show (if (true && true) = true then (1 : Int) else 0) = 1 from rfl, gq_R (by omega) (by omega), if_neg (by decide), if_pos rfl, if_pos rfl, up_eq, up_nj _ _ _ _ (by omega), h187, hd.1]
      refine ⟨0, _, _, _, e1, e2, ?_, fun _ => ?_, by omega, by unfold rI; omega, n, nb, nd, P, ps, De, Cf, IV_mono (IV_day (σ := σ) (fun c h1 h2 h3 => ?_) (fun j h1 h2 h3 => ?_) ?_ ?_ hi)⟩
      · rw [up_nj _ _ _ _ (by omega), up_eq]
      · rw [up_ne _ _ _ _ (by omega), up_ne _ _ _ _ (by omega), up_eq]
      · rw [up_ne _ _ _ _ h2, up_ne _ _ _ _ h2]; exact hf1 c h1 h2 h3
      · rw [up_nj _ _ _ _ h3, up_nj _ _ _ _ h2, h187]
      · exact ST_cong (by rw [up_nj _ _ _ _ (by omega), up_nj _ _ _ _ (by omega), h187]) (by rw [up_ne _ _ _ _ (by omega), up_ne _ _ _ _ (by omega), up_ne _ _ _ _ (by omega), up_ne _ _ _ _ (by omega)]) (by rw [up_ne _ _ _ _ (by omega), up_ne _ _ _ _ (by omega), up_ne _ _ _ _ (by omega), up_ne _ _ _ _ (by omega)]) hi.2.1
      · rw [up_eq, up_ne _ _ _ _ (by omega), up_ne _ _ _ _ (by omega), up_ne _ _ _ _ (by omega), up_eq]
        omega
  · refine CM_thr (k := 1) (b := 0) hi ?_ (by omega) ⟨gb_up σ 187 43 1, ?_, up43_SC 1, up43_ST 1 hi.2.1, up_eq _ _ _ _, up_ne _ _ _ _ (by omega)⟩ (by unfold rI; omega)
    · unfold fx_196 fx_79
      rw [gq_R (by omega) (by omega)]
      by_cases h0 : x < 1
      · rw [if_pos h0, gch_e, if_pos rfl]
      · rw [if_neg h0, if_pos (by omega), gch_e, if_pos rfl]
    · rw [href σ false false hi (by rw [decide_eq_false ha]) (fun h => by cases h)]
      exact (gq_R (by decide) (by decide)).trans (if_pos rfl)
end UA1
