section JV1
variable {σ : gb_S} {c n nb nd : Nat} {P : pT} {ps : Nat → Nat} {De : Nat → dT} {Cf : Nat → List Nat}
/-- 8: judge -/
theorem uc8 {x : Int} (u : Bool) (h1 : -2147483648 ≤ x ∧ x ≤ 2147483647) (hc : c ≤ 1000) (hi : IV2 c σ n nb nd P ps De Cf) : CM rI c (fx_202 x (ib u)) (fx_147 x (ib u)) σ := by
  have hn := hi.1.1
  have h30 := hi.1.2.2.1.1
  obtain ⟨p1, p2, p3, p4, p5⟩ := id hi.2.2.2.2.1
  obtain ⟨a1, a2, a3, a4, a5⟩ := id hi.1.2.2.2.1
  have hr := r147 (w := ib u) h1 hi.1
  by_cases hx : 0 ≤ x ∧ x < (nb : Int)
  · obtain ⟨d, rfl⟩ : ∃ d : Nat, x = (d : Int) := ⟨x.toNat, by omega⟩
    have hd : d < nb := by omega
    have hb1 : true = decide (0 ≤ (d : Int) ∧ (d : Int) < (nb : Int)) := by rw [decide_eq_true hx]
    obtain ⟨e12, e13, e14, e194, ef⟩ := p4 d hd
    obtain ⟨b196, b194, b195⟩ := a4 d hd
    have pre : fx_87 (d : Int) (ib u) σ = (if ib (!decide (σ 14 d = 0)) = 0 then some (.inr 2, σ) else gc (fx_61 (d : Int) (ib u) σ) (fun _ s7 => gc (fx_121 s7) (fun r8 s9 => some (.inl r8, s9)))) := by
      unfold fx_87
      rw [gq_R (by omega) (by omega), if_neg (by omega), p2, gq_R (by omega) (by omega), if_pos (by omega), c64 hd a3 p2 (by omega), gc_v, gq_R (ibR _).1 (ibR _).2]
    by_cases ho : σ 196 d = 0
    · refine CM_thr (k := 2) (b := 0) hi ?_ (by omega) (r147f (by rfl) (by rfl) hi.2.1 (hr true false hb1 (by rw [Int.toNat_natCast, decide_eq_true ho]; rfl))) (by unfold rI; omega)
      unfold fx_202
      rw [pre, e14, decide_eq_true ho, Bool.not_true, ibF, if_pos rfl, gch_e, if_neg (by decide), if_pos rfl]
    · have ho1 : σ 196 d = 1 := by omega
      obtain ⟨p, hp⟩ : ∃ p : Nat, σ 194 d = (p : Int) := ⟨(σ 194 d).toNat, by omega⟩
      have hpP : p < P.1 := by omega
      have hBD : BD σ nb P.1 := ⟨p1, p2, h30, a3, fun j hj => ⟨(p4 j hj).1, (p4 j hj).2.1, by have := (a4 j hj).2.1; have := (p4 j hj).2.2.2.1; omega⟩⟩
      obtain ⟨sA, e61, q1, q2, q3, q4, q5⟩ := c61 (op := σ 196) u hBD ⟨fun j hj => (p4 j hj).2.2.1, fun k hk => (p3 k hk).2.2.2.2, fun _ _ => rfl, fun _ _ _ => rfl⟩ (fun j hj => (a4 j hj).1) hd ho1 hp
      obtain ⟨hrbC, hpoC⟩ := C8_ok hi hpP q1 q2 q3 q4 q5
      have hC : ∀ c, (c < 6 ∨ 14 < c) → (c < 190 ∨ 196 < c) → c ≠ 187 → C8 σ sA u d p nb c = σ c := fun c h1 h2 h3 => C8_o h1 (by omega) (by omega)
      obtain ⟨s1, e121, hk1⟩ := KUc (sA := sA) hi hC hrbC hpoC (fun c k1 k2 => (C8_a k1 k2).symm) (fun c h => q5 c (by omega) (by omega) (by omega))
      generalize hP' : pO (C8 σ sA u d p nb) P nb = P' at hrbC hpoC e121 hk1
      generalize hans : ((ct (fun u => !decide (ow n (Rd σ n P') Cf De nd u = σ 37 u)) 60 : Nat) : Int) = ans at e121
      have hle := ct_le (fun u => !decide (ow n (Rd σ n P') Cf De nd u = σ 37 u)) 60
      have hk1 := hk1 ans
      have hc1 : fx_202 (d : Int) (ib u) σ = some (.inl 0, gb_up s1 224 0 ans) := by
        unfold fx_202
        rw [pre, e14, decide_eq_false ho, Bool.not_false, ibT, if_neg (by decide), e61, gc_v, e121, gc_v, gch_v, gq_R (by omega) (by omega)]
      have hout : gb_up s1 224 0 ans 224 0 = ans := up_eq _ _ _ _
      generalize hs1 : gb_up s1 224 0 ans = s1' at hk1 hc1 hout
      obtain ⟨f1, r1, r2, r3, r4, r5⟩ := K1_ref hi hk1
      have h170 := r170 r1 n gFU (gb_up s1' 187 43 0) (Nat.le_refl _) (by unfold gFU; omega) (up43_SC 0) (up43_ST 0 r2) (fun d hd => by omega)
      rw [Nat.sub_self] at h170
      obtain ⟨s5, e5, sc5, st5, t5, o5, z5, u5, k5⟩ := h170
      have e5' : fx_170 (gb_up s1' 187 43 0) = some (.inl 0, s5) := e5
      obtain ⟨l1, l2, l3, l4, l5, l6, l7, l8, l9, l10⟩ := id hi.2.2.2.2.2.2.2
      have fs5 : ∀ c, ¬ scr c → (187 < c) → s5 c = σ c := fun c k1 k2 => by rw [sc5.1 c k1 (by omega), f1 c (by
        have : c ≠ 224 := by intro q; apply k1; unfold scr; omega
        omega)]
      have js5 : ∀ j, j ≠ 29 → j ≠ 43 → s5 187 j = σ 187 j := fun j k1 k2 => by rw [sc5.2 j k1 k2, f1 187 (by omega)]
      -- the old land
      obtain ⟨s7, e7, r7, d7a, d7b, d7c⟩ := g184 (σ := s5) (P := P) (nb := nb) (ps := ps) (De := De) (Cf := Cf) (RB_cong (fun j h => sc5.2 j (by omega) (by omega)) (fun c h => sc5.1 c (by unfold scr; omega) (by omega)) r1) st5 (DR_cong (sc5.2 25 (by omega) (by omega)) (fun c h => sc5.1 c (by unfold scr; omega) (by omega)) r3) l3 (fun e he => CR_keep (by rw [sc5.1 202 (by unfold scr; omega) (by omega)]) (fun k _ => by rw [sc5.1 201 (by unfold scr; omega) (by omega)]) (r4 e he))
      have hR5 : Rd s5 n P = Rd σ n P := by rw [SC_Rd sc5, r5]
      have h7 : ∀ v, v < 60 → s7 222 v = σ 37 v := fun v hv => by rw [r7 v hv, hR5, l9 v hv]
      have hcopy := r147c (x1 := (d : Int)) (x2 := ib u) (by omega) 60 gFU s7 (Nat.le_refl _) (by unfold gFU; omega) (fun v hv => by omega)
      rw [Nat.sub_self] at hcopy
      obtain ⟨s8, e8, q8, g8⟩ := hcopy
      have e8' : fx_147_45 gFU (d : Int) (ib u) 0 s7 = fx_147_82 gFU (d : Int) (ib u) 0 (gb_up s8 196 (d : Int).toNat 0) := e8
      rw [Int.toNat_natCast] at e8'
      have f8 : ∀ c, c ≠ 187 → (c < 211 ∨ 219 < c) → c ≠ 222 → c ≠ 223 → s8 c = s5 c := fun c k1 k2 k3 k4 => by rw [g8 c k4, d7c c k1 k2 k3]
      have j8 : ∀ j, j ≠ 29 → s8 187 j = s5 187 j := fun j k1 => by rw [g8 187 (by omega), d7a j k1]
      have f8σ : ∀ c, 190 ≤ c → c ≤ 196 → s8 c = σ c := fun c k1 k2 => by rw [f8 c (by omega) (by omega) (by omega) (by omega), fs5 c (by unfold scr; omega) (by omega)]
      -- settled
      obtain ⟨s9, e9, q9a, q9b, g9⟩ := r147s (s := s8) (p := p) (nb := nb) u hd a3 (by omega) (by rw [j8 12 (by omega), js5 12 (by omega) (by omega)]; exact a2) (by rw [f8σ 194 (by omega) (by omega)]; exact hp) (fun j hj => by rw [f8σ 194 (by omega) (by omega), f8σ 196 (by omega) (by omega)]; exact ⟨(a4 j hj).1, (a4 j hj).2.1⟩)
      rw [f8σ 196 (by omega) (by omega), f8σ 194 (by omega) (by omega)] at q9a
      rw [f8σ 193 (by omega) (by omega)] at q9b
      have hBo : ∀ c, c ≠ 187 → gb_up s9 187 29 1 c = s9 c := fun c k1 => up_ne _ _ _ _ k1
      have hBj : ∀ j, j ≠ 29 → gb_up s9 187 29 1 187 j = s5 187 j := fun j k1 => by rw [up_nj _ _ _ _ k1, g9 187 (by omega) (by omega), j8 j k1]
      have sc8 : SC s1' s8 := SC_trans sc5 ⟨fun c k1 k2 => f8 c k2 (by unfold scr at k1; omega) (by unfold scr at k1; omega) (by unfold scr at k1; omega), fun j k1 k2 => j8 j k1⟩
      obtain ⟨s2, e2, i2, j2, m1, m2, m3⟩ := KUr (s5 := s8) (sB := gb_up s9 187 29 1) hi hc hk1 hC (by rw [C8_o (by omega) (by omega) (by omega)]) hrbC hpoC sc8 (fun e he h1 => by
        have := k5 e he (by rw [f1 198 (by omega)]; exact h1)
        rw [r5] at this
        unfold kpt at this ⊢
        rw [f8 220 (by omega) (by omega) (by omega) (by omega), f8 221 (by omega) (by omega) (by omega) (by omega)]
        exact this) (fun c k1 k2 => by rw [hBo c k1, g9 c (by omega) (by omega)]) (fun c k1 k2 => by
        rw [hBo c (by omega)]
        by_cases hc6 : c = 196
        · rw [hc6, q9a, C8_196]
        · by_cases hc3 : c = 193
          · rw [hc3, q9b, C8_193]
          · rw [g9 c hc3 hc6, f8σ c k1 k2, C8_o (by omega) hc3 hc6]) (by rw [hBj 8 (by omega), js5 8 (by omega) (by omega), C8_o (by omega) (by omega) (by omega)]) (by rw [hBj 12 (by omega), js5 12 (by omega) (by omega), C8_o (by omega) (by omega) (by omega)]) (up_eq _ _ _ _) (fun j k1 k2 k3 k4 => by rw [hBj j k3, j8 j k3])
      -- the new land
      obtain ⟨L1, L2, L3, L4, L5, L6, L7, L8, L9, L10⟩ := id i2.2.2.2.2.2.2.2
      obtain ⟨s3, e3, r3', d3a, d3b, d3c⟩ := g184 (σ := s2) (P := P') (nb := nb) (ps := ps) (De := De) (Cf := Cf) i2.1 i2.2.1 L2 L3 (fun e he => (i2.2.2.2.2.2.2.1 e (by omega)).2.2.2.1)
      have h3new : ∀ v, v < 60 → s3 222 v = ow n (Rd σ n P') Cf De nd v := fun v hv => by
        rw [r3' v hv, ← L9 v hv, m3]
        exact hk1.2.1 v hv
      have h3old : ∀ v, v < 60 → s3 223 v = σ 37 v := fun v hv => by
        rw [d3c 223 (by omega) (by omega) (by omega), m2, q8 v hv, h7 v hv]
      have hct : ((ct (fun v => !decide (s3 223 v = s3 222 v)) 60 : Nat) : Int) = ans := by
        have he : ct (fun v => !decide (s3 223 v = s3 222 v)) 60 = ct (fun u => !decide (ow n (Rd σ n P') Cf De nd u = σ 37 u)) 60 := ct_congr (fun v hv => by rw [h3new v hv, h3old v hv, decide_eq_decide.mpr eq_comm])
        rw [he, hans]
      have hc2 : fx_147 (d : Int) (ib u) s1' = some (.inl ans, s3) := by
        rw [r147 (w := ib u) h1 r1 true true hb1 (by rw [Int.toNat_natCast, f1 196 (by omega), decide_eq_false ho]; rfl)]
        unfold fx_147_26
        rw [i128, gc_v, show (true && true) = true from rfl, ibT, gq_R (by omega) (by omega), if_neg (by decide), if_pos rfl, if_pos rfl, e5', gc_v, e7, gc_v, e8', e9]
        unfold fx_147_151
        rw [e2, gc_v, e3, gc_v, r147n (fun v hv => ?_) (fun v hv => ?_), hct]
        · have := own_b i2 hv
          rw [r3' v hv, ← L9 v hv]; omega
        · have := own_b hi hv
          rw [h3old v hv]; omega
      refine ⟨0, s1', ans, s3, hc1, hc2, ?_, fun _ => ?_, by omega, by unfold rI; omega, n, nb, nd, P', ps, De, Cf, ?_⟩
      · rw [d3a 43 (by omega), j2 43 (by omega), hBj 43 (by omega), t5, up_eq]
      · rw [d3c 224 (by omega) (by omega) (by omega), m1, f8 224 (by omega) (by omega) (by omega) (by omega), o5, up_ne _ _ _ _ (by omega), hout]
      · exact SC_IV ⟨fun c k1 k2 => d3c c k2 (by unfold scr at k1; omega) (by unfold scr at k1; omega), fun j k1 _ => d3a j k1⟩ d3b i2
  · refine CM_thr (k := 1) (b := 0) hi ?_ (by omega) (r147f (by rfl) (by rfl) hi.2.1 (hr false _ (by rw [decide_eq_false hx]) rfl)) (by unfold rI; omega)
    unfold fx_202 fx_87
    rw [gq_R h1.1 h1.2]
    by_cases h0 : x < 0
    · rw [if_pos h0, gch_e, if_pos rfl]
    · rw [if_neg h0, p2, gq_R (by omega) (by omega), if_neg (by omega), gch_e, if_pos rfl]
end JV1
