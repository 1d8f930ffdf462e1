section DJ1
variable {σ : gb_S} {c n nb nd : Nat} {P : pT} {ps : Nat → Nat} {De : Nat → dT} {Cf : Nat → List Nat}
/-- the shares by now are kept for comparing -/
theorem r178c {d : Nat} {R : Nat → Rat} (hn : n ≤ 14) (hd : d < 14) : ∀ (m f : Nat) (s : gb_S), m ≤ n → m < f → s 187 3 = (n : Int) → cs s n R → (∀ p, p < n - m → s 220 (14 * d + p) = (R p).num ∧ s 221 (14 * d + p) = ((R p).den : Int)) → ∃ s', fx_178_13 f (d : Int) ((n - m : Nat) : Int) s = fx_178_65 gFU (d : Int) 0 0 s' ∧ kpt s' n d R ∧ ∀ c, c ≠ 220 → c ≠ 221 → s' c = s c := by
  intro m
  induction m with
  | zero =>
    intro f s _ hf h3 hc hk
    obtain ⟨f, rfl⟩ : ∃ q, f = q + 1 := ⟨f - 1, by omega⟩
    refine ⟨s, ?_, hk, fun _ _ _ => rfl⟩
    rw [fx_178_13, gq_R (by omega) (by omega), h3, gq_R (by omega) (by omega), if_neg (by omega)]
  | succ m ih =>
    intro f s hm hf h3 hc hk
    obtain ⟨f, rfl⟩ : ∃ q, f = q + 1 := ⟨f - 1, by omega⟩
    have ih := fun s => ih f s (by omega) (by omega)
    generalize hi : n - (m + 1) = i at hk ⊢
    have hi2 : n - m = i + 1 := by omega
    rw [hi2] at ih
    have hci := hc i (by omega)
    have e1 : (gb_up s 220 (14 * d + i) (s 216 i)) 217 i = s 217 i := by rw [up_ne _ _ _ _ (by omega)]
    obtain ⟨s', e, q1, q3⟩ := ih (gb_up (gb_up s 220 (14 * d + i) (s 216 i)) 221 (14 * d + i) (s 217 i)) (by rw [up_ne _ _ _ _ (by omega), up_ne _ _ _ _ (by omega)]; exact h3) (by unfold cs; rw [up_ne _ _ _ _ (by omega), up_ne _ _ _ _ (by omega), up_ne _ _ _ _ (by omega), up_ne _ _ _ _ (by omega)]; exact hc) (fun p hp => by
      by_cases hpi : p = i
      · rw [hpi, up_ne _ _ _ _ (by omega : (220 : Nat) ≠ 221), up_eq, up_eq]; exact hci
      · rw [up_ne _ _ _ _ (by omega : (220 : Nat) ≠ 221), up_nj _ _ _ _ (by omega), up_nj _ _ _ _ (by omega), up_ne _ _ _ _ (by omega : (221 : Nat) ≠ 220)]; exact hk p (by omega))
    refine ⟨s', ?_, q1, fun c h1 h2 => by rw [q3 c h1 h2, up_ne _ _ _ _ h2, up_ne _ _ _ _ h1]⟩
    rw [fx_178_13, gq_R (by omega) (by omega), h3, gq_R (by omega) (by omega), if_pos (by omega), gq_ix (by omega) (by omega), gq_ix (by omega) (by omega), Int.toNat_natCast, show ((14 * (d : Int)) + (i : Int)).toNat = 14 * d + i by omega, e1, show ((i : Nat) : Int) + 1 = ((i + 1 : Nat) : Int) by omega, e]
/-- the reference's walk over the doubts -/
theorem r178l (hi : IV2 c σ n nb nd P ps De Cf) {d : Nat} (hd : d < n) : ∀ (m f : Nat) (s : gb_S), m ≤ nb → m < f → SC σ s → ST s n P → kpt s n d (Rd σ n P d) → ∃ s', fx_178_65 f (d : Int) ((ct (fun j => !decide (σ 196 j = 0) && dpo σ n P d (σ 194 j).toNat) (nb - m) : Nat) : Int) ((nb - m : Nat) : Int) s = some (.inl ((ct (fun j => !decide (σ 196 j = 0) && dpo σ n P d (σ 194 j).toNat) nb : Nat) : Int), s') ∧ SC σ s' ∧ ST s' n P ∧ s' 187 43 = s 187 43 ∧ s' 224 = s 224 := by
  have hn := hi.1.1
  have h30 := hi.1.2.2.1.1
  obtain ⟨a1, a2, a3, a4, a5⟩ := hi.1.2.2.2.1
  obtain ⟨p1, p2, p3, p4, p5⟩ := hi.2.2.2.2.1
  have hS := Rd_SR hi.1 hd
  intro m
  induction m with
  | zero =>
    intro f s _ hf sc st hk
    obtain ⟨f, rfl⟩ : ∃ q, f = q + 1 := ⟨f - 1, by omega⟩
    have h12 : s 187 12 = (nb : Int) := by rw [sc.2 12 (by omega) (by omega)]; exact a2
    refine ⟨s, ?_, sc, st, rfl, rfl⟩
    rw [fx_178_65, gq_R (by omega) (by omega), h12, gq_R (by omega) (by omega), if_neg (by omega), Nat.sub_zero]
  | succ m ih =>
    intro f s hm hf sc st hk
    obtain ⟨f, rfl⟩ : ∃ q, f = q + 1 := ⟨f - 1, by omega⟩
    have ih := fun s => ih f s (by omega) (by omega)
    generalize hij : nb - (m + 1) = j
    have hi2 : nb - m = j + 1 := by omega
    rw [hi2, ct] at ih
    have h12 : s 187 12 = (nb : Int) := by rw [sc.2 12 (by omega) (by omega)]; exact a2
    have e196 : s 196 = σ 196 := sa sc (c := 196) (by unfold scr; omega) (by omega)
    have e194 : s 194 = σ 194 := sa sc (c := 194) (by unfold scr; omega) (by omega)
    have e193 : s 193 = σ 193 := sa sc (c := 193) (by unfold scr; omega) (by omega)
    obtain ⟨q1, q2, q3, q4, q5⟩ := p4 j (by omega)
    obtain ⟨b1, b2, b3⟩ := a4 j (by omega)
    rw [fx_178_65, gq_R (by omega) (by omega), h12, gq_R (by omega) (by omega), if_pos (by omega), gq_ix (by omega) (by omega), Int.toNat_natCast, e196, gq_R (by omega) (by omega), show ((j : Nat) : Int) + 1 = ((j + 1 : Nat) : Int) by omega]
    by_cases h0 : σ 196 j = 0
    · rw [if_pos h0]
      obtain ⟨s', e', r'⟩ := ih s sc st hk
      refine ⟨s', ?_, r'⟩
      rw [decide_eq_true h0, Bool.not_true, Bool.false_and, if_neg (by decide), Nat.add_zero] at e'
      exact e'
    · obtain ⟨k, hk2⟩ : ∃ k : Nat, σ 194 j = (k : Int) := ⟨(σ 194 j).toNat, by omega⟩
      have hf0 : σ 193 k = 0 := by
        have := q5 (by omega)
        rw [hk2, Int.toNat_natCast] at this
        exact this
      have hrbs : RB s n nb P ps := RB_cong (fun j h => sc.2 j (by omega) (by omega)) (fun c h => sa sc (c := c) (by unfold scr; omega) (by omega)) hi.1
      obtain ⟨s7, e7, j7, z7, k7, f7⟩ := r171 (K := Rd σ n P d) (σ := fz s k) (fz_RB (k := k) hrbs) (Or.inr (show fz s k 187 29 = 1 from up_eq _ _ _ _)) hd (by unfold kpt; rw [fz_o (by omega) (by omega), fz_o (by omega) (by omega)]; exact hk) hS
      rw [fz_Rd, SC_Rd sc] at e7
      have e7' : fx_171 (d : Int) (gb_up (gb_up s 193 k 1) 187 29 1) = some (.inl (ib (dpo σ n P d k)), s7) := e7
      -- going on
      generalize hs8 : gb_up (gb_up s7 193 k 0) 187 29 1 = s8
      have f8 : ∀ c, c ≠ 187 → (c < 211 ∨ 219 < c) → s8 c = s c := fun c h1 h2 => by
        by_cases h193 : c = 193
        · subst h193
          rw [← hs8, up_ne _ _ _ _ (by omega), up_sn, f7 193 (by omega) (by omega), fz_193, snI_snI, e193]
          funext i
          by_cases hik : i = k
          · rw [hik, snI_eq, hf0]
          · rw [snI_ne hik]
        · rw [← hs8, up_ne _ _ _ _ h1, up_ne _ _ _ _ h193, f7 c h1 h2, fz_o h193 h1]
      have j8 : ∀ i, i ≠ 29 → s8 187 i = s 187 i := fun i h => by rw [← hs8, up_nj _ _ _ _ h, up_ne _ _ _ _ (by omega), j7 i h, fz_j h]
      have z8 : s8 187 29 = 1 := by rw [← hs8, up_eq]
      have sc8 : SC σ s8 := SC_trans sc ⟨fun c h1 h2 => f8 c h2 (by unfold scr at h1; omega), fun i h1 _ => j8 i h1⟩
      obtain ⟨s', e', r1, r2, r3, r4⟩ := ih s8 sc8 (Or.inr z8) (by
        unfold kpt
        rw [f8 220 (by omega) (by omega), f8 221 (by omega) (by omega)]
        exact hk)
      have h113 : ∀ (v x : Int), fx_178_113 (fx_178_65 f) (d : Int) (j : Int) v x s7 = fx_178_65 f (d : Int) (x + v) ((j + 1 : Nat) : Int) s8 := fun v x => by
        unfold fx_178_113
        rw [gq_ix (by omega) (by omega), Int.toNat_natCast, f7 194 (by omega) (by omega), fz_o (by omega) (by omega), e194, hk2, gq_ix (by omega) (by omega), Int.toNat_natCast, hs8, show ((j : Nat) : Int) + 1 = ((j + 1 : Nat) : Int) by omega]
      refine ⟨s', ?_, r1, r2, by rw [r3, j8 43 (by omega)], by rw [r4, f8 224 (by omega) (by omega)]⟩
      rw [if_neg h0, e194, hk2, gq_ix (by omega) (by omega), Int.toNat_natCast, e7', gc_v, gq_R (ibR _).1 (ibR _).2, h113, h113]
      rw [decide_eq_false h0, Bool.not_false, Bool.true_and, hk2, Int.toNat_natCast] at e'
      cases ho : dpo σ n P d k with
      | false =>
        rw [ho, if_neg (by decide), Nat.add_zero] at e'
        rw [ibF, if_pos rfl, Int.add_zero]
        exact e'
      | true =>
        rw [ho, if_pos rfl] at e'
        rw [ibT, if_neg (by decide)]
        exact e'
/-- 22: disputes -/
theorem qc22 {x : Int} (h1 : -2147483648 ≤ x ∧ x ≤ 2147483647) (hi : IV2 c σ n nb nd P ps De Cf) : CM rI c (fx_215 x) (fx_178 x) σ := by
  have hn := hi.1.1
  have h23 := hi.2.2.2.1.1
  have hnb := hi.1.2.2.2.1.2.2.1
  have hrn : ∀ t : Int, fx_173 x x σ = some (.inl 0, gb_up σ 187 43 t) → RQ (fx_178 x) t 0 n P σ := by
    intro t h
    refine ⟨_, ?_, up43_SC t, up43_ST t hi.2.1, up_eq _ _ _ _, up_ne _ _ _ _ (by omega)⟩
    unfold fx_178
    rw [h, gc_v, gq_R (by omega) (by omega), if_pos rfl]
  by_cases h : 0 ≤ x ∧ x < (n : Int)
  · obtain ⟨d, rfl⟩ : ∃ d : Nat, x = (d : Int) := ⟨x.toNat, by omega⟩
    have hd : d < n := by omega
    by_cases hx : σ 189 d = -1
    · refine CM_thr (k := 2) (b := 0) hi ?_ (by omega) (hrn 2 (r173a hd hd hi hx)) (by unfold rI; omega)
      unfold fx_215 fx_101
      rw [c110y hd hn h23, gc_v, dead_no hi hd hx, gc_e, gch_e, if_neg (by decide), if_pos rfl]
    · have hdpc := dpc (o := dpo σ n P d) (op := fun j => !decide (σ 196 j = 0)) (ag := fun j => (σ 194 j).toNat) (N := P.1) (m := nb) (fun j hj => by
        have h4 := (hi.2.2.2.2.1.2.2.2.1 j hj).2.2.2.1
        have h5 := (hi.1.2.2.2.1.2.2.2.1 j hj).2.1
        show (σ 194 j).toNat < P.1
        omega)
      have hdpc : dps (dpk σ n nb P d) P.1 = ct (fun j => !decide (σ 196 j = 0) && dpo σ n P d (σ 194 j).toNat) nb := hdpc
      have hle := ct_le (fun j => !decide (σ 196 j = 0) && dpo σ n P d (σ 194 j).toNat) nb
      obtain ⟨r, s, e, sk, kd, cm1, hr⟩ := c119 hi hd hx
      have hl := c101l hi hd hx hr P.1 gFU s (Nat.le_refl _) (by have := hi.1.2.2.1.1; unfold gFU; omega) sk cm1
      rw [Nat.sub_self, hdpc] at hl
      obtain ⟨s', e', sk'⟩ := hl
      have e' : fx_101_21 gFU (d : Int) r 0 0 s = some (.inl ((ct (fun j => !decide (σ 196 j = 0) && dpo σ n P d (σ 194 j).toNat) nb : Nat) : Int), s') := e'
      refine CM_val (s := s') (v := ((ct (fun j => !decide (σ 196 j = 0) && dpo σ n P d (σ 194 j).toNat) nb : Nat) : Int)) hi sk' ?_ (fun σ' hsc hi' => ?_) (by unfold rI; omega)
      · unfold fx_215 fx_101
        rw [c110y hd hn h23, gc_v, dead_yes hi hd hx, gc_v, e, gc_v, Int.toNat_natCast, gq_t kd, e', gch_v, gq_R (by omega) (by omega)]
      · have e189 : σ' 189 = σ 189 := sa hsc (c := 189) (by unfold scr; omega) (by omega)
        have e196 : σ' 196 = σ 196 := sa hsc (c := 196) (by unfold scr; omega) (by omega)
        have e194 : σ' 194 = σ 194 := sa hsc (c := 194) (by unfold scr; omega) (by omega)
        have hx' : σ' 189 d ≠ -1 := by rw [e189]; exact hx
        obtain ⟨s2, e2, cc, q1, q2, q3, q4⟩ := r173y hd hd hi' hx'
        have h3 : s2 187 3 = (n : Int) := by rw [q1.2 3 (by omega) (by omega)]; exact hi'.1.2.1
        have hcp := r178c (d := d) hn (by omega) n gFU s2 (Nat.le_refl _) (by unfold gFU; omega) h3 cc (fun p hp => by omega)
        rw [Nat.sub_self] at hcp
        obtain ⟨s3, e3, k3, f3⟩ := hcp
        have e3 : fx_178_13 gFU (d : Int) 0 s2 = fx_178_65 gFU (d : Int) 0 0 s3 := e3
        have sc3 : SC σ' s3 := SC_trans q1 ⟨fun c h1 h2 => f3 c (by unfold scr at h1; omega) (by unfold scr at h1; omega), fun j _ _ => by rw [f3 187 (by omega) (by omega)]⟩
        have st3 : ST s3 n P := ST_cong (by rw [f3 187 (by omega) (by omega)]) (f3 212 (by omega) (by omega)) (f3 213 (by omega) (by omega)) q2
        have hl := r178l hi' hd nb gFU s3 (Nat.le_refl _) (by unfold gFU; omega) sc3 st3 k3
        rw [Nat.sub_self] at hl
        obtain ⟨s4, e4, r1, r2, r3, r4⟩ := hl
        have hct : ct (fun j => !decide (σ' 196 j = 0) && dpo σ' n P d (σ' 194 j).toNat) nb = ct (fun j => !decide (σ 196 j = 0) && dpo σ n P d (σ 194 j).toNat) nb := ct_congr (fun j _ => by rw [e196, e194, dpo_cong hsc])
        rw [hct] at e4
        have e4 : fx_178_65 gFU (d : Int) 0 0 s3 = some (.inl ((ct (fun j => !decide (σ 196 j = 0) && dpo σ n P d (σ 194 j).toNat) nb : Nat) : Int), s4) := e4
        refine ⟨s4, ?_, r1, r2, by rw [r3, f3 187 (by omega) (by omega)]; exact q3, by rw [r4, f3 224 (by omega) (by omega)]; exact q4⟩
        unfold fx_178
        rw [e2, gc_v, gq_R (by omega) (by omega), if_neg (by decide), e3, e4]
  · refine CM_thr (k := 1) (b := 0) hi ?_ (by omega) (hrn 1 (r173n h1 h1 hi (Or.inl h))) (by unfold rI; omega)
    unfold fx_215 fx_101
    rw [c110n h1 hn h23 h, gc_e, gch_e, if_pos rfl]
end DJ1
