section DT1
variable {σ : gb_S} {c n nb nb' nd : Nat} {P : pT} {ps : Nat → Nat} {De : Nat → dT} {Cf : Nat → List Nat}
theorem od_congr {op ag dw op' ag' dw' : Nat → Int} {k : Nat} : ∀ {m : Nat}, (∀ j, j < m → op j = op' j ∧ ag j = ag' j ∧ dw j = dw' j) → od op ag dw k m = od op' ag' dw' k m := by
  intro m
  induction m with
  | zero => intro _; rfl
  | succ m ih =>
    intro h
    have h1 := h m (by omega)
    rw [od, od, ih (fun j hj => h j (by omega)), h1.1, h1.2.1, h1.2.2]
/-- the strengths by the books -/
def pO (s : gb_S) (P : pT) (m : Nat) : pT := (P.1, P.2.1, P.2.2.1, fun k => if s 193 k = 0 then max 0 (s 192 k - od (s 196) (s 194) (s 195) k m) else 0)
theorem pO_RB {s : gb_S} (hb : RB σ n nb P ps) (f : ∀ c, c = 188 ∨ c = 189 ∨ (190 ≤ c ∧ c ≤ 192) ∨ (197 ≤ c ∧ c ≤ 200) ∨ c = 210 → s c = σ c) (h3 : s 187 3 = σ 187 3) (h8 : s 187 8 = σ 187 8) (h12 : s 187 12 = (nb' : Int)) (hnb : nb' ≤ 30) (h193 : ∀ k, k < P.1 → s 193 k = 0 ∨ s 193 k = 1) (hd : ∀ j, j < nb' → (s 196 j = 0 ∨ s 196 j = 1) ∧ (0 ≤ s 194 j ∧ s 194 j < 30) ∧ (0 ≤ s 195 j ∧ s 195 j ≤ 9)) : RB s n nb' (pO s P nb') ps := by
  obtain ⟨b1, b2, b3, b4, b5, b6, b7, b8, b9, b10, b11⟩ := id hb
  obtain ⟨a1, a2, a3, a4, a5⟩ := b4
  refine RB_new hb (fun c h => f c (by omega)) h3 ⟨b3.1, fun k hk => ?_⟩ ⟨by rw [h8]; exact a1, h12, hnb, hd, fun k hk => ?_⟩ b5
  · have h := b3.2 k hk
    refine ⟨h.1, h.2.1, ?_⟩
    show 0 ≤ (if s 193 k = 0 then max 0 (s 192 k - od (s 196) (s 194) (s 195) k nb') else 0) ∧ (if s 193 k = 0 then max 0 (s 192 k - od (s 196) (s 194) (s 195) k nb') else 0) ≤ 9
    have hod := od_b (op := s 196) (ag := s 194) (dw := s 195) (k := k) (m := nb') (fun j hj => (hd j hj).2.2)
    have h5 := (a5 k hk).2.2.1
    rw [f 192 (by omega)]
    split <;> omega
  · have h := a5 k hk
    rw [f 190 (by omega), f 191 (by omega)]
    refine ⟨h.1, h.2.1, by rw [f 192 (by omega)]; exact h.2.2.1, h193 k hk, rfl⟩
def en60 (σ : gb_S) (N : Nat) (k : Nat) (w : Int) : gb_S := gb_up (gb_up (gb_up (gb_up (gb_up σ 12 N (k : Int)) 13 N w) 14 N 1) 10 k (σ 10 k + w)) 6 9 ((N : Int) + 1)
theorem c60 {N k : Nat} {w : Int} (h65 : σ 6 5 = (P.1 : Int)) (hP : P.1 ≤ 30) (hk : k < P.1) (h : σ 6 9 = (N : Int)) (hN : N < 30) : fx_60 (k : Int) w σ = some (.inl (N : Int), en60 σ N k w) := by
  unfold fx_60 en60
  rw [h, gq_R (by omega) (by omega), if_pos (by omega), g63 hk hP h65, gc_v, gq_R (by omega) (by omega), if_neg (by decide), h, gq_ix (by omega) (by omega), Int.toNat_natCast, up_ne _ _ _ _ (by omega : (6 : Nat) ≠ 12), h, gq_ix (by omega) (by omega), Int.toNat_natCast, up_ne _ _ _ _ (by omega : (6 : Nat) ≠ 13), up_ne _ _ _ _ (by omega : (6 : Nat) ≠ 12), h, gq_ix (by omega) (by omega), Int.toNat_natCast, gq_ix (by omega) (by omega), Int.toNat_natCast, up_ne _ _ _ _ (by omega : (10 : Nat) ≠ 14), up_ne _ _ _ _ (by omega : (10 : Nat) ≠ 13), up_ne _ _ _ _ (by omega : (10 : Nat) ≠ 12), up_ne _ _ _ _ (by omega : (6 : Nat) ≠ 10), up_ne _ _ _ _ (by omega : (6 : Nat) ≠ 14), up_ne _ _ _ _ (by omega : (6 : Nat) ≠ 13), up_ne _ _ _ _ (by omega : (6 : Nat) ≠ 12), h, up_eq, Int.add_sub_cancel]
theorem en60_o (σ : gb_S) (N k : Nat) (w : Int) {c : Nat} (h : c ≠ 6 ∧ c ≠ 10 ∧ c ≠ 12 ∧ c ≠ 13 ∧ c ≠ 14) : en60 σ N k w c = σ c := by
  unfold en60
  rw [up_ne _ _ _ _ (by omega), up_ne _ _ _ _ (by omega), up_ne _ _ _ _ (by omega), up_ne _ _ _ _ (by omega), up_ne _ _ _ _ (by omega)]
theorem en60_v (σ : gb_S) (N k : Nat) (w : Int) : en60 σ N k w 12 = snI (σ 12) N (k : Int) ∧ en60 σ N k w 13 = snI (σ 13) N w ∧ en60 σ N k w 14 = snI (σ 14) N 1 ∧ en60 σ N k w 10 = snI (σ 10) k (σ 10 k + w) ∧ en60 σ N k w 6 9 = (N : Int) + 1 ∧ ∀ j, j ≠ 9 → en60 σ N k w 6 j = σ 6 j := by
  unfold en60
  refine ⟨?_, ?_, ?_, ?_, up_eq _ _ _ _, fun j hj => ?_⟩
  · rw [up_ne _ _ _ _ (by omega), up_ne _ _ _ _ (by omega), up_ne _ _ _ _ (by omega), up_ne _ _ _ _ (by omega), up_sn]
  · rw [up_ne _ _ _ _ (by omega), up_ne _ _ _ _ (by omega), up_ne _ _ _ _ (by omega), up_sn, up_ne _ _ _ _ (by omega)]
  · rw [up_ne _ _ _ _ (by omega), up_ne _ _ _ _ (by omega), up_sn, up_ne _ _ _ _ (by omega), up_ne _ _ _ _ (by omega)]
  · rw [up_ne _ _ _ _ (by omega), up_sn, up_ne _ _ _ _ (by omega), up_ne _ _ _ _ (by omega), up_ne _ _ _ _ (by omega)]
  · rw [up_nj _ _ _ _ hj, up_ne _ _ _ _ (by omega), up_ne _ _ _ _ (by omega), up_ne _ _ _ _ (by omega), up_ne _ _ _ _ (by omega)]
def C7 (σ : gb_S) (N k : Nat) (w : Int) : gb_S := gb_up (gb_up (gb_up (gb_up (en60 σ N k w) 194 N (k : Int)) 195 N w) 196 N 1) 187 12 ((N : Int) + 1)
theorem C7_o (σ : gb_S) (N k : Nat) (w : Int) {c : Nat} (h : c < 194 ∨ 196 < c) (h2 : c ≠ 187) : C7 σ N k w c = en60 σ N k w c := by
  unfold C7
  rw [up_ne _ _ _ _ h2, up_ne _ _ _ _ (by omega), up_ne _ _ _ _ (by omega), up_ne _ _ _ _ (by omega)]
theorem C7_v (σ : gb_S) (N k : Nat) (w : Int) : C7 σ N k w 194 = snI (σ 194) N (k : Int) ∧ C7 σ N k w 195 = snI (σ 195) N w ∧ C7 σ N k w 196 = snI (σ 196) N 1 ∧ C7 σ N k w 187 12 = (N : Int) + 1 ∧ ∀ j, j ≠ 12 → C7 σ N k w 187 j = σ 187 j := by
  unfold C7
  refine ⟨?_, ?_, ?_, up_eq _ _ _ _, fun j hj => ?_⟩
  · rw [up_ne _ _ _ _ (by omega), up_ne _ _ _ _ (by omega), up_ne _ _ _ _ (by omega), up_sn, en60_o _ _ _ _ (by omega)]
  · rw [up_ne _ _ _ _ (by omega), up_ne _ _ _ _ (by omega), up_sn, up_ne _ _ _ _ (by omega), en60_o _ _ _ _ (by omega)]
  · rw [up_ne _ _ _ _ (by omega), up_sn, up_ne _ _ _ _ (by omega), up_ne _ _ _ _ (by omega), en60_o _ _ _ _ (by omega)]
  · rw [up_nj _ _ _ _ hj, up_ne _ _ _ _ (by omega), up_ne _ _ _ _ (by omega), up_ne _ _ _ _ (by omega), en60_o _ _ _ _ (by omega)]
theorem C7_ok {k : Nat} {w : Int} (hi : IV2 c σ n nb nd P ps De Cf) (hN : nb < 30) (hk : k < P.1) (hf : σ 193 k = 0) (hw : 1 ≤ w ∧ w ≤ 9) : RB (C7 σ nb k w) n (nb + 1) (pO (C7 σ nb k w) P (nb + 1)) ps ∧ PO (C7 σ nb k w) (nb + 1) (pO (C7 σ nb k w) P (nb + 1)) := by
  have hn := hi.1.1
  obtain ⟨b1, b2, b3, b4, b5, b6, b7, b8, b9, b10, b11⟩ := id hi.1
  obtain ⟨p1, p2, p3, p4, p5⟩ := hi.2.2.2.2.1
  obtain ⟨a1, a2, a3, a4, a5⟩ := b4
  obtain ⟨v1, v2, v3, v4, v5⟩ := C7_v σ nb k w
  obtain ⟨w1, w2, w3, w4, w5, w6⟩ := en60_v σ nb k w
  have h30 := b3.1
  have o : ∀ c, (c ≠ 6 ∧ c ≠ 10 ∧ c ≠ 12 ∧ c ≠ 13 ∧ c ≠ 14) → (c < 194 ∨ 196 < c) → c ≠ 187 → C7 σ nb k w c = σ c := fun c h1 h2 h3 => by rw [C7_o _ _ _ _ h2 h3, en60_o _ _ _ _ h1]
  refine ⟨pO_RB hi.1 (fun c h => o c (by omega) (by omega) (by omega)) (v5 3 (by omega)) (v5 8 (by omega)) (by rw [v4]; omega) (by omega) (fun j hj => ?_) (fun j hj => ?_), ?_, ?_, fun i hi => ?_, fun j hj => ?_, fun i h1 h2 => ?_⟩
  · rw [o 193 (by omega) (by omega) (by omega)]; exact (a5 j hj).2.2.2.1
  · rw [v1, v2, v3]
    by_cases h : j = nb
    · rw [h, snI_eq, snI_eq, snI_eq]; omega
    · rw [snI_ne h, snI_ne h, snI_ne h]; exact a4 j (by omega)
  · rw [C7_o _ _ _ _ (by omega) (by omega), w6 5 (by omega)]; exact p1
  · rw [C7_o _ _ _ _ (by omega) (by omega), w5]; omega
  · have hi : i < P.1 := hi
    obtain ⟨q1, q2, q3, q4, q5⟩ := p3 i hi
    rw [o 7 (by omega) (by omega) (by omega), o 8 (by omega) (by omega) (by omega), o 9 (by omega) (by omega) (by omega), o 11 (by omega) (by omega) (by omega), o 190 (by omega) (by omega) (by omega), o 191 (by omega) (by omega) (by omega), o 192 (by omega) (by omega) (by omega), o 193 (by omega) (by omega) (by omega), C7_o _ _ _ _ (by omega : 10 < 194 ∨ 196 < 10) (by omega), w4, v1, v2, v3]
    refine ⟨q1, q2, q3, q4, ?_⟩
    rw [od, snI_eq, snI_eq, snI_eq, od_congr (op' := σ 196) (ag' := σ 194) (dw' := σ 195) (fun j hj => ⟨snI_ne (by omega), snI_ne (by omega), snI_ne (by omega)⟩), ← q5]
    by_cases h : i = k
    · rw [h, snI_eq, if_pos ⟨by decide, rfl⟩]
    · rw [snI_ne h, if_neg (fun q => by have := q.2; omega), Int.add_zero]
  · rw [C7_o _ _ _ _ (by omega : 12 < 194 ∨ 196 < 12) (by omega), C7_o _ _ _ _ (by omega : 13 < 194 ∨ 196 < 13) (by omega), C7_o _ _ _ _ (by omega : 14 < 194 ∨ 196 < 14) (by omega), w1, w2, w3, v1, v2, v3, o 193 (by omega) (by omega) (by omega)]
    by_cases h : j = nb
    · rw [h, snI_eq, snI_eq, snI_eq, snI_eq, snI_eq, snI_eq, Int.toNat_natCast]
      exact ⟨rfl, rfl, rfl, show (k : Int) < (P.1 : Int) by omega, fun _ => hf⟩
    · rw [snI_ne h, snI_ne h, snI_ne h, snI_ne h, snI_ne h, snI_ne h]
      exact p4 j (by omega)
  · have h1 : P.1 ≤ i := h1
    rw [o 193 (by omega) (by omega) (by omega), o 11 (by omega) (by omega) (by omega), C7_o _ _ _ _ (by omega : 10 < 194 ∨ 196 < 10) (by omega), w4, snI_ne (by omega)]
    exact p5 i h1 h2
/-- the reference's way through a doubt's conditions -/
theorem r146 {x z : Int} (h1 : -2147483648 ≤ x ∧ x ≤ 2147483647) (h3 : -2147483648 ≤ z ∧ z ≤ 2147483647) (hb : RB σ n nb P ps) : ∀ b1 b2 b3 : Bool, b1 = decide (0 ≤ x ∧ x < (P.1 : Int)) → b2 = decide (1 ≤ z ∧ z ≤ 9) → b3 = (b1 && (decide (σ 193 x.toNat = 0) && decide (nb < 30))) → fx_146 x z σ = fx_146_42 x z (ib b3) (ib b2) (ib b1) σ := by
  intro b1 b2 b3 hb1 hb2 hb3
  have h30 := hb.2.2.1.1
  have h8 := hb.2.2.2.1.1
  have h12 := hb.2.2.2.1.2.1
  have hnb := hb.2.2.2.1.2.2.1
  unfold fx_146
  rw [i132 h1 h30 h8, gc_v, i126 h3 (by omega) (by omega), gc_v, ← hb1, ← hb2, gq_R (ibR _).1 (ibR _).2]
  cases b1 with
  | false => rw [ibF, if_pos rfl, hb3, Bool.false_and, ibF]
  | true =>
    have hx : 0 ≤ x ∧ x < (P.1 : Int) := by rw [eq_comm, decide_eq_true_eq] at hb1; exact hb1
    have h4 := (hb.2.2.2.1.2.2.2.2 x.toNat (by omega)).2.2.2.1
    rw [ibT, if_neg (by decide), gq_ix (by omega) (by omega), gq_R (by omega) (by omega), hb3, Bool.true_and]
    by_cases h : σ 193 x.toNat = 0
    · rw [if_pos h, decide_eq_true h, Bool.true_and, h12, gq_R (by omega) (by omega)]
      by_cases h5 : nb < 30
      · rw [if_pos (by omega), decide_eq_true h5, ibT]
      · rw [if_neg (by omega), decide_eq_false h5, ibF]
    · rw [if_neg h, decide_eq_false h, Bool.false_and, ibF]
theorem r146f {x z t : Int} {b1 b2 b3 : Bool} (h : (b1 && (b2 && b3)) = false) (ht : (if b1 = true then (if b2 = true then (if b3 = true then (0 : Int) else 3) else 2) else 1) = t) (hst : ST σ n P) (e : fx_146 x z σ = fx_146_42 x z (ib b3) (ib b2) (ib b1) σ) : RQ (fx_146 x z) t 0 n P σ := by
  refine ⟨gb_up σ 187 43 t, ?_, up43_SC t, up43_ST t hst, up_eq _ _ _ _, up_ne _ _ _ _ (by omega)⟩
  rw [e]
  unfold fx_146_42
  rw [i129, gc_v, h, ht]
  exact (gq_R (by decide) (by decide)).trans (if_pos rfl)
def en146 (s : gb_S) (N : Nat) (x z : Int) : gb_S := gb_up (gb_up (gb_up (gb_up (gb_up s 194 N x) 195 N z) 196 N 1) 187 12 ((N : Int) + 1)) 187 29 1
theorem r146y {x z : Int} {N : Nat} {s1 s5 : gb_S} (hN : N < 30) (e170 : fx_170 (gb_up s1 187 43 0) = some (.inl 0, s5)) (h5 : s5 187 12 = (N : Int)) : fx_146_42 x z (ib true) (ib true) (ib true) s1 = gc (fx_172 (en146 s5 N x z)) (fun _ s10 => some (.inl ((s10 187 12) - 1), s10)) := by
  unfold fx_146_42 en146
  rw [i129, gc_v, show (true && (true && true)) = true from rfl, ibT, gq_R (by omega) (by omega), if_neg (by decide), if_pos rfl, if_pos rfl, if_pos rfl, e170, gc_v, h5, gq_ix (by omega) (by omega), Int.toNat_natCast, up_ne _ _ _ _ (by omega : (187 : Nat) ≠ 194), h5, gq_ix (by omega) (by omega), Int.toNat_natCast, up_ne _ _ _ _ (by omega : (187 : Nat) ≠ 195), up_ne _ _ _ _ (by omega : (187 : Nat) ≠ 194), h5, gq_ix (by omega) (by omega), Int.toNat_natCast, up_ne _ _ _ _ (by omega : (187 : Nat) ≠ 196), up_ne _ _ _ _ (by omega : (187 : Nat) ≠ 195), up_ne _ _ _ _ (by omega : (187 : Nat) ≠ 194), h5]
theorem c111 {x : Int} (h1 : -2147483648 ≤ x ∧ x ≤ 2147483647) (hP : P.1 ≤ 30) (h : σ 6 5 = (P.1 : Int)) : fx_111 x σ = some (if 0 ≤ x ∧ x < (P.1 : Int) then .inl 0 else .inr 0, σ) := by
  unfold fx_111
  rw [gq_R h1.1 h1.2]
  by_cases a1 : x < 0
  · rw [if_pos a1, if_neg (by omega)]
  · rw [if_neg a1, gq_R (by omega) (by omega)]
    by_cases a2 : x < σ 6 5
    · rw [if_pos a2, if_pos (by omega)]
    · rw [if_neg a2, if_neg (by omega)]
theorem c65 {k : Nat} (hk : k < P.1) (hP : P.1 ≤ 30) (h : σ 6 5 = (P.1 : Int)) (h11 : σ 11 k = 0 ∨ σ 11 k = 1) : fx_65 (k : Int) σ = some (.inl (ib (!decide (σ 11 k = 0))), σ) := by
  unfold fx_65
  rw [g63 hk hP h, gc_v, gq_R (by omega) (by omega), if_neg (by decide), gq_ix (by omega) (by omega), Int.toNat_natCast, gq_R (by omega) (by omega)]
  by_cases h0 : σ 11 k = 0
  · rw [if_pos h0, decide_eq_true h0]; rfl
  · rw [if_neg h0, decide_eq_false h0]; rfl
/-- 7: doubt -/
theorem uc7 {x z : Int} (h1 : -2147483648 ≤ x ∧ x ≤ 2147483647) (h3 : -2147483648 ≤ z ∧ z ≤ 2147483647) (hc : c ≤ 1000) (hi : IV2 c σ n nb nd P ps De Cf) : CM rI c (fx_201 x z) (fx_146 x z) σ := by
  have hn := hi.1.1
  have h30 := hi.1.2.2.1.1
  have h65 := hi.2.2.2.2.1.1
  have h69 := hi.2.2.2.2.1.2.1
  have hnb := hi.1.2.2.2.1.2.2.1
  have hr := r146 h1 h3 hi.1
  by_cases hx : 0 ≤ x ∧ x < (P.1 : Int)
  · have cx : fx_111 x σ = some (.inl 0, σ) := by rw [c111 h1 h30 h65, if_pos hx]
    have hb1 : true = decide (0 ≤ x ∧ x < (P.1 : Int)) := by rw [decide_eq_true hx]
    by_cases hz : 1 ≤ z ∧ z ≤ 9
    · have hb2 : true = decide (1 ≤ z ∧ z ≤ 9) := by rw [decide_eq_true hz]
      obtain ⟨k, rfl⟩ : ∃ k : Nat, x = (k : Int) := ⟨x.toNat, by omega⟩
      have hk : k < P.1 := by omega
      have h4 := (hi.1.2.2.2.1.2.2.2.2 k hk).2.2.2.1
      have e11 := (hi.2.2.2.2.1.2.2.1 k hk).2.2.2.1
      have e65 := c65 hk h30 h65 (by rw [e11]; exact h4)
      rw [e11] at e65
      have pre : fx_86 (k : Int) z σ = (if ib (!decide (σ 193 k = 0)) = 0 then gq (gR (σ 6 9)) (if (σ 6 9) < 30 then gc (fx_60 (k : Int) z σ) (fun r9 s10 => gc (fx_121 s10) (fun r11 s12 => some (.inl r9, s12))) else some (.inr 2, σ)) else some (.inr 2, σ)) := by
        unfold fx_86
        rw [cx, gc_v, c113 h3 (by omega), if_pos hz, gc_v, e65, gc_v, gq_R (ibR _).1 (ibR _).2]
      by_cases hf : σ 193 k = 0
      · by_cases hN : nb < 30
        · obtain ⟨hrbC, hpoC⟩ := C7_ok hi hN hk hf hz
          obtain ⟨v1, v2, v3, v4, v5⟩ := C7_v σ nb k z
          have hC : ∀ c, (c < 6 ∨ 14 < c) → (c < 190 ∨ 196 < c) → c ≠ 187 → C7 σ nb k z c = σ c := fun c h1 h2 h3 => by rw [C7_o _ _ _ _ (by omega) h3, en60_o _ _ _ _ (by omega)]
          obtain ⟨s1, e121, hk1⟩ := KUc (sA := en60 σ nb k z) hi hC hrbC hpoC (fun c k1 k2 => (C7_o _ _ _ _ (by omega) (by omega)).symm) (fun c h => en60_o _ _ _ _ (by omega))
          have hk1 := hk1 (nb : Int)
          have hc1 : fx_201 (k : Int) z σ = some (.inl 0, gb_up s1 224 0 (nb : Int)) := by
            unfold fx_201
            rw [pre, decide_eq_true hf, Bool.not_true, ibF, if_pos rfl, h69, gq_R (by omega) (by omega), if_pos (by omega), c60 h65 h30 hk h69 hN, gc_v, e121, gc_v, gch_v, gq_R (by omega) (by omega)]
          have ho1 : gb_up s1 224 0 (nb : Int) 224 0 = (nb : Int) := up_eq _ _ _ _
          generalize hs1 : gb_up s1 224 0 (nb : Int) = s1' at hk1 hc1 ho1
          obtain ⟨f1, r1, r2, r3, r4, r5⟩ := K1_ref hi hk1
          have h170 := r170 r1 n gFU (gb_up s1' 187 43 0) (Nat.le_refl _) (by unfold gFU; omega) (up43_SC 0) (up43_ST 0 r2) (fun d hd => by omega)
          rw [Nat.sub_self] at h170
          obtain ⟨s5, e5, sc5, st5, t5, o5, q5, u5, k5⟩ := h170
          have e5' : fx_170 (gb_up s1' 187 43 0) = some (.inl 0, s5) := e5
          have h58 : s5 187 12 = (nb : Int) := by rw [sc5.2 12 (by omega) (by omega), f1 187 (by omega)]; exact hi.1.2.2.2.1.2.1
          have hB : ∀ c, c ≠ 187 → (c < 194 ∨ 196 < c) → en146 s5 nb (k : Int) z c = s5 c := fun c k1 k2 => by
            unfold en146
            rw [up_ne _ _ _ _ k1, up_ne _ _ _ _ k1, up_ne _ _ _ _ (by omega), up_ne _ _ _ _ (by omega), up_ne _ _ _ _ (by omega)]
          have hs5 : ∀ c, 190 ≤ c → c ≤ 196 → s5 c = σ c := fun c k1 k2 => by rw [sc5.1 c (by unfold scr; omega) (by omega), f1 c (by omega)]
          have hBj : ∀ j, j ≠ 12 → j ≠ 29 → en146 s5 nb (k : Int) z 187 j = s5 187 j := fun j k1 k2 => by
            unfold en146
            rw [up_nj _ _ _ _ k2, up_nj _ _ _ _ k1, up_ne _ _ _ _ (by omega), up_ne _ _ _ _ (by omega), up_ne _ _ _ _ (by omega)]
          have hB8 : en146 s5 nb (k : Int) z 187 12 = (nb : Int) + 1 := by
            unfold en146
            rw [up_nj _ _ _ _ (by omega), up_eq]
          obtain ⟨s2, e2, i2, j2, m1, m2, m3⟩ := KUr (sB := en146 s5 nb (k : Int) z) hi hc hk1 hC (v5 3 (by omega)) hrbC hpoC sc5 (fun d hd h1 => by
            have := k5 d hd (by rw [f1 198 (by omega)]; exact h1)
            rw [r5] at this
            exact this) (fun c k1 k2 => hB c k1 (by omega)) (fun c k1 k2 => by
            by_cases h0 : c = 194
            · rw [h0, v1]; unfold en146
              rw [up_ne _ _ _ _ (by omega), up_ne _ _ _ _ (by omega), up_ne _ _ _ _ (by omega), up_ne _ _ _ _ (by omega), up_sn, hs5 194 (by omega) (by omega)]
            · by_cases h1 : c = 195
              · rw [h1, v2]; unfold en146
                rw [up_ne _ _ _ _ (by omega), up_ne _ _ _ _ (by omega), up_ne _ _ _ _ (by omega), up_sn, up_ne _ _ _ _ (by omega), hs5 195 (by omega) (by omega)]
              · by_cases h2 : c = 196
                · rw [h2, v3]; unfold en146
                  rw [up_ne _ _ _ _ (by omega), up_ne _ _ _ _ (by omega), up_sn, up_ne _ _ _ _ (by omega), up_ne _ _ _ _ (by omega), hs5 196 (by omega) (by omega)]
                · rw [hB c (by omega) (by omega), hs5 c k1 k2, C7_o _ _ _ _ (by omega) (by omega), en60_o _ _ _ _ (by omega)]) (by rw [hBj 8 (by omega) (by omega), v5 8 (by omega), sc5.2 8 (by omega) (by omega), f1 187 (by omega)]) (by rw [hB8, v4]) (by unfold en146; rw [up_eq]) (fun j k1 k2 k3 k4 => hBj j k2 k3)
          have hc2 : fx_146 (k : Int) z s1' = some (.inl (nb : Int), s2) := by
            rw [r146 h1 h3 r1 true true true hb1 hb2 (by rw [f1 193 (by omega), Int.toNat_natCast, decide_eq_true hf, decide_eq_true hN]; rfl), r146y hN e5' h58, e2, gc_v, j2 12 (by omega), hB8, Int.add_sub_cancel]
          refine ⟨0, s1', (nb : Int), s2, hc1, hc2, ?_, fun _ => ?_, by omega, by unfold rI; omega, n, nb + 1, nd, _, ps, De, Cf, i2⟩
          · rw [j2 43 (by omega), hBj 43 (by omega) (by omega), t5, up_eq]
          · rw [m1, o5, up_ne _ _ _ _ (by omega), ho1]
        · refine CM_thr (k := 3) (b := 0) hi ?_ (by omega) (r146f (by rfl) (by rfl) hi.2.1 (hr true true false hb1 hb2 (by rw [decide_eq_false hN, Bool.and_false]; rfl))) (by unfold rI; omega)
          unfold fx_201
          rw [pre, decide_eq_true hf, Bool.not_true, ibF, if_pos rfl, h69, gq_R (by omega) (by omega), if_neg (by omega), gch_e, if_neg (by decide), if_neg (by decide), if_pos rfl]
      · refine CM_thr (k := 3) (b := 0) hi ?_ (by omega) (r146f (by rfl) (by rfl) hi.2.1 (hr true true false hb1 hb2 (by rw [Int.toNat_natCast, decide_eq_false hf]; rfl))) (by unfold rI; omega)
        unfold fx_201
        rw [pre, decide_eq_false hf, Bool.not_false, ibT, if_neg (by decide), gch_e, if_neg (by decide), if_neg (by decide), if_pos rfl]
    · refine CM_thr (k := 2) (b := 0) hi ?_ (by omega) (r146f (by rfl) (by rfl) hi.2.1 (hr true false _ hb1 (by rw [decide_eq_false hz]) rfl)) (by unfold rI; omega)
      unfold fx_201 fx_86
      rw [cx, gc_v, c113 h3 (by omega), if_neg hz, gc_e, gch_e, if_neg (by decide), if_pos rfl]
  · refine CM_thr (k := 1) (b := 0) hi ?_ (by omega) (r146f (by rfl) (by rfl) hi.2.1 (hr false _ _ (by rw [decide_eq_false hx]) rfl rfl)) (by unfold rI; omega)
    unfold fx_201 fx_86
    rw [c111 h1 h30 h65, if_neg hx, gc_e, gch_e, if_pos rfl]
end DT1
