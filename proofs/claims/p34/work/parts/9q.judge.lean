section JU1
variable {σ : gb_S} {c n nb nd : Nat} {P : pT} {ps : Nat → Nat} {De : Nat → dT} {Cf : Nat → List Nat}
theorem snI_snI {f : Nat → Int} {N : Nat} {v w : Int} : snI (snI f N v) N w = snI f N w := by
  funext k
  by_cases h : k = N
  · rw [h, snI_eq, snI_eq]
  · rw [snI_ne h, snI_ne h, snI_ne h]
/-- the reference's settling -/
theorem r147l {p d : Nat} (hd : d < nb) (hnb : nb ≤ 30) (hp : p < 30) : ∀ (m f : Nat) (s : gb_S), m ≤ nb → m < f → s 187 12 = (nb : Int) → s 194 d = (p : Int) → (∀ j, j < nb → (s 196 j = 0 ∨ s 196 j = 1) ∧ (0 ≤ s 194 j ∧ s 194 j < 30)) → ∃ s', fx_147_82 f (d : Int) 1 ((nb - m : Nat) : Int) s = fx_147_151 s' ∧ (∀ j, s' 196 j = if nb - m ≤ j ∧ j < nb ∧ s 194 j = (p : Int) then 0 else s 196 j) ∧ (m = 0 → s' = s) ∧ (0 < m → s' 193 = snI (s 193) p 1) ∧ ∀ c, c ≠ 193 → c ≠ 196 → s' c = s c := by
  intro m
  induction m with
  | zero =>
    intro f s _ hf h12 h194 hv
    obtain ⟨f, rfl⟩ : ∃ q, f = q + 1 := ⟨f - 1, by omega⟩
    refine ⟨s, ?_, fun j => by rw [if_neg (fun q => by omega)], fun _ => rfl, fun h => by omega, fun _ _ _ => rfl⟩
    rw [fx_147_82, gq_R (by omega) (by omega), h12, gq_R (by omega) (by omega), if_neg (by omega)]
  | succ m ih =>
    intro f s hm hf h12 h194 hv
    obtain ⟨f, rfl⟩ : ∃ q, f = q + 1 := ⟨f - 1, by omega⟩
    have ih := fun s => ih f s (by omega) (by omega)
    generalize hi : nb - (m + 1) = i
    have hi2 : nb - m = i + 1 := by omega
    rw [hi2] at ih
    have hvi := hv i (by omega)
    -- going on with v at place i
    have go : ∀ v : Int, v = (if s 194 i = (p : Int) then 0 else s 196 i) → ∃ s', fx_147_82 f (d : Int) 1 ((i + 1 : Nat) : Int) (gb_up (gb_up s 193 p 1) 196 i v) = fx_147_151 s' ∧ (∀ j, s' 196 j = if i ≤ j ∧ j < nb ∧ s 194 j = (p : Int) then 0 else s 196 j) ∧ (m + 1 = 0 → s' = s) ∧ (0 < m + 1 → s' 193 = snI (s 193) p 1) ∧ ∀ c, c ≠ 193 → c ≠ 196 → s' c = s c := by
      intro v hvv
      have e194 : gb_up (gb_up s 193 p 1) 196 i v 194 = s 194 := by rw [up_ne _ _ _ _ (by omega), up_ne _ _ _ _ (by omega)]
      have e196 : gb_up (gb_up s 193 p 1) 196 i v 196 = snI (s 196) i v := by rw [up_sn, up_ne _ _ _ _ (by omega)]
      have e193 : gb_up (gb_up s 193 p 1) 196 i v 193 = snI (s 193) p 1 := by rw [up_ne _ _ _ _ (by omega), up_sn]
      have hvb : v = 0 ∨ v = 1 := by
        rw [hvv]; split
        · exact Or.inl rfl
        · exact hvi.1
      obtain ⟨s', e', q1, q0, q2, q3⟩ := ih (gb_up (gb_up s 193 p 1) 196 i v) (by rw [up_ne _ _ _ _ (by omega), up_ne _ _ _ _ (by omega)]; exact h12) (by rw [e194]; exact h194) (fun j hj => by
        rw [e194, e196]
        by_cases h : j = i
        · rw [h, snI_eq]; exact ⟨hvb, hvi.2⟩
        · rw [snI_ne h]; exact hv j hj)
      refine ⟨s', e', fun j => ?_, fun h => by omega, fun _ => ?_, fun c h1 h2 => by rw [q3 c h1 h2, up_ne _ _ _ _ h2, up_ne _ _ _ _ h1]⟩
      · rw [q1 j, e194, e196]
        by_cases h : j = i
        · subst h
          rw [if_neg (fun q => by omega), snI_eq, hvv]
          by_cases hq : s 194 j = (p : Int)
          · rw [if_pos hq, if_pos ⟨by omega, by omega, hq⟩]
          · rw [if_neg hq, if_neg (fun q => hq q.2.2)]
        · rw [snI_ne h]
          by_cases hq : i + 1 ≤ j ∧ j < nb ∧ s 194 j = (p : Int)
          · rw [if_pos hq, if_pos ⟨by omega, hq.2⟩]
          · rw [if_neg hq, if_neg (fun q => hq ⟨by omega, q.2⟩)]
      · by_cases hm0 : 0 < m
        · rw [q2 hm0, e193, snI_snI]
        · rw [q0 (by omega), e193]
    rw [fx_147_82, gq_R (by omega) (by omega), h12, gq_R (by omega) (by omega), if_pos (by omega), gq_R (by omega) (by omega), if_neg (by decide), gq_ix (by omega) (by omega), Int.toNat_natCast, h194, gq_ix (by omega) (by omega), gq_ix (by omega) (by omega), Int.toNat_natCast, Int.toNat_natCast, up_ne _ _ _ _ (by omega : (196 : Nat) ≠ 193), up_ne _ _ _ _ (by omega : (194 : Nat) ≠ 193), gq_R (by omega) (by omega), show ((i : Nat) : Int) + 1 = ((i + 1 : Nat) : Int) by omega]
    by_cases h0 : s 196 i = 0
    · rw [if_pos h0]
      exact go 0 (by rw [h0]; split <;> rfl)
    · rw [if_neg h0, h194, gq_R (by omega) (by omega), gq_R (by omega) (by omega)]
      by_cases hq : s 194 i = (p : Int)
      · rw [if_pos hq]
        exact go 0 (by rw [if_pos hq])
      · rw [if_neg hq]
        exact go 1 (by rw [if_neg hq]; omega)
/-- the reference's settling, upheld or not -/
theorem r147s {p d : Nat} (u : Bool) (hd : d < nb) (hnb : nb ≤ 30) (hp : p < 30) {s : gb_S} (h12 : s 187 12 = (nb : Int)) (h194 : s 194 d = (p : Int)) (hv : ∀ j, j < nb → (s 196 j = 0 ∨ s 196 j = 1) ∧ (0 ≤ s 194 j ∧ s 194 j < 30)) : ∃ s', fx_147_82 gFU (d : Int) (ib u) 0 (gb_up s 196 d 0) = fx_147_151 s' ∧ s' 196 = RO u (s 196) (s 194) d nb p ∧ s' 193 = (if u = true then snI (s 193) p 1 else s 193) ∧ ∀ c, c ≠ 193 → c ≠ 196 → s' c = s c := by
  have e194 : gb_up s 196 d 0 194 = s 194 := up_ne _ _ _ _ (by omega)
  have e193 : gb_up s 196 d 0 193 = s 193 := up_ne _ _ _ _ (by omega)
  cases u with
  | false =>
    refine ⟨gb_up s 196 d 0, ?_, by rw [up_sn]; rfl, by rw [e193]; rfl, fun c h1 h2 => up_ne _ _ _ _ h2⟩
    obtain ⟨g, hg⟩ : ∃ g, gFU = g + 1 := ⟨1999, rfl⟩
    rw [hg, fx_147_82, gq_R (by omega) (by omega), up_ne _ _ _ _ (by omega), h12, gq_R (by omega) (by omega), if_pos (by omega), ibF, gq_R (by omega) (by omega), if_pos rfl]
  | true =>
    have hl := r147l (p := p) hd hnb hp nb gFU (gb_up s 196 d 0) (Nat.le_refl _) (by unfold gFU; omega) (by rw [up_ne _ _ _ _ (by omega)]; exact h12) (by rw [e194]; exact h194) (fun j hj => by
      rw [e194, up_sn]
      by_cases h : j = d
      · rw [h, snI_eq]; exact ⟨Or.inl rfl, (hv d hd).2⟩
      · rw [snI_ne h]; exact hv j hj)
    rw [Nat.sub_self] at hl
    obtain ⟨s', e, q1, q0, q2, q3⟩ := hl
    refine ⟨s', e, ?_, ?_, fun c h1 h2 => by rw [q3 c h1 h2, up_ne _ _ _ _ h2]⟩
    · funext j
      rw [q1 j, e194, up_sn]
      show _ = opi (snI (s 196) d 0) (s 194) p nb j
      unfold opi
      by_cases h : j < nb ∧ s 194 j = (p : Int)
      · rw [if_pos h, if_pos ⟨by omega, h⟩]
      · rw [if_neg h, if_neg (fun q => h q.2)]
    · rw [q2 (by omega), e193]; rfl
/-- the land is kept -/
theorem r147c {x1 x2 : Int} (hx : 0 ≤ x1 ∧ x1 < 30) : ∀ (m f : Nat) (s : gb_S), m ≤ 60 → m < f → (∀ u, u < 60 - m → s 223 u = s 222 u) → ∃ s', fx_147_45 f x1 x2 ((60 - m : Nat) : Int) s = fx_147_82 gFU x1 x2 0 (gb_up s' 196 x1.toNat 0) ∧ (∀ u, u < 60 → s' 223 u = s 222 u) ∧ ∀ c, c ≠ 223 → s' c = s c := by
  intro m
  induction m with
  | zero =>
    intro f s _ hf h
    obtain ⟨f, rfl⟩ : ∃ q, f = q + 1 := ⟨f - 1, by omega⟩
    refine ⟨s, ?_, h, fun _ _ => rfl⟩
    rw [fx_147_45, gq_R (by omega) (by omega), if_neg (by omega), gq_ix hx.1 hx.2]
  | succ m ih =>
    intro f s hm hf h
    obtain ⟨f, rfl⟩ : ∃ q, f = q + 1 := ⟨f - 1, by omega⟩
    have ih := fun s => ih f s (by omega) (by omega)
    generalize hi : 60 - (m + 1) = i at h ⊢
    have hi2 : 60 - m = i + 1 := by omega
    rw [hi2] at ih
    obtain ⟨s', e, q1, q2⟩ := ih (gb_up s 223 i (s 222 i)) (fun u hu => by
      rw [up_ne _ _ _ _ (by omega : (222 : Nat) ≠ 223)]
      by_cases h2 : u = i
      · rw [h2, up_eq]
      · rw [up_nj _ _ _ _ h2]; exact h u (by omega))
    refine ⟨s', ?_, fun u hu => by rw [q1 u hu, up_ne _ _ _ _ (by omega)], fun c h => by rw [q2 c h, up_ne _ _ _ _ h]⟩
    rw [fx_147_45, gq_R (by omega) (by omega), if_pos (by omega), gq_ix (by omega) (by omega), Int.toNat_natCast, show ((i : Nat) : Int) + 1 = ((i + 1 : Nat) : Int) by omega, e]
/-- units that changed hands are counted -/
theorem r147n {s : gb_S} (h1 : ∀ u, u < 60 → -1 ≤ s 222 u ∧ s 222 u < 14) (h2 : ∀ u, u < 60 → -1 ≤ s 223 u ∧ s 223 u < 14) : fx_147_170 gFU 0 0 s = some (.inl ((ct (fun u => !decide (s 223 u = s 222 u)) 60 : Nat) : Int), s) := by
  have key : ∀ (m f : Nat), m ≤ 60 → m < f → fx_147_170 f ((ct (fun u => !decide (s 223 u = s 222 u)) (60 - m) : Nat) : Int) ((60 - m : Nat) : Int) s = some (.inl ((ct (fun u => !decide (s 223 u = s 222 u)) 60 : Nat) : Int), s) := by
    intro m
    induction m with
    | zero =>
      intro f _ hf
      obtain ⟨f, rfl⟩ : ∃ q, f = q + 1 := ⟨f - 1, by omega⟩
      rw [fx_147_170, gq_R (by omega) (by omega), if_neg (by omega), Nat.sub_zero]
    | succ m ih =>
      intro f hm hf
      obtain ⟨f, rfl⟩ : ∃ q, f = q + 1 := ⟨f - 1, by omega⟩
      have ihk := ih f (by omega) (by omega)
      generalize hi : 60 - (m + 1) = i
      have hi2 : 60 - m = i + 1 := by omega
      rw [hi2, ct] at ihk
      have a1 := h1 i (by omega)
      have a2 := h2 i (by omega)
      rw [fx_147_170, gq_R (by omega) (by omega), if_pos (by omega), gq_ix (by omega) (by omega), Int.toNat_natCast, gq_R (by omega) (by omega), gq_R (by omega) (by omega), show ((i : Nat) : Int) + 1 = ((i + 1 : Nat) : Int) by omega]
      by_cases h : s 223 i = s 222 i
      · rw [if_pos h, Int.add_zero]
        rw [decide_eq_true h, if_neg (by decide), Nat.add_zero] at ihk
        exact ihk
      · rw [if_neg h]
        rw [decide_eq_false h, if_pos (by decide)] at ihk
        exact ihk
  have := key 60 gFU (Nat.le_refl _) (by unfold gFU; omega)
  rw [Nat.sub_self] at this
  exact this
/-- the reference's way through a judgement's conditions -/
theorem r147 {x w : Int} (h1 : -2147483648 ≤ x ∧ x ≤ 2147483647) (hb : RB σ n nb P ps) : ∀ b1 b2 : Bool, b1 = decide (0 ≤ x ∧ x < (nb : Int)) → b2 = (b1 && !decide (σ 196 x.toNat = 0)) → fx_147 x w σ = fx_147_26 x w (ib b2) (ib b1) σ := by
  intro b1 b2 hb1 hb2
  obtain ⟨a1, a2, a3, a4, a5⟩ := hb.2.2.2.1
  unfold fx_147
  rw [i133 h1 a3 a2, gc_v, ← hb1, gq_R (ibR _).1 (ibR _).2]
  cases b1 with
  | false => rw [ibF, if_pos rfl, hb2, Bool.false_and, ibF]
  | true =>
    have hx : 0 ≤ x ∧ x < (nb : Int) := by rw [eq_comm, decide_eq_true_eq] at hb1; exact hb1
    have h4 := (a4 x.toNat (by omega)).1
    rw [ibT, if_neg (by decide), gq_ix (by omega) (by omega), gq_R (by omega) (by omega), hb2, Bool.true_and]
    by_cases h : σ 196 x.toNat = 0
    · rw [if_pos h, decide_eq_true h, Bool.not_true, ibF]
    · rw [if_neg h, decide_eq_false h, Bool.not_false, ibT]
theorem r147f {x w t : Int} {b1 b2 : Bool} (h : (b1 && b2) = false) (ht : (if b1 = true then (if b2 = true then (0 : Int) else 2) else 1) = t) (hst : ST σ n P) (e : fx_147 x w σ = fx_147_26 x w (ib b2) (ib b1) σ) : RQ (fx_147 x w) t 0 n P σ := by
  refine ⟨gb_up σ 187 43 t, ?_, up43_SC t, up43_ST t hst, up_eq _ _ _ _, up_ne _ _ _ _ (by omega)⟩
  rw [e]
  unfold fx_147_26
  rw [i128, gc_v, h, ht]
  exact (gq_R (by decide) (by decide)).trans (if_pos rfl)
/-- the books behind a judgement -/
def C8 (σ sA : gb_S) (u : Bool) (d p nb : Nat) : gb_S := fun c => if 6 ≤ c ∧ c ≤ 14 then sA c else if c = 196 then RO u (σ 196) (σ 194) d nb p else if c = 193 then (if u = true then snI (σ 193) p 1 else σ 193) else σ c
theorem C8_a {sA : gb_S} {u : Bool} {d p : Nat} {c : Nat} (h1 : 6 ≤ c) (h2 : c ≤ 14) : C8 σ sA u d p nb c = sA c := if_pos ⟨h1, h2⟩
theorem C8_196 {sA : gb_S} {u : Bool} {d p : Nat} : C8 σ sA u d p nb 196 = RO u (σ 196) (σ 194) d nb p := by
  unfold C8
  rw [if_neg (by omega), if_pos rfl]
theorem C8_193 {sA : gb_S} {u : Bool} {d p : Nat} : C8 σ sA u d p nb 193 = (if u = true then snI (σ 193) p 1 else σ 193) := by
  unfold C8
  rw [if_neg (by omega), if_neg (by omega), if_pos rfl]
theorem C8_o {sA : gb_S} {u : Bool} {d p : Nat} {c : Nat} (h1 : c < 6 ∨ 14 < c) (h2 : c ≠ 193) (h3 : c ≠ 196) : C8 σ sA u d p nb c = σ c := by
  unfold C8
  rw [if_neg (by omega), if_neg h3, if_neg h2]
theorem RO_1 {u : Bool} {op ag : Nat → Int} {d p j : Nat} (hj : j < nb) (h : RO u op ag d nb p j = 1) : op j = 1 ∧ (u = true → ¬ ag j = (p : Int)) := by
  have hs : snI op d 0 j = 1 → op j = 1 := fun h => by
    by_cases hjd : j = d
    · rw [hjd, snI_eq] at h; exact absurd h (by decide)
    · rw [snI_ne hjd] at h; exact h
  cases u with
  | false => exact ⟨hs h, fun q => by cases q⟩
  | true =>
    have h : opi (snI op d 0) ag p nb j = 1 := h
    unfold opi at h
    by_cases h2 : j < nb ∧ ag j = (p : Int)
    · rw [if_pos h2] at h; exact absurd h (by decide)
    · rw [if_neg h2] at h
      exact ⟨hs h, fun _ q => h2 ⟨hj, q⟩⟩
theorem RO_b {u : Bool} {op ag : Nat → Int} {d p j : Nat} (h : op j = 0 ∨ op j = 1) : RO u op ag d nb p j = 0 ∨ RO u op ag d nb p j = 1 := by
  have hs : snI op d 0 j = 0 ∨ snI op d 0 j = 1 := by
    by_cases hjd : j = d
    · rw [hjd, snI_eq]; exact Or.inl rfl
    · rw [snI_ne hjd]; exact h
  cases u with
  | false => exact hs
  | true => exact opi_b hs
theorem C8_ok {sA : gb_S} {u : Bool} {d p : Nat} (hi : IV2 c σ n nb nd P ps De Cf) (hp : p < P.1) (q1 : ∀ j, j < nb → sA 14 j = RO u (σ 196) (σ 194) d nb p j) (q2 : ∀ k, k < P.1 → sA 10 k = od (RO u (σ 196) (σ 194) d nb p) (σ 194) (σ 195) k nb) (q3 : ∀ k, P.1 ≤ k → sA 10 k = σ 10 k) (q4 : sA 11 = (if u = true then snI (σ 11) p 1 else σ 11)) (q5 : ∀ c, c ≠ 10 → c ≠ 11 → c ≠ 14 → sA c = σ c) : RB (C8 σ sA u d p nb) n nb (pO (C8 σ sA u d p nb) P nb) ps ∧ PO (C8 σ sA u d p nb) nb (pO (C8 σ sA u d p nb) P nb) := by
  have hn := hi.1.1
  obtain ⟨p1, p2, p3, p4, p5⟩ := hi.2.2.2.2.1
  obtain ⟨a1, a2, a3, a4, a5⟩ := hi.1.2.2.2.1
  have h30 := hi.1.2.2.1.1
  have h193 : ∀ k, C8 σ sA u d p nb 193 k = (if u = true ∧ k = p then 1 else σ 193 k) := fun k => by
    rw [C8_193]
    cases u with
    | false => rw [if_neg (by decide), if_neg (fun q => by cases q.1)]
    | true =>
      rw [if_pos rfl]
      by_cases h : k = p
      · rw [h, snI_eq, if_pos ⟨rfl, rfl⟩]
      · rw [snI_ne h, if_neg (fun q => h q.2)]
  have h11 : ∀ k, sA 11 k = (if u = true ∧ k = p then 1 else σ 11 k) := fun k => by
    rw [q4]
    cases u with
    | false => rw [if_neg (by decide), if_neg (fun q => by cases q.1)]
    | true =>
      rw [if_pos rfl]
      by_cases h : k = p
      · rw [h, snI_eq, if_pos ⟨rfl, rfl⟩]
      · rw [snI_ne h, if_neg (fun q => h q.2)]
  refine ⟨pO_RB hi.1 (fun c h => C8_o (by omega) (by omega) (by omega)) (by rw [C8_o (by omega) (by omega) (by omega)]) (by rw [C8_o (by omega) (by omega) (by omega)]) (by rw [C8_o (by omega) (by omega) (by omega)]; exact a2) a3 (fun k hk => ?_) (fun j hj => ?_), ?_, ?_, fun k hk => ?_, fun j hj => ?_, fun k k1 k2 => ?_⟩
  · rw [h193]
    split
    · exact Or.inr rfl
    · exact (a5 k hk).2.2.2.1
  · rw [C8_196, C8_o (c := 194) (by omega) (by omega) (by omega), C8_o (c := 195) (by omega) (by omega) (by omega)]
    exact ⟨RO_b (a4 j hj).1, (a4 j hj).2⟩
  · rw [C8_a (by omega) (by omega), q5 6 (by omega) (by omega) (by omega)]; exact p1
  · rw [C8_a (by omega) (by omega), q5 6 (by omega) (by omega) (by omega)]; exact p2
  · have hk : k < P.1 := hk
    obtain ⟨e1, e2, e3, e4, e5⟩ := p3 k hk
    rw [h193, C8_196, C8_a (c := 7) (by omega) (by omega), C8_a (c := 8) (by omega) (by omega), C8_a (c := 9) (by omega) (by omega), C8_a (c := 11) (by omega) (by omega), C8_a (c := 10) (by omega) (by omega), C8_o (c := 190) (by omega) (by omega) (by omega), C8_o (c := 191) (by omega) (by omega) (by omega), C8_o (c := 192) (by omega) (by omega) (by omega), C8_o (c := 194) (by omega) (by omega) (by omega), C8_o (c := 195) (by omega) (by omega) (by omega), q5 7 (by omega) (by omega) (by omega), q5 8 (by omega) (by omega) (by omega), q5 9 (by omega) (by omega) (by omega), h11, q2 k hk, e4]
    exact ⟨e1, e2, e3, rfl, rfl⟩
  · obtain ⟨e1, e2, e3, e4, e5⟩ := p4 j hj
    have hj4 := a4 j hj
    rw [h193, C8_196, C8_a (c := 12) (by omega) (by omega), C8_a (c := 13) (by omega) (by omega), C8_a (c := 14) (by omega) (by omega), C8_o (c := 194) (by omega) (by omega) (by omega), C8_o (c := 195) (by omega) (by omega) (by omega), q5 12 (by omega) (by omega) (by omega), q5 13 (by omega) (by omega) (by omega)]
    refine ⟨e1, e2, q1 j hj, e4, fun h => ?_⟩
    have hr := RO_1 hj h
    rw [if_neg (fun q => hr.2 q.1 (by omega))]
    exact e5 hr.1
  · have k1 : P.1 ≤ k := k1
    rw [h193, C8_a (c := 11) (by omega) (by omega), C8_a (c := 10) (by omega) (by omega), h11, q3 k k1, if_neg (fun q => by omega), if_neg (fun q => by omega)]
    exact p5 k k1 k2
end JU1
