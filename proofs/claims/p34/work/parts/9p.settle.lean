section SE1
variable {σ : gb_S} {c n nb nd N : Nat} {P : pT} {ps : Nat → Nat} {De : Nat → dT} {Cf : Nat → List Nat}
/-- a doubt lifted -/
theorem od_set {op ag dw : Nat → Int} {j k : Nat} : ∀ {m : Nat}, od (snI op j 0) ag dw k m = od op ag dw k m - (if j < m ∧ ¬ op j = 0 ∧ ag j = (k : Int) then dw j else 0) := by
  intro m
  induction m with
  | zero => rw [od, od, if_neg (fun q => by omega)]; rfl
  | succ m ih =>
    rw [od, od, ih]
    by_cases hj : j = m
    · subst hj
      rw [snI_eq]
      repeat' split
      all_goals omega
    · rw [snI_ne (show m ≠ j by omega)]
      repeat' split
      all_goals omega
/-- the class's doubts are op -/
def BO (σ s : gb_S) (nb N : Nat) (op : Nat → Int) : Prop := (∀ j, j < nb → s 14 j = op j) ∧ (∀ k, k < N → s 10 k = od op (σ 194) (σ 195) k nb) ∧ (∀ k, N ≤ k → s 10 k = σ 10 k) ∧ ∀ c, c ≠ 10 → c ≠ 14 → s c = σ c
/-- what doubts are against -/
def BD (σ : gb_S) (nb N : Nat) : Prop := σ 6 5 = (N : Int) ∧ σ 6 9 = (nb : Int) ∧ N ≤ 30 ∧ nb ≤ 30 ∧ ∀ j, j < nb → σ 12 j = σ 194 j ∧ σ 13 j = σ 195 j ∧ (0 ≤ σ 194 j ∧ σ 194 j < (N : Int))
theorem c64 {j : Nat} {s : gb_S} (hj : j < nb) (hnb : nb ≤ 30) (h : s 6 9 = (nb : Int)) (h14 : s 14 j = 0 ∨ s 14 j = 1) : fx_64 (j : Int) s = some (.inl (ib (!decide (s 14 j = 0))), s) := by
  unfold fx_64
  rw [gq_R (by omega) (by omega), if_neg (by omega), gq_R (by omega) (by omega), if_pos (by omega), gq_ix (by omega) (by omega), Int.toNat_natCast, gq_R (by omega) (by omega)]
  by_cases h0 : s 14 j = 0
  · rw [if_pos h0, decide_eq_true h0]; rfl
  · rw [if_neg h0, decide_eq_false h0]; rfl
theorem c63 {k N : Nat} (hk : k < N) (hP : N ≤ 30) {s : gb_S} (h65 : s 6 5 = (N : Int)) : fx_63 (k : Int) s = some (.inl 1, s) := by
  unfold fx_63
  rw [gq_R (by omega) (by omega), if_neg (by omega), gq_R (by omega) (by omega), if_pos (by omega)]
theorem c62 {s : gb_S} {op : Nat → Int} {j : Nat} (hd : BD σ nb N) (hb : BO σ s nb N op) (hop : ∀ j, j < nb → op j = 0 ∨ op j = 1) (hj : j < nb) : ∃ s', fx_62 (j : Int) s = some (.inl 0, s') ∧ BO σ s' nb N (snI op j 0) := by
  obtain ⟨d1, d2, d3, d4, d5⟩ := hd
  obtain ⟨o1, o2, o3, o4⟩ := hb
  have h6 : s 6 = σ 6 := o4 6 (by omega) (by omega)
  have h14 := o1 j hj
  have hopj := hop j hj
  unfold fx_62
  rw [c64 hj d4 (by rw [h6]; exact d2) (by rw [h14]; exact hopj), gc_v, gq_R (ibR _).1 (ibR _).2, h14]
  by_cases h0 : op j = 0
  · rw [decide_eq_true h0, Bool.not_true, ibF, if_pos rfl]
    have he : snI op j 0 = op := by
      funext i
      by_cases h : i = j
      · rw [h, snI_eq, h0]
      · rw [snI_ne h]
    rw [he]
    exact ⟨s, rfl, o1, o2, o3, o4⟩
  · obtain ⟨e12, e13, e194⟩ := d5 j hj
    obtain ⟨k, hk⟩ : ∃ k : Nat, σ 194 j = (k : Int) := ⟨(σ 194 j).toNat, by omega⟩
    have hkN : k < N := by omega
    have s12 : s 12 j = (k : Int) := by rw [o4 12 (by omega) (by omega), e12, hk]
    rw [decide_eq_false h0, Bool.not_false, ibT, if_neg (by decide), gq_ix (by omega) (by omega), Int.toNat_natCast, up_ne _ _ _ _ (by omega : (12 : Nat) ≠ 14), s12, c63 hkN d3 (by rw [up_ne _ _ _ _ (by omega), h6]; exact d1), gc_v, gq_R (by omega) (by omega), if_neg (by decide), gq_ix (by omega) (by omega), Int.toNat_natCast]
    refine ⟨_, rfl, fun i hi => ?_, fun i hi => ?_, fun i hi => ?_, fun c h1 h2 => ?_⟩
    · rw [up_ne _ _ _ _ (by omega)]
      by_cases h : i = j
      · rw [h, up_eq, snI_eq]
      · rw [up_nj _ _ _ _ h, snI_ne h]; exact o1 i hi
    · rw [od_set, up_sn, up_ne _ _ _ _ (by omega : (10 : Nat) ≠ 14), up_ne _ _ _ _ (by omega : (13 : Nat) ≠ 14), o4 13 (by omega) (by omega), e13]
      by_cases h : i = k
      · rw [h, snI_eq, o2 k hkN, if_pos ⟨hj, h0, hk⟩]
      · rw [snI_ne h, o2 i hi, if_neg (fun q => h (by have := q.2.2; omega)), Int.sub_zero]
    · rw [up_nj _ _ _ _ (by omega), up_ne _ _ _ _ (by omega)]; exact o3 i hi
    · rw [up_ne _ _ _ _ h1, up_ne _ _ _ _ h2]; exact o4 c h1 h2
/-- doubts against p among the first i lifted -/
def opi (op ag : Nat → Int) (p i : Nat) : Nat → Int := fun j => if j < i ∧ ag j = (p : Int) then 0 else op j
theorem opi_s {op ag : Nat → Int} {p i : Nat} (h : ag i = (p : Int)) : snI (opi op ag p i) i 0 = opi op ag p (i + 1) := by
  funext j
  by_cases hj : j = i
  · subst hj; rw [snI_eq]; unfold opi; rw [if_pos ⟨by omega, h⟩]
  · rw [snI_ne hj]; unfold opi
    by_cases h2 : j < i ∧ ag j = (p : Int)
    · rw [if_pos h2, if_pos ⟨by omega, h2.2⟩]
    · rw [if_neg h2, if_neg (fun q => h2 ⟨by omega, q.2⟩)]
theorem opi_n {op ag : Nat → Int} {p i : Nat} (h : ¬ ag i = (p : Int)) : opi op ag p i = opi op ag p (i + 1) := by
  funext j
  unfold opi
  by_cases h2 : j < i ∧ ag j = (p : Int)
  · rw [if_pos h2, if_pos ⟨by omega, h2.2⟩]
  · rw [if_neg h2, if_neg (fun q => by
      by_cases hj : j = i
      · rw [hj] at q; exact h q.2
      · exact h2 ⟨by omega, q.2⟩)]
theorem opi_b {op ag : Nat → Int} {p i j : Nat} (h : op j = 0 ∨ op j = 1) : opi op ag p i j = 0 ∨ opi op ag p i j = 1 := by
  unfold opi
  split
  · exact Or.inl rfl
  · exact h
theorem c61l {op : Nat → Int} {p : Nat} (hd : BD σ nb N) (hop : ∀ j, j < nb → op j = 0 ∨ op j = 1) (hp : p < N) : ∀ (m f : Nat) (s : gb_S), m ≤ nb → m < f → BO σ s nb N (opi op (σ 194) p (nb - m)) → ∃ s', fx_61_43 f (p : Int) ((nb - m : Nat) : Int) s = some (.inl 0, s') ∧ BO σ s' nb N (opi op (σ 194) p nb) := by
  have hd4 := hd.2.2.2.1
  have hd3 := hd.2.2.1
  intro m
  induction m with
  | zero =>
    intro f s _ hf hb
    obtain ⟨f, rfl⟩ : ∃ q, f = q + 1 := ⟨f - 1, by omega⟩
    have h69 : s 6 9 = (nb : Int) := by rw [hb.2.2.2 6 (by omega) (by omega)]; exact hd.2.1
    refine ⟨s, ?_, by rw [Nat.sub_zero] at hb; exact hb⟩
    rw [fx_61_43, gq_R (by omega) (by omega), h69, gq_R (by omega) (by omega), if_neg (by omega)]
  | succ m ih =>
    intro f s hm hf hb
    obtain ⟨f, rfl⟩ : ∃ q, f = q + 1 := ⟨f - 1, by omega⟩
    have ih := fun s => ih f s (by omega) (by omega)
    generalize hi : nb - (m + 1) = i at hb ⊢
    have hi2 : nb - m = i + 1 := by omega
    rw [hi2] at ih
    have h69 : s 6 9 = (nb : Int) := by rw [hb.2.2.2 6 (by omega) (by omega)]; exact hd.2.1
    have h5 := hd.2.2.2.2 i (by omega)
    have h12 : s 12 i = σ 194 i := by rw [hb.2.2.2 12 (by omega) (by omega)]; exact h5.1
    rw [fx_61_43, gq_R (by omega) (by omega), h69, gq_R (by omega) (by omega), if_pos (by omega), gq_ix (by omega) (by omega), Int.toNat_natCast, h12, gq_R (by omega) (by omega), gq_R (by omega) (by omega), show ((i : Nat) : Int) + 1 = ((i + 1 : Nat) : Int) by omega]
    by_cases h : σ 194 i = (p : Int)
    · obtain ⟨s1, e1, b1⟩ := c62 hd hb (fun j hj => opi_b (hop j hj)) (show i < nb by omega)
      rw [opi_s h] at b1
      obtain ⟨s', e', b'⟩ := ih s1 b1
      refine ⟨s', ?_, b'⟩
      rw [if_pos h, e1, gc_v, e']
    · rw [opi_n h] at hb
      rw [if_neg h]
      exact ih s hb
/-- open doubts behind a judgement -/
def RO (u : Bool) (op ag : Nat → Int) (d nb p : Nat) : Nat → Int := if u = true then opi (snI op d 0) ag p nb else snI op d 0
theorem c61 {op : Nat → Int} {d p : Nat} (u : Bool) (hd : BD σ nb N) (hb : BO σ σ nb N op) (hop : ∀ j, j < nb → op j = 0 ∨ op j = 1) (hdn : d < nb) (ho : op d = 1) (hp : σ 194 d = (p : Int)) : ∃ s, fx_61 (d : Int) (ib u) σ = some (.inl 0, s) ∧ (∀ j, j < nb → s 14 j = RO u op (σ 194) d nb p j) ∧ (∀ k, k < N → s 10 k = od (RO u op (σ 194) d nb p) (σ 194) (σ 195) k nb) ∧ (∀ k, N ≤ k → s 10 k = σ 10 k) ∧ s 11 = (if u = true then snI (σ 11) p 1 else σ 11) ∧ ∀ c, c ≠ 10 → c ≠ 11 → c ≠ 14 → s c = σ c := by
  obtain ⟨d1, d2, d3, d4, d5⟩ := id hd
  have h14 := hb.1 d hdn
  have h5 := d5 d hdn
  have hpN : p < N := by omega
  obtain ⟨s6, e6, b6⟩ := c62 hd hb hop hdn
  unfold fx_61
  rw [c64 hdn d4 d2 (by rw [h14]; exact hop d hdn), gc_v, h14, ho, gq_R (ibR _).1 (ibR _).2, show ib (!decide ((1 : Int) = 0)) = 1 from rfl, if_neg (by decide), gq_ix (by omega) (by omega), Int.toNat_natCast, e6, gc_v, gq_R (ibR _).1 (ibR _).2]
  cases u with
  | false =>
    rw [ibF, if_pos rfl]
    refine ⟨s6, rfl, b6.1, b6.2.1, b6.2.2.1, ?_, fun c h1 h2 h3 => b6.2.2.2 c h1 h3⟩
    rw [if_neg (by decide)]
    exact b6.2.2.2 11 (by omega) (by omega)
  | true =>
    have h6 : s6 6 = σ 6 := b6.2.2.2 6 (by omega) (by omega)
    rw [ibT, if_neg (by decide), h5.1, hp, c63 hpN d3 (by rw [h6]; exact d1), gc_v, gq_R (by omega) (by omega), if_neg (by decide), gq_ix (by omega) (by omega), Int.toNat_natCast]
    generalize hσ1 : gb_up σ 11 p 1 = σ1
    have o1 : ∀ c, c ≠ 11 → σ1 c = σ c := fun c h => by rw [← hσ1, up_ne _ _ _ _ h]
    have hd1 : BD σ1 nb N := by
      unfold BD
      rw [o1 6 (by omega), o1 12 (by omega), o1 13 (by omega), o1 194 (by omega), o1 195 (by omega)]
      exact hd
    have hb1 : BO σ1 (gb_up s6 11 p 1) nb N (opi (snI op d 0) (σ1 194) p (nb - nb)) := by
      have he : opi (snI op d 0) (σ1 194) p (nb - nb) = snI op d 0 := by
        funext j
        unfold opi
        rw [if_neg (fun q => by omega)]
      rw [he]
      refine ⟨fun j hj => by rw [up_ne _ _ _ _ (by omega)]; exact b6.1 j hj, fun k hk => by rw [up_ne _ _ _ _ (by omega), o1 194 (by omega), o1 195 (by omega)]; exact b6.2.1 k hk, fun k hk => by rw [up_ne _ _ _ _ (by omega), o1 10 (by omega)]; exact b6.2.2.1 k hk, fun c h1 h2 => ?_⟩
      by_cases h : c = 11
      · subst h
        rw [up_sn, ← hσ1, up_sn, b6.2.2.2 11 (by omega) (by omega)]
      · rw [up_ne _ _ _ _ h, o1 c h]; exact b6.2.2.2 c h1 h2
    obtain ⟨s, e, b⟩ := c61l hd1 (fun j hj => by
      by_cases h : j = d
      · rw [h, snI_eq]; exact Or.inl rfl
      · rw [snI_ne h]; exact hop j hj) hpN nb gFU (gb_up s6 11 p 1) (Nat.le_refl _) (by unfold gFU; omega) hb1
    rw [Nat.sub_self] at e
    refine ⟨s, e, ?_, ?_, ?_, ?_, fun c h1 h2 h3 => ?_⟩
    · rw [← o1 194 (by omega)]; exact b.1
    · rw [← o1 194 (by omega), ← o1 195 (by omega)]; exact b.2.1
    · rw [← o1 10 (by omega)]; exact b.2.2.1
    · rw [b.2.2.2 11 (by omega) (by omega), ← hσ1, up_sn, if_pos rfl]
    · rw [b.2.2.2 c h1 h3, o1 c h2]
end SE1
