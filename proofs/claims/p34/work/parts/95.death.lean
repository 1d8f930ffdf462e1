section DE1
variable {σ σ' : gb_S} {c n nb nd : Nat} {P : pT} {ps : Nat → Nat} {De : Nat → dT} {Cf : Nat → List Nat} {C : List Nat}
/-- the claims without those of p -/
def dl (p : Nat) (C : List Nat) : List Nat := C.filter (fun q => !decide (q = p))
theorem dl_not {p : Nat} (h : C.contains p = false) : dl p C = C := by
  unfold dl
  refine List.filter_eq_self.mpr (fun a ha => ?_)
  have : ¬ a = p := fun q => by
    have := List.contains_iff_mem.mpr ha
    rw [q, h] at this
    cases this
  rw [decide_eq_false this]
  rfl
theorem dl_split {p r : Nat} (hd : C.Nodup) (hr : r < C.length) (he : C.getD r 0 = p) : dl p C = C.take r ++ C.drop (r + 1) := by
  have hC : C = C.take r ++ p :: C.drop (r + 1) := by
    have h1 : C.drop r = p :: C.drop (r + 1) := by
      rw [List.drop_eq_getElem_cons hr]
      congr 1
      rw [List.getD_eq_getElem?_getD, List.getElem?_eq_getElem hr, Option.getD_some] at he
      exact he
    rw [← h1, List.take_append_drop]
  have hd2 := hd
  rw [hC, List.nodup_append] at hd2
  obtain ⟨d1, d2, d3⟩ := hd2
  have d4 := (List.nodup_cons.mp d2).1
  unfold dl
  conv => lhs; rw [hC]
  rw [List.filter_append, List.filter_cons, decide_eq_true rfl, Bool.not_true, if_neg (by decide)]
  congr 1
  · refine List.filter_eq_self.mpr (fun a ha => ?_)
    have : ¬ a = p := fun q => d3 a ha p List.mem_cons_self q
    rw [decide_eq_false this]; rfl
  · refine List.filter_eq_self.mpr (fun a ha => ?_)
    have : ¬ a = p := fun q => d4 (by rw [← q]; exact ha)
    rw [decide_eq_false this]; rfl
theorem dl_getD {r k : Nat} (hr : r < C.length) : (C.take r ++ C.drop (r + 1)).getD k 0 = if k < r then C.getD k 0 else C.getD (k + 1) 0 := by
  have hl : (C.take r).length = r := by rw [List.length_take]; omega
  rw [List.getD_eq_getElem?_getD, List.getD_eq_getElem?_getD, List.getD_eq_getElem?_getD]
  by_cases h : k < r
  · rw [if_pos h, List.getElem?_append_left (by omega), List.getElem?_take_of_lt h]
  · rw [if_neg h, List.getElem?_append_right (by omega), hl, List.getElem?_drop, show r + 1 + (k - r) = k + 1 by omega]
theorem dl_nodup {p : Nat} (h : C.Nodup) : (dl p C).Nodup := h.sublist List.filter_sublist
theorem dl_mem {p : Nat} (h : ∀ q, q ∈ C → q < n) : ∀ q, q ∈ dl p C → q < n := fun q hq => h q (List.mem_filter.mp hq).1
theorem dl_le {p : Nat} : (dl p C).length ≤ C.length := List.length_filter_le _ _
theorem dl_len {p : Nat} (hd : C.Nodup) : (C.length : Int) - ((dl p C).length : Int) = if C.contains p = true then 1 else 0 := by
  cases h : C.contains p with
  | false => rw [dl_not h, if_neg (by decide)]; omega
  | true =>
    obtain ⟨k, hk, he⟩ := mem_getD (List.contains_iff_mem.mp h)
    rw [dl_split hd hk he, if_pos rfl, List.length_append, List.length_take, List.length_drop]
    omega
/-- dropClaim -/
theorem c17 {e p : Nat} (hn : n ≤ 14) (hc : CL σ e n C) (hp : p < 14) : ∃ σ', fx_17 e (p : Int) σ = some (.inl (if C.contains p = true then 1 else 0), σ') ∧ CL σ' e n (dl p C) ∧ (∀ j, j ≠ 3 → σ' e j = σ e j) ∧ ∀ c, c ≠ e → c ≠ e + 2 → σ' c = σ c := by
  obtain ⟨r, e1, h1, h2⟩ := g18 hn hc hp
  obtain ⟨c1, c2, c3, c4, c5⟩ := id hc
  unfold fx_17
  rw [e1, gc_v]
  cases hcp : C.contains p with
  | false =>
    refine ⟨σ, ?_, by rw [dl_not hcp]; exact hc, fun _ _ => rfl, fun _ _ _ => rfl⟩
    rw [h1 hcp, gq_R (by omega) (by omega), if_pos rfl]
    rfl
  | true =>
    obtain ⟨q1, q2, q3⟩ := h2 hcp
    obtain ⟨k, rfl⟩ : ∃ k : Nat, r = (k : Int) := ⟨r.toNat, by omega⟩
    rw [Int.toNat_natCast] at q3
    have hk : k < C.length := by omega
    have key : ∀ (m f : Nat) (s : gb_S), m ≤ C.length - (k + 1) → m < f → s e 3 = (C.length : Int) → (∀ j, j < k → s (e + 2) j = ((C.getD j 0 : Nat) : Int)) → (∀ j, k ≤ j → j + 1 < C.length - m → s (e + 2) j = ((C.getD (j + 1) 0 : Nat) : Int)) → (∀ j, C.length - m ≤ j → j < C.length → s (e + 2) j = ((C.getD j 0 : Nat) : Int)) → (∀ j, j ≠ 3 → s e j = σ e j) → (∀ c, c ≠ e → c ≠ e + 2 → s c = σ c) → ∃ s', fx_17_17 f e ((C.length - m : Nat) : Int) s = some (.inl 1, s') ∧ CL s' e n (dl p C) ∧ (∀ j, j ≠ 3 → s' e j = σ e j) ∧ ∀ c, c ≠ e → c ≠ e + 2 → s' c = σ c := by
      intro m
      induction m with
      | zero =>
        intro f s _ hf h3 i1 i2 i3 i4 i5
        obtain ⟨f, rfl⟩ : ∃ q, f = q + 1 := ⟨f - 1, by omega⟩
        refine ⟨gb_up s e 3 ((C.length : Int) - 1), ?_, ?_, fun j hj => by rw [up_nj _ _ _ _ hj]; exact i4 j hj, fun c h1 h2 => by rw [up_ne _ _ _ _ h1]; exact i5 c h1 h2⟩
        · rw [fx_17_17, gq_R (by omega) (by omega), h3, gq_R (by omega) (by omega), if_neg (by omega)]
        · have hl : (dl p C).length = C.length - 1 := by
            rw [dl_split c3 hk q3, List.length_append, List.length_take, List.length_drop]; omega
          refine ⟨by rw [up_eq, hl]; omega, by omega, dl_nodup c3, dl_mem c4, fun j hj => ?_⟩
          rw [hl] at hj
          rw [up_ne _ _ _ _ (by omega), dl_split c3 hk q3, dl_getD hk]
          by_cases hjk : j < k
          · rw [if_pos hjk]; exact i1 j hjk
          · rw [if_neg hjk]; exact i2 j (by omega) (by omega)
      | succ m ih =>
        intro f s hm hf h3 i1 i2 i3 i4 i5
        obtain ⟨f, rfl⟩ : ∃ q, f = q + 1 := ⟨f - 1, by omega⟩
        have ih := fun s => ih f s (by omega) (by omega)
        generalize hi : C.length - (m + 1) = i at i2 i3 ⊢
        have hi2 : C.length - m = i + 1 := by omega
        rw [hi2] at ih
        rw [fx_17_17, gq_R (by omega) (by omega), h3, gq_R (by omega) (by omega), if_pos (by omega), gq_ix (by omega) (by omega), gq_ix (by omega) (by omega), Int.toNat_natCast, show ((i : Int) - 1).toNat = i - 1 by omega, show ((i : Nat) : Int) + 1 = ((i + 1 : Nat) : Int) by omega]
        refine ih _ (by rw [up_ne _ _ _ _ (by omega)]; exact h3) (fun j hj => by rw [up_nj _ _ _ _ (by omega)]; exact i1 j hj) (fun j hj1 hj2 => ?_) (fun j hj1 hj2 => by rw [up_nj _ _ _ _ (by omega)]; exact i3 j (by omega) hj2) (fun j hj => by rw [up_ne _ _ _ _ (by omega)]; exact i4 j hj) (fun c h1 h2 => by rw [up_ne _ _ _ _ h2]; exact i5 c h1 h2)
        by_cases hji : j = i - 1
        · rw [hji, up_eq, show i - 1 + 1 = i by omega]; exact i3 i (by omega) (by omega)
        · rw [up_nj _ _ _ _ hji]; exact i2 j hj1 (by omega)
    obtain ⟨s', k1, k2, k3, k4⟩ := key (C.length - (k + 1)) gFU σ (Nat.le_refl _) (by unfold gFU; omega) c1 (fun j hj => c5 j (by omega)) (fun j h1 h2 => by omega) (fun j h1 h2 => c5 j h2) (fun _ _ => rfl) (fun _ _ _ => rfl)
    rw [show C.length - (C.length - (k + 1)) = k + 1 by omega] at k1
    refine ⟨s', ?_, k2, k3, k4⟩
    rw [gq_R (by omega) (by omega), if_neg (by omega), show ((k : Nat) : Int) + 1 = ((k + 1 : Nat) : Int) by omega, k1]
    rfl
/-- the claims behind a death -/
def Cd (g : Nat → Int) (Cf : Nat → List Nat) (p d : Nat) : List Nat := if g d = 0 then dl p (Cf d) else Cf d
def Kd (g : Nat → Int) (Cf : Nat → List Nat) (p d : Nat) : Bool := decide (g d = 0) && (Cf d).contains p
/-- the class drops the claims of the dead -/
theorem c82 {g : Nat → Int} {p : Nat} (hn : n ≤ 14) (hp : p < 14) (hg : ∀ d, d < 14 → g d = 0 ∨ g d = 1) : ∀ (m f : Nat) (σ : gb_S), m ≤ 14 → m < f → (∀ d, d < 14 → σ (47 + 10 * d) 4 = g d) → (∀ d, d < 14 - m → CL σ (47 + 10 * d) n (Cd g Cf p d)) → (∀ d, 14 - m ≤ d → d < 14 → CL σ (47 + 10 * d) n (Cf d)) → ∃ σ', fx_82_26 f (p : Int) ((ct (Kd g Cf p) (14 - m) : Nat) : Int) ((14 - m : Nat) : Int) σ = some (.inl ((ct (Kd g Cf p) 14 : Nat) : Int), σ') ∧ (∀ d, d < 14 → CL σ' (47 + 10 * d) n (Cd g Cf p d)) ∧ (∀ d j, d < 14 → j ≠ 3 → σ' (47 + 10 * d) j = σ (47 + 10 * d) j) ∧ ∀ c, (∀ d, d < 14 → c ≠ 47 + 10 * d ∧ c ≠ 47 + 10 * d + 2) → σ' c = σ c := by
  intro m
  induction m with
  | zero =>
    intro f σ _ hf h4 i1 i2
    obtain ⟨f, rfl⟩ : ∃ q, f = q + 1 := ⟨f - 1, by omega⟩
    refine ⟨σ, ?_, fun d hd => i1 d (by omega), fun _ _ _ _ => rfl, fun _ _ => rfl⟩
    rw [fx_82_26, gq_R (by omega) (by omega), if_neg (by omega), Nat.sub_zero]
  | succ m ih =>
    intro f σ hm hf h4 i1 i2
    obtain ⟨f, rfl⟩ : ∃ q, f = q + 1 := ⟨f - 1, by omega⟩
    have ih := fun s => ih f s (by omega) (by omega)
    generalize hi : 14 - (m + 1) = i at i1 i2 ⊢
    have hi2 : 14 - m = i + 1 := by omega
    rw [hi2] at ih
    have hgi := hg i (by omega)
    have h4i := h4 i (by omega)
    have hle := ct_le (Kd g Cf p) i
    rw [fx_82_26, gq_R (by omega) (by omega), if_pos (by omega), gq_ix (by omega) (by omega), Int.toNat_natCast, h4i, gq_R (by omega) (by omega), show ((i : Nat) : Int) + 1 = ((i + 1 : Nat) : Int) by omega]
    by_cases h0 : g i = 0
    · obtain ⟨s1, e1, k1, k2, k3⟩ := c17 hn (i2 i (Nat.le_refl _) (by omega)) hp
      have keep : ∀ d, d < 14 → d ≠ i → ∀ C : List Nat, CL σ (47 + 10 * d) n C → CL s1 (47 + 10 * d) n C := fun d _ hdi C h => CL_cong (k3 _ (by omega) (by omega)) (k3 _ (by omega) (by omega)) h
      have hci : ct (Kd g Cf p) (i + 1) = ct (Kd g Cf p) i + (if (Cf i).contains p = true then 1 else 0) := by
        rw [ct]
        unfold Kd
        rw [decide_eq_true h0, Bool.true_and]
      obtain ⟨s2, e2, r1, r2, r3⟩ := ih s1 (fun d hd => by
        by_cases hdi : d = i
        · rw [hdi, k2 4 (by omega)]; exact h4i
        · rw [k3 _ (by omega) (by omega)]; exact h4 d hd) (fun d hd => by
        by_cases hdi : d = i
        · rw [hdi]; unfold Cd; rw [if_pos h0]; exact k1
        · exact keep d (by omega) hdi _ (i1 d (by omega))) (fun d h1 h2 => keep d h2 (by omega) _ (i2 d (by omega) h2))
      refine ⟨s2, ?_, r1, fun d j hd hj => ?_, fun c hc => by rw [r3 c hc, k3 c (hc i (by omega)).1 (hc i (by omega)).2]⟩
      · rw [if_pos h0, e1, gc_v]
        rw [hci] at e2
        cases hcp : (Cf i).contains p with
        | false =>
          rw [hcp] at e2
          rw [gq_R (by decide) (by decide)]
          exact e2
        | true =>
          rw [hcp] at e2
          rw [gq_R (by decide) (by decide)]
          exact e2
      · rw [r2 d j hd hj]
        by_cases hdi : d = i
        · rw [hdi]; exact k2 j hj
        · rw [k3 _ (by omega) (by omega)]
    · rw [if_neg h0]
      have hci : ct (Kd g Cf p) (i + 1) = ct (Kd g Cf p) i := by
        rw [ct]
        unfold Kd
        rw [decide_eq_false h0, Bool.false_and, if_neg (by decide), Nat.add_zero]
      rw [hci] at ih
      exact ih σ h4 (fun d hd => by
        by_cases hdi : d = i
        · rw [hdi]; unfold Cd; rw [if_neg h0]; exact i2 i (Nat.le_refl _) (by omega)
        · exact i1 d (by omega)) (fun d h1 h2 => i2 d (by omega) h2)
theorem up_self (σ : gb_S) (a j : Nat) : gb_up σ a j (σ a j) = σ := by
  funext a' j'
  by_cases h : a' = a
  · by_cases h2 : j' = j
    · rw [h, h2, up_eq]
    · rw [up_nj _ _ _ _ h2]
  · rw [up_ne _ _ _ _ h]
theorem up_same (σ : gb_S) (a j i : Nat) : gb_up σ a j (σ a i) a i = σ a i := by
  by_cases h : i = j
  · rw [h, up_eq]
  · rw [up_nj _ _ _ _ h]
/-- the reference drops the claims of the dead to one estate -/
theorem r138o {k50 : Int → Int → Int → gb_S → Option gb_P} {z : Int} {d p : Nat} (hd : d < 14) (hn : n ≤ 14) (hp : p < 14) (c2 : C.length ≤ 14) (c3 : C.Nodup) (c4 : ∀ q, q ∈ C → q < n) : ∀ (m f : Nat) (σ : gb_S), m ≤ C.length → m < f → σ 202 d = (C.length : Int) → σ 198 d = 0 → (∀ j, j < (dl p (C.take (C.length - m))).length → σ 201 (14 * d + j) = (((dl p (C.take (C.length - m))).getD j 0 : Nat) : Int)) → (∀ j, C.length - m ≤ j → j < C.length → σ 201 (14 * d + j) = ((C.getD j 0 : Nat) : Int)) → ∃ s', fx_138_65 f k50 (p : Int) z (d : Int) (((dl p (C.take (C.length - m))).length : Nat) : Int) ((C.length - m : Nat) : Int) σ = k50 (p : Int) (z + (if C.contains p = true then 1 else 0)) ((d : Int) + 1) s' ∧ CR s' d n (dl p C) ∧ (∀ j, (j < 14 * d ∨ 14 * d + 14 ≤ j) → s' 201 j = σ 201 j) ∧ (∀ j, j ≠ d → s' 202 j = σ 202 j) ∧ ∀ c, c ≠ 201 → c ≠ 202 → s' c = σ c := by
  intro m
  induction m with
  | zero =>
    intro f σ _ hf h202 h198 i1 i2
    obtain ⟨f, rfl⟩ : ∃ q, f = q + 1 := ⟨f - 1, by omega⟩
    rw [Nat.sub_zero, List.take_length] at i1 ⊢
    have hle := dl_le (C := C) (p := p)
    have hlen := dl_len (p := p) c3
    refine ⟨gb_up σ 202 d ((dl p C).length : Int), ?_, ⟨up_eq _ _ _ _, by omega, dl_nodup c3, dl_mem c4, fun j hj => by rw [up_ne _ _ _ _ (by omega)]; exact i1 j hj⟩, fun j _ => by rw [up_ne _ _ _ _ (by omega)], fun j hj => up_nj _ _ _ _ hj, fun c h1 h2 => up_ne _ _ _ _ h2⟩
    rw [fx_138_65, gq_ix (by omega) (by omega), gq_R (by omega) (by omega), Int.toNat_natCast, h202, gq_R (by omega) (by omega), if_neg (by omega)]
    unfold fx_138_146 fx_138_171
    rw [gq_ix (by omega) (by omega), Int.toNat_natCast, h198, gq_R (by omega) (by omega), if_pos rfl, gq_ix (by omega) (by omega), gq_R (by omega) (by omega), if_pos rfl, h202, hlen]
  | succ m ih =>
    intro f σ hm hf h202 h198 i1 i2
    obtain ⟨f, rfl⟩ : ∃ q, f = q + 1 := ⟨f - 1, by omega⟩
    have ih := fun s => ih f s (by omega) (by omega)
    generalize hi : C.length - (m + 1) = i at i1 i2 ⊢
    have hi2 : C.length - m = i + 1 := by omega
    have hil : i < C.length := by omega
    have hCi := c4 _ (getD_mem hil)
    have hx5 : (dl p (C.take i)).length ≤ i := by
      have := dl_le (C := C.take i) (p := p)
      rw [List.length_take] at this
      omega
    have hsn : dl p (C.take (i + 1)) = dl p (C.take i) ++ (if (!decide (C.getD i 0 = p)) = true then [C.getD i 0] else []) := by
      rw [take_snoc hil]
      exact filter_snoc _ _ _
    rw [hi2, hsn] at ih
    generalize dl p (C.take i) = L at i1 ih hx5 ⊢
    have hv := i2 i (Nat.le_refl _) hil
    rw [fx_138_65, gq_ix (by omega) (by omega), gq_R (by omega) (by omega), Int.toNat_natCast, h202, gq_R (by omega) (by omega), if_pos (by omega), h198, gq_R (by omega) (by omega), if_pos rfl, gq_ix (by omega) (by omega), gq_ix (by omega) (by omega), show ((14 * (d : Int)) + (i : Int)).toNat = 14 * d + i by omega, show ((14 * (d : Int)) + (L.length : Int)).toNat = 14 * d + L.length by omega, up_same, hv, gq_R (by omega) (by omega), gq_R (by omega) (by omega), show ((i : Nat) : Int) + 1 = ((i + 1 : Nat) : Int) by omega]
    have g1 : ∀ j, j ≠ 14 * d + L.length → (gb_up σ 201 (14 * d + L.length) ((C.getD i 0 : Nat) : Int)) 201 j = σ 201 j := fun j hj => up_nj _ _ _ _ hj
    have ihs := ih (gb_up σ 201 (14 * d + L.length) ((C.getD i 0 : Nat) : Int)) (by rw [up_ne _ _ _ _ (by omega)]; exact h202) (by rw [up_ne _ _ _ _ (by omega)]; exact h198)
    have fin : ∀ {X : Option gb_P}, (∃ s', X = k50 (p : Int) (z + (if C.contains p = true then 1 else 0)) ((d : Int) + 1) s' ∧ CR s' d n (dl p C) ∧ (∀ j, (j < 14 * d ∨ 14 * d + 14 ≤ j) → s' 201 j = (gb_up σ 201 (14 * d + L.length) ((C.getD i 0 : Nat) : Int)) 201 j) ∧ (∀ j, j ≠ d → s' 202 j = (gb_up σ 201 (14 * d + L.length) ((C.getD i 0 : Nat) : Int)) 202 j) ∧ ∀ c, c ≠ 201 → c ≠ 202 → s' c = (gb_up σ 201 (14 * d + L.length) ((C.getD i 0 : Nat) : Int)) c) → ∃ s', X = k50 (p : Int) (z + (if C.contains p = true then 1 else 0)) ((d : Int) + 1) s' ∧ CR s' d n (dl p C) ∧ (∀ j, (j < 14 * d ∨ 14 * d + 14 ≤ j) → s' 201 j = σ 201 j) ∧ (∀ j, j ≠ d → s' 202 j = σ 202 j) ∧ ∀ c, c ≠ 201 → c ≠ 202 → s' c = σ c := by
      rintro X ⟨s', q1, q2, q3, q4, q5⟩
      exact ⟨s', q1, q2, fun j hj => by rw [q3 j hj, g1 j (by omega)], fun j hj => by rw [q4 j hj, up_ne _ _ _ _ (by omega)], fun c h1 h2 => by rw [q5 c h1 h2, up_ne _ _ _ _ h1]⟩
    by_cases he : C.getD i 0 = p
    · rw [if_pos (by omega), Int.add_zero]
      rw [decide_eq_true he, Bool.not_true, if_neg (by decide), List.append_nil] at ihs
      exact fin (ihs (fun j hj => by rw [g1 _ (by omega)]; exact i1 j hj) (fun j h1 h2 => by rw [g1 _ (by omega)]; exact i2 j (by omega) h2))
    · rw [if_neg (by omega), show ((L.length : Nat) : Int) + 1 = ((L.length + 1 : Nat) : Int) by omega]
      rw [decide_eq_false he, Bool.not_false, if_pos rfl] at ihs
      have hl : (L ++ [C.getD i 0]).length = L.length + 1 := by rw [List.length_append, List.length_singleton]
      have ihs2 := ihs (fun j hj => by
        rw [snoc_getD hj]
        rw [hl] at hj
        by_cases hjl : j = L.length
        · rw [if_pos hjl, hjl, up_eq]
        · rw [if_neg hjl, g1 _ (by omega)]; exact i1 j (by omega)) (fun j h1 h2 => by rw [g1 _ (by omega)]; exact i2 j (by omega) h2)
      rw [hl] at ihs2
      exact fin ihs2
end DE1
