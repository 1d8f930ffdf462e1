section LD1
variable {σ : gb_S} {e s a : Nat} {C : List Nat} {n : Nat} {R : Nat → Rat}
theorem nsum_app (f : Nat → Nat) (A B : List Nat) : nsum f (A ++ B) = nsum f A + nsum f B := by
  induction A with
  | nil => show nsum f B = 0 + nsum f B; omega
  | cons p t ih => show f p + nsum f (t ++ B) = f p + nsum f t + nsum f B; rw [ih]; omega
theorem nsum_take (f : Nat → Nat) {H : List Nat} {i : Nat} (h : i < H.length) : nsum f (H.take (i + 1)) = nsum f (H.take i) + f (H.getD i 0) := by
  rw [take_snoc h, nsum_app]
  rfl
theorem nsum_le (f : Nat → Nat) (H : List Nat) (i : Nat) : nsum f (H.take i) ≤ nsum f H := by
  have := nsum_app f (H.take i) (H.drop i)
  rw [List.take_append_drop] at this
  omega
/-- portionOut -/
theorem g55 (hR : ∀ p, 0 ≤ R p ∧ R p ≤ 1 ∧ (R p).den ≤ 1000000000) {H : List Nat} (hH : H.length ≤ 14) (hHm : ∀ p, p ∈ H → p < 14) (hr : rk σ H) (hcm : cm σ s R) {U : Nat} (hU : U ≤ 60) (hle : nsum (flr U R) H ≤ U) (hs : s + 1 ≠ 40 ∧ s + 2 ≠ 40) : ∃ σ', fx_55 (U : Int) (H.length : Int) s σ = some (.inl 0, σ') ∧ (∀ i, i < H.length → σ' 40 i = ((flr U R (H.getD i 0) + (if i < ovr U R H then 1 else 0) : Nat) : Int)) ∧ ∀ c, c ≠ 40 → σ' c = σ c := by
  -- what is left over, one by one
  have k59 : ∀ (m f : Nat) (σ1 : gb_S), m ≤ H.length → m < f → (∀ c, c ≠ 40 → σ1 c = σ c) → (∀ i, i < H.length → σ1 40 i = ((flr U R (H.getD i 0) + (if i < ovr U R H ∧ i < H.length - m then 1 else 0) : Nat) : Int)) → ∃ σ', fx_55_59 f (H.length : Int) ((ovr U R H : Int) - ((H.length - m : Nat) : Int)) ((H.length - m : Nat) : Int) σ1 = some (.inl 0, σ') ∧ (∀ i, i < H.length → σ' 40 i = ((flr U R (H.getD i 0) + (if i < ovr U R H then 1 else 0) : Nat) : Int)) ∧ ∀ c, c ≠ 40 → σ' c = σ c := by
    have hov : ovr U R H ≤ U := Nat.sub_le _ _
    intro m
    induction m with
    | zero =>
      intro f σ1 _ hf f1 hp
      obtain ⟨f, rfl⟩ : ∃ q, f = q + 1 := ⟨f - 1, by omega⟩
      refine ⟨σ1, ?_, fun i hi => ?_, f1⟩
      · rw [fx_55_59, gq_R (by omega) (by omega), gq_R (by omega) (by omega), if_neg (by omega)]
      · rw [hp i hi]
        by_cases h : i < ovr U R H
        · rw [if_pos ⟨h, by omega⟩, if_pos h]
        · rw [if_neg (fun q => h q.1), if_neg h]
    | succ m ih =>
      intro f σ1 hm hf f1 hp
      obtain ⟨f, rfl⟩ : ∃ q, f = q + 1 := ⟨f - 1, by omega⟩
      generalize hi : H.length - (m + 1) = i at hp ⊢
      have hi2 : H.length - m = i + 1 := by omega
      rw [hi2] at ih
      have hil : i < H.length := by omega
      rw [fx_55_59, gq_R (by omega) (by omega), gq_R (by omega) (by omega), if_pos (by omega), if_pos (by omega), gq_R (by omega) (by omega)]
      by_cases h : i < ovr U R H
      · rw [if_pos (by omega), gq_ix (by omega) (by omega), Int.toNat_natCast, hp i hil, if_neg (fun q => by omega), show ((i : Nat) : Int) + 1 = ((i + 1 : Nat) : Int) by omega, show ((ovr U R H : Int) - (i : Int)) + (-1) = (ovr U R H : Int) - ((i + 1 : Nat) : Int) by omega]
        obtain ⟨s2, e2, p2, f2⟩ := ih f (gb_up σ1 40 i (((flr U R (H.getD i 0) + 0 : Nat) : Int) + 1)) (by omega) (by omega) (fun c hc => by rw [up_ne _ _ _ _ hc, f1 c hc]) (fun j hj => by
          by_cases hji : j = i
          · subst hji
            rw [up_eq, if_pos ⟨h, by omega⟩]
            omega
          · rw [up_nj _ _ _ _ hji, hp j hj]
            by_cases hq : j < ovr U R H ∧ j < i
            · rw [if_pos hq, if_pos ⟨hq.1, by omega⟩]
            · rw [if_neg hq, if_neg (fun q => hq ⟨q.1, by omega⟩)])
        exact ⟨s2, e2, p2, f2⟩
      · rw [if_neg (by omega)]
        refine ⟨σ1, rfl, fun j hj => ?_, f1⟩
        rw [hp j hj]
        by_cases hq : j < ovr U R H
        · rw [if_pos hq, if_pos ⟨hq, by omega⟩]
        · rw [if_neg hq, if_neg (fun q => hq q.1)]
  have k6 : ∀ (m f : Nat) (σ1 : gb_S), m ≤ H.length → m < f → (∀ c, c ≠ 40 → σ1 c = σ c) → (∀ i, i < H.length - m → σ1 40 i = ((flr U R (H.getD i 0) : Nat) : Int)) → ∃ σ', fx_55_6 f (U : Int) (H.length : Int) s ((U : Int) - ((nsum (flr U R) (H.take (H.length - m)) : Nat) : Int)) ((H.length - m : Nat) : Int) σ1 = some (.inl 0, σ') ∧ (∀ i, i < H.length → σ' 40 i = ((flr U R (H.getD i 0) + (if i < ovr U R H then 1 else 0) : Nat) : Int)) ∧ ∀ c, c ≠ 40 → σ' c = σ c := by
    intro m
    induction m with
    | zero =>
      intro f σ1 _ hf f1 hp
      obtain ⟨f, rfl⟩ : ∃ q, f = q + 1 := ⟨f - 1, by omega⟩
      obtain ⟨s2, e2, p2, f2⟩ := k59 H.length gFU σ1 (Nat.le_refl _) (by unfold gFU; omega) f1 (fun i hi => by
        rw [hp i (by omega), if_neg (fun q => by omega)]
        rfl)
      refine ⟨s2, ?_, p2, f2⟩
      rw [fx_55_6, gq_R (by omega) (by omega), gq_R (by omega) (by omega), if_neg (by omega), Nat.sub_zero, List.take_length]
      rw [Nat.sub_self] at e2
      rw [show (U : Int) - ((nsum (flr U R) H : Nat) : Int) = (ovr U R H : Int) - ((0 : Nat) : Int) by unfold ovr; omega]
      exact e2
    | succ m ih =>
      intro f σ1 hm hf f1 hp
      obtain ⟨f, rfl⟩ : ∃ q, f = q + 1 := ⟨f - 1, by omega⟩
      generalize hi : H.length - (m + 1) = i at hp ⊢
      have hi2 : H.length - m = i + 1 := by omega
      rw [hi2] at ih
      have hil : i < H.length := by omega
      have hr1 : σ1 39 i = ((H.getD i 0 : Nat) : Int) := by rw [f1 39 (by omega)]; exact hr i hil
      have hcm1 : cm σ1 s R := cm_cong (f1 _ hs.1) (f1 _ hs.2) hcm
      rw [fx_55_6, gq_R (by omega) (by omega), gq_R (by omega) (by omega), if_pos (by omega), if_pos (by omega), gq_ix (by omega) (by omega), Int.toNat_natCast, hr1, g74 hcm1 hR (hHm _ (getD_mem hil)) hU, gc_v, up_eq, show ((i : Nat) : Int) + 1 = ((i + 1 : Nat) : Int) by omega]
      obtain ⟨s2, e2, p2, f2⟩ := ih f (gb_up σ1 40 i ((flr U R (H.getD i 0) : Nat) : Int)) (by omega) (by omega) (fun c hc => by rw [up_ne _ _ _ _ hc, f1 c hc]) (fun j hj => by
        by_cases hji : j = i
        · subst hji; rw [up_eq]
        · rw [up_nj _ _ _ _ hji]; exact hp j (by omega))
      refine ⟨s2, ?_, p2, f2⟩
      rw [nsum_take _ hil] at e2
      rw [show (U : Int) - ((nsum (flr U R) (H.take i) : Nat) : Int) - ((flr U R (H.getD i 0) : Nat) : Int) = (U : Int) - ((nsum (flr U R) (H.take i) + flr U R (H.getD i 0) : Nat) : Int) by omega]
      exact e2
  have := k6 H.length gFU σ (Nat.le_refl _) (by unfold gFU; omega) (fun _ _ => rfl) (fun i hi => by omega)
  rw [Nat.sub_self] at this
  obtain ⟨s2, e2, p2, f2⟩ := this
  refine ⟨s2, ?_, p2, f2⟩
  unfold fx_55
  have h0 : nsum (flr U R) (H.take 0) = 0 := rfl
  rw [h0] at e2
  rw [show (U : Int) - ((0 : Nat) : Int) = (U : Int) by omega] at e2
  exact e2
theorem deal_drop {L : List (Nat × Nat)} {h : Nat} (hh : h < L.length) : deal (L.drop h) = List.replicate (L[h]).2 (L[h]).1 ++ deal (L.drop (h + 1)) := by
  rw [List.drop_eq_getElem_cons hh, deal]
/-- the class's place in the dealing: heir h, who has still what cell 40 says -/
def IV (σ : gb_S) (L : List (Nat × Nat)) (D : List Nat) (h j : Nat) : Prop := h ≤ L.length ∧ (∀ i, h < i → i < L.length → σ 40 i = (((L.getD i (0, 0)).2 : Nat) : Int)) ∧ (h < L.length → ∃ c : Nat, σ 40 h = (c : Int) ∧ D.drop j = List.replicate c (L.getD h (0, 0)).1 ++ deal (L.drop (h + 1))) ∧ (h = L.length → D.drop j = [])
theorem IV_b {L : List (Nat × Nat)} {D : List Nat} {h j : Nat} (hi : IV σ L D h j) (hh : h < L.length) (hD : D.length ≤ 60) : ∃ c : Nat, σ 40 h = (c : Int) ∧ c ≤ 60 ∧ D.drop j = List.replicate c (L.getD h (0, 0)).1 ++ deal (L.drop (h + 1)) := by
  obtain ⟨c, h1, h2⟩ := hi.2.2.1 hh
  refine ⟨c, h1, ?_, h2⟩
  have := congrArg List.length h2
  rw [List.length_drop, List.length_append, List.length_replicate] at this
  omega
/-- the draw of a row -/
theorem g53_35 (hl : gb_ln a = 60) (ha : a = 37 ∨ a = 38) (he : ∃ i, i < 14 ∧ e = 47 + 10 * i) {d : Nat} (hd : d < 14) (own : Nat → Int) (hown : ∀ u, u < 60 → -1 ≤ own u ∧ own u < 14) {L : List (Nat × Nat)} {D : List Nat} (hL : L.length ≤ 14) (hD : D.length ≤ 60) (hLm : ∀ i, i < L.length → (L.getD i (0, 0)).1 < 14) (s : Nat) :
    ∀ (m f : Nat) (σ1 : gb_S) (h : Nat), m ≤ 60 → m < f → σ1 e 0 = (d : Int) → (∀ i, i < L.length → σ1 39 i = (((L.getD i (0, 0)).1 : Nat) : Int)) → (∀ u, u < 60 → σ1 a u = if u < 60 - m then nw own d D u else own u) → IV σ1 L D h (ct (fun v => decide (own v = d)) (60 - m)) →
    ∃ σ', fx_53_35 f a e (L.length : Int) (h : Int) ((60 - m : Nat) : Int) σ1 = some (.inl 0, σ') ∧ (∀ u, u < 60 → σ' a u = nw own d D u) ∧ ∀ c, c ≠ 40 → c ≠ a → σ' c = σ1 c := by
  obtain ⟨ie, hie, rfl⟩ := he
  have hnwb : ∀ u, u < 60 → nw own d D u = own u ∨ own u = d := fun u hu => by
    unfold nw
    by_cases h : own u = d
    · exact Or.inr h
    · exact Or.inl (if_neg h)
  intro m
  induction m with
  | zero =>
    intro f σ1 h _ hf he0 h39 hrow hiv
    obtain ⟨f, rfl⟩ : ∃ q, f = q + 1 := ⟨f - 1, by omega⟩
    refine ⟨σ1, ?_, fun u hu => by rw [hrow u hu, if_pos (by omega)], fun _ _ _ => rfl⟩
    rw [fx_53_35, gq_R (by omega) (by omega), hl, gq_R (by decide) (by decide), if_neg (by omega)]
  | succ m ih =>
    intro f σ1 h hm hf he0 h39 hrow hiv
    obtain ⟨f, rfl⟩ : ∃ q, f = q + 1 := ⟨f - 1, by omega⟩
    generalize hi : 60 - (m + 1) = i at hrow hiv ⊢
    have hi2 : 60 - m = i + 1 := by omega
    rw [hi2] at ih
    have hi60 : i < 60 := by omega
    have hoi := hown i hi60
    have hri : σ1 a i = own i := by rw [hrow i hi60, if_neg (by omega)]
    rw [fx_53_35, gq_R (by omega) (by omega), hl, gq_R (by decide) (by decide), if_pos (by omega), gq_ix (by omega) (by omega), Int.toNat_natCast, hri, he0, gq_R (by omega) (by omega), gq_R (by omega) (by omega)]
    by_cases hod : own i = (d : Int)
    · rw [if_pos hod]
      have hctS : ct (fun v => decide (own v = d)) (i + 1) = ct (fun v => decide (own v = d)) i + 1 := by rw [ct, decide_eq_true hod, if_pos rfl]
      generalize hj : ct (fun v => decide (own v = d)) i = j at hiv hctS
      have hnwi : nw own d D i = gv D j := by unfold nw; rw [if_pos hod, hj]
      -- one unit given, and on
      have h83 : ∀ (h : Nat) (σ2 : gb_S), (∀ c, c ≠ 40 → σ2 c = σ1 c) → (∀ i, i < L.length → i > h → σ2 40 i = (((L.getD i (0, 0)).2 : Nat) : Int)) → h ≤ L.length → (∀ (_ : Unit), h < L.length → ∃ c : Nat, σ2 40 h = ((c + 1 : Nat) : Int) ∧ D.drop j = List.replicate (c + 1) (L.getD h (0, 0)).1 ++ deal (L.drop (h + 1))) → (h = L.length → D.drop j = []) →
          ∃ σ', fx_53_83 (fx_53_35 f) a (47 + 10 * ie) (L.length : Int) (h : Int) (i : Int) σ2 = some (.inl 0, σ') ∧ (∀ u, u < 60 → σ' a u = nw own d D u) ∧ ∀ c, c ≠ 40 → c ≠ a → σ' c = σ1 c := by
        intro h σ2 f2 hp hle hlt heq
        unfold fx_53_83 fx_54
        rw [gq_R (by omega) (by omega), if_neg (by omega), gq_R (by omega) (by omega)]
        by_cases hh : h < L.length
        · obtain ⟨c, hc1, hc2⟩ := hlt () hh
          rw [if_pos (by omega), if_pos (by omega), gq_ix (by omega) (by omega), Int.toNat_natCast, gc_v, hl, gq_ix (by omega) (by omega), Int.toNat_natCast, show ((i : Nat) : Int) + 1 = ((i + 1 : Nat) : Int) by omega, up_ne _ _ _ _ (by omega : (39 : Nat) ≠ 40), f2 39 (by omega), h39 h hh]
          have hDj : gv D j = (((L.getD h (0, 0)).1 : Nat) : Int) := gv_some (by
            have h9 : (D.drop j)[0]? = D[j]? := by rw [List.getElem?_drop, Nat.add_zero]
            rw [← h9, hc2]
            rfl)
          have hDj1 : D.drop (j + 1) = List.replicate c (L.getD h (0, 0)).1 ++ deal (L.drop (h + 1)) := by
            rw [← List.drop_drop, hc2]
            rfl
          generalize hs3 : gb_up (gb_up σ2 40 h (σ2 40 h - 1)) a i (((L.getD h (0, 0)).1 : Nat) : Int) = s3
          have f3 : ∀ c, c ≠ 40 → c ≠ a → s3 c = σ1 c := fun c h1 h2 => by rw [← hs3, up_ne _ _ _ _ h2, up_ne _ _ _ _ h1, f2 c h1]
          have v40 : ∀ k, s3 40 k = gb_up σ2 40 h (σ2 40 h - 1) 40 k := fun k => by rw [← hs3, up_ne _ _ _ _ (by omega : (40 : Nat) ≠ a)]
          obtain ⟨s4, e4, r4, f4⟩ := ih f s3 h (by omega) (by omega) (by rw [f3 _ (by omega) (by omega)]; exact he0) (fun k hk => by rw [f3 39 (by omega) (by omega)]; exact h39 k hk) (fun u hu => by
            by_cases hui : u = i
            · subst hui
              rw [← hs3, up_eq, if_pos (by omega), hnwi, hDj]
            · rw [← hs3, up_nj _ _ _ _ hui, up_ne _ _ _ _ (by omega), f2 a (by omega), hrow u hu]
              by_cases huu : u < i
              · rw [if_pos huu, if_pos (by omega)]
              · rw [if_neg huu, if_neg (by omega)]) (by
            rw [hctS]
            refine ⟨hle, fun k h1 h2 => ?_, fun _ => ⟨c, ?_, hDj1⟩, fun h => by omega⟩
            · rw [v40, up_nj _ _ _ _ (by omega)]; exact hp k h2 h1
            · rw [v40, up_eq, hc1]; omega)
          exact ⟨s4, e4, r4, fun c h1 h2 => by rw [f4 c h1 h2, f3 c h1 h2]⟩
        · have hhe : h = L.length := by omega
          have hDn := heq hhe
          rw [if_neg (by omega), gc_v, hl, gq_ix (by omega) (by omega), Int.toNat_natCast, show ((i : Nat) : Int) + 1 = ((i + 1 : Nat) : Int) by omega]
          have hDj : gv D j = -1 := gv_none (by
            rw [List.getElem?_eq_none_iff]
            have := congrArg List.length hDn
            rw [List.length_drop, List.length_nil] at this
            omega)
          have hDj1 : D.drop (j + 1) = [] := by rw [← List.drop_drop, hDn, List.drop_nil]
          obtain ⟨s4, e4, r4, f4⟩ := ih f (gb_up σ2 a i (-1)) h (by omega) (by omega) (by rw [up_ne _ _ _ _ (by omega), f2 _ (by omega)]; exact he0) (fun k hk => by rw [up_ne _ _ _ _ (by omega), f2 39 (by omega)]; exact h39 k hk) (fun u hu => by
            by_cases hui : u = i
            · subst hui
              rw [up_eq, if_pos (by omega), hnwi, hDj]
            · rw [up_nj _ _ _ _ hui, f2 a (by omega), hrow u hu]
              by_cases huu : u < i
              · rw [if_pos huu, if_pos (by omega)]
              · rw [if_neg huu, if_neg (by omega)]) (by
            rw [hctS]
            exact ⟨hle, fun k h1 h2 => by omega, fun h => by omega, fun _ => hDj1⟩)
          exact ⟨s4, e4, r4, fun c h1 h2 => by rw [f4 c h1 h2, up_ne _ _ _ _ h2, f2 c h1]⟩
      -- heirs who have all are passed by
      have h53 : ∀ (m2 f2 : Nat) (h : Nat), L.length ≤ h + m2 → m2 < f2 → IV σ1 L D h j → ∃ σ', fx_53_53 f2 (fx_53_35 f) a (47 + 10 * ie) (L.length : Int) (h : Int) (i : Int) σ1 = some (.inl 0, σ') ∧ (∀ u, u < 60 → σ' a u = nw own d D u) ∧ ∀ c, c ≠ 40 → c ≠ a → σ' c = σ1 c := by
        intro m2
        induction m2 with
        | zero =>
          intro f2 h hm2 hf2 hiv
          obtain ⟨f2, rfl⟩ : ∃ q, f2 = q + 1 := ⟨f2 - 1, by omega⟩
          have hle := hiv.1
          rw [fx_53_53, gq_R (by omega) (by omega), gq_R (by omega) (by omega), if_neg (by omega)]
          exact h83 h σ1 (fun _ _ => rfl) (fun k h1 h2 => hiv.2.1 k h2 h1) hle (fun _ q => by omega) hiv.2.2.2
        | succ m2 ih2 =>
          intro f2 h hm2 hf2 hiv
          obtain ⟨f2, rfl⟩ : ∃ q, f2 = q + 1 := ⟨f2 - 1, by omega⟩
          have hle := hiv.1
          rw [fx_53_53, gq_R (by omega) (by omega), gq_R (by omega) (by omega)]
          by_cases hh : h < L.length
          · obtain ⟨c, hc1, hc60, hc2⟩ := IV_b hiv hh hD
            rw [if_pos (by omega), if_pos (by omega), gq_ix (by omega) (by omega), Int.toNat_natCast, hc1, gq_R (by omega) (by omega)]
            by_cases hc0 : (c : Int) = 0
            · rw [if_pos hc0, show ((h : Nat) : Int) + 1 = ((h + 1 : Nat) : Int) by omega]
              have hc00 : c = 0 := by omega
              subst hc00
              refine ih2 f2 (h + 1) (by omega) (by omega) ⟨by omega, fun k h1 h2 => hiv.2.1 k (by omega) h2, fun h1 => ?_, fun h1 => ?_⟩
              · refine ⟨(L.getD (h + 1) (0, 0)).2, hiv.2.1 (h + 1) (by omega) h1, ?_⟩
                rw [hc2]
                show [] ++ deal (L.drop (h + 1)) = _
                rw [List.nil_append, deal_drop h1, List.getD_eq_getElem?_getD, List.getElem?_eq_getElem h1, Option.getD_some]
              · rw [hc2, h1, List.drop_length]; rfl
            · rw [if_neg hc0]
              refine h83 h σ1 (fun _ _ => rfl) (fun k h1 h2 => hiv.2.1 k h2 h1) hle (fun _ _ => ⟨c - 1, ?_, ?_⟩) (fun q => by omega)
              · rw [hc1]; omega
              · rw [show c - 1 + 1 = c by omega]; exact hc2
          · rw [if_neg (by omega)]
            exact h83 h σ1 (fun _ _ => rfl) (fun k h1 h2 => hiv.2.1 k h2 h1) hle (fun _ q => by omega) hiv.2.2.2
      exact h53 L.length gFU h (by omega) (by unfold gFU; omega) hiv
    · rw [if_neg hod, show ((i : Nat) : Int) + 1 = ((i + 1 : Nat) : Int) by omega]
      have hctS : ct (fun v => decide (own v = d)) (i + 1) = ct (fun v => decide (own v = d)) i := by rw [ct, decide_eq_false hod, if_neg (by decide), Nat.add_zero]
      have hnwi : nw own d D i = own i := by unfold nw; rw [if_neg hod]
      refine ih f σ1 h (by omega) (by omega) he0 h39 (fun u hu => ?_) (by rw [hctS]; exact hiv)
      rw [hrow u hu]
      by_cases hui : u = i
      · subst hui
        rw [if_neg (by omega), if_pos (by omega), hnwi]
      · by_cases huu : u < i
        · rw [if_pos huu, if_pos (by omega)]
        · rw [if_neg huu, if_neg (by omega)]
/-- shares as fractions: small, all or none -/
def SR (n : Nat) (R : Nat → Rat) : Prop := (∀ p, 0 ≤ R p ∧ R p ≤ 1 ∧ (R p).den ≤ 1000000000) ∧ (∀ p, n ≤ p → R p = 0) ∧ (su R n = 1 ∨ ∀ p, p < n → R p = 0)
theorem SR_le (hS : SR n R) {C : List Nat} (hd : C.Nodup) (hm : ∀ p, p ∈ C → p < n) (U : Nat) : nsum (flr U R) (RL n R C) ≤ U ∧ (DL n U R C).length ≤ U := by
  rcases hS.2.2 with h | h
  · have := ovr_ok (U := U) (fun p => (hS.1 p).1) hd hm h
    have h2 := DL_len (U := U) (fun p => (hS.1 p).1) hd hm h
    omega
  · have := RL_nil (C := C) hm h
    rw [DL_nil this, this]
    exact ⟨Nat.zero_le _, Nat.zero_le _⟩
/-- draw -/
theorem g53 (hn : n ≤ 14) (ha : a = 37 ∨ a = 38) (he : ∃ i, i < 14 ∧ e = 47 + 10 * i) {d : Nat} (hd : d < 14) (hs : 41 ≤ s ∧ s ≤ 184) (hown : ∀ u, u < 60 → -1 ≤ σ a u ∧ σ a u < 14) (he0 : σ e 0 = (d : Int)) (hc : CL σ e n C) (hcm : cm σ s R) (hS : SR n R) :
    ∃ σ', fx_53 a e s σ = some (.inl 0, σ') ∧ (∀ u, u < 60 → σ' a u = nw (σ a) d (DL n (ct (fun v => decide (σ a v = (d : Int))) 60) R C) u) ∧ ∀ c, c ≠ 39 → c ≠ 40 → c ≠ a → σ' c = σ c := by
  obtain ⟨ie, hie, rfl⟩ := he
  have hl : gb_ln a = 60 := by rcases ha with rfl | rfl <;> rfl
  have hcm0 := hcm
  obtain ⟨s1, e1, r1, f1⟩ := g19 hn hc hcm hS.1 hS.2.1 (by omega) (by omega)
  have h57 := g57 (σ := s1) (a := a) hl (fun u hu => by rw [f1 a (by omega)]; exact hown u hu) (x := (d : Int)) (by omega) (b := 0) (t := 60) (by omega) (Nat.le_refl _)
  have hct : ct (fun u => decide (0 ≤ u) && decide (s1 a u = (d : Int))) 60 = ct (fun v => decide (σ a v = (d : Int))) 60 := ct_congr (fun u _ => by rw [decide_eq_true (Nat.zero_le _), Bool.true_and, f1 a (by omega)])
  rw [hct] at h57
  generalize hU : ct (fun v => decide (σ a v = (d : Int))) 60 = U at h57 ⊢
  have hU60 : U ≤ 60 := by rw [← hU]; exact ct_le _ _
  have hle := SR_le (U := U) hS hc.2.2.1 hc.2.2.2.1
  have hHlen : (RL n R C).length ≤ 14 := by
    rw [RL_len (fun p => (hS.1 p).1) hc.2.2.1 hc.2.2.2.1]
    exact Nat.le_trans (ct_le _ _) hn
  have hHm : ∀ p, p ∈ RL n R C → p < 14 := fun p hp => by have := (RL_mem hc.2.2.2.1 hp).1; omega
  obtain ⟨s2, e2, p2, f2⟩ := g55 (σ := s1) (s := s) hS.1 hHlen hHm r1 (cm_cong (f1 _ (by omega)) (f1 _ (by omega)) hcm) hU60 hle.1 (by omega)
  generalize hLdef : prl U R (ovr U R (RL n R C)) (RL n R C) = L
  have hLlen : L.length = (RL n R C).length := by rw [← hLdef, prl_length]
  have hLget : ∀ i, i < L.length → L.getD i (0, 0) = ((RL n R C).getD i 0, flr U R ((RL n R C).getD i 0) + (if i < ovr U R (RL n R C) then 1 else 0)) := fun i hi => by
    rw [List.getD_eq_getElem?_getD, ← hLdef, prl_get U R _ _ i (by omega), Option.getD_some]
  have hDL : DL n U R C = deal L := by unfold DL; rw [hLdef]
  obtain ⟨s3, e3, r3, f3⟩ := g53_35 (a := a) (e := 47 + 10 * ie) hl ha ⟨ie, hie, rfl⟩ hd (σ a) hown (L := L) (D := deal L) (by omega) (by rw [← hDL]; omega) (fun i hi => by rw [hLget i hi]; exact hHm _ (getD_mem (by omega))) s 60 gFU s2 0 (Nat.le_refl _) (by unfold gFU; omega) (by rw [f2 _ (by omega), f1 _ (by omega)]; exact he0) (fun i hi => by rw [f2 39 (by omega), hLget i hi]; exact r1 i (by omega)) (fun u hu => by rw [f2 a (by omega), f1 a (by omega)]; rfl) (by
    rw [Nat.sub_self]
    refine ⟨Nat.zero_le _, fun i h1 h2 => by rw [hLget i h2]; exact p2 i (by omega), fun h => ?_, fun h => ?_⟩
    · refine ⟨(L.getD 0 (0, 0)).2, by rw [hLget 0 h]; exact p2 0 (by omega), ?_⟩
      show deal L = _
      have := deal_drop h
      rw [List.drop_zero] at this
      rw [this, List.getD_eq_getElem?_getD, List.getElem?_eq_getElem h, Option.getD_some]
    · have : L = [] := List.eq_nil_of_length_eq_zero h.symm
      rw [this]
      rfl)
  refine ⟨s3, ?_, fun u hu => by rw [r3 u hu, hDL], fun c h1 h2 h3 => by rw [f3 c h2 h3, f2 c h2, f1 c h1]⟩
  unfold fx_53
  rw [Nat.sub_self] at e3
  rw [hLlen] at e3
  rw [e1, gc_v, f1 _ (by omega), he0, show (0 : Int) = ((0 : Nat) : Int) from rfl, show (60 : Int) = ((60 : Nat) : Int) from rfl, h57, gc_v, e2, gc_v]
  exact e3
end LD1
