section DW1
/-- a deed: 0 a grant, 1 a handing, 2 a closing; who; to whom; from; to -/
abbrev dT : Type := Nat × Nat × Nat × Nat × Nat
def inhS (n : Nat) (R : Nat → Rat) (C : List Nat) (d : Nat) (own : Nat → Int) : Nat → Int := nw own (d : Int) (DL n (ct (fun v => decide (own v = (d : Int))) 60) R C)
def dst (n : Nat) (Rf : Nat → Nat → Rat) (Cf : Nat → List Nat) (e : dT) (own : Nat → Int) : Nat → Int := if e.1 = 2 then inhS n (Rf e.2.1) (Cf e.2.1) e.2.1 own else fun u => if e.2.2.2.1 ≤ u ∧ u < e.2.2.2.2 then (if e.1 = 0 then (e.2.1 : Int) else if own u = (e.2.1 : Int) then (e.2.2.1 : Int) else own u) else own u
/-- the land behind the first k deeds -/
def ow (n : Nat) (Rf : Nat → Nat → Rat) (Cf : Nat → List Nat) (De : Nat → dT) : Nat → Nat → Int
  | 0 => fun _ => -1
  | k + 1 => dst n Rf Cf (De k) (ow n Rf Cf De k)
def DV (n nd : Nat) (De : Nat → dT) : Prop := nd ≤ 134 ∧ ∀ k, k < nd → (De k).1 ≤ 2 ∧ (De k).2.1 < n ∧ ((De k).1 = 1 → (De k).2.2.1 < n) ∧ (De k).2.2.2.1 < (De k).2.2.2.2 ∧ (De k).2.2.2.2 ≤ 60
def CV (n : Nat) (Cf : Nat → List Nat) : Prop := ∀ d, d < n → (Cf d).Nodup ∧ ∀ p, p ∈ Cf d → p < n
def DR (σ : gb_S) (nd : Nat) (De : Nat → dT) : Prop := σ 187 25 = (nd : Int) ∧ ∀ k, k < nd → σ 204 k = ((De k).1 : Int) ∧ σ 205 k = ((De k).2.1 : Int) ∧ ((De k).1 = 1 → σ 206 k = ((De k).2.2.1 : Int)) ∧ σ 207 k = ((De k).2.2.2.1 : Int) ∧ σ 208 k = ((De k).2.2.2.2 : Int)
theorem prl_mem {U : Nat} {R : Nat → Rat} {e : Nat × Nat} : ∀ {H : List Nat} {o : Nat}, e ∈ prl U R o H → e.1 ∈ H := by
  intro H
  induction H with
  | nil => intro o h; cases h
  | cons p t ih =>
    intro o h
    rw [prl, List.mem_cons] at h
    rcases h with h | h
    · rw [h]; exact List.mem_cons_self
    · exact List.mem_cons_of_mem _ (ih h)
theorem deal_mem {p : Nat} : ∀ {L : List (Nat × Nat)}, p ∈ deal L → ∃ e, e ∈ L ∧ e.1 = p := by
  intro L
  induction L with
  | nil => intro h; cases h
  | cons e t ih =>
    intro h
    rw [deal, List.mem_append] at h
    rcases h with h | h
    · exact ⟨e, List.mem_cons_self, (List.eq_of_mem_replicate h).symm⟩
    · obtain ⟨f, h1, h2⟩ := ih h
      exact ⟨f, List.mem_cons_of_mem _ h1, h2⟩
theorem gv_b {n : Nat} {D : List Nat} (h : ∀ p, p ∈ D → p < n) (j : Nat) : -1 ≤ gv D j ∧ gv D j < (n : Int) ∨ gv D j = -1 := by
  cases hj : D[j]? with
  | none => right; exact gv_none hj
  | some p =>
    left
    rw [gv_some hj]
    have := h p (List.mem_of_getElem? hj)
    omega
theorem inh_b {n : Nat} {R : Nat → Rat} {C : List Nat} (hm : ∀ p, p ∈ C → p < n) {d : Nat} {own : Nat → Int} (h : ∀ u, -1 ≤ own u ∧ own u < (n : Int)) (u : Nat) : -1 ≤ inhS n R C d own u ∧ inhS n R C d own u < (n : Int) := by
  unfold inhS nw
  split
  · have := gv_b (n := n) (D := DL n (ct (fun v => decide (own v = (d : Int))) 60) R C) (fun p hp => by
      obtain ⟨e, h1, h2⟩ := deal_mem hp
      have := RL_mem hm (prl_mem h1)
      rw [h2] at this
      exact this.1) (ct (fun v => decide (own v = (d : Int))) u)
    have := h u
    omega
  · exact h u
theorem ow_b {n nd : Nat} {Rf : Nat → Nat → Rat} {Cf : Nat → List Nat} {De : Nat → dT} (hV : DV n nd De) (hC : CV n Cf) : ∀ {k : Nat}, k ≤ nd → ∀ u, -1 ≤ ow n Rf Cf De k u ∧ ow n Rf Cf De k u < (n : Int) := by
  intro k
  induction k with
  | zero => intro _ u; show -1 ≤ (-1 : Int) ∧ (-1 : Int) < _; omega
  | succ k ih =>
    intro hk u
    have h := hV.2 k (by omega)
    have ih := ih (by omega)
    rw [ow, dst]
    split
    · exact inh_b (hC _ h.2.1).2 ih u
    · have := ih u
      dsimp only
      split
      · split
        · omega
        · split
          · have := h.2.2.1 (by omega); omega
          · exact this
      · exact this
theorem nw_congr {own own' : Nat → Int} {d : Int} {D : List Nat} {m : Nat} (h : ∀ u, u < m → own u = own' u) {u : Nat} (hu : u < m) : nw own d D u = nw own' d D u := by
  unfold nw
  rw [h u hu, ct_congr (b := fun v => decide (own v = d)) (c := fun v => decide (own' v = d)) (fun i hi => by rw [h i (by omega)])]
theorem inh_congr {n : Nat} {R : Nat → Rat} {C : List Nat} {d : Nat} {own own' : Nat → Int} (h : ∀ u, u < 60 → own u = own' u) {u : Nat} (hu : u < 60) : inhS n R C d own u = inhS n R C d own' u := by
  unfold inhS
  rw [ct_congr (b := fun v => decide (own v = (d : Int))) (c := fun v => decide (own' v = (d : Int))) (fun i hi => by rw [h i hi])]
  exact nw_congr h hu
theorem dst_congr {n : Nat} {Rf : Nat → Nat → Rat} {Cf : Nat → List Nat} {e : dT} {own own' : Nat → Int} (h : ∀ u, u < 60 → own u = own' u) {u : Nat} (hu : u < 60) : dst n Rf Cf e own u = dst n Rf Cf e own' u := by
  unfold dst
  split
  · exact inh_congr h hu
  · dsimp only
    rw [h u hu]
variable {σ : gb_S} {n nd nb : Nat} {P : pT} {ps : Nat → Nat} {De : Nat → dT} {Cf : Nat → List Nat}
/-- how many heirs an estate has -/
theorem g169 (hb : RB σ n nb P ps) (hst : ST σ n P) {d : Nat} (hd : d < n) : ∃ σ', fx_169 (d : Int) σ = some (.inl ((ct (fun p => decide (0 < Rd σ n P d p)) n : Nat) : Int), σ') ∧ cs σ' n (Rd σ n P d) ∧ (∀ j, j ≠ 29 → σ' 187 j = σ 187 j) ∧ σ' 187 29 = 0 ∧ KF σ' n P ∧ ∀ c, c ≠ 187 → (c < 211 ∨ 219 < c) → σ' c = σ c := by
  obtain ⟨s1, e1, c1, j1, z1, k1, f1⟩ := gR168 hb hst hd
  refine ⟨s1, ?_, c1, j1, z1, k1, f1⟩
  unfold fx_169
  rw [e1, gc_v]
  exact g169_9 hb.1 (by rw [j1 3 (by omega)]; exact hb.2.1) c1 (Rd_SR hb hd).1
/-- an inheritance -/
theorem g183 (hb : RB σ n nb P ps) (hst : ST σ n P) {d : Nat} (hd : d < n) {C : List Nat} (hc : CR σ d n C) (own : Nat → Int) (hown : ∀ u, u < 60 → -1 ≤ own u ∧ own u < 14) (hrow : ∀ u, u < 60 → σ 222 u = own u) : ∃ σ', fx_183 (d : Int) σ = some (.inl 0, σ') ∧ (∀ u, u < 60 → σ' 222 u = inhS n (Rd σ n P d) C d own u) ∧ (∀ j, j ≠ 29 → σ' 187 j = σ 187 j) ∧ σ' 187 29 = 0 ∧ KF σ' n P ∧ ∀ c, c ≠ 187 → (c < 211 ∨ 219 < c) → c ≠ 222 → σ' c = σ c := by
  have hn := hb.1
  have hS := Rd_SR hb hd
  obtain ⟨s1, e1, c1, j1, z1, k1, f1⟩ := g169 hb hst hd
  have h182 := g182 (σ := σ) (fun u hu => by rw [hrow u hu]; exact hown u hu) (x := (d : Int)) (by omega)
  rw [ct_congr (b := fun u => decide (σ 222 u = (d : Int))) (c := fun v => decide (own v = (d : Int))) (fun u hu => by rw [hrow u hu])] at h182
  generalize hR : Rd σ n P d = R at *
  have hU60 := ct_le (fun v => decide (own v = (d : Int))) 60
  have hinh : ∀ u, inhS n R C d own u = nw own d (DL n (ct (fun v => decide (own v = (d : Int))) 60) R C) u := fun _ => rfl
  generalize hU : ct (fun v => decide (own v = (d : Int))) 60 = U at h182 hU60 hinh
  have hct := RL_len (fun p => (hS.1 p).1) hc.2.2.1 hc.2.2.2.1
  have hctn := ct_le (fun p => decide (0 < R p)) n
  have h3 : s1 187 3 = (n : Int) := by rw [j1 3 (by omega)]; exact hb.2.1
  have hc1 : CR s1 d n C := CR_cong (f1 201 (by omega) (by omega)) (f1 202 (by omega) (by omega)) hc
  -- what is over
  have k26 : ∀ (X r3 : Int), -1000 ≤ X ∧ X ≤ 1000 → ∀ (m f : Nat), m ≤ n → m < f → fx_183_26 f (d : Int) (U : Int) r3 (X - si (fun k => ((flr U R k : Nat) : Int)) (n - m)) ((n - m : Nat) : Int) s1 = fx_183_74 gFU (d : Int) (U : Int) r3 (X - si (fun k => ((flr U R k : Nat) : Int)) n) 0 0 0 s1 := by
    intro X r3 hX m
    induction m with
    | zero =>
      intro f _ hf
      obtain ⟨f, rfl⟩ : ∃ q, f = q + 1 := ⟨f - 1, by omega⟩
      rw [fx_183_26, gq_R (by omega) (by omega), gq_R (by omega) (by omega), if_neg (by omega), Nat.sub_zero]
    | succ m ih =>
      intro f hm hf
      obtain ⟨f, rfl⟩ : ∃ q, f = q + 1 := ⟨f - 1, by omega⟩
      have ihk := ih f (by omega) (by omega)
      generalize hi : n - (m + 1) = i
      have hi2 : n - m = i + 1 := by omega
      rw [hi2, si] at ihk
      have hin : i < n := by omega
      have hbi := hS.1 i
      have hnd := num_le_den hbi.2.1
      have hn0 : 0 ≤ (R i).num := Rat.num_nonneg.mpr hbi.1
      have hdd := hbi.2.2
      have hd0 := (R i).den_pos
      have hm1 : (U : Int) * (R i).num ≤ 60 * 1000000000 := Int.mul_le_mul (by omega) (by omega) (by omega) (by omega)
      have hm0 : 0 ≤ (U : Int) * (R i).num := Int.mul_nonneg (by omega) hn0
      rw [fx_183_26, gq_R (by omega) (by omega), gq_R (by omega) (by omega), if_pos (by omega), gq_R (by omega) (by omega), gq_ix (by omega) (by omega), Int.toNat_natCast, (c1 i hin).1, (c1 i hin).2, gq_D (by omega) (by omega) (by omega) (by omega), ← flr_cast hbi.1, show ((i : Nat) : Int) + 1 = ((i + 1 : Nat) : Int) by omega]
      rw [show X - (si (fun k => ((flr U R k : Nat) : Int)) i + ((flr U R i : Nat) : Int)) = X - si (fun k => ((flr U R k : Nat) : Int)) i - ((flr U R i : Nat) : Int) by omega] at ihk
      exact ihk
  have hfin : ∃ σ', (if ((ct (fun p => decide (0 < R p)) n : Nat) : Int) = 0 then fx_183_26 gFU (d : Int) (U : Int) ((ct (fun p => decide (0 < R p)) n : Nat) : Int) 0 0 s1 else fx_183_26 gFU (d : Int) (U : Int) ((ct (fun p => decide (0 < R p)) n : Nat) : Int) (U : Int) 0 s1) = some (.inl 0, σ') ∧ (∀ u, u < 60 → σ' 222 u = inhS n R C d own u) ∧ ∀ c, c ≠ 222 → σ' c = s1 c := by
    have hsi := si_flr (U := U) (fun p => (hS.1 p).1) hc.2.2.1 hc.2.2.2.1
    by_cases h0 : RL n R C = []
    · have hz : ct (fun p => decide (0 < R p)) n = 0 := by rw [← hct, h0]; rfl
      rw [hz, if_pos (by omega)]
      have hk := k26 0 ((0 : Nat) : Int) (by omega) n gFU (Nat.le_refl _) (by unfold gFU; omega)
      rw [Nat.sub_self] at hk
      obtain ⟨s2, e2, r2, f2⟩ := g183_74n (d := d) (by omega) own hown (U : Int) ((0 : Int) - si (fun k => ((flr U R k : Nat) : Int)) n) 60 gFU s1 (Nat.le_refl _) (by unfold gFU; omega) (fun u hu => by rw [f1 222 (by omega) (by omega), hrow u hu, if_neg (by omega)])
      refine ⟨s2, ?_, fun u hu => by rw [r2 u hu, hinh, DL_nil h0], f2⟩
      refine Eq.trans hk ?_
      exact e2
    · have hpos : 0 < (RL n R C).length := List.length_pos_iff.mpr h0
      rw [if_neg (by omega)]
      have hk := k26 (U : Int) ((ct (fun p => decide (0 < R p)) n : Nat) : Int) (by omega) n gFU (Nat.le_refl _) (by unfold gFU; omega)
      rw [Nat.sub_self] at hk
      have hR1 : su R n = 1 := by
        rcases hS.2.2 with h | h
        · exact h
        · exact absurd (RL_nil hc.2.2.2.1 h) h0
      have hov := ovr_ok (U := U) (fun p => (hS.1 p).1) hc.2.2.1 hc.2.2.2.1 hR1
      obtain ⟨s2, e2, r2, f2⟩ := g183_74 (C := C) hn hd own hown hU hS hc.2.2.1 hc.2.2.2.1 h0 60 gFU s1 0 0 (Nat.le_refl _) (by unfold gFU; omega) h3 hc1 c1 (fun u hu => by rw [f1 222 (by omega) (by omega), hrow u hu, if_neg (by omega)]) (Nat.zero_le _) (by omega) (by
        rw [Nat.sub_self]
        rfl) (fun h => by omega)
      refine ⟨s2, ?_, fun u hu => by rw [r2 u hu, hinh], f2⟩
      refine Eq.trans ?_ (Eq.trans hk ?_)
      · have : si (fun k => ((flr U R k : Nat) : Int)) 0 = 0 := rfl
        rw [this, Int.sub_zero]
        rfl
      · rw [hsi, show (U : Int) - ((nsum (flr U R) (RL n R C) : Nat) : Int) = ((ovr U R (RL n R C) : Nat) : Int) by omega, ← hct]
        exact e2
  obtain ⟨s2, e2, r2, f2⟩ := hfin
  refine ⟨s2, ?_, r2, fun j hj => by rw [f2 187 (by omega)]; exact j1 j hj, by rw [f2 187 (by omega)]; exact z1, ?_, fun c h1 h2 h3 => by rw [f2 c h3, f1 c h1 h2]⟩
  · unfold fx_183
    rw [h182, gc_v, e1, gc_v, gq_R (by omega) (by omega)]
    exact e2
  · unfold KF
    rw [f2 212 (by omega), f2 213 (by omega)]
    exact k1
/-- what drawing leaves alone -/
def DF (σ σ' : gb_S) (n : Nat) (P : pT) : Prop := (∀ j, j ≠ 29 → σ' 187 j = σ 187 j) ∧ ST σ' n P ∧ ∀ c, c ≠ 187 → (c < 211 ∨ 219 < c) → c ≠ 222 → σ' c = σ c
theorem DF_trans {a b c : gb_S} (h1 : DF a b n P) (h2 : DF b c n P) : DF a c n P := ⟨fun j hj => by rw [h2.1 j hj, h1.1 j hj], h2.2.1, fun x h3 h4 h5 => by rw [h2.2.2 x h3 h4 h5, h1.2.2 x h3 h4 h5]⟩
theorem DF_RB {σ' : gb_S} (h : DF σ σ' n P) (hb : RB σ n nb P ps) : RB σ' n nb P ps := RB_cong (fun j hj => h.1 j (by omega)) (fun c hc => h.2.2 c (by omega) (by omega) (by omega)) hb
theorem DF_Rd {σ' : gb_S} (h : DF σ σ' n P) (d : Nat) : Rd σ' n P d = Rd σ n P d := Rd_cong (fun c hc => h.2.2 c (by omega) (by omega) (by omega)) n P d
theorem DF_DR {σ' : gb_S} (h : DF σ σ' n P) (hd : DR σ nd De) : DR σ' nd De := by
  unfold DR
  rw [h.1 25 (by omega), h.2.2 204 (by omega) (by omega) (by omega), h.2.2 205 (by omega) (by omega) (by omega), h.2.2 206 (by omega) (by omega) (by omega), h.2.2 207 (by omega) (by omega) (by omega), h.2.2 208 (by omega) (by omega) (by omega)]
  exact hd
theorem DF_CR {σ' : gb_S} (h : DF σ σ' n P) {d : Nat} {C : List Nat} (hc : CR σ d n C) : CR σ' d n C := CR_cong (h.2.2 201 (by omega) (by omega) (by omega)) (h.2.2 202 (by omega) (by omega) (by omega)) hc
/-- all land drawn anew -/
theorem g184 (hb : RB σ n nb P ps) (hst : ST σ n P) (hD : DR σ nd De) (hV : DV n nd De) (hC : ∀ d, d < n → CR σ d n (Cf d)) : ∃ σ', fx_184 σ = some (.inl 0, σ') ∧ (∀ u, u < 60 → σ' 222 u = ow n (Rd σ n P) Cf De nd u) ∧ DF σ σ' n P := by
  have hn := hb.1
  have hCV : CV n Cf := fun d hd => ⟨(hC d hd).2.2.1, (hC d hd).2.2.2.1⟩
  have hnd := hV.1
  generalize hRf : Rd σ n P = Rf
  have hob : ∀ k, k ≤ nd → ∀ u, -1 ≤ ow n Rf Cf De k u ∧ ow n Rf Cf De k u < (n : Int) := fun k hk => ow_b hV hCV hk
  -- deed by deed
  have k23 : ∀ (m f : Nat) (σ1 : gb_S), m ≤ nd → m < f → DF σ σ1 n P → (∀ u, u < 60 → σ1 222 u = ow n Rf Cf De (nd - m) u) → ∃ σ', fx_184_23 f ((nd - m : Nat) : Int) σ1 = some (.inl 0, σ') ∧ (∀ u, u < 60 → σ' 222 u = ow n Rf Cf De nd u) ∧ DF σ σ' n P := by
    intro m
    induction m with
    | zero =>
      intro f σ1 _ hf hF hrow
      obtain ⟨f, rfl⟩ : ∃ q, f = q + 1 := ⟨f - 1, by omega⟩
      have h25 := (DF_DR hF hD).1
      refine ⟨σ1, ?_, hrow, hF⟩
      rw [fx_184_23, gq_R (by omega) (by omega), gq_R (by omega) (by omega), if_neg (by omega)]
    | succ m ih =>
      intro f σ1 hm hf hF hrow
      obtain ⟨f, rfl⟩ : ∃ q, f = q + 1 := ⟨f - 1, by omega⟩
      have hD1 := DF_DR hF hD
      have h25 := hD1.1
      generalize hi : nd - (m + 1) = i at hrow ⊢
      have hi2 : nd - m = i + 1 := by omega
      rw [hi2] at ih
      have hin : i < nd := by omega
      have hVi := hV.2 i hin
      have hDi := hD1.2 i hin
      have hobi := hob i (by omega)
      generalize hown : ow n Rf Cf De i = own at hrow hobi
      have hnext : ow n Rf Cf De (i + 1) = dst n Rf Cf (De i) own := by rw [ow, hown]
      rw [hnext] at ih
      rw [fx_184_23, gq_R (by omega) (by omega), gq_R (by omega) (by omega), if_pos (by omega), gq_ix (by omega) (by omega), Int.toNat_natCast, hDi.2.2.2.1]
      -- behind the units
      have hgo : ∀ σ2 : gb_S, DF σ σ2 n P → (∀ u, u < 60 → σ2 222 u = dst n Rf Cf (De i) own u) → ∃ σ', fx_184_23 f ((i : Int) + 1) σ2 = some (.inl 0, σ') ∧ (∀ u, u < 60 → σ' 222 u = ow n Rf Cf De nd u) ∧ DF σ σ' n P := by
        intro σ2 hF2 hr2
        rw [show ((i : Nat) : Int) + 1 = ((i + 1 : Nat) : Int) by omega]
        exact ih f σ2 (by omega) (by omega) hF2 hr2
      by_cases h2 : (De i).1 = 2
      · obtain ⟨s2, e2, r2, j2, z2, k2, f2⟩ := g183 (DF_RB hF hb) hF.2.1 (d := (De i).2.1) hVi.2.1 (DF_CR hF (hC _ hVi.2.1)) own (fun u _ => by have := hobi u; omega) hrow
        have hF2 : DF σ1 s2 n P := ⟨j2, Or.inl ⟨z2, k2⟩, f2⟩
        obtain ⟨s3, e3, r3, d3⟩ := hgo s2 (DF_trans hF hF2) (fun u hu => by
          rw [r2 u hu, DF_Rd hF, hRf]
          unfold dst
          rw [if_pos h2])
        refine ⟨s3, ?_, r3, d3⟩
        obtain ⟨g, hg, _⟩ := gFUs
        rw [hg, fx_184_38, gq_ix (by omega) (by omega), gq_R (by omega) (by omega), Int.toNat_natCast, hDi.2.2.2.2, gq_R (by omega) (by omega), if_pos (by omega), hDi.1, gq_R (by omega) (by omega), if_pos (by omega)]
        unfold fx_184_118
        rw [gq_ix (by omega) (by omega), Int.toNat_natCast, hDi.1, gq_R (by omega) (by omega), if_pos (by omega), hDi.2.1, e2, gc_v]
        exact e3
      · -- units one by one
        have k38 : ∀ (m2 f2 : Nat) (σ2 : gb_S), m2 ≤ (De i).2.2.2.2 - (De i).2.2.2.1 → m2 < f2 → (∀ c, c ≠ 222 → σ2 c = σ1 c) → (∀ u, u < 60 → σ2 222 u = if u < (De i).2.2.2.2 - m2 then dst n Rf Cf (De i) own u else own u) → ∃ σ', fx_184_38 f2 (fx_184_23 f) (i : Int) (((De i).2.2.2.2 - m2 : Nat) : Int) σ2 = some (.inl 0, σ') ∧ (∀ u, u < 60 → σ' 222 u = ow n Rf Cf De nd u) ∧ DF σ σ' n P := by
          have hdst : ∀ u, dst n Rf Cf (De i) own u = if (De i).2.2.2.1 ≤ u ∧ u < (De i).2.2.2.2 then (if (De i).1 = 0 then ((De i).2.1 : Int) else if own u = ((De i).2.1 : Int) then ((De i).2.2.1 : Int) else own u) else own u := fun u => by unfold dst; rw [if_neg h2]
          intro m2
          induction m2 with
          | zero =>
            intro f2 σ2 _ hf2 f2' hr2
            obtain ⟨f2, rfl⟩ : ∃ q, f2 = q + 1 := ⟨f2 - 1, by omega⟩
            have hF2 : DF σ1 σ2 n P := by
              refine ⟨fun j _ => by rw [f2' 187 (by omega)], ?_, fun c _ _ h3 => f2' c h3⟩
              unfold ST KF
              rw [f2' 187 (by omega), f2' 212 (by omega), f2' 213 (by omega)]
              exact hF.2.1
            have hD2 := (DF_DR (DF_trans hF hF2) hD).2 i hin
            obtain ⟨s3, e3, r3, d3⟩ := hgo σ2 (DF_trans hF hF2) (fun u hu => by
              rw [hr2 u hu]
              by_cases hu2 : u < (De i).2.2.2.2
              · rw [if_pos (by omega)]
              · rw [if_neg (by omega), hdst u, if_neg (fun q => hu2 q.2)])
            refine ⟨s3, ?_, r3, d3⟩
            rw [fx_184_38, gq_ix (by omega) (by omega), gq_R (by omega) (by omega), Int.toNat_natCast, hD2.2.2.2.2, gq_R (by omega) (by omega), if_neg (by omega)]
            unfold fx_184_118
            rw [gq_ix (by omega) (by omega), Int.toNat_natCast, hD2.1, gq_R (by omega) (by omega), if_neg (by omega)]
            exact e3
          | succ m2 ih2 =>
            intro f2 σ2 hm2 hf2 f2' hr2
            obtain ⟨f2, rfl⟩ : ∃ q, f2 = q + 1 := ⟨f2 - 1, by omega⟩
            have hF2 : DF σ1 σ2 n P := by
              refine ⟨fun j _ => by rw [f2' 187 (by omega)], ?_, fun c _ _ h3 => f2' c h3⟩
              unfold ST KF
              rw [f2' 187 (by omega), f2' 212 (by omega), f2' 213 (by omega)]
              exact hF.2.1
            have hD2 := (DF_DR (DF_trans hF hF2) hD).2 i hin
            generalize hv : (De i).2.2.2.2 - (m2 + 1) = v at hr2 ⊢
            have hv2 : (De i).2.2.2.2 - m2 = v + 1 := by omega
            rw [hv2] at ih2
            have hv60 : v < 60 := by omega
            have hrv : σ2 222 v = own v := by rw [hr2 v hv60, if_neg (by omega)]
            have hov := hobi v
            have hstep : ∀ y : Int, y = dst n Rf Cf (De i) own v → ∃ σ', fx_184_38 f2 (fx_184_23 f) (i : Int) ((v : Int) + 1) (gb_up σ2 222 v y) = some (.inl 0, σ') ∧ (∀ u, u < 60 → σ' 222 u = ow n Rf Cf De nd u) ∧ DF σ σ' n P := by
              intro y hy
              rw [show ((v : Nat) : Int) + 1 = ((v + 1 : Nat) : Int) by omega]
              refine ih2 f2 (gb_up σ2 222 v y) (by omega) (by omega) (fun c hc => by rw [up_ne _ _ _ _ hc, f2' c hc]) (fun u hu => ?_)
              by_cases huv : u = v
              · subst huv
                rw [up_eq, if_pos (by omega), hy]
              · rw [up_nj _ _ _ _ huv, hr2 u hu]
                by_cases huu : u < v
                · rw [if_pos huu, if_pos (by omega)]
                · rw [if_neg huu, if_neg (by omega)]
            rw [fx_184_38, gq_ix (by omega) (by omega), gq_R (by omega) (by omega), Int.toNat_natCast, hD2.2.2.2.2, gq_R (by omega) (by omega), if_pos (by omega), hD2.1, gq_R (by omega) (by omega), if_neg (by omega)]
            by_cases h0 : (De i).1 = 0
            · rw [if_pos (by omega), gq_ix (by omega) (by omega), Int.toNat_natCast, hD2.2.1]
              exact hstep _ (by rw [hdst v, if_pos ⟨by omega, by omega⟩, if_pos h0])
            · have h1 : (De i).1 = 1 := by omega
              rw [if_neg (by omega), gq_ix (by omega) (by omega), Int.toNat_natCast, hrv, gq_R (by omega) (by omega), hD2.2.1, gq_R (by omega) (by omega)]
              by_cases hov2 : own v = ((De i).2.1 : Int)
              · rw [if_pos hov2, hD2.2.2.1 h1]
                exact hstep _ (by rw [hdst v, if_pos ⟨by omega, by omega⟩, if_neg h0, if_pos hov2])
              · rw [if_neg hov2]
                exact hstep _ (by rw [hdst v, if_pos ⟨by omega, by omega⟩, if_neg h0, if_neg hov2])
        have := k38 ((De i).2.2.2.2 - (De i).2.2.2.1) gFU σ1 (Nat.le_refl _) (by unfold gFU; omega) (fun _ _ => rfl) (fun u hu => by
          rw [hrow u hu]
          by_cases hu2 : u < (De i).2.2.2.2 - ((De i).2.2.2.2 - (De i).2.2.2.1)
          · rw [if_pos hu2]
            unfold dst
            rw [if_neg h2, if_neg (fun q => by omega)]
          · rw [if_neg hu2])
        rw [show (De i).2.2.2.2 - ((De i).2.2.2.2 - (De i).2.2.2.1) = (De i).2.2.2.1 by omega] at this
        exact this
  -- at first all belongs to nobody
  have k2 : ∀ (m f : Nat) (σ1 : gb_S), m ≤ 60 → m < f → (∀ c, c ≠ 222 → σ1 c = σ c) → (∀ u, u < 60 - m → σ1 222 u = -1) → ∃ σ', fx_184_2 f ((60 - m : Nat) : Int) σ1 = some (.inl 0, σ') ∧ (∀ u, u < 60 → σ' 222 u = ow n Rf Cf De nd u) ∧ DF σ σ' n P := by
    intro m
    induction m with
    | zero =>
      intro f σ1 _ hf f1 hrow
      obtain ⟨f, rfl⟩ : ∃ q, f = q + 1 := ⟨f - 1, by omega⟩
      have hF : DF σ σ1 n P := by
        refine ⟨fun j _ => by rw [f1 187 (by omega)], ?_, fun c _ _ h3 => f1 c h3⟩
        unfold ST KF
        rw [f1 187 (by omega), f1 212 (by omega), f1 213 (by omega)]
        exact hst
      have := k23 nd gFU σ1 (Nat.le_refl _) (by unfold gFU; omega) hF (fun u hu => by rw [hrow u (by omega), Nat.sub_self]; rfl)
      rw [Nat.sub_self] at this
      obtain ⟨s2, e2, r2, d2⟩ := this
      refine ⟨s2, ?_, r2, d2⟩
      rw [fx_184_2, gq_R (by omega) (by omega), if_neg (by omega)]
      exact e2
    | succ m ih =>
      intro f σ1 hm hf f1 hrow
      obtain ⟨f, rfl⟩ : ∃ q, f = q + 1 := ⟨f - 1, by omega⟩
      generalize hi : 60 - (m + 1) = i at hrow ⊢
      have hi2 : 60 - m = i + 1 := by omega
      rw [hi2] at ih
      rw [fx_184_2, gq_R (by omega) (by omega), if_pos (by omega), gq_ix (by omega) (by omega), Int.toNat_natCast, show ((i : Nat) : Int) + 1 = ((i + 1 : Nat) : Int) by omega]
      exact ih f (gb_up σ1 222 i (-1)) (by omega) (by omega) (fun c hc => by rw [up_ne _ _ _ _ hc, f1 c hc]) (fun u hu => by
        by_cases hui : u = i
        · subst hui; rw [up_eq]
        · rw [up_nj _ _ _ _ hui]; exact hrow u (by omega))
  have := k2 60 gFU σ (Nat.le_refl _) (by unfold gFU; omega) (fun _ _ => rfl) (fun u hu => by omega)
  exact this
end DW1
