section LA1
def ls (f : Nat → Rat) : List Nat → Rat
  | [] => 0
  | p :: t => f p + ls f t
theorem ls_app (f : Nat → Rat) (A B : List Nat) : ls f (A ++ B) = ls f A + ls f B := by
  induction A with
  | nil => show ls f B = 0 + ls f B; grind
  | cons p t ih => show f p + ls f (t ++ B) = f p + ls f t + ls f B; rw [ih]; grind
theorem ls_filter {f : Nat → Rat} {b : Nat → Bool} (hz : ∀ p, b p = false → f p = 0) (A : List Nat) : ls f (A.filter b) = ls f A := by
  induction A with
  | nil => rfl
  | cons p t ih =>
    rw [List.filter_cons]
    split
    · show f p + ls f (t.filter b) = f p + ls f t; rw [ih]
    · next h =>
      rw [Bool.not_eq_true] at h
      show ls f (t.filter b) = f p + ls f t
      rw [ih, hz p h]; grind
theorem ls_range (f : Nat → Rat) (b : Nat → Bool) (n : Nat) : ls f ((List.range n).filter b) = su (fun p => if b p = true then f p else 0) n := by
  induction n with
  | zero => rfl
  | succ n ih =>
    rw [List.range_succ, List.filter_append, ls_app, ih, su]
    congr 1
    rw [List.filter_cons]
    split
    · show f n + 0 = f n; grind
    · rfl
theorem ls_mem (f : Nat → Rat) (n : Nat) : ∀ (C : List Nat), C.Nodup → (∀ p, p ∈ C → p < n) → ls f C = su (fun p => if C.contains p = true then f p else 0) n := by
  intro C
  induction C with
  | nil => intro _ _; exact (su_zero (fun p _ => rfl)).symm
  | cons c t ih =>
    intro hd hm
    rw [List.nodup_cons] at hd
    show f c + ls f t = _
    rw [ih hd.2 (fun p hp => hm p (List.mem_cons_of_mem _ hp)), ← su_one (x := f c) (hm c List.mem_cons_self), ← su_add]
    refine su_congr (fun p _ => ?_)
    rw [List.contains_cons]
    by_cases hpc : p = c
    · subst hpc
      have : t.contains p = false := by
        cases h : t.contains p with
        | false => rfl
        | true => exact absurd (List.contains_iff_mem.mp h) hd.1
      rw [if_pos rfl, this]
      simp
      grind
    · rw [if_neg hpc, beq_eq_false_iff_ne.mpr hpc, Bool.false_or]
      grind
/-- the heirs by their rank -/
def RL (n : Nat) (R : Nat → Rat) (C : List Nat) : List Nat := C.filter (fun p => decide (0 < R p)) ++ (List.range n).filter (fun p => !C.contains p && decide (0 < R p))
theorem RL_sum {n : Nat} {R f : Nat → Rat} {C : List Nat} (hd : C.Nodup) (hm : ∀ p, p ∈ C → p < n) (hf : ∀ p, ¬ 0 < R p → f p = 0) : ls f (RL n R C) = su f n := by
  unfold RL
  rw [ls_app, ls_filter (fun p h => hf p (of_decide_eq_false h)), ls_mem f n C hd hm, ls_range, ← su_add]
  refine su_congr (fun p _ => ?_)
  cases hc : C.contains p with
  | true => simp; grind
  | false =>
    by_cases h : 0 < R p
    · rw [decide_eq_true h]; simp; grind
    · rw [decide_eq_false h, hf p h]; simp; grind
/-- of U units, how many come to p, rounded down -/
def flr (U : Nat) (R : Nat → Rat) (p : Nat) : Nat := ((U : Int) * (R p).num / ((R p).den : Int)).toNat
def nsum (f : Nat → Nat) : List Nat → Nat
  | [] => 0
  | p :: t => f p + nsum f t
theorem nsum_cast (f : Nat → Nat) (A : List Nat) : ((nsum f A : Nat) : Rat) = ls (fun p => ((f p : Nat) : Rat)) A := by
  induction A with
  | nil => rfl
  | cons p t ih => show ((f p + nsum f t : Nat) : Rat) = _; rw [Rat.natCast_add, ih]; rfl
theorem flr_cast {U : Nat} {R : Nat → Rat} {p : Nat} (h : 0 ≤ R p) : ((flr U R p : Nat) : Int) = (U : Int) * (R p).num / ((R p).den : Int) := by
  unfold flr
  have h1 : 0 ≤ (R p).num := Rat.num_nonneg.mpr h
  have h2 : 0 ≤ (U : Int) * (R p).num := Int.mul_nonneg (by omega) h1
  exact Int.toNat_of_nonneg (Int.ediv_nonneg h2 (by omega))
theorem nd_mul (x : Rat) : x * (x.den : Rat) = (x.num : Rat) := by
  have h : x = (x.num : Rat) / (x.den : Rat) := by rw [← Rat.mkRat_eq_div, Rat.mkRat_self]
  have h2 : (x.den : Rat) ≠ 0 := fun q => x.den_nz (Rat.natCast_eq_zero_iff.mp q)
  have e := Rat.div_mul_cancel (a := (x.num : Rat)) h2
  rw [← h] at e
  exact e
theorem flr_le {U : Nat} {R : Nat → Rat} {p : Nat} (h : 0 ≤ R p) : ((flr U R p : Nat) : Rat) ≤ (U : Rat) * R p ∧ (U : Rat) * R p < ((flr U R p : Nat) : Rat) + 1 := by
  have hc := flr_cast (U := U) h
  have hd := (R p).den_pos
  have hd' : (0 : Rat) < ((R p).den : Rat) := Rat.natCast_pos.mpr hd
  have hm := nd_mul (R p)
  have e1 : ((flr U R p : Nat) : Int) * ((R p).den : Int) ≤ (U : Int) * (R p).num := by
    rw [hc]; exact Int.ediv_mul_le _ (by omega)
  have e2 : (U : Int) * (R p).num < (((flr U R p : Nat) : Int) + 1) * ((R p).den : Int) := by
    rw [hc]
    exact Int.lt_ediv_add_one_mul_self _ (by omega)
  have r1 : ((flr U R p : Nat) : Rat) * ((R p).den : Rat) ≤ (U : Rat) * ((R p).num : Rat) := by
    have := Rat.intCast_le_intCast.mpr e1
    rw [Rat.intCast_mul, Rat.intCast_mul, Rat.intCast_natCast, Rat.intCast_natCast, Rat.intCast_natCast] at this
    exact this
  have r2 : (U : Rat) * ((R p).num : Rat) < (((flr U R p : Nat) : Rat) + 1) * ((R p).den : Rat) := by
    have := Rat.intCast_lt_intCast.mpr e2
    rw [Rat.intCast_mul, Rat.intCast_mul, Rat.intCast_add, Rat.intCast_natCast, Rat.intCast_natCast, Rat.intCast_natCast] at this
    exact this
  rw [← hm] at r1 r2
  constructor
  · exact Rat.le_of_mul_le_mul_right (by rw [Rat.mul_assoc]; exact r1) hd'
  · refine Rat.lt_of_mul_lt_mul_right (c := ((R p).den : Rat)) (by rw [Rat.mul_assoc]; exact r2) (Rat.le_of_lt hd')
theorem ls_flr {U : Nat} {R : Nat → Rat} (A : List Nat) (h : ∀ p, 0 ≤ R p) : ls (fun p => ((flr U R p : Nat) : Rat)) A ≤ (U : Rat) * ls R A ∧ (U : Rat) * ls R A ≤ ls (fun p => ((flr U R p : Nat) : Rat)) A + (A.length : Rat) := by
  induction A with
  | nil =>
    have : (([] : List Nat).length : Rat) = 0 := rfl
    rw [this]
    show (0 : Rat) ≤ _ * 0 ∧ _ * 0 ≤ (0 : Rat) + 0
    rw [Rat.mul_zero]
    exact ⟨Rat.le_refl, by grind⟩
  | cons p t ih =>
    have h1 := flr_le (U := U) (h p)
    have hl : (((p :: t).length : Nat) : Rat) = (t.length : Rat) + 1 := by rw [List.length_cons, Rat.natCast_add]; rfl
    rw [hl]
    show ((flr U R p : Nat) : Rat) + ls _ t ≤ _ * (R p + ls R t) ∧ _ * (R p + ls R t) ≤ ((flr U R p : Nat) : Rat) + ls _ t + _
    have e := Rat.mul_add (U : Rat) (R p) (ls R t)
    rw [e]
    constructor <;> grind
theorem flr_zero {U : Nat} {R : Nat → Rat} {p : Nat} (h : R p = 0) : flr U R p = 0 := by
  unfold flr
  rw [h]
  simp
/-- what is left over -/
def ovr (U : Nat) (R : Nat → Rat) (H : List Nat) : Nat := U - nsum (flr U R) H
theorem ovr_ok {n U : Nat} {R : Nat → Rat} {C : List Nat} (hR : ∀ p, 0 ≤ R p) (hd : C.Nodup) (hm : ∀ p, p ∈ C → p < n) (h1 : su R n = 1) : nsum (flr U R) (RL n R C) + ovr U R (RL n R C) = U ∧ ovr U R (RL n R C) ≤ (RL n R C).length := by
  have hs : ls R (RL n R C) = 1 := by
    rw [RL_sum hd hm (fun p h => by have := hR p; grind), h1]
  have hf := ls_flr (U := U) (RL n R C) hR
  rw [hs, Rat.mul_one, ← nsum_cast] at hf
  have a1 : nsum (flr U R) (RL n R C) ≤ U := Rat.natCast_le_natCast.mp hf.1
  have a2 : U ≤ nsum (flr U R) (RL n R C) + (RL n R C).length := by
    have := hf.2
    rw [← Rat.natCast_add] at this
    exact Rat.natCast_le_natCast.mp this
  unfold ovr
  omega
/-- persons and portions -/
def prl (U : Nat) (R : Nat → Rat) : Nat → List Nat → List (Nat × Nat)
  | _, [] => []
  | o, p :: t => (p, flr U R p + (if 0 < o then 1 else 0)) :: prl U R (o - 1) t
/-- one after the other, each as often as its portion says -/
def deal : List (Nat × Nat) → List Nat
  | [] => []
  | e :: t => List.replicate e.2 e.1 ++ deal t
theorem prl_len (U : Nat) (R : Nat → Rat) : ∀ (H : List Nat) (o : Nat), o ≤ H.length → (deal (prl U R o H)).length = nsum (flr U R) H + o := by
  intro H
  induction H with
  | nil => intro o ho; rw [List.length_nil] at ho; rw [show o = 0 by omega]; rfl
  | cons p t ih =>
    intro o ho
    rw [List.length_cons] at ho
    rw [prl, deal, List.length_append, List.length_replicate, ih (o - 1) (by omega), nsum]
    dsimp only
    split <;> omega
theorem prl_get (U : Nat) (R : Nat → Rat) : ∀ (H : List Nat) (o i : Nat), i < H.length → (prl U R o H)[i]? = some (H.getD i 0, flr U R (H.getD i 0) + (if i < o then 1 else 0)) := by
  intro H
  induction H with
  | nil => intro o i hi; rw [List.length_nil] at hi; omega
  | cons p t ih =>
    intro o i hi
    cases i with
    | zero => rw [prl]; rfl
    | succ i =>
      rw [List.length_cons] at hi
      rw [prl, List.getElem?_cons_succ, ih (o - 1) i (by omega), List.getD_cons_succ]
      congr 3
      by_cases h : i + 1 < o
      · rw [if_pos h, if_pos (by omega)]
      · rw [if_neg h, if_neg (by omega)]
theorem prl_length (U : Nat) (R : Nat → Rat) : ∀ (H : List Nat) (o : Nat), (prl U R o H).length = H.length := by
  intro H
  induction H with
  | nil => intro o; rfl
  | cons p t ih => intro o; rw [prl, List.length_cons, ih, List.length_cons]
theorem prl_drop (U : Nat) (R : Nat → Rat) : ∀ (H : List Nat) (o i : Nat), (prl U R o H).drop i = prl U R (o - i) (H.drop i) := by
  intro H
  induction H with
  | nil => intro o i; rw [List.drop_nil]; show List.drop i [] = []; exact List.drop_nil
  | cons p t ih =>
    intro o i
    cases i with
    | zero => rfl
    | succ i => rw [prl, List.drop_succ_cons, List.drop_succ_cons, ih, Nat.sub_sub, Nat.add_comm 1 i]
/-- the j-th of a dealing, or nobody -/
def gv (D : List Nat) (j : Nat) : Int := match D[j]? with
  | some p => (p : Int)
  | none => -1
/-- the land behind an inheritance of d -/
def nw (own : Nat → Int) (d : Int) (D : List Nat) (u : Nat) : Int := if own u = d then gv D (ct (fun v => decide (own v = d)) u) else own u
theorem gv_some {D : List Nat} {j p : Nat} (h : D[j]? = some p) : gv D j = (p : Int) := by unfold gv; rw [h]
theorem gv_none {D : List Nat} {j : Nat} (h : D[j]? = none) : gv D j = -1 := by unfold gv; rw [h]
/-- whom the units of an estate come to, in their order -/
def DL (n U : Nat) (R : Nat → Rat) (C : List Nat) : List Nat := deal (prl U R (ovr U R (RL n R C)) (RL n R C))
theorem DL_len {n U : Nat} {R : Nat → Rat} {C : List Nat} (hR : ∀ p, 0 ≤ R p) (hd : C.Nodup) (hm : ∀ p, p ∈ C → p < n) (h1 : su R n = 1) : (DL n U R C).length = U := by
  have h := ovr_ok (U := U) hR hd hm h1
  unfold DL
  rw [prl_len U R _ _ h.2]
  exact h.1
theorem RL_nil {n : Nat} {R : Nat → Rat} {C : List Nat} (hm : ∀ p, p ∈ C → p < n) (h0 : ∀ p, p < n → R p = 0) : RL n R C = [] := by
  unfold RL
  rw [List.append_eq_nil_iff, List.filter_eq_nil_iff, List.filter_eq_nil_iff]
  constructor
  · intro p hp
    rw [h0 p (hm p hp)]
    decide
  · intro p hp
    rw [h0 p (List.mem_range.mp hp)]
    simp
theorem DL_nil {n U : Nat} {R : Nat → Rat} {C : List Nat} (h : RL n R C = []) : DL n U R C = [] := by
  unfold DL
  rw [h]
  rfl
theorem RL_ne {n : Nat} {R : Nat → Rat} {C : List Nat} (hR : ∀ p, 0 ≤ R p) (hd : C.Nodup) (hm : ∀ p, p ∈ C → p < n) (h1 : su R n = 1) : RL n R C ≠ [] := by
  intro h
  have hs : ls R (RL n R C) = 1 := by
    rw [RL_sum hd hm (fun p h => by have := hR p; grind), h1]
  rw [h] at hs
  exact absurd hs (show ¬ ((0 : Rat) = 1) by decide)
theorem RL_mem {n : Nat} {R : Nat → Rat} {C : List Nat} (hm : ∀ p, p ∈ C → p < n) {p : Nat} (h : p ∈ RL n R C) : p < n ∧ 0 < R p := by
  unfold RL at h
  rw [List.mem_append, List.mem_filter, List.mem_filter] at h
  rcases h with h | h
  · exact ⟨hm p h.1, of_decide_eq_true h.2⟩
  · rw [Bool.and_eq_true] at h
    exact ⟨List.mem_range.mp h.1, of_decide_eq_true h.2.2⟩
/-- there are no more heirs than people -/
theorem RL_len {n : Nat} {R : Nat → Rat} {C : List Nat} (hR : ∀ p, 0 ≤ R p) (hd : C.Nodup) (hm : ∀ p, p ∈ C → p < n) : (RL n R C).length = ct (fun p => decide (0 < R p)) n := by
  have h1 : ∀ A : List Nat, (∀ p, p ∈ A → 0 < R p) → ((A.length : Nat) : Rat) = ls (fun p => if 0 < R p then 1 else 0) A := by
    intro A
    induction A with
    | nil => intro _; rfl
    | cons p t ih =>
      intro h
      rw [List.length_cons, Rat.natCast_add, ih (fun q hq => h q (List.mem_cons_of_mem _ hq))]
      show ls _ t + ((1 : Nat) : Rat) = (if 0 < R p then 1 else 0) + ls _ t
      rw [if_pos (h p List.mem_cons_self)]
      show _ + (1 : Rat) = _
      grind
  have h2 := h1 (RL n R C) (fun p hp => (RL_mem hm hp).2)
  rw [RL_sum hd hm (fun p h => if_neg h)] at h2
  have h3 := su_if (fun p => decide (0 < R p)) 1 n
  rw [Rat.mul_one] at h3
  have h4 : su (fun p => if 0 < R p then (1 : Rat) else 0) n = su (fun p => if decide (0 < R p) = true then (1 : Rat) else 0) n := su_congr (fun p _ => by
    by_cases h : 0 < R p
    · rw [if_pos h, decide_eq_true h, if_pos rfl]
    · rw [if_neg h, decide_eq_false h, if_neg (by decide)])
  rw [h4, h3] at h2
  exact Rat.natCast_inj.mp h2
end LA1
