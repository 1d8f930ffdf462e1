section GTab
variable {β : Nat}
/-- the frozen world's cells and slots, by number -/
def gb_up (σ : Nat → Nat → Int) (a j : Nat) (x : Int) : Nat → Nat → Int := fun a' j' => if a' = a ∧ j' = j then x else σ a' j'
theorem gb_row_get (σ : Nat → Nat → Int) (a : Nat) : ∀ (ts : List Nat) (i j : Nat), (gb_row β σ a i ts)[j]? = (ts[j]?).map (gb_sl β σ a (i + j)) := by
  intro ts
  induction ts with
  | nil => intro i j; rfl
  | cons t ts ih =>
    intro i j
    cases j with
    | zero => rfl
    | succ j =>
      show (gb_row β σ a (i + 1) ts)[j]? = (ts[j]?).map (gb_sl β σ a (i + (j + 1)))
      rw [ih, Nat.add_assoc, Nat.add_comm 1 j]
theorem gb_row_len (σ : Nat → Nat → Int) (a : Nat) : ∀ (ts : List Nat) (i : Nat), (gb_row β σ a i ts).length = ts.length := by
  intro ts
  induction ts with
  | nil => intro i; rfl
  | cons t ts ih =>
    intro i
    show (gb_row β σ a (i + 1) ts).length + 1 = ts.length + 1
    rw [ih]
theorem gb_sl_ne (σ : Nat → Nat → Int) (a j a' j' : Nat) (x : Int) (t : Nat) (h : ¬ (a' = a ∧ j' = j)) : gb_sl β (gb_up σ a j x) a' j' t = gb_sl β σ a' j' t := by
  have e : gb_up σ a j x a' j' = σ a' j' := if_neg h
  match t with
  | 0 => show Value.int (Int32.ofInt (gb_up σ a j x a' j')) = .int (Int32.ofInt (σ a' j')); rw [e]
  | 1 => show Value.long (Int64.ofInt (gb_up σ a j x a' j')) = .long (Int64.ofInt (σ a' j')); rw [e]
  | t + 2 => rfl
theorem gb_row_ne (σ : Nat → Nat → Int) (a j : Nat) (x : Int) (a' : Nat) (h : a' ≠ a) : ∀ (ts : List Nat) (i : Nat), gb_row β (gb_up σ a j x) a' i ts = gb_row β σ a' i ts := by
  intro ts
  induction ts with
  | nil => intro i; rfl
  | cons t ts ih =>
    intro i
    show gb_sl β _ a' i t :: gb_row β _ a' (i + 1) ts = gb_sl β σ a' i t :: gb_row β σ a' (i + 1) ts
    rw [ih, gb_sl_ne σ a j a' i x t (fun q => h q.1)]
theorem gb_row_up (σ : Nat → Nat → Int) (a : Nat) (x : Int) : ∀ (ts : List Nat) (i j : Nat) (t : Nat), ts[j]? = some t → gb_row β (gb_up σ a (i + j) x) a i ts = (gb_row β σ a i ts).set j (gb_sl β (gb_up σ a (i + j) x) a (i + j) t) := by
  intro ts
  induction ts with
  | nil => intro i j t h; cases h
  | cons u ts ih =>
    intro i j t h
    cases j with
    | zero =>
      cases h
      show gb_sl β _ a i u :: gb_row β _ a (i + 1) ts = gb_sl β _ a (i + 0) u :: gb_row β σ a (i + 1) ts
      congr 1
      have : ∀ (ts : List Nat) (k : Nat), i + 0 < k → gb_row β (gb_up σ a (i + 0) x) a k ts = gb_row β σ a k ts := by
        intro ts
        induction ts with
        | nil => intro k _; rfl
        | cons w ws ihw =>
          intro k hk
          show gb_sl β _ a k w :: gb_row β _ a (k + 1) ws = gb_sl β σ a k w :: gb_row β σ a (k + 1) ws
          rw [ihw (k + 1) (by omega), gb_sl_ne σ a (i + 0) a k x w (fun q => by omega)]
      exact this ts (i + 1) (by omega)
    | succ j =>
      show gb_sl β _ a i u :: gb_row β _ a (i + 1) ts = gb_sl β σ a i u :: (gb_row β σ a (i + 1) ts).set j _
      have e := ih (i + 1) j t h
      rw [show i + 1 + j = i + (j + 1) by omega] at e
      rw [e, gb_sl_ne σ a (i + (j + 1)) a i x u (fun q => by omega)]
theorem gb_tab_get (σ : Nat → Nat → Int) : ∀ (cs : List (Nat × List Nat)) (i k : Nat), (gb_tab β σ i cs)[k]? = (cs[k]?).map (fun c => (c.1, gb_row β σ (i + k) 0 c.2)) := by
  intro cs
  induction cs with
  | nil => intro i k; rfl
  | cons c cs ih =>
    intro i k
    cases k with
    | zero => rfl
    | succ k =>
      show (gb_tab β σ (i + 1) cs)[k]? = (cs[k]?).map (fun c => (c.1, gb_row β σ (i + (k + 1)) 0 c.2))
      rw [ih, Nat.add_assoc, Nat.add_comm 1 k]
theorem gb_tab_ne (σ : Nat → Nat → Int) (a j : Nat) (x : Int) : ∀ (cs : List (Nat × List Nat)) (i : Nat), a < i → gb_tab β (gb_up σ a j x) i cs = gb_tab β σ i cs := by
  intro cs
  induction cs with
  | nil => intro i _; rfl
  | cons c cs ih =>
    intro i h
    show (c.1, gb_row β _ i 0 c.2) :: gb_tab β _ (i + 1) cs = (c.1, gb_row β σ i 0 c.2) :: gb_tab β σ (i + 1) cs
    rw [ih (i + 1) (by omega), gb_row_ne σ a j x i (by omega)]
theorem gb_tab_up (σ : Nat → Nat → Int) (j : Nat) (x : Int) (t kd : Nat) (ts : List Nat) (ht : ts[j]? = some t) : ∀ (cs : List (Nat × List Nat)) (i k : Nat), cs[k]? = some (kd, ts) →
    gb_tab β (gb_up σ (i + k) j x) i cs = (gb_tab β σ i cs).set k (kd, (gb_row β σ (i + k) 0 ts).set j (gb_sl β (gb_up σ (i + k) j x) (i + k) j t)) := by
  intro cs
  induction cs with
  | nil => intro i k h; cases h
  | cons c cs ih =>
    intro i k h
    cases k with
    | zero =>
      cases h
      show (kd, gb_row β _ i 0 ts) :: gb_tab β _ (i + 1) cs = (kd, _) :: gb_tab β σ (i + 1) cs
      have e := gb_row_up (β := β) σ (i + 0) x ts 0 j t ht
      rw [Nat.zero_add] at e
      rw [gb_tab_ne σ (i + 0) j x cs (i + 1) (by omega)]
      exact congrArg (fun r => (kd, r) :: gb_tab β σ (i + 1) cs) e
    | succ k =>
      show (c.1, gb_row β _ i 0 c.2) :: gb_tab β _ (i + 1) cs = (c.1, gb_row β σ i 0 c.2) :: (gb_tab β σ (i + 1) cs).set k _
      have e := ih (i + 1) k h
      rw [show i + 1 + k = i + (k + 1) by omega] at e
      rw [e, gb_row_ne σ (i + (k + 1)) j x i (by omega)]
theorem gb_tab_len (β : Nat) (σ : Nat → Nat → Int) : ∀ (cs : List (Nat × List Nat)) (i : Nat), (gb_tab β σ i cs).length = cs.length := by
  intro cs
  induction cs with
  | nil => intro i; rfl
  | cons c cs ih =>
    intro i
    show (gb_tab β σ (i + 1) cs).length + 1 = cs.length + 1
    rw [ih]
/-- where an object lies: the script's cell, the cells ahead of the object's, the cells behind -/
abbrev gx_C : Type := gh_C × (gh_H × gh_H)
def gx_b (c0 : gx_C) : Nat := c0.2.1.length
theorem gx_ne (c0 : gx_C) (a : Nat) : ¬ a + 1 + gx_b c0 = 0 := by omega
/-- the heap -/
def gb_H (c0 : gx_C) (σ : Nat → Nat → Int) : gh_H := c0.1 :: (c0.2.1 ++ (gb_tab (gx_b c0) σ 1 gb_sh ++ c0.2.2))
theorem gx_get (c : gh_C) (Y T X : gh_H) (a : Nat) (h : a < T.length) : (c :: (Y ++ (T ++ X)))[a + 1 + Y.length]? = T[a]? := by
  rw [show a + 1 + Y.length = (Y.length + a) + 1 by omega, List.getElem?_cons_succ, List.getElem?_append_right (by omega), Nat.add_sub_cancel_left, List.getElem?_append_left h]
theorem gx_set (c v : gh_C) (Y T X : gh_H) (a : Nat) (h : a < T.length) : (c :: (Y ++ (T ++ X))).set (a + 1 + Y.length) v = c :: (Y ++ (T.set a v ++ X)) := by
  rw [show a + 1 + Y.length = (Y.length + a) + 1 by omega, List.set_cons_succ, List.set_append_right _ _ (by omega), Nat.add_sub_cancel_left, List.set_append_left _ _ h]
theorem gb_lt_sh {a : Nat} {x : Nat × List Nat} (h : gb_sh[a]? = some x) (c0 : gx_C) (σ : Nat → Nat → Int) : a < (gb_tab (gx_b c0) σ 1 gb_sh).length := by
  rw [gb_tab_len]
  exact (List.getElem?_eq_some_iff.mp h).1
theorem gb_get {c0 : gx_C} {σ : Nat → Nat → Int} {a kd : Nat} {ts : List Nat} (h : gb_sh[a]? = some (kd, ts)) : (gb_H c0 σ)[a + 1 + gx_b c0]? = some (kd, gb_row (gx_b c0) σ (a + 1) 0 ts) := by
  refine (gx_get c0.1 c0.2.1 _ c0.2.2 a (gb_lt_sh h c0 σ)).trans ?_
  rw [gb_tab_get, h, Nat.add_comm 1 a]
  rfl
theorem gb_set {c0 : gx_C} {σ : Nat → Nat → Int} {a j kd t : Nat} {ts : List Nat} {x : Int} (h : gb_sh[a]? = some (kd, ts)) (ht : ts[j]? = some t) :
    (gb_H c0 σ).set (a + 1 + gx_b c0) (kd, (gb_row (gx_b c0) σ (a + 1) 0 ts).set j (gb_sl (gx_b c0) (gb_up σ (a + 1) j x) (a + 1) j t)) = gb_H c0 (gb_up σ (a + 1) j x) := by
  refine (gx_set c0.1 _ c0.2.1 _ c0.2.2 a (gb_lt_sh h c0 σ)).trans ?_
  have e := gb_tab_up (β := gx_b c0) σ j x t kd ts ht gb_sh 1 a h
  rw [Nat.add_comm 1 a] at e
  exact congrArg (fun T => c0.1 :: (c0.2.1 ++ (T ++ c0.2.2))) e.symm
end GTab
