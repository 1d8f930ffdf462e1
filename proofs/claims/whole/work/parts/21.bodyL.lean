section GL
variable {z : gh_Z} {p : Program} {l : Launch} {e : Env} {R : Room} {s : State} {m : MethodId} {args : Array Value} {below : List Frame} {meth : Method} {c : Code} {nL g0 z0 k0 y0 : Nat} {Q : State → Prop} {cc : ByteArray} {rt : Option FieldType} {nm : String} {pc : Nat} {lo : gh_L} {st : List Value} {G : gh_H}
/-- a helper's run doesn't throw out -/
theorem gh_retI_inv {pc len : Nat} {i : Instr} {fz : Bool} {x : Int32} (h : gh_step fz 9 (some .boolean) pc i len lo st G = some (.inr (.inl (.inl (some (.int x)))))) : i = .ireturn ∧ st = [.int x] := by
  cases i with
  | ireturn =>
    obtain ⟨v, ty, rfl, -, -, -, ho⟩ := gh_ret_inv h
    cases ho
    exact ⟨rfl, rfl⟩
  | _ =>
    exfalso
    first
    | exact absurd (show (none : Option gh_R) = some (.inr (.inl (.inl (some (.int x))))) from h) (by simp)
    | (simp only [gh_step, gh_go, gh_push, gh_pop1, gh_pop2, gh_bin, gh_binJ, gh_binD, gh_jmp, gh_sw, gh_get, gh_put, gh_ald, gh_ast, gh_len, gh_newa, gh_new, gh_ret, gh_call, gh_mm, gh_acopy] at h
       repeat' split at h
       all_goals first | cases h | (simp_all [gh_isJ, gh_isA, gh_isO]; done))
/-- the law's body in the world that is made -/
theorem gh_bodyL {b N d : Nat} {gKf : gh_H} (hC : gh_Cx z p s m #[Value.ref b] meth c 9 code 8 (some .boolean) nm) (hst : l.stackTraces = false) (hnm : nm = "law") (hbase : z.2.2.2.1 = s.heap.size) (hd1 : d ≤ 2000) :
    ∀ (n pc : Nat) (lo : gh_L) (st : List Value) (G : gh_H) (k0 y0 : Nat), gh_ex true (gh_cl true N d) 9 (some .boolean) (fun _ _ => none) gk_law n pc lo st G = some (.inl (some (.int 1)), gKf) → g0 ≤ G.length → z0 ≤ gh_sz G → gKf.length - g0 + k0 + n ≤ 601024 → gh_sz gKf - z0 + y0 + 6 * n ≤ 7293034 →
      gh_T z p l e room_1 s m #[Value.ref b] below meth c 8 g0 z0 (lw_Z below #[Value.ref b] s) k0 y0 pc lo st G := by
  intro n
  induction n with
  | zero => intro pc lo st G k0 y0 h; cases h
  | succ n ih =>
    intro pc lo st G k0 y0 h hg hz hkc hks
    have hfin := gh_ex_mono (gh_cl_mono d) _ _ _ _ _ _ _ h
    have hRc : room_1.cells = 601024 := rfl
    have hRs : room_1.slots = 7293034 := rfl
    have hRf : room_1.frames = 2048 := rfl
    have hRl : room_1.locals = 84000 := rfl
    rw [gh_ex] at h
    split at h
    · cases h
    · next i len hlk =>
      have hmem := gh_look hlk
      have hd := gh_lwD (pc, i, len) hmem
      obtain ⟨hlen, hput, hstP, hkn⟩ := gh_chk gh_lwC hmem
      rw [← hnm] at hput
      split at h
      · cases h
      · next pc1 lo1 st1 gK1 hs =>
        have h1 := gh_step_mono hs
        have h2 := gh_ex_mono (gh_cl_mono d) _ _ _ _ _ _ _ h
        exact gh_stepT hC hd hlen hput hs (fun hf => nomatch hf) hg hz (by omega) (by omega) (by omega) (by omega) (by omega) (by omega) hstP (ih _ _ _ _ _ _ h (by omega) (by omega) (by omega) (by omega))
      · next o1 hs =>
        cases h
        obtain ⟨rfl, rfl⟩ := gh_retI_inv hs
        obtain rfl : len = 1 := hlen
        intro H locs ls hR hS hl
        refine W.widen (k := 601024) (n := 7293034) (by omega) (by omega) ?_
        exact va_forget (fun q hq => by have := hS.2.2 q hq; unfold gh_A at this; omega) (lw_ret hC.1 hC.2.1 hC.2.2.2.1 hC.2.2.2.2.1 hd)
      · next μ as r hs =>
        obtain ⟨hl3, hμ⟩ := gh_call_len hs hlen hkn
        subst hl3
        split at h
        · cases h
        · next v gK1 hc =>
          have h1 := gh_cl_mono _ _ _ _ _ _ hc
          have h2 := gh_ex_mono (gh_cl_mono d) _ _ _ _ _ _ _ h
          by_cases hμ2 : μ < 196
          · obtain ⟨q, m9, hq, -⟩ := gh_Mall μ hμ2
            refine gh_callW hC hd hkn hμ2 hs hq (gh_norm l hst z true N d μ as G _ gK1 hμ2 hc q hq) (fun hf => nomatch hf) hg hz h1.1 h1.2 (by omega) (by omega) (by simp only [gh_th]; omega) (by simp only [gh_th]; omega) (fun w9 hw => ?_) (fun E hE => by cases hE)
            cases hw
            exact ih _ _ _ _ _ _ h (by omega) (by omega) (by omega) (by omega)
          · exact gh_callH hC hst hd hkn (by omega) (by omega) hs hc hg hz (by omega) (by omega) (by omega) (by omega) (ih _ _ _ _ _ _ h (by omega) (by omega) (by omega) (by omega))
        · cases h
end GL
