section GL
variable {z : gh_Z} {p : Program} {l : Launch} {e : Env} {R : Room} {s : State} {m : MethodId} {args : Array Value} {below : List Frame} {meth : Method} {c : Code} {nL g0 z0 k0 y0 : Nat} {Q : State → Prop} {cc : ByteArray} {rt : Option FieldType} {nm : String} {pc : Nat} {lo : gh_L} {st : List Value} {G : gh_H}
/-- the law's first stretch: the two constructors, the answers' row; it stops at stop -/
def gh_px (C : Nat → List Value → gh_H → Option (gh_O × gh_H)) (stop : Nat) (K : List (Nat × Instr × Nat)) : Nat → Nat → gh_L → List Value → gh_H → Option gh_N
  | 0, _, _, _, _ => none
  | n + 1, pc, lo, st, G => if pc = stop then some (pc, lo, st, G) else match K.lookup pc with
    | none => none
    | some (i, len) => match gh_step false 9 (some .boolean) pc i len lo st G with
      | none => none
      | some (.inl (pc', lo', st', G')) => gh_px C stop K n pc' lo' st' G'
      | some (.inr (.inl _)) => none
      | some (.inr (.inr (μ, as, r))) => match C μ as G with
        | some (.inl v, G') => if μ < 128 then gh_px C stop K n (pc + 3) lo (v.toList ++ r) G' else none
        | _ => none
theorem gh_px_mono {C : Nat → List Value → gh_H → Option (gh_O × gh_H)} {stop : Nat} {K : List (Nat × Instr × Nat)} (hCm : ∀ μ as G o G', C μ as G = some (o, G') → G.length ≤ G'.length ∧ gh_sz G ≤ gh_sz G') :
    ∀ (n pc : Nat) (lo : gh_L) (st : List Value) (G : gh_H) (pc1 : Nat) (lo1 : gh_L) (st1 : List Value) (gK1 : gh_H), gh_px C stop K n pc lo st G = some (pc1, lo1, st1, gK1) → G.length ≤ gK1.length ∧ gh_sz G ≤ gh_sz gK1 := by
  intro n
  induction n with
  | zero => intro pc lo st G pc1 lo1 st1 gK1 h; cases h
  | succ n ih =>
    intro pc lo st G pc1 lo1 st1 gK1 h
    rw [gh_px] at h
    split at h
    · cases h; omega
    · split at h
      · cases h
      · split at h
        · cases h
        · next hs =>
          have h1 := gh_step_mono hs
          have h2 := ih _ _ _ _ _ _ _ _ h
          omega
        · cases h
        · split at h
          · next hc =>
            split at h
            · have h1 := hCm _ _ _ _ _ hc
              have h2 := ih _ _ _ _ _ _ _ _ h
              omega
            · cases h
          · cases h
theorem gh_pre {b N d : Nat} {gKf : gh_H} {pc9 : Nat} {lo9 : gh_L} {st9 : List Value} (hC : gh_Cx z p s m #[Value.ref b] meth c 9 code 15 (some .boolean) nm) (hst : l.stackTraces = false) (hnm : nm = "law") (he0 : s.heap.size + 1 = z.2.2.2.1 + g0) (hd1 : d ≤ 2000) {stop : Nat} (hroom : gKf.length - g0 ≤ 620120 ∧ gh_sz gKf - z0 ≤ 7241264)
    (kk : gh_T z p l e room_1 s m #[Value.ref b] below meth c 15 g0 z0 Q 0 0 pc9 lo9 st9 gKf) :
    ∀ (n pc : Nat) (lo : gh_L) (st : List Value) (G : gh_H), gh_px (gh_cl false N d) stop gk_law n pc lo st G = some (pc9, lo9, st9, gKf) → g0 ≤ G.length → z0 ≤ gh_sz G →
      gh_T z p l e room_1 s m #[Value.ref b] below meth c 15 g0 z0 Q 0 0 pc lo st G := by
  intro n
  induction n with
  | zero => intro pc lo st G h; cases h
  | succ n ih =>
    intro pc lo st G h hg hz
    have hfin := gh_px_mono (gh_cl_mono d) _ _ _ _ _ _ _ _ _ h
    have hRc : room_1.cells = 620120 := rfl
    have hRs : room_1.slots = 7241264 := rfl
    have hRf : room_1.frames = 2048 := rfl
    have hRl : room_1.locals = 84000 := rfl
    rw [gh_px] at h
    split at h
    · cases h; exact kk
    · split at h
      · cases h
      · next i len hlk =>
        have hmem := gh_look hlk
        have hd := gh_lwD (pc, i, len) hmem
        obtain ⟨hlen, hput, hstP, hkn⟩ := gh_chk gh_lwC hmem
        rw [← hnm] at hput
        split at h
        · cases h
        · next pc1 lo1 st1 gK1 hs =>
          have h1 := gh_step_mono hs
          have h2 := gh_px_mono (gh_cl_mono d) _ _ _ _ _ _ _ _ _ h
          exact gh_stepT hC hd hlen hput hs (fun _ => ⟨he0, rfl, rfl⟩) hg hz (by omega) (by omega) (by omega) (by omega) (by omega) (by omega) hstP (ih _ _ _ _ h (by omega) (by omega))
        · cases h
        · next μ as r hs =>
          obtain ⟨hl3, hμ⟩ := gh_call_len hs hlen hkn
          subst hl3
          split at h
          · next v gK1 hc =>
            split at h
            · next hμ2 =>
              have h1 := gh_cl_mono _ _ _ _ _ _ hc
              have h2 := gh_px_mono (gh_cl_mono d) _ _ _ _ _ _ _ _ _ h
              obtain ⟨q, m9, hq, -⟩ := gh_Mall μ hμ2
              refine gh_callW hC hd hkn hμ2 hs hq (gh_norm l hst z false N d μ as G _ gK1 hμ2 hc q hq) (fun _ => ⟨he0, rfl⟩) hg hz h1.1 h1.2 (by omega) (by omega) (by simp only [gh_th]; omega) (by simp only [gh_th]; omega) (fun w9 hw => ?_) (fun E hE => by cases hE)
              cases hw
              exact ih _ _ _ _ h (by omega) (by omega)
            · cases h
          · cases h
end GL
