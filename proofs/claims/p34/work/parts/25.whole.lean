section GWh
/-- what is left: for this script the ghost law comes to its end with true, in its room -/
def gs_Goal (xs : List Int32) : Prop := ∃ (N d n b : Nat) (gKf : gh_H), d ≤ 2000 ∧ gh_ec (gh_cw N d) (some .boolean) gk_law n b 16 gb_lo [] ((20, xs.map .int) :: (gb_tab 0 gb_s0 1 gb_sh ++ gb_tab 186 gb_s0 1 gb_sh)) = some (some (.int 1), gKf) ∧ gKf.length - 1 + 0 + b ≤ 620120 ∧ gh_sz gKf - xs.length + 0 + 6 * b ≤ 7241264
theorem gs_px : gh_px (gh_cl false 10000 10) 8 gk_law 100 0 [(0, .ref 0)] [] [(99, [])] = some (8, gb_lo1, [], (99, []) :: gb_tab 0 gb_s0 1 gb_sh) := by
  have h := gb_is_eq gb_px0
  rw [gb_px_eq, gb_cl_eq (by omega)] at h
  exact h
theorem gs_px1 : gh_px (gh_cl false 10000 10) 16 gk_law 100 8 gb_lo1 [] ((99, []) :: gb_tab 0 gb_s0 1 gb_sh) = some (16, gb_lo, [], (99, []) :: (gb_tab 0 gb_s0 1 gb_sh ++ gb_tab 186 gb_s0 1 gb_sh)) := by
  have h := gb_is_eq gb_px1
  rw [gb_px_eq, gb_cl_eq (by omega)] at h
  exact h
theorem gs_room : ((99, []) :: (gb_tab 0 gb_s0 1 gb_sh ++ gb_tab 186 gb_s0 1 gb_sh) : gh_H).length - 1 ≤ 620120 ∧ gh_sz ((99, []) :: (gb_tab 0 gb_s0 1 gb_sh ++ gb_tab 186 gb_s0 1 gb_sh)) - 0 ≤ 7241264 := by decide +kernel
theorem gs_room1 : ((99, []) :: gb_tab 0 gb_s0 1 gb_sh : gh_H).length - 1 ≤ 620120 ∧ gh_sz ((99, []) :: gb_tab 0 gb_s0 1 gb_sh) - 0 ≤ 7241264 := by decide +kernel
theorem gs_sz (a : gh_C) (T : gh_H) : gh_sz (a :: T) = a.2.length + gh_sz T := by unfold gh_sz; rw [List.map_cons, List.sum_cons]
theorem gs_e2 (T : gh_H) (xs : List Int32) : gh_sz ((20, xs.map Value.int) :: T) - xs.length + 0 = gh_sz ((99, []) :: T) - 0 + 0 := by
  rw [gs_sz, gs_sz]
  show (xs.map Value.int).length + gh_sz T - xs.length + 0 = 0 + gh_sz T - 0 + 0
  rw [List.length_map]
  omega
theorem gs_e3 (T : gh_H) (xs : List Int32) : xs.length ≤ gh_sz ((20, xs.map Value.int) :: T) := by
  rw [gs_sz]
  show xs.length ≤ (xs.map Value.int).length + gh_sz T
  rw [List.length_map]
  omega
theorem whole_start {p : Program} {e : Env} {s : State} {m : MethodId} {below : List Frame} {meth : Method} {c : Code} (l : Launch) (hflags : l.flags = flags0) {b L : Nat} {xs : Nat → Int32} (hL : L ≤ 260) (C0 : lw_At p s m meth c b L xs) (hnm : meth.name = "law") (hgoal : gs_Goal ((List.range L).map xs)) : W p l e room_1 s m #[Value.ref b] below meth c s.heap [] 0 0 (lw_Z below #[Value.ref b] s) (entryFrame m ([Value.ref b] : List Value).toArray 15) := by
  obtain ⟨D, ty, hKB⟩ := gs_KB C0
  obtain ⟨hx, hb, hr, hml, hown, hts, hX, hbl, hlocks, hgv⟩ := id C0
  have hst : l.stackTraces = false := by unfold Launch.stackTraces; rw [hflags]; decide
  obtain ⟨N, d, n, b8, gKf, hd, hrun, hc1, hc2⟩ := hgoal
  generalize hz : ((D, ty, b, s.heap.size, (List.range L).map xs) : gh_Z) = z at hKB
  have hzb : z.2.2.1 = b := by rw [← hz]
  have hzs : z.2.2.2.1 = s.heap.size := by rw [← hz]
  have hzx : z.2.2.2.2 = (List.range L).map xs := by rw [← hz]
  have hC : gh_Cx z p s m #[Value.ref b] meth c 9 code 15 (some .boolean) "law" := ⟨hx, hb, hml, hr, hlocks, hown, gs_sub hts, hKB, hnm⟩
  have T1 := gh_bodyL (e := e) (below := below) (g0 := 1) (z0 := ((List.range L).map xs).length) hC hst rfl hzs hd n b8 16 gb_lo [] _ 0 0 hrun (by show 1 ≤ _ + 1; omega) (gs_e3 _ _) hc1 hc2
  have T2 : gh_T z p l e room_1 s m #[Value.ref b] below meth c 15 1 0 (lw_Z below #[Value.ref b] s) 0 0 16 gb_lo [] ((99, []) :: (gb_tab 0 gb_s0 1 gb_sh ++ gb_tab 186 gb_s0 1 gb_sh)) := by
    intro H locs ls hR hS hl
    have h := T1 H locs ls ⟨hR.1, Or.inl (by rw [hzx]; rfl)⟩ hS hl
    rw [gs_e2] at h
    exact h
  have T3 := gh_pre (N := 10000) (d := 10) (g0 := 1) (z0 := 0) hC hst rfl (by rw [hzs]) (by omega) gs_room1 (gh_pre (N := 10000) (d := 10) (g0 := 1) (z0 := 0) hC hst rfl (by rw [hzs]) (by omega) gs_room T2 100 8 gb_lo1 [] ((99, []) :: gb_tab 0 gb_s0 1 gb_sh) gs_px1 (by show 1 ≤ _ + 1; omega) (Nat.zero_le _)) 100 0 [(0, .ref 0)] [] [(99, [])] gs_px (Nat.le_refl _) (Nat.zero_le _)
  have hl := lv_entry ([.ref b]) (n := 15) (Nat.le_of_ble_eq_true rfl)
  rw [lg_entry_eq]
  generalize (lg_sl ([.ref b]) ++ List.replicate (15 - (lg_sl ([.ref b])).length) Slot.unset).toArray = ls at hl ⊢
  have hl2 : lv_has ls 15 (gh_lm z [(0, .ref 0)]) := by
    have : gh_lm z [(0, .ref 0)] = [(0, .ref b)] := by rw [← hzb]; rfl
    rw [this]
    exact hl
  exact T3 s.heap [] ls ⟨fun k q h => (by cases h), Or.inr rfl⟩ va_S.rf hl2
end GWh
