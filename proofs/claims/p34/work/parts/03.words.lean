/-! THE WORDS that the machine's tables hold, by their places -/
def gh_wsG : List Cond := lw_tbl.filter goodWord
theorem gh_w (i : Nat) {w : Cond} (h : tables_1[i]? = some w) (g : goodWord w = true) : w ∈ gh_wsG := List.mem_filter.mpr ⟨List.mem_append_right _ (List.mem_of_getElem? h), g⟩
theorem gh_wp (i : Nat) {q : MethodName × Nat} (h : lw_privs[i]? = some q) : Cond.selects q.1.cls q.1 q.1 ∈ gh_wsG := List.mem_filter.mpr ⟨List.mem_append_left _ (List.mem_map.mpr ⟨q, List.mem_of_getElem? h, rfl⟩), rfl⟩
def gh_isN (w : Cond) : Bool := match w with
  | .fieldLinkNest _ _ _ _ _ _ => true
  | .methodLinkNest _ _ _ _ => true
  | .castable _ _ => true
  | .declares _ => true
  | _ => false
/-- the words of nest mates: these are carried along with the state -/
def gh_nst : List Cond := tables_1.filter gh_isN
theorem gh_n (i : Nat) {w : Cond} (h : tables_1[i]? = some w) (g : gh_isN w = true) : w ∈ gh_nst := List.mem_filter.mpr ⟨List.mem_of_getElem? h, g⟩
theorem gh_nstW {s U : State} (hW : s.WarmedH U.vm) : ∀ w ∈ gh_nst, va_Nw w s → va_Nw w U := by
  intro w hw h
  have hi := (List.mem_filter.mp hw).2
  cases w with
  | fieldLinkNest a i b n d h9 => exact va_Nw.warmF hW h
  | methodLinkNest a i x h9 => exact va_Nw.warmM hW h
  | castable C T => exact va_Nw.warmC hW h
  | declares x => exact va_Nw.warmD hW h
  | _ => cases hi
theorem gh_nstT : ∀ w ∈ gh_nst, w.onTables = true := by
  intro w hw
  have hi := (List.mem_filter.mp hw).2
  cases w with
  | fieldLinkNest a i b n d h9 => rfl
  | methodLinkNest a i x h9 => rfl
  | castable C T => rfl
  | declares x => rfl
  | _ => cases hi
theorem gh_goodIn : GoodIn gh_wsG gh_wsG := fun w h => ⟨h, good_of_word (List.mem_filter.mp h).2⟩
def gh_on (own : Nat) : String := (["Treeclerk$Court", "Treeclerk$Estate", "Treeclerk$Folk", "Treeclerk$Kin", "Treeclerk$Land", "Treeclerk$Proofs", "Treeclerk$Shares", "Treeclerk", "TreeclerkModel", "TreeclerkLaw", "java/lang/Integer", "java/lang/Math", "java/util/Arrays"] : List String).getD own ""
set_option maxRecDepth 100000 in
theorem gh_c0 : ∀ w ∈ u_ws RX0 TX0 5, w ∈ gh_wsG := by
  intro w hw
  obtain ⟨k, hk, rfl⟩ := List.mem_map.mp hw
  have hk := List.mem_range.mp hk
  match k, hk with
  | 0, _ => exact gh_w 150 rfl rfl
  | 1, _ => exact gh_w 152 rfl rfl
  | 2, _ => exact gh_w 154 rfl rfl
  | 3, _ => exact gh_w 156 rfl rfl
  | 4, _ => exact gh_w 158 rfl rfl
  | k + 5, h => exact absurd h (by omega)
set_option maxRecDepth 100000 in
theorem gh_c1 : ∀ w ∈ u_ws RX1 TX1 11, w ∈ gh_wsG := by
  intro w hw
  obtain ⟨k, hk, rfl⟩ := List.mem_map.mp hw
  have hk := List.mem_range.mp hk
  match k, hk with
  | 0, _ => exact gh_w 240 rfl rfl
  | 1, _ => exact gh_w 242 rfl rfl
  | 2, _ => exact gh_w 244 rfl rfl
  | 3, _ => exact gh_w 246 rfl rfl
  | 4, _ => exact gh_w 248 rfl rfl
  | 5, _ => exact gh_w 250 rfl rfl
  | 6, _ => exact gh_w 252 rfl rfl
  | 7, _ => exact gh_w 254 rfl rfl
  | 8, _ => exact gh_w 256 rfl rfl
  | 9, _ => exact gh_w 258 rfl rfl
  | 10, _ => exact gh_w 260 rfl rfl
  | k + 11, h => exact absurd h (by omega)
set_option maxRecDepth 100000 in
theorem gh_c2 : ∀ w ∈ u_ws RX2 TX2 5, w ∈ gh_wsG := by
  intro w hw
  obtain ⟨k, hk, rfl⟩ := List.mem_map.mp hw
  have hk := List.mem_range.mp hk
  match k, hk with
  | 0, _ => exact gh_w 43 rfl rfl
  | 1, _ => exact gh_w 45 rfl rfl
  | 2, _ => exact gh_w 47 rfl rfl
  | 3, _ => exact gh_w 49 rfl rfl
  | 4, _ => exact gh_w 51 rfl rfl
  | k + 5, h => exact absurd h (by omega)
set_option maxRecDepth 100000 in
theorem gh_c3 : ∀ w ∈ u_ws RX3 TX3 4, w ∈ gh_wsG := by
  intro w hw
  obtain ⟨k, hk, rfl⟩ := List.mem_map.mp hw
  have hk := List.mem_range.mp hk
  match k, hk with
  | 0, _ => exact gh_w 111 rfl rfl
  | 1, _ => exact gh_w 113 rfl rfl
  | 2, _ => exact gh_w 115 rfl rfl
  | 3, _ => exact gh_w 117 rfl rfl
  | k + 4, h => exact absurd h (by omega)
set_option maxRecDepth 100000 in
theorem gh_c4 : ∀ w ∈ u_ws RX4 TX4 12, w ∈ gh_wsG := by
  intro w hw
  obtain ⟨k, hk, rfl⟩ := List.mem_map.mp hw
  have hk := List.mem_range.mp hk
  match k, hk with
  | 0, _ => exact gh_w 181 rfl rfl
  | 1, _ => exact gh_w 183 rfl rfl
  | 2, _ => exact gh_w 185 rfl rfl
  | 3, _ => exact gh_w 187 rfl rfl
  | 4, _ => exact gh_w 189 rfl rfl
  | 5, _ => exact gh_w 191 rfl rfl
  | 6, _ => exact gh_w 193 rfl rfl
  | 7, _ => exact gh_w 195 rfl rfl
  | 8, _ => exact gh_w 197 rfl rfl
  | 9, _ => exact gh_w 199 rfl rfl
  | 10, _ => exact gh_w 201 rfl rfl
  | 11, _ => exact gh_w 203 rfl rfl
  | k + 12, h => exact absurd h (by omega)
set_option maxRecDepth 100000 in
theorem gh_c5 : ∀ w ∈ u_ws RX5 TX5 10, w ∈ gh_wsG := by
  intro w hw
  obtain ⟨k, hk, rfl⟩ := List.mem_map.mp hw
  have hk := List.mem_range.mp hk
  match k, hk with
  | 0, _ => exact gh_w 76 rfl rfl
  | 1, _ => exact gh_w 78 rfl rfl
  | 2, _ => exact gh_w 80 rfl rfl
  | 3, _ => exact gh_w 82 rfl rfl
  | 4, _ => exact gh_w 84 rfl rfl
  | 5, _ => exact gh_w 86 rfl rfl
  | 6, _ => exact gh_w 88 rfl rfl
  | 7, _ => exact gh_w 90 rfl rfl
  | 8, _ => exact gh_w 92 rfl rfl
  | 9, _ => exact gh_w 94 rfl rfl
  | k + 10, h => exact absurd h (by omega)
set_option maxRecDepth 100000 in
theorem gh_c6 : ∀ w ∈ u_ws RX6 TX6 2, w ∈ gh_wsG := by
  intro w hw
  obtain ⟨k, hk, rfl⟩ := List.mem_map.mp hw
  have hk := List.mem_range.mp hk
  match k, hk with
  | 0, _ => exact gh_w 139 rfl rfl
  | 1, _ => exact gh_w 141 rfl rfl
  | k + 2, h => exact absurd h (by omega)
set_option maxRecDepth 100000 in
theorem gh_c7 : ∀ w ∈ u_ws RX7 TX7 10, w ∈ gh_wsG := by
  intro w hw
  obtain ⟨k, hk, rfl⟩ := List.mem_map.mp hw
  have hk := List.mem_range.mp hk
  match k, hk with
  | 0, _ => exact gh_w 273 rfl rfl
  | 1, _ => exact gh_w 275 rfl rfl
  | 2, _ => exact gh_w 277 rfl rfl
  | 3, _ => exact gh_w 279 rfl rfl
  | 4, _ => exact gh_w 281 rfl rfl
  | 5, _ => exact gh_w 283 rfl rfl
  | 6, _ => exact gh_w 285 rfl rfl
  | 7, _ => exact gh_w 287 rfl rfl
  | 8, _ => exact gh_w 289 rfl rfl
  | 9, _ => exact gh_w 291 rfl rfl
  | k + 10, h => exact absurd h (by omega)
def gh_fOK (own : Nat) (e : Nat × Nat × Nat) : Prop := ∃ (C : String) (T : u_T) (N : Nat), vwCl[e.2.1]? = some (C, T, N) ∧ e.2.2 < N ∧ (T e.2.2).1 = C ∧ ((Cond.fieldLink (gh_on own) e.1 (T e.2.2).1 (T e.2.2).2.1 (T e.2.2).2.2.1 ∈ gh_wsG ∧ ((T e.2.2).2.2.2 = true → C = gh_on own)) ∨ ((T e.2.2).2.2.2 = false ∧ ∃ host : String, Cond.fieldLinkNest (gh_on own) e.1 (T e.2.2).1 (T e.2.2).2.1 (T e.2.2).2.2.1 host ∈ gh_nst) ∨ ((T e.2.2).2.2.2 = true ∧ C ≠ gh_on own ∧ ((Cond.fieldLink (gh_on own) e.1 (T e.2.2).1 (T e.2.2).2.1 (T e.2.2).2.2.1 ∈ gh_wsG) ∨ ∃ host : String, Cond.fieldLinkNest (gh_on own) e.1 (T e.2.2).1 (T e.2.2).2.1 (T e.2.2).2.2.1 host ∈ gh_nst)))
set_option maxRecDepth 100000 in
theorem gh_f0 : ∀ e ∈ gh_ft.getD 0 [], gh_fOK 0 e := by
  show ∀ e ∈ ([(12, 0, 0), (18, 0, 1), (22, 0, 2), (25, 0, 3), (28, 0, 4), (42, 2, 3), (98, 1, 4), (104, 1, 5), (107, 2, 4), (114, 1, 0)] : List (Nat × Nat × Nat)), gh_fOK 0 e
  exact List.forall_mem_cons.mpr ⟨⟨_, _, _, rfl, by decide, rfl, Or.inl ⟨gh_w 145 rfl rfl, by decide +kernel⟩⟩, List.forall_mem_cons.mpr ⟨⟨_, _, _, rfl, by decide, rfl, Or.inl ⟨gh_w 146 rfl rfl, by decide +kernel⟩⟩, List.forall_mem_cons.mpr ⟨⟨_, _, _, rfl, by decide, rfl, Or.inl ⟨gh_w 147 rfl rfl, by decide +kernel⟩⟩, List.forall_mem_cons.mpr ⟨⟨_, _, _, rfl, by decide, rfl, Or.inl ⟨gh_w 148 rfl rfl, by decide +kernel⟩⟩, List.forall_mem_cons.mpr ⟨⟨_, _, _, rfl, by decide, rfl, Or.inl ⟨gh_w 149 rfl rfl, by decide +kernel⟩⟩, List.forall_mem_cons.mpr ⟨⟨_, _, _, rfl, by decide, rfl, Or.inr (Or.inl ⟨rfl, _, gh_n 38 rfl rfl⟩)⟩, List.forall_mem_cons.mpr ⟨⟨_, _, _, rfl, by decide, rfl, Or.inr (Or.inl ⟨rfl, _, gh_n 224 rfl rfl⟩)⟩, List.forall_mem_cons.mpr ⟨⟨_, _, _, rfl, by decide, rfl, Or.inr (Or.inl ⟨rfl, _, gh_n 226 rfl rfl⟩)⟩, List.forall_mem_cons.mpr ⟨⟨_, _, _, rfl, by decide, rfl, Or.inr (Or.inl ⟨rfl, _, gh_n 41 rfl rfl⟩)⟩, List.forall_mem_cons.mpr ⟨⟨_, _, _, rfl, by decide, rfl, Or.inr (Or.inr ⟨rfl, by decide +kernel, Or.inr ⟨_, gh_n 216 rfl rfl⟩⟩)⟩, (fun _ h => absurd h List.not_mem_nil)⟩⟩⟩⟩⟩⟩⟩⟩⟩⟩
set_option maxRecDepth 100000 in
theorem gh_f1 : ∀ e ∈ gh_ft.getD 1 [], gh_fOK 1 e := by
  show ∀ e ∈ ([(9, 1, 1), (15, 1, 2), (18, 1, 3), (22, 1, 4), (26, 1, 5), (29, 1, 6), (32, 1, 7), (38, 1, 8), (42, 1, 9), (45, 1, 10), (48, 1, 0)] : List (Nat × Nat × Nat)), gh_fOK 1 e
  exact List.forall_mem_cons.mpr ⟨⟨_, _, _, rfl, by decide, rfl, Or.inl ⟨gh_w 218 rfl rfl, by decide +kernel⟩⟩, List.forall_mem_cons.mpr ⟨⟨_, _, _, rfl, by decide, rfl, Or.inl ⟨gh_w 219 rfl rfl, by decide +kernel⟩⟩, List.forall_mem_cons.mpr ⟨⟨_, _, _, rfl, by decide, rfl, Or.inl ⟨gh_w 220 rfl rfl, by decide +kernel⟩⟩, List.forall_mem_cons.mpr ⟨⟨_, _, _, rfl, by decide, rfl, Or.inl ⟨gh_w 222 rfl rfl, by decide +kernel⟩⟩, List.forall_mem_cons.mpr ⟨⟨_, _, _, rfl, by decide, rfl, Or.inl ⟨gh_w 225 rfl rfl, by decide +kernel⟩⟩, List.forall_mem_cons.mpr ⟨⟨_, _, _, rfl, by decide, rfl, Or.inl ⟨gh_w 228 rfl rfl, by decide +kernel⟩⟩, List.forall_mem_cons.mpr ⟨⟨_, _, _, rfl, by decide, rfl, Or.inl ⟨gh_w 230 rfl rfl, by decide +kernel⟩⟩, List.forall_mem_cons.mpr ⟨⟨_, _, _, rfl, by decide, rfl, Or.inl ⟨gh_w 232 rfl rfl, by decide +kernel⟩⟩, List.forall_mem_cons.mpr ⟨⟨_, _, _, rfl, by decide, rfl, Or.inl ⟨gh_w 235 rfl rfl, by decide +kernel⟩⟩, List.forall_mem_cons.mpr ⟨⟨_, _, _, rfl, by decide, rfl, Or.inl ⟨gh_w 238 rfl rfl, by decide +kernel⟩⟩, List.forall_mem_cons.mpr ⟨⟨_, _, _, rfl, by decide, rfl, Or.inl ⟨gh_w 215 rfl rfl, by decide +kernel⟩⟩, (fun _ h => absurd h List.not_mem_nil)⟩⟩⟩⟩⟩⟩⟩⟩⟩⟩⟩
set_option maxRecDepth 100000 in
theorem gh_f2 : ∀ e ∈ gh_ft.getD 2 [], gh_fOK 2 e := by
  show ∀ e ∈ ([(9, 2, 0), (15, 2, 1), (18, 2, 2), (21, 2, 3), (25, 2, 4)] : List (Nat × Nat × Nat)), gh_fOK 2 e
  exact List.forall_mem_cons.mpr ⟨⟨_, _, _, rfl, by decide, rfl, Or.inl ⟨gh_w 34 rfl rfl, by decide +kernel⟩⟩, List.forall_mem_cons.mpr ⟨⟨_, _, _, rfl, by decide, rfl, Or.inl ⟨gh_w 35 rfl rfl, by decide +kernel⟩⟩, List.forall_mem_cons.mpr ⟨⟨_, _, _, rfl, by decide, rfl, Or.inl ⟨gh_w 36 rfl rfl, by decide +kernel⟩⟩, List.forall_mem_cons.mpr ⟨⟨_, _, _, rfl, by decide, rfl, Or.inl ⟨gh_w 37 rfl rfl, by decide +kernel⟩⟩, List.forall_mem_cons.mpr ⟨⟨_, _, _, rfl, by decide, rfl, Or.inl ⟨gh_w 40 rfl rfl, by decide +kernel⟩⟩, (fun _ h => absurd h List.not_mem_nil)⟩⟩⟩⟩⟩
set_option maxRecDepth 100000 in
theorem gh_f3 : ∀ e ∈ gh_ft.getD 3 [], gh_fOK 3 e := by
  show ∀ e ∈ ([(9, 3, 0), (15, 3, 1), (18, 3, 2), (21, 3, 3), (51, 5, 5), (57, 5, 0), (60, 5, 1)] : List (Nat × Nat × Nat)), gh_fOK 3 e
  exact List.forall_mem_cons.mpr ⟨⟨_, _, _, rfl, by decide, rfl, Or.inl ⟨gh_w 107 rfl rfl, by decide +kernel⟩⟩, List.forall_mem_cons.mpr ⟨⟨_, _, _, rfl, by decide, rfl, Or.inl ⟨gh_w 108 rfl rfl, by decide +kernel⟩⟩, List.forall_mem_cons.mpr ⟨⟨_, _, _, rfl, by decide, rfl, Or.inl ⟨gh_w 109 rfl rfl, by decide +kernel⟩⟩, List.forall_mem_cons.mpr ⟨⟨_, _, _, rfl, by decide, rfl, Or.inl ⟨gh_w 110 rfl rfl, by decide +kernel⟩⟩, List.forall_mem_cons.mpr ⟨⟨_, _, _, rfl, by decide, rfl, Or.inr (Or.inl ⟨rfl, _, gh_n 69 rfl rfl⟩)⟩, List.forall_mem_cons.mpr ⟨⟨_, _, _, rfl, by decide, rfl, Or.inr (Or.inr ⟨rfl, by decide +kernel, Or.inr ⟨_, gh_n 62 rfl rfl⟩⟩)⟩, List.forall_mem_cons.mpr ⟨⟨_, _, _, rfl, by decide, rfl, Or.inr (Or.inr ⟨rfl, by decide +kernel, Or.inr ⟨_, gh_n 64 rfl rfl⟩⟩)⟩, (fun _ h => absurd h List.not_mem_nil)⟩⟩⟩⟩⟩⟩⟩
set_option maxRecDepth 100000 in
theorem gh_f4 : ∀ e ∈ gh_ft.getD 4 [], gh_fOK 4 e := by
  show ∀ e ∈ ([(9, 4, 0), (15, 4, 1), (18, 4, 2), (21, 4, 3), (24, 4, 4), (28, 4, 5), (32, 4, 6), (35, 4, 7), (38, 4, 8), (41, 4, 9), (44, 4, 10), (47, 4, 11), (77, 1, 0), (96, 1, 10), (99, 1, 9), (107, 1, 8)] : List (Nat × Nat × Nat)), gh_fOK 4 e
  exact List.forall_mem_cons.mpr ⟨⟨_, _, _, rfl, by decide, rfl, Or.inl ⟨gh_w 168 rfl rfl, by decide +kernel⟩⟩, List.forall_mem_cons.mpr ⟨⟨_, _, _, rfl, by decide, rfl, Or.inl ⟨gh_w 169 rfl rfl, by decide +kernel⟩⟩, List.forall_mem_cons.mpr ⟨⟨_, _, _, rfl, by decide, rfl, Or.inl ⟨gh_w 170 rfl rfl, by decide +kernel⟩⟩, List.forall_mem_cons.mpr ⟨⟨_, _, _, rfl, by decide, rfl, Or.inl ⟨gh_w 171 rfl rfl, by decide +kernel⟩⟩, List.forall_mem_cons.mpr ⟨⟨_, _, _, rfl, by decide, rfl, Or.inl ⟨gh_w 172 rfl rfl, by decide +kernel⟩⟩, List.forall_mem_cons.mpr ⟨⟨_, _, _, rfl, by decide, rfl, Or.inl ⟨gh_w 173 rfl rfl, by decide +kernel⟩⟩, List.forall_mem_cons.mpr ⟨⟨_, _, _, rfl, by decide, rfl, Or.inl ⟨gh_w 174 rfl rfl, by decide +kernel⟩⟩, List.forall_mem_cons.mpr ⟨⟨_, _, _, rfl, by decide, rfl, Or.inl ⟨gh_w 176 rfl rfl, by decide +kernel⟩⟩, List.forall_mem_cons.mpr ⟨⟨_, _, _, rfl, by decide, rfl, Or.inl ⟨gh_w 177 rfl rfl, by decide +kernel⟩⟩, List.forall_mem_cons.mpr ⟨⟨_, _, _, rfl, by decide, rfl, Or.inl ⟨gh_w 178 rfl rfl, by decide +kernel⟩⟩, List.forall_mem_cons.mpr ⟨⟨_, _, _, rfl, by decide, rfl, Or.inl ⟨gh_w 179 rfl rfl, by decide +kernel⟩⟩, List.forall_mem_cons.mpr ⟨⟨_, _, _, rfl, by decide, rfl, Or.inl ⟨gh_w 180 rfl rfl, by decide +kernel⟩⟩, List.forall_mem_cons.mpr ⟨⟨_, _, _, rfl, by decide, rfl, Or.inr (Or.inr ⟨rfl, by decide +kernel, Or.inr ⟨_, gh_n 217 rfl rfl⟩⟩)⟩, List.forall_mem_cons.mpr ⟨⟨_, _, _, rfl, by decide, rfl, Or.inr (Or.inr ⟨rfl, by decide +kernel, Or.inr ⟨_, gh_n 239 rfl rfl⟩⟩)⟩, List.forall_mem_cons.mpr ⟨⟨_, _, _, rfl, by decide, rfl, Or.inr (Or.inr ⟨rfl, by decide +kernel, Or.inr ⟨_, gh_n 236 rfl rfl⟩⟩)⟩, List.forall_mem_cons.mpr ⟨⟨_, _, _, rfl, by decide, rfl, Or.inr (Or.inr ⟨rfl, by decide +kernel, Or.inr ⟨_, gh_n 233 rfl rfl⟩⟩)⟩, (fun _ h => absurd h List.not_mem_nil)⟩⟩⟩⟩⟩⟩⟩⟩⟩⟩⟩⟩⟩⟩⟩⟩
set_option maxRecDepth 100000 in
theorem gh_f5 : ∀ e ∈ gh_ft.getD 5 [], gh_fOK 5 e := by
  show ∀ e ∈ ([(9, 5, 0), (15, 5, 1), (18, 5, 2), (21, 5, 3), (24, 5, 4), (28, 5, 5), (32, 5, 6), (35, 5, 7), (38, 5, 8), (41, 5, 9)] : List (Nat × Nat × Nat)), gh_fOK 5 e
  exact List.forall_mem_cons.mpr ⟨⟨_, _, _, rfl, by decide, rfl, Or.inl ⟨gh_w 61 rfl rfl, by decide +kernel⟩⟩, List.forall_mem_cons.mpr ⟨⟨_, _, _, rfl, by decide, rfl, Or.inl ⟨gh_w 63 rfl rfl, by decide +kernel⟩⟩, List.forall_mem_cons.mpr ⟨⟨_, _, _, rfl, by decide, rfl, Or.inl ⟨gh_w 65 rfl rfl, by decide +kernel⟩⟩, List.forall_mem_cons.mpr ⟨⟨_, _, _, rfl, by decide, rfl, Or.inl ⟨gh_w 66 rfl rfl, by decide +kernel⟩⟩, List.forall_mem_cons.mpr ⟨⟨_, _, _, rfl, by decide, rfl, Or.inl ⟨gh_w 67 rfl rfl, by decide +kernel⟩⟩, List.forall_mem_cons.mpr ⟨⟨_, _, _, rfl, by decide, rfl, Or.inl ⟨gh_w 68 rfl rfl, by decide +kernel⟩⟩, List.forall_mem_cons.mpr ⟨⟨_, _, _, rfl, by decide, rfl, Or.inl ⟨gh_w 71 rfl rfl, by decide +kernel⟩⟩, List.forall_mem_cons.mpr ⟨⟨_, _, _, rfl, by decide, rfl, Or.inl ⟨gh_w 72 rfl rfl, by decide +kernel⟩⟩, List.forall_mem_cons.mpr ⟨⟨_, _, _, rfl, by decide, rfl, Or.inl ⟨gh_w 73 rfl rfl, by decide +kernel⟩⟩, List.forall_mem_cons.mpr ⟨⟨_, _, _, rfl, by decide, rfl, Or.inl ⟨gh_w 74 rfl rfl, by decide +kernel⟩⟩, (fun _ h => absurd h List.not_mem_nil)⟩⟩⟩⟩⟩⟩⟩⟩⟩⟩
set_option maxRecDepth 100000 in
theorem gh_f6 : ∀ e ∈ gh_ft.getD 6 [], gh_fOK 6 e := by
  show ∀ e ∈ ([(9, 6, 0), (15, 6, 1)] : List (Nat × Nat × Nat)), gh_fOK 6 e
  exact List.forall_mem_cons.mpr ⟨⟨_, _, _, rfl, by decide, rfl, Or.inl ⟨gh_w 137 rfl rfl, by decide +kernel⟩⟩, List.forall_mem_cons.mpr ⟨⟨_, _, _, rfl, by decide, rfl, Or.inl ⟨gh_w 138 rfl rfl, by decide +kernel⟩⟩, (fun _ h => absurd h List.not_mem_nil)⟩⟩
set_option maxRecDepth 100000 in
theorem gh_f7 : ∀ e ∈ gh_ft.getD 7 [], gh_fOK 7 e := by
  show ∀ e ∈ ([(12, 7, 0), (19, 7, 1), (26, 7, 2), (30, 7, 3), (35, 7, 4), (42, 7, 5), (49, 7, 6), (56, 7, 7), (60, 7, 8), (63, 7, 9), (84, 2, 3), (103, 1, 4), (123, 5, 5), (142, 5, 9), (200, 1, 3), (203, 1, 8), (210, 2, 4), (213, 1, 5), (220, 1, 6), (247, 1, 7), (267, 4, 6), (282, 1, 9)] : List (Nat × Nat × Nat)), gh_fOK 7 e
  exact List.forall_mem_cons.mpr ⟨⟨_, _, _, rfl, by decide, rfl, Or.inl ⟨gh_w 263 rfl rfl, by decide +kernel⟩⟩, List.forall_mem_cons.mpr ⟨⟨_, _, _, rfl, by decide, rfl, Or.inl ⟨gh_w 264 rfl rfl, by decide +kernel⟩⟩, List.forall_mem_cons.mpr ⟨⟨_, _, _, rfl, by decide, rfl, Or.inl ⟨gh_w 265 rfl rfl, by decide +kernel⟩⟩, List.forall_mem_cons.mpr ⟨⟨_, _, _, rfl, by decide, rfl, Or.inl ⟨gh_w 266 rfl rfl, by decide +kernel⟩⟩, List.forall_mem_cons.mpr ⟨⟨_, _, _, rfl, by decide, rfl, Or.inl ⟨gh_w 267 rfl rfl, by decide +kernel⟩⟩, List.forall_mem_cons.mpr ⟨⟨_, _, _, rfl, by decide, rfl, Or.inl ⟨gh_w 268 rfl rfl, by decide +kernel⟩⟩, List.forall_mem_cons.mpr ⟨⟨_, _, _, rfl, by decide, rfl, Or.inl ⟨gh_w 269 rfl rfl, by decide +kernel⟩⟩, List.forall_mem_cons.mpr ⟨⟨_, _, _, rfl, by decide, rfl, Or.inl ⟨gh_w 270 rfl rfl, by decide +kernel⟩⟩, List.forall_mem_cons.mpr ⟨⟨_, _, _, rfl, by decide, rfl, Or.inl ⟨gh_w 271 rfl rfl, by decide +kernel⟩⟩, List.forall_mem_cons.mpr ⟨⟨_, _, _, rfl, by decide, rfl, Or.inl ⟨gh_w 272 rfl rfl, by decide +kernel⟩⟩, List.forall_mem_cons.mpr ⟨⟨_, _, _, rfl, by decide, rfl, Or.inr (Or.inl ⟨rfl, _, gh_n 39 rfl rfl⟩)⟩, List.forall_mem_cons.mpr ⟨⟨_, _, _, rfl, by decide, rfl, Or.inr (Or.inl ⟨rfl, _, gh_n 223 rfl rfl⟩)⟩, List.forall_mem_cons.mpr ⟨⟨_, _, _, rfl, by decide, rfl, Or.inr (Or.inl ⟨rfl, _, gh_n 70 rfl rfl⟩)⟩, List.forall_mem_cons.mpr ⟨⟨_, _, _, rfl, by decide, rfl, Or.inr (Or.inl ⟨rfl, _, gh_n 75 rfl rfl⟩)⟩, List.forall_mem_cons.mpr ⟨⟨_, _, _, rfl, by decide, rfl, Or.inr (Or.inl ⟨rfl, _, gh_n 221 rfl rfl⟩)⟩, List.forall_mem_cons.mpr ⟨⟨_, _, _, rfl, by decide, rfl, Or.inr (Or.inr ⟨rfl, by decide +kernel, Or.inr ⟨_, gh_n 234 rfl rfl⟩⟩)⟩, List.forall_mem_cons.mpr ⟨⟨_, _, _, rfl, by decide, rfl, Or.inr (Or.inl ⟨rfl, _, gh_n 42 rfl rfl⟩)⟩, List.forall_mem_cons.mpr ⟨⟨_, _, _, rfl, by decide, rfl, Or.inr (Or.inl ⟨rfl, _, gh_n 227 rfl rfl⟩)⟩, List.forall_mem_cons.mpr ⟨⟨_, _, _, rfl, by decide, rfl, Or.inr (Or.inl ⟨rfl, _, gh_n 229 rfl rfl⟩)⟩, List.forall_mem_cons.mpr ⟨⟨_, _, _, rfl, by decide, rfl, Or.inr (Or.inl ⟨rfl, _, gh_n 231 rfl rfl⟩)⟩, List.forall_mem_cons.mpr ⟨⟨_, _, _, rfl, by decide, rfl, Or.inr (Or.inl ⟨rfl, _, gh_n 175 rfl rfl⟩)⟩, List.forall_mem_cons.mpr ⟨⟨_, _, _, rfl, by decide, rfl, Or.inr (Or.inr ⟨rfl, by decide +kernel, Or.inr ⟨_, gh_n 237 rfl rfl⟩⟩)⟩, (fun _ h => absurd h List.not_mem_nil)⟩⟩⟩⟩⟩⟩⟩⟩⟩⟩⟩⟩⟩⟩⟩⟩⟩⟩⟩⟩⟩⟩
set_option maxRecDepth 100000 in
theorem gh_f8 : ∀ e ∈ gh_ft.getD 8 [], gh_fOK 8 e := by
  show ∀ e ∈ ([] : List (Nat × Nat × Nat)), gh_fOK 8 e
  exact (fun _ h => absurd h List.not_mem_nil)
set_option maxRecDepth 100000 in
theorem gh_f9 : ∀ e ∈ gh_ft.getD 9 [], gh_fOK 9 e := by
  show ∀ e ∈ ([] : List (Nat × Nat × Nat)), gh_fOK 9 e
  exact (fun _ h => absurd h List.not_mem_nil)
set_option maxRecDepth 100000 in
theorem gh_f10 : ∀ e ∈ gh_ft.getD 10 [], gh_fOK 10 e := by
  show ∀ e ∈ ([] : List (Nat × Nat × Nat)), gh_fOK 10 e
  exact (fun _ h => absurd h List.not_mem_nil)
set_option maxRecDepth 100000 in
theorem gh_f11 : ∀ e ∈ gh_ft.getD 11 [], gh_fOK 11 e := by
  show ∀ e ∈ ([] : List (Nat × Nat × Nat)), gh_fOK 11 e
  exact (fun _ h => absurd h List.not_mem_nil)
set_option maxRecDepth 100000 in
theorem gh_f12 : ∀ e ∈ gh_ft.getD 12 [], gh_fOK 12 e := by
  show ∀ e ∈ ([] : List (Nat × Nat × Nat)), gh_fOK 12 e
  exact (fun _ h => absurd h List.not_mem_nil)
/-- a method: its name, bytes, locals, what it returns, its kind: 0 of an object, 1 static, 2 a constructor -/
def gh_yt0 : List (MethodName × ByteArray × Nat × Option FieldType × Nat) := [(⟨"Treeclerk$Court", "<init>", "()V"⟩, prog_2_method_1_code, 1, none, 2), (⟨"Treeclerk$Court", "shareFromHeads", "(LTreeclerk$Folk;LTreeclerk$Kin;LTreeclerk$Estate;LTreeclerk$Shares;)V"⟩, prog_2_method_2_code, 7, none, 0), (⟨"Treeclerk$Court", "passOn", "(ILTreeclerk$Kin;)V"⟩, prog_2_method_3_code, 7, none, 0), (⟨"Treeclerk$Court", "shareFromPersons", "(LTreeclerk$Folk;LTreeclerk$Kin;LTreeclerk$Estate;LTreeclerk$Shares;)V"⟩, prog_2_method_4_code, 6, none, 0), (⟨"Treeclerk$Court", "findComing", "(ILTreeclerk$Kin;I)V"⟩, prog_2_method_5_code, 4, none, 0), (⟨"Treeclerk$Court", "addPartOf", "(IILTreeclerk$Kin;I)V"⟩, prog_2_method_6_code, 6, none, 0), (⟨"Treeclerk$Court", "addAsHead", "(I)V"⟩, prog_2_method_7_code, 2, none, 0), (⟨"Treeclerk$Court", "lookAt", "(LTreeclerk$Folk;LTreeclerk$Kin;LTreeclerk$Estate;)V"⟩, prog_2_method_8_code, 4, none, 0), (⟨"Treeclerk$Court", "findLivingLines", "(LTreeclerk$Folk;LTreeclerk$Kin;LTreeclerk$Estate;)I"⟩, prog_2_method_9_code, 9, some Jvm.ClassFile.FieldType.int, 0), (⟨"Treeclerk$Court", "findHeads", "(LTreeclerk$Kin;I)I"⟩, prog_2_method_10_code, 5, some Jvm.ClassFile.FieldType.int, 0), (⟨"Treeclerk$Court", "joinWithWill", "(LTreeclerk$Estate;LTreeclerk$Shares;)V"⟩, prog_2_method_11_code, 8, none, 0), (⟨"Treeclerk$Court", "weightFor", "(LTreeclerk$Estate;I)I"⟩, prog_2_method_12_code, 3, some Jvm.ClassFile.FieldType.int, 0), (⟨"Treeclerk$Estate", "<init>", "(I)V"⟩, prog_3_method_1_code, 2, none, 2), (⟨"Treeclerk$Estate", "weightOf", "(I)I"⟩, prog_3_method_2_code, 2, some Jvm.ClassFile.FieldType.int, 0), (⟨"Treeclerk$Estate", "setWeight", "(II)I"⟩, prog_3_method_3_code, 4, some Jvm.ClassFile.FieldType.int, 0), (⟨"Treeclerk$Estate", "hasClaimOf", "(I)Z"⟩, prog_3_method_4_code, 2, some Jvm.ClassFile.FieldType.boolean, 0), (⟨"Treeclerk$Estate", "addClaim", "(I)V"⟩, prog_3_method_5_code, 2, none, 0), (⟨"Treeclerk$Estate", "dropClaim", "(I)Z"⟩, prog_3_method_6_code, 4, some Jvm.ClassFile.FieldType.boolean, 0), (⟨"Treeclerk$Estate", "placeOf", "(I)I"⟩, prog_3_method_7_code, 3, some Jvm.ClassFile.FieldType.int, 0), (⟨"Treeclerk$Estate", "rankHeirs", "(LTreeclerk$Shares;[I)I"⟩, prog_3_method_8_code, 5, some Jvm.ClassFile.FieldType.int, 0), (⟨"Treeclerk$Estate", "rankNext", "(ILTreeclerk$Shares;[II)I"⟩, prog_3_method_9_code, 4, some Jvm.ClassFile.FieldType.int, 1), (⟨"Treeclerk$Folk", "<init>", "()V"⟩, prog_4_method_1_code, 1, none, 2), (⟨"Treeclerk$Folk", "enter", "(I)I"⟩, prog_4_method_2_code, 4, some Jvm.ClassFile.FieldType.int, 0), (⟨"Treeclerk$Folk", "bury", "(II)V"⟩, prog_4_method_3_code, 3, none, 0), (⟨"Treeclerk$Folk", "isDead", "(I)Z"⟩, prog_4_method_4_code, 2, some Jvm.ClassFile.FieldType.boolean, 0)]
def gh_yt1 : List (MethodName × ByteArray × Nat × Option FieldType × Nat) := [(⟨"Treeclerk$Folk", "bornOn", "(I)I"⟩, prog_4_method_5_code, 2, some Jvm.ClassFile.FieldType.int, 0), (⟨"Treeclerk$Folk", "diedOn", "(I)I"⟩, prog_4_method_6_code, 2, some Jvm.ClassFile.FieldType.int, 0), (⟨"Treeclerk$Folk", "isOlder", "(II)Z"⟩, prog_4_method_7_code, 3, some Jvm.ClassFile.FieldType.boolean, 0), (⟨"Treeclerk$Folk", "byAge", "(I)I"⟩, prog_4_method_8_code, 2, some Jvm.ClassFile.FieldType.int, 0), (⟨"Treeclerk$Kin", "<init>", "()V"⟩, prog_5_method_1_code, 1, none, 2), (⟨"Treeclerk$Kin", "firstParent", "(I)I"⟩, prog_5_method_2_code, 2, some Jvm.ClassFile.FieldType.int, 0), (⟨"Treeclerk$Kin", "secondParent", "(I)I"⟩, prog_5_method_3_code, 2, some Jvm.ClassFile.FieldType.int, 0), (⟨"Treeclerk$Kin", "childSet", "(I)I"⟩, prog_5_method_4_code, 2, some Jvm.ClassFile.FieldType.int, 0), (⟨"Treeclerk$Kin", "parentSet", "(I)I"⟩, prog_5_method_5_code, 2, some Jvm.ClassFile.FieldType.int, 0), (⟨"Treeclerk$Kin", "setOf", "(I)I"⟩, prog_5_method_6_code, 1, some Jvm.ClassFile.FieldType.int, 1), (⟨"Treeclerk$Kin", "tell", "(LTreeclerk$Proofs;I)V"⟩, prog_5_method_7_code, 4, none, 0), (⟨"Treeclerk$Kin", "weigh", "(LTreeclerk$Proofs;II)V"⟩, prog_5_method_8_code, 6, none, 0), (⟨"Treeclerk$Kin", "strongestBut", "(I)I"⟩, prog_5_method_9_code, 5, some Jvm.ClassFile.FieldType.int, 0), (⟨"Treeclerk$Kin", "addChild", "(II)V"⟩, prog_5_method_10_code, 3, none, 0), (⟨"Treeclerk$Land", "<init>", "()V"⟩, prog_6_method_1_code, 1, none, 2), (⟨"Treeclerk$Land", "keptOwner", "(I)I"⟩, prog_6_method_2_code, 2, some Jvm.ClassFile.FieldType.int, 0), (⟨"Treeclerk$Land", "isGrantedWithin", "(II)Z"⟩, prog_6_method_3_code, 4, some Jvm.ClassFile.FieldType.boolean, 0), (⟨"Treeclerk$Land", "countUnits", "(III)I"⟩, prog_6_method_4_code, 4, some Jvm.ClassFile.FieldType.int, 0), (⟨"Treeclerk$Land", "parcelStart", "(I)I"⟩, prog_6_method_5_code, 3, some Jvm.ClassFile.FieldType.int, 0), (⟨"Treeclerk$Land", "parcelEnd", "(I)I"⟩, prog_6_method_6_code, 3, some Jvm.ClassFile.FieldType.int, 0), (⟨"Treeclerk$Land", "enterGrant", "(III)V"⟩, prog_6_method_7_code, 5, none, 0), (⟨"Treeclerk$Land", "enterHanding", "(IIII)V"⟩, prog_6_method_8_code, 5, none, 0), (⟨"Treeclerk$Land", "enterClosing", "(LTreeclerk$Estate;)I"⟩, prog_6_method_9_code, 3, some Jvm.ClassFile.FieldType.int, 0), (⟨"Treeclerk$Land", "enter", "(IIII)I"⟩, prog_6_method_10_code, 5, some Jvm.ClassFile.FieldType.int, 0), (⟨"Treeclerk$Land", "redrawFrom", "(I[LTreeclerk$Estate;)I"⟩, prog_6_method_11_code, 5, some Jvm.ClassFile.FieldType.int, 0)]
def gh_yt2 : List (MethodName × ByteArray × Nat × Option FieldType × Nat) := [(⟨"Treeclerk$Land", "foundOwner", "(I[LTreeclerk$Estate;)I"⟩, prog_6_method_12_code, 5, some Jvm.ClassFile.FieldType.int, 0), (⟨"Treeclerk$Land", "handOver", "([II)V"⟩, prog_6_method_13_code, 4, none, 0), (⟨"Treeclerk$Land", "drawKept", "(LTreeclerk$Estate;)V"⟩, prog_6_method_14_code, 2, none, 0), (⟨"Treeclerk$Land", "draw", "([ILTreeclerk$Estate;LTreeclerk$Shares;)V"⟩, prog_6_method_15_code, 7, none, 0), (⟨"Treeclerk$Land", "takeFrom", "(II)I"⟩, prog_6_method_16_code, 3, some Jvm.ClassFile.FieldType.int, 0), (⟨"Treeclerk$Land", "portionOut", "(IILTreeclerk$Shares;)V"⟩, prog_6_method_17_code, 6, none, 0), (⟨"Treeclerk$Land", "isPlace", "(I[LTreeclerk$Estate;)Z"⟩, prog_6_method_18_code, 2, some Jvm.ClassFile.FieldType.boolean, 1), (⟨"Treeclerk$Land", "countIn", "([IIII)I"⟩, prog_6_method_19_code, 6, some Jvm.ClassFile.FieldType.int, 1), (⟨"Treeclerk$Proofs", "<init>", "()V"⟩, prog_7_method_1_code, 1, none, 2), (⟨"Treeclerk$Proofs", "file", "(III)I"⟩, prog_7_method_2_code, 4, some Jvm.ClassFile.FieldType.int, 0), (⟨"Treeclerk$Proofs", "fileDoubt", "(II)I"⟩, prog_7_method_3_code, 3, some Jvm.ClassFile.FieldType.int, 0), (⟨"Treeclerk$Proofs", "settle", "(IZ)V"⟩, prog_7_method_4_code, 5, none, 0), (⟨"Treeclerk$Proofs", "lift", "(I)V"⟩, prog_7_method_5_code, 3, none, 0), (⟨"Treeclerk$Proofs", "isProof", "(I)Z"⟩, prog_7_method_6_code, 2, some Jvm.ClassFile.FieldType.boolean, 0), (⟨"Treeclerk$Proofs", "isOpen", "(I)Z"⟩, prog_7_method_7_code, 2, some Jvm.ClassFile.FieldType.boolean, 0), (⟨"Treeclerk$Proofs", "hasFallen", "(I)Z"⟩, prog_7_method_8_code, 2, some Jvm.ClassFile.FieldType.boolean, 0), (⟨"Treeclerk$Proofs", "countOpen", "(I)I"⟩, prog_7_method_9_code, 4, some Jvm.ClassFile.FieldType.int, 0), (⟨"Treeclerk$Proofs", "strengthOf", "(I)I"⟩, prog_7_method_10_code, 2, some Jvm.ClassFile.FieldType.int, 0), (⟨"Treeclerk$Shares", "<init>", "()V"⟩, prog_8_method_1_code, 1, none, 2), (⟨"Treeclerk$Shares", "clear", "()V"⟩, prog_8_method_2_code, 1, none, 0), (⟨"Treeclerk$Shares", "copy", "(LTreeclerk$Shares;)V"⟩, prog_8_method_3_code, 2, none, 0), (⟨"Treeclerk$Shares", "aboveOf", "(I)J"⟩, prog_8_method_4_code, 2, some Jvm.ClassFile.FieldType.long, 0), (⟨"Treeclerk$Shares", "belowOf", "(I)J"⟩, prog_8_method_5_code, 2, some Jvm.ClassFile.FieldType.long, 0), (⟨"Treeclerk$Shares", "add", "(IJJ)V"⟩, prog_8_method_6_code, 12, none, 0), (⟨"Treeclerk$Shares", "unitsFor", "(II)I"⟩, prog_8_method_7_code, 5, some Jvm.ClassFile.FieldType.int, 0)]
def gh_yt3 : List (MethodName × ByteArray × Nat × Option FieldType × Nat) := [(⟨"Treeclerk$Shares", "countHeirs", "()I"⟩, prog_8_method_8_code, 3, some Jvm.ClassFile.FieldType.int, 0), (⟨"Treeclerk$Shares", "isSame", "(LTreeclerk$Shares;)Z"⟩, prog_8_method_9_code, 3, some Jvm.ClassFile.FieldType.boolean, 0), (⟨"Treeclerk$Shares", "commonDivisor", "(JJ)J"⟩, prog_8_method_10_code, 7, some Jvm.ClassFile.FieldType.long, 1), (⟨"Treeclerk", "<init>", "()V"⟩, prog_1_method_1_code, 2, none, 2), (⟨"Treeclerk", "pass", "(I)I"⟩, prog_1_method_2_code, 2, some Jvm.ClassFile.FieldType.int, 0), (⟨"Treeclerk", "today", "()I"⟩, prog_1_method_3_code, 1, some Jvm.ClassFile.FieldType.int, 0), (⟨"Treeclerk", "birth", "(I)I"⟩, prog_1_method_4_code, 2, some Jvm.ClassFile.FieldType.int, 0), (⟨"Treeclerk", "death", "(I)I"⟩, prog_1_method_5_code, 4, some Jvm.ClassFile.FieldType.int, 0), (⟨"Treeclerk", "people", "()I"⟩, prog_1_method_6_code, 1, some Jvm.ClassFile.FieldType.int, 0), (⟨"Treeclerk", "isAlive", "(I)Z"⟩, prog_1_method_7_code, 2, some Jvm.ClassFile.FieldType.boolean, 0), (⟨"Treeclerk", "proof", "(III)I"⟩, prog_1_method_8_code, 5, some Jvm.ClassFile.FieldType.int, 0), (⟨"Treeclerk", "doubt", "(II)I"⟩, prog_1_method_9_code, 4, some Jvm.ClassFile.FieldType.int, 0), (⟨"Treeclerk", "judge", "(IZ)I"⟩, prog_1_method_10_code, 3, some Jvm.ClassFile.FieldType.int, 0), (⟨"Treeclerk", "strength", "(I)I"⟩, prog_1_method_11_code, 2, some Jvm.ClassFile.FieldType.int, 0), (⟨"Treeclerk", "openDoubts", "()I"⟩, prog_1_method_12_code, 3, some Jvm.ClassFile.FieldType.int, 0), (⟨"Treeclerk", "parentOf", "(II)I"⟩, prog_1_method_13_code, 3, some Jvm.ClassFile.FieldType.int, 0), (⟨"Treeclerk", "childrenOf", "(I)I"⟩, prog_1_method_14_code, 2, some Jvm.ClassFile.FieldType.int, 0), (⟨"Treeclerk", "will", "(III)I"⟩, prog_1_method_15_code, 4, some Jvm.ClassFile.FieldType.int, 0), (⟨"Treeclerk", "claim", "(II)I"⟩, prog_1_method_16_code, 4, some Jvm.ClassFile.FieldType.int, 0), (⟨"Treeclerk", "claims", "(I)I"⟩, prog_1_method_17_code, 2, some Jvm.ClassFile.FieldType.int, 0), (⟨"Treeclerk", "close", "(I)I"⟩, prog_1_method_18_code, 3, some Jvm.ClassFile.FieldType.int, 0), (⟨"Treeclerk", "isClosed", "(I)Z"⟩, prog_1_method_19_code, 2, some Jvm.ClassFile.FieldType.boolean, 0), (⟨"Treeclerk", "shareAbove", "(II)J"⟩, prog_1_method_20_code, 3, some Jvm.ClassFile.FieldType.long, 0), (⟨"Treeclerk", "shareBelow", "(II)J"⟩, prog_1_method_21_code, 3, some Jvm.ClassFile.FieldType.long, 0), (⟨"Treeclerk", "shareAboveByWays", "(II)J"⟩, prog_1_method_22_code, 3, some Jvm.ClassFile.FieldType.long, 0)]
def gh_yt4 : List (MethodName × ByteArray × Nat × Option FieldType × Nat) := [(⟨"Treeclerk", "heirs", "(I)I"⟩, prog_1_method_23_code, 2, some Jvm.ClassFile.FieldType.int, 0), (⟨"Treeclerk", "disputes", "(I)I"⟩, prog_1_method_24_code, 6, some Jvm.ClassFile.FieldType.int, 0), (⟨"Treeclerk", "reopenings", "(I)I"⟩, prog_1_method_25_code, 2, some Jvm.ClassFile.FieldType.int, 0), (⟨"Treeclerk", "grant", "(III)I"⟩, prog_1_method_26_code, 4, some Jvm.ClassFile.FieldType.int, 0), (⟨"Treeclerk", "hand", "(IIII)I"⟩, prog_1_method_27_code, 6, some Jvm.ClassFile.FieldType.int, 0), (⟨"Treeclerk", "owner", "(I)I"⟩, prog_1_method_28_code, 2, some Jvm.ClassFile.FieldType.int, 0), (⟨"Treeclerk", "ownerAnew", "(I)I"⟩, prog_1_method_29_code, 3, some Jvm.ClassFile.FieldType.int, 0), (⟨"Treeclerk", "area", "(I)I"⟩, prog_1_method_30_code, 2, some Jvm.ClassFile.FieldType.int, 0), (⟨"Treeclerk", "parcels", "()I"⟩, prog_1_method_31_code, 3, some Jvm.ClassFile.FieldType.int, 0), (⟨"Treeclerk", "parcelAt", "(I)I"⟩, prog_1_method_32_code, 3, some Jvm.ClassFile.FieldType.int, 0), (⟨"Treeclerk", "requirePerson", "(I)V"⟩, prog_1_method_33_code, 2, none, 0), (⟨"Treeclerk", "requireProof", "(I)V"⟩, prog_1_method_34_code, 2, none, 0), (⟨"Treeclerk", "requireUnit", "(I)V"⟩, prog_1_method_35_code, 2, none, 0), (⟨"Treeclerk", "requireWeight", "(II)V"⟩, prog_1_method_36_code, 3, none, 0), (⟨"Treeclerk", "requireOthers", "(II)V"⟩, prog_1_method_37_code, 3, none, 0), (⟨"Treeclerk", "requireUnits", "(II)V"⟩, prog_1_method_38_code, 3, none, 0), (⟨"Treeclerk", "requireAlive", "(I)V"⟩, prog_1_method_39_code, 2, none, 0), (⟨"Treeclerk", "requireDead", "(I)V"⟩, prog_1_method_40_code, 2, none, 0), (⟨"Treeclerk", "requireUnclosed", "(LTreeclerk$Estate;)V"⟩, prog_1_method_41_code, 2, none, 0), (⟨"Treeclerk", "sharesNow", "(I)LTreeclerk$Shares;"⟩, prog_1_method_42_code, 3, some (Jvm.ClassFile.FieldType.object "Treeclerk$Shares"), 0), (⟨"Treeclerk", "wouldBeOthers", "(LTreeclerk$Estate;LTreeclerk$Shares;I)Z"⟩, prog_1_method_43_code, 4, some Jvm.ClassFile.FieldType.boolean, 0), (⟨"Treeclerk", "retellKin", "()I"⟩, prog_1_method_44_code, 4, some Jvm.ClassFile.FieldType.int, 0), (⟨"Treeclerk", "reopen", "(LTreeclerk$Estate;)Z"⟩, prog_1_method_45_code, 2, some Jvm.ClassFile.FieldType.boolean, 0), (⟨"Treeclerk", "isIn", "(II)Z"⟩, prog_1_method_46_code, 2, some Jvm.ClassFile.FieldType.boolean, 1), (⟨"java/lang/Integer", "bitCount", "(I)I"⟩, prog_16_method_49_code, 1, some Jvm.ClassFile.FieldType.int, 1)]
def gh_yt5 : List (MethodName × ByteArray × Nat × Option FieldType × Nat) := [(⟨"java/util/Arrays", "fill", "([II)V"⟩, prog_22_method_103_code, 4, none, 1), (⟨"java/util/Arrays", "fill", "([JJ)V"⟩, prog_22_method_101_code, 5, none, 1), (⟨"TreeclerkLaw", "drawn", "([II)I"⟩, method_2_code, 3, some Jvm.ClassFile.FieldType.int, 1), (⟨"TreeclerkLaw", "act", "(LTreeclerk;II)I"⟩, method_3_code, 4, some Jvm.ClassFile.FieldType.int, 1), (⟨"TreeclerkLaw", "does", "(LTreeclerk;III)I"⟩, method_4_code, 5, some Jvm.ClassFile.FieldType.int, 1), (⟨"TreeclerkLaw", "tell", "(LTreeclerk;IIII)I"⟩, method_5_code, 6, some Jvm.ClassFile.FieldType.int, 1), (⟨"TreeclerkLaw", "hand", "(LTreeclerk;IIII)I"⟩, method_6_code, 6, some Jvm.ClassFile.FieldType.int, 1), (⟨"TreeclerkLaw", "share", "(LTreeclerk;III)J"⟩, method_7_code, 5, some Jvm.ClassFile.FieldType.long, 1), (⟨"TreeclerkLaw", "of", "(LTreeclerk;II)I"⟩, method_8_code, 4, some Jvm.ClassFile.FieldType.int, 1), (⟨"TreeclerkLaw", "parent", "(LTreeclerk;II)I"⟩, method_9_code, 4, some Jvm.ClassFile.FieldType.int, 1), (⟨"TreeclerkLaw", "parcel", "(LTreeclerk;I)I"⟩, method_10_code, 3, some Jvm.ClassFile.FieldType.int, 1), (⟨"TreeclerkLaw", "same", "(LTreeclerk;LTreeclerk;II)Z"⟩, method_11_code, 11, some Jvm.ClassFile.FieldType.boolean, 1)]
def gh_yt : List (MethodName × ByteArray × Nat × Option FieldType × Nat) := gh_yt0 ++ (gh_yt1 ++ (gh_yt2 ++ (gh_yt3 ++ (gh_yt4 ++ (gh_yt5)))))
def gh_yOK (q : MethodName × ByteArray × Nat × Option FieldType × Nat) : Prop := Cond.code q.1 q.2.1 q.2.2.1 q.2.2.2.1 ∈ gh_wsG ∧ Cond.initialized q.1.cls ∈ gh_wsG ∧ (q.1.cls ≠ "java/lang/invoke/MethodHandle" ∧ q.1.cls ≠ "java/lang/invoke/VarHandle") ∧ plainName q.1.cls = true ∧ q.2.2.1 ≤ 12 ∧
  ((q.2.2.2.2 = 0 ∧ Cond.instanceMethod q.1 ∈ gh_wsG ∧ Cond.selects q.1.cls q.1 q.1 ∈ gh_wsG) ∨ (q.2.2.2.2 = 1 ∧ Cond.static q.1 ∈ gh_wsG) ∨ (q.2.2.2.2 = 2 ∧ q.1.name = "<init>" ∧ q.2.2.2.1 = none ∧ Cond.instanceMethod q.1 ∈ gh_wsG))
set_option maxRecDepth 100000 in
theorem gh_y0 : ∃ q, gh_yt[0]? = some q ∧ gh_yOK q := ⟨_, rfl, ⟨gh_w 126 rfl rfl, gh_w 6 rfl rfl, ⟨by decide, by decide⟩, by decide +kernel, by decide, Or.inr (Or.inr ⟨rfl, rfl, rfl, gh_w 125 rfl rfl⟩)⟩⟩
set_option maxRecDepth 100000 in
theorem gh_y1 : ∃ q, gh_yt[1]? = some q ∧ gh_yOK q := ⟨_, rfl, ⟨gh_w 476 rfl rfl, gh_w 6 rfl rfl, ⟨by decide, by decide⟩, by decide +kernel, by decide, Or.inl ⟨rfl, gh_w 474 rfl rfl, gh_w 475 rfl rfl⟩⟩⟩
set_option maxRecDepth 100000 in
theorem gh_y2 : ∃ q, gh_yt[2]? = some q ∧ gh_yOK q := ⟨_, rfl, ⟨gh_w 548 rfl rfl, gh_w 6 rfl rfl, ⟨by decide, by decide⟩, by decide +kernel, by decide, Or.inl ⟨rfl, gh_w 547 rfl rfl, gh_wp 10 rfl⟩⟩⟩
set_option maxRecDepth 100000 in
theorem gh_y3 : ∃ q, gh_yt[3]? = some q ∧ gh_yOK q := ⟨_, rfl, ⟨gh_w 930 rfl rfl, gh_w 6 rfl rfl, ⟨by decide, by decide⟩, by decide +kernel, by decide, Or.inl ⟨rfl, gh_w 928 rfl rfl, gh_w 929 rfl rfl⟩⟩⟩
set_option maxRecDepth 100000 in
theorem gh_y4 : ∃ q, gh_yt[4]? = some q ∧ gh_yOK q := ⟨_, rfl, ⟨gh_w 934 rfl rfl, gh_w 6 rfl rfl, ⟨by decide, by decide⟩, by decide +kernel, by decide, Or.inl ⟨rfl, gh_w 933 rfl rfl, gh_wp 32 rfl⟩⟩⟩
set_option maxRecDepth 100000 in
theorem gh_y5 : ∃ q, gh_yt[5]? = some q ∧ gh_yOK q := ⟨_, rfl, ⟨gh_w 938 rfl rfl, gh_w 6 rfl rfl, ⟨by decide, by decide⟩, by decide +kernel, by decide, Or.inl ⟨rfl, gh_w 937 rfl rfl, gh_wp 33 rfl⟩⟩⟩
set_option maxRecDepth 100000 in
theorem gh_y6 : ∃ q, gh_yt[6]? = some q ∧ gh_yOK q := ⟨_, rfl, ⟨gh_w 527 rfl rfl, gh_w 6 rfl rfl, ⟨by decide, by decide⟩, by decide +kernel, by decide, Or.inl ⟨rfl, gh_w 526 rfl rfl, gh_wp 9 rfl⟩⟩⟩
set_option maxRecDepth 100000 in
theorem gh_y7 : ∃ q, gh_yt[7]? = some q ∧ gh_yOK q := ⟨_, rfl, ⟨gh_w 480 rfl rfl, gh_w 6 rfl rfl, ⟨by decide, by decide⟩, by decide +kernel, by decide, Or.inl ⟨rfl, gh_w 479 rfl rfl, gh_wp 6 rfl⟩⟩⟩
set_option maxRecDepth 100000 in
theorem gh_y8 : ∃ q, gh_yt[8]? = some q ∧ gh_yOK q := ⟨_, rfl, ⟨gh_w 484 rfl rfl, gh_w 6 rfl rfl, ⟨by decide, by decide⟩, by decide +kernel, by decide, Or.inl ⟨rfl, gh_w 483 rfl rfl, gh_wp 7 rfl⟩⟩⟩
set_option maxRecDepth 100000 in
theorem gh_y9 : ∃ q, gh_yt[9]? = some q ∧ gh_yOK q := ⟨_, rfl, ⟨gh_w 502 rfl rfl, gh_w 6 rfl rfl, ⟨by decide, by decide⟩, by decide +kernel, by decide, Or.inl ⟨rfl, gh_w 501 rfl rfl, gh_wp 8 rfl⟩⟩⟩
set_option maxRecDepth 100000 in
theorem gh_y10 : ∃ q, gh_yt[10]? = some q ∧ gh_yOK q := ⟨_, rfl, ⟨gh_w 556 rfl rfl, gh_w 6 rfl rfl, ⟨by decide, by decide⟩, by decide +kernel, by decide, Or.inl ⟨rfl, gh_w 555 rfl rfl, gh_wp 11 rfl⟩⟩⟩
set_option maxRecDepth 100000 in
theorem gh_y11 : ∃ q, gh_yt[11]? = some q ∧ gh_yOK q := ⟨_, rfl, ⟨gh_w 560 rfl rfl, gh_w 6 rfl rfl, ⟨by decide, by decide⟩, by decide +kernel, by decide, Or.inl ⟨rfl, gh_w 559 rfl rfl, gh_wp 12 rfl⟩⟩⟩
set_option maxRecDepth 100000 in
theorem gh_y12 : ∃ q, gh_yt[12]? = some q ∧ gh_yOK q := ⟨_, rfl, ⟨gh_w 211 rfl rfl, gh_w 9 rfl rfl, ⟨by decide, by decide⟩, by decide +kernel, by decide, Or.inr (Or.inr ⟨rfl, rfl, rfl, gh_w 210 rfl rfl⟩)⟩⟩
set_option maxRecDepth 100000 in
theorem gh_y13 : ∃ q, gh_yt[13]? = some q ∧ gh_yOK q := ⟨_, rfl, ⟨gh_w 564 rfl rfl, gh_w 9 rfl rfl, ⟨by decide, by decide⟩, by decide +kernel, by decide, Or.inl ⟨rfl, gh_w 562 rfl rfl, gh_w 563 rfl rfl⟩⟩⟩
set_option maxRecDepth 100000 in
theorem gh_y14 : ∃ q, gh_yt[14]? = some q ∧ gh_yOK q := ⟨_, rfl, ⟨gh_w 762 rfl rfl, gh_w 9 rfl rfl, ⟨by decide, by decide⟩, by decide +kernel, by decide, Or.inl ⟨rfl, gh_w 760 rfl rfl, gh_w 761 rfl rfl⟩⟩⟩
set_option maxRecDepth 100000 in
theorem gh_y15 : ∃ q, gh_yt[15]? = some q ∧ gh_yOK q := ⟨_, rfl, ⟨gh_w 595 rfl rfl, gh_w 9 rfl rfl, ⟨by decide, by decide⟩, by decide +kernel, by decide, Or.inl ⟨rfl, gh_w 593 rfl rfl, gh_w 594 rfl rfl⟩⟩⟩
set_option maxRecDepth 100000 in
theorem gh_y16 : ∃ q, gh_yt[16]? = some q ∧ gh_yOK q := ⟨_, rfl, ⟨gh_w 732 rfl rfl, gh_w 9 rfl rfl, ⟨by decide, by decide⟩, by decide +kernel, by decide, Or.inl ⟨rfl, gh_w 730 rfl rfl, gh_w 731 rfl rfl⟩⟩⟩
set_option maxRecDepth 100000 in
theorem gh_y17 : ∃ q, gh_yt[17]? = some q ∧ gh_yOK q := ⟨_, rfl, ⟨gh_w 454 rfl rfl, gh_w 9 rfl rfl, ⟨by decide, by decide⟩, by decide +kernel, by decide, Or.inl ⟨rfl, gh_w 452 rfl rfl, gh_w 453 rfl rfl⟩⟩⟩
set_option maxRecDepth 100000 in
theorem gh_y18 : ∃ q, gh_yt[18]? = some q ∧ gh_yOK q := ⟨_, rfl, ⟨gh_w 458 rfl rfl, gh_w 9 rfl rfl, ⟨by decide, by decide⟩, by decide +kernel, by decide, Or.inl ⟨rfl, gh_w 457 rfl rfl, gh_wp 3 rfl⟩⟩⟩
set_option maxRecDepth 100000 in
theorem gh_y19 : ∃ q, gh_yt[19]? = some q ∧ gh_yOK q := ⟨_, rfl, ⟨gh_w 587 rfl rfl, gh_w 9 rfl rfl, ⟨by decide, by decide⟩, by decide +kernel, by decide, Or.inl ⟨rfl, gh_w 585 rfl rfl, gh_w 586 rfl rfl⟩⟩⟩
set_option maxRecDepth 100000 in
theorem gh_y20 : ∃ q, gh_yt[20]? = some q ∧ gh_yOK q := ⟨_, rfl, ⟨gh_w 590 rfl rfl, gh_w 9 rfl rfl, ⟨by decide, by decide⟩, by decide +kernel, by decide, Or.inr (Or.inl ⟨rfl, gh_w 589 rfl rfl⟩)⟩⟩
set_option maxRecDepth 100000 in
theorem gh_y21 : ∃ q, gh_yt[21]? = some q ∧ gh_yOK q := ⟨_, rfl, ⟨gh_w 32 rfl rfl, gh_w 2 rfl rfl, ⟨by decide, by decide⟩, by decide +kernel, by decide, Or.inr (Or.inr ⟨rfl, rfl, rfl, gh_w 31 rfl rfl⟩)⟩⟩
set_option maxRecDepth 100000 in
theorem gh_y22 : ∃ q, gh_yt[22]? = some q ∧ gh_yOK q := ⟨_, rfl, ⟨gh_w 406 rfl rfl, gh_w 2 rfl rfl, ⟨by decide, by decide⟩, by decide +kernel, by decide, Or.inl ⟨rfl, gh_w 404 rfl rfl, gh_w 405 rfl rfl⟩⟩⟩
set_option maxRecDepth 100000 in
theorem gh_y23 : ∃ q, gh_yt[23]? = some q ∧ gh_yOK q := ⟨_, rfl, ⟨gh_w 450 rfl rfl, gh_w 2 rfl rfl, ⟨by decide, by decide⟩, by decide +kernel, by decide, Or.inl ⟨rfl, gh_w 448 rfl rfl, gh_w 449 rfl rfl⟩⟩⟩
set_option maxRecDepth 100000 in
theorem gh_y24 : ∃ q, gh_yt[24]? = some q ∧ gh_yOK q := ⟨_, rfl, ⟨gh_w 442 rfl rfl, gh_w 2 rfl rfl, ⟨by decide, by decide⟩, by decide +kernel, by decide, Or.inl ⟨rfl, gh_w 440 rfl rfl, gh_w 441 rfl rfl⟩⟩⟩
set_option maxRecDepth 100000 in
theorem gh_y25 : ∃ q, gh_yt[25]? = some q ∧ gh_yOK q := ⟨_, rfl, ⟨gh_w 410 rfl rfl, gh_w 2 rfl rfl, ⟨by decide, by decide⟩, by decide +kernel, by decide, Or.inl ⟨rfl, gh_w 408 rfl rfl, gh_w 409 rfl rfl⟩⟩⟩
set_option maxRecDepth 100000 in
theorem gh_y26 : ∃ q, gh_yt[26]? = some q ∧ gh_yOK q := ⟨_, rfl, ⟨gh_w 488 rfl rfl, gh_w 2 rfl rfl, ⟨by decide, by decide⟩, by decide +kernel, by decide, Or.inl ⟨rfl, gh_w 486 rfl rfl, gh_w 487 rfl rfl⟩⟩⟩
set_option maxRecDepth 100000 in
theorem gh_y27 : ∃ q, gh_yt[27]? = some q ∧ gh_yOK q := ⟨_, rfl, ⟨gh_w 743 rfl rfl, gh_w 2 rfl rfl, ⟨by decide, by decide⟩, by decide +kernel, by decide, Or.inl ⟨rfl, gh_w 741 rfl rfl, gh_w 742 rfl rfl⟩⟩⟩
set_option maxRecDepth 100000 in
theorem gh_y28 : ∃ q, gh_yt[28]? = some q ∧ gh_yOK q := ⟨_, rfl, ⟨gh_w 492 rfl rfl, gh_w 2 rfl rfl, ⟨by decide, by decide⟩, by decide +kernel, by decide, Or.inl ⟨rfl, gh_w 490 rfl rfl, gh_w 491 rfl rfl⟩⟩⟩
set_option maxRecDepth 100000 in
theorem gh_y29 : ∃ q, gh_yt[29]? = some q ∧ gh_yOK q := ⟨_, rfl, ⟨gh_w 102 rfl rfl, gh_w 4 rfl rfl, ⟨by decide, by decide⟩, by decide +kernel, by decide, Or.inr (Or.inr ⟨rfl, rfl, rfl, gh_w 101 rfl rfl⟩)⟩⟩
set_option maxRecDepth 100000 in
theorem gh_y30 : ∃ q, gh_yt[30]? = some q ∧ gh_yOK q := ⟨_, rfl, ⟨gh_w 510 rfl rfl, gh_w 4 rfl rfl, ⟨by decide, by decide⟩, by decide +kernel, by decide, Or.inl ⟨rfl, gh_w 508 rfl rfl, gh_w 509 rfl rfl⟩⟩⟩
set_option maxRecDepth 100000 in
theorem gh_y31 : ∃ q, gh_yt[31]? = some q ∧ gh_yOK q := ⟨_, rfl, ⟨gh_w 517 rfl rfl, gh_w 4 rfl rfl, ⟨by decide, by decide⟩, by decide +kernel, by decide, Or.inl ⟨rfl, gh_w 515 rfl rfl, gh_w 516 rfl rfl⟩⟩⟩
set_option maxRecDepth 100000 in
theorem gh_y32 : ∃ q, gh_yt[32]? = some q ∧ gh_yOK q := ⟨_, rfl, ⟨gh_w 498 rfl rfl, gh_w 4 rfl rfl, ⟨by decide, by decide⟩, by decide +kernel, by decide, Or.inl ⟨rfl, gh_w 496 rfl rfl, gh_w 497 rfl rfl⟩⟩⟩
set_option maxRecDepth 100000 in
theorem gh_y33 : ∃ q, gh_yt[33]? = some q ∧ gh_yOK q := ⟨_, rfl, ⟨gh_w 506 rfl rfl, gh_w 4 rfl rfl, ⟨by decide, by decide⟩, by decide +kernel, by decide, Or.inl ⟨rfl, gh_w 504 rfl rfl, gh_w 505 rfl rfl⟩⟩⟩
set_option maxRecDepth 100000 in
theorem gh_y34 : ∃ q, gh_yt[34]? = some q ∧ gh_yOK q := ⟨_, rfl, ⟨gh_w 513 rfl rfl, gh_w 4 rfl rfl, ⟨by decide, by decide⟩, by decide +kernel, by decide, Or.inr (Or.inl ⟨rfl, gh_w 512 rfl rfl⟩)⟩⟩
set_option maxRecDepth 100000 in
theorem gh_y35 : ∃ q, gh_yt[35]? = some q ∧ gh_yOK q := ⟨_, rfl, ⟨gh_w 658 rfl rfl, gh_w 4 rfl rfl, ⟨by decide, by decide⟩, by decide +kernel, by decide, Or.inl ⟨rfl, gh_w 656 rfl rfl, gh_w 657 rfl rfl⟩⟩⟩
set_option maxRecDepth 100000 in
theorem gh_y36 : ∃ q, gh_yt[36]? = some q ∧ gh_yOK q := ⟨_, rfl, ⟨gh_w 662 rfl rfl, gh_w 4 rfl rfl, ⟨by decide, by decide⟩, by decide +kernel, by decide, Or.inl ⟨rfl, gh_w 661 rfl rfl, gh_wp 21 rfl⟩⟩⟩
set_option maxRecDepth 100000 in
theorem gh_y37 : ∃ q, gh_yt[37]? = some q ∧ gh_yOK q := ⟨_, rfl, ⟨gh_w 672 rfl rfl, gh_w 4 rfl rfl, ⟨by decide, by decide⟩, by decide +kernel, by decide, Or.inl ⟨rfl, gh_w 671 rfl rfl, gh_wp 22 rfl⟩⟩⟩
set_option maxRecDepth 100000 in
theorem gh_y38 : ∃ q, gh_yt[38]? = some q ∧ gh_yOK q := ⟨_, rfl, ⟨gh_w 676 rfl rfl, gh_w 4 rfl rfl, ⟨by decide, by decide⟩, by decide +kernel, by decide, Or.inl ⟨rfl, gh_w 675 rfl rfl, gh_wp 23 rfl⟩⟩⟩
set_option maxRecDepth 100000 in
theorem gh_y39 : ∃ q, gh_yt[39]? = some q ∧ gh_yOK q := ⟨_, rfl, ⟨gh_w 165 rfl rfl, gh_w 8 rfl rfl, ⟨by decide, by decide⟩, by decide +kernel, by decide, Or.inr (Or.inr ⟨rfl, rfl, rfl, gh_w 164 rfl rfl⟩)⟩⟩
set_option maxRecDepth 100000 in
theorem gh_y40 : ∃ q, gh_yt[40]? = some q ∧ gh_yOK q := ⟨_, rfl, ⟨gh_w 817 rfl rfl, gh_w 8 rfl rfl, ⟨by decide, by decide⟩, by decide +kernel, by decide, Or.inl ⟨rfl, gh_w 815 rfl rfl, gh_w 816 rfl rfl⟩⟩⟩
set_option maxRecDepth 100000 in
theorem gh_y41 : ∃ q, gh_yt[41]? = some q ∧ gh_yOK q := ⟨_, rfl, ⟨gh_w 776 rfl rfl, gh_w 8 rfl rfl, ⟨by decide, by decide⟩, by decide +kernel, by decide, Or.inl ⟨rfl, gh_w 774 rfl rfl, gh_w 775 rfl rfl⟩⟩⟩
set_option maxRecDepth 100000 in
theorem gh_y42 : ∃ q, gh_yt[42]? = some q ∧ gh_yOK q := ⟨_, rfl, ⟨gh_w 792 rfl rfl, gh_w 8 rfl rfl, ⟨by decide, by decide⟩, by decide +kernel, by decide, Or.inl ⟨rfl, gh_w 790 rfl rfl, gh_w 791 rfl rfl⟩⟩⟩
set_option maxRecDepth 100000 in
theorem gh_y43 : ∃ q, gh_yt[43]? = some q ∧ gh_yOK q := ⟨_, rfl, ⟨gh_w 821 rfl rfl, gh_w 8 rfl rfl, ⟨by decide, by decide⟩, by decide +kernel, by decide, Or.inl ⟨rfl, gh_w 819 rfl rfl, gh_w 820 rfl rfl⟩⟩⟩
set_option maxRecDepth 100000 in
theorem gh_y44 : ∃ q, gh_yt[44]? = some q ∧ gh_yOK q := ⟨_, rfl, ⟨gh_w 855 rfl rfl, gh_w 8 rfl rfl, ⟨by decide, by decide⟩, by decide +kernel, by decide, Or.inl ⟨rfl, gh_w 853 rfl rfl, gh_w 854 rfl rfl⟩⟩⟩
set_option maxRecDepth 100000 in
theorem gh_y45 : ∃ q, gh_yt[45]? = some q ∧ gh_yOK q := ⟨_, rfl, ⟨gh_w 781 rfl rfl, gh_w 8 rfl rfl, ⟨by decide, by decide⟩, by decide +kernel, by decide, Or.inl ⟨rfl, gh_w 779 rfl rfl, gh_w 780 rfl rfl⟩⟩⟩
set_option maxRecDepth 100000 in
theorem gh_y46 : ∃ q, gh_yt[46]? = some q ∧ gh_yOK q := ⟨_, rfl, ⟨gh_w 798 rfl rfl, gh_w 8 rfl rfl, ⟨by decide, by decide⟩, by decide +kernel, by decide, Or.inl ⟨rfl, gh_w 796 rfl rfl, gh_w 797 rfl rfl⟩⟩⟩
set_option maxRecDepth 100000 in
theorem gh_y47 : ∃ q, gh_yt[47]? = some q ∧ gh_yOK q := ⟨_, rfl, ⟨gh_w 568 rfl rfl, gh_w 8 rfl rfl, ⟨by decide, by decide⟩, by decide +kernel, by decide, Or.inl ⟨rfl, gh_w 566 rfl rfl, gh_w 567 rfl rfl⟩⟩⟩
set_option maxRecDepth 100000 in
theorem gh_y48 : ∃ q, gh_yt[48]? = some q ∧ gh_yOK q := ⟨_, rfl, ⟨gh_w 572 rfl rfl, gh_w 8 rfl rfl, ⟨by decide, by decide⟩, by decide +kernel, by decide, Or.inl ⟨rfl, gh_w 571 rfl rfl, gh_wp 13 rfl⟩⟩⟩
set_option maxRecDepth 100000 in
theorem gh_y49 : ∃ q, gh_yt[49]? = some q ∧ gh_yOK q := ⟨_, rfl, ⟨gh_w 696 rfl rfl, gh_w 8 rfl rfl, ⟨by decide, by decide⟩, by decide +kernel, by decide, Or.inl ⟨rfl, gh_w 694 rfl rfl, gh_w 695 rfl rfl⟩⟩⟩
set_option maxRecDepth 100000 in
theorem gh_y50 : ∃ q, gh_yt[50]? = some q ∧ gh_yOK q := ⟨_, rfl, ⟨gh_w 942 rfl rfl, gh_w 8 rfl rfl, ⟨by decide, by decide⟩, by decide +kernel, by decide, Or.inl ⟨rfl, gh_w 940 rfl rfl, gh_w 941 rfl rfl⟩⟩⟩
set_option maxRecDepth 100000 in
theorem gh_y51 : ∃ q, gh_yt[51]? = some q ∧ gh_yOK q := ⟨_, rfl, ⟨gh_w 703 rfl rfl, gh_w 8 rfl rfl, ⟨by decide, by decide⟩, by decide +kernel, by decide, Or.inl ⟨rfl, gh_w 702 rfl rfl, gh_wp 25 rfl⟩⟩⟩
set_option maxRecDepth 100000 in
theorem gh_y52 : ∃ q, gh_yt[52]? = some q ∧ gh_yOK q := ⟨_, rfl, ⟨gh_w 576 rfl rfl, gh_w 8 rfl rfl, ⟨by decide, by decide⟩, by decide +kernel, by decide, Or.inl ⟨rfl, gh_w 575 rfl rfl, gh_wp 14 rfl⟩⟩⟩
set_option maxRecDepth 100000 in
theorem gh_y53 : ∃ q, gh_yt[53]? = some q ∧ gh_yOK q := ⟨_, rfl, ⟨gh_w 583 rfl rfl, gh_w 8 rfl rfl, ⟨by decide, by decide⟩, by decide +kernel, by decide, Or.inl ⟨rfl, gh_w 582 rfl rfl, gh_wp 15 rfl⟩⟩⟩
set_option maxRecDepth 100000 in
theorem gh_y54 : ∃ q, gh_yt[54]? = some q ∧ gh_yOK q := ⟨_, rfl, ⟨gh_w 615 rfl rfl, gh_w 8 rfl rfl, ⟨by decide, by decide⟩, by decide +kernel, by decide, Or.inl ⟨rfl, gh_w 614 rfl rfl, gh_wp 17 rfl⟩⟩⟩
set_option maxRecDepth 100000 in
theorem gh_y55 : ∃ q, gh_yt[55]? = some q ∧ gh_yOK q := ⟨_, rfl, ⟨gh_w 605 rfl rfl, gh_w 8 rfl rfl, ⟨by decide, by decide⟩, by decide +kernel, by decide, Or.inl ⟨rfl, gh_w 604 rfl rfl, gh_wp 16 rfl⟩⟩⟩
set_option maxRecDepth 100000 in
theorem gh_y56 : ∃ q, gh_yt[56]? = some q ∧ gh_yOK q := ⟨_, rfl, ⟨gh_w 699 rfl rfl, gh_w 8 rfl rfl, ⟨by decide, by decide⟩, by decide +kernel, by decide, Or.inr (Or.inl ⟨rfl, gh_w 698 rfl rfl⟩)⟩⟩
set_option maxRecDepth 100000 in
theorem gh_y57 : ∃ q, gh_yt[57]? = some q ∧ gh_yOK q := ⟨_, rfl, ⟨gh_w 598 rfl rfl, gh_w 8 rfl rfl, ⟨by decide, by decide⟩, by decide +kernel, by decide, Or.inr (Or.inl ⟨rfl, gh_w 597 rfl rfl⟩)⟩⟩
set_option maxRecDepth 100000 in
theorem gh_y58 : ∃ q, gh_yt[58]? = some q ∧ gh_yOK q := ⟨_, rfl, ⟨gh_w 59 rfl rfl, gh_w 3 rfl rfl, ⟨by decide, by decide⟩, by decide +kernel, by decide, Or.inr (Or.inr ⟨rfl, rfl, rfl, gh_w 58 rfl rfl⟩)⟩⟩
set_option maxRecDepth 100000 in
theorem gh_y59 : ∃ q, gh_yt[59]? = some q ∧ gh_yOK q := ⟨_, rfl, ⟨gh_w 749 rfl rfl, gh_w 3 rfl rfl, ⟨by decide, by decide⟩, by decide +kernel, by decide, Or.inl ⟨rfl, gh_w 747 rfl rfl, gh_w 748 rfl rfl⟩⟩⟩
set_option maxRecDepth 100000 in
theorem gh_y60 : ∃ q, gh_yt[60]? = some q ∧ gh_yOK q := ⟨_, rfl, ⟨gh_w 650 rfl rfl, gh_w 3 rfl rfl, ⟨by decide, by decide⟩, by decide +kernel, by decide, Or.inl ⟨rfl, gh_w 648 rfl rfl, gh_w 649 rfl rfl⟩⟩⟩
set_option maxRecDepth 100000 in
theorem gh_y61 : ∃ q, gh_yt[61]? = some q ∧ gh_yOK q := ⟨_, rfl, ⟨gh_w 717 rfl rfl, gh_w 3 rfl rfl, ⟨by decide, by decide⟩, by decide +kernel, by decide, Or.inl ⟨rfl, gh_w 715 rfl rfl, gh_w 716 rfl rfl⟩⟩⟩
set_option maxRecDepth 100000 in
theorem gh_y62 : ∃ q, gh_yt[62]? = some q ∧ gh_yOK q := ⟨_, rfl, ⟨gh_w 722 rfl rfl, gh_w 3 rfl rfl, ⟨by decide, by decide⟩, by decide +kernel, by decide, Or.inl ⟨rfl, gh_w 721 rfl rfl, gh_wp 26 rfl⟩⟩⟩
set_option maxRecDepth 100000 in
theorem gh_y63 : ∃ q, gh_yt[63]? = some q ∧ gh_yOK q := ⟨_, rfl, ⟨gh_w 644 rfl rfl, gh_w 3 rfl rfl, ⟨by decide, by decide⟩, by decide +kernel, by decide, Or.inl ⟨rfl, gh_w 642 rfl rfl, gh_w 643 rfl rfl⟩⟩⟩
set_option maxRecDepth 100000 in
theorem gh_y64 : ∃ q, gh_yt[64]? = some q ∧ gh_yOK q := ⟨_, rfl, ⟨gh_w 712 rfl rfl, gh_w 3 rfl rfl, ⟨by decide, by decide⟩, by decide +kernel, by decide, Or.inl ⟨rfl, gh_w 710 rfl rfl, gh_w 711 rfl rfl⟩⟩⟩
set_option maxRecDepth 100000 in
theorem gh_y65 : ∃ q, gh_yt[65]? = some q ∧ gh_yOK q := ⟨_, rfl, ⟨gh_w 640 rfl rfl, gh_w 3 rfl rfl, ⟨by decide, by decide⟩, by decide +kernel, by decide, Or.inl ⟨rfl, gh_w 638 rfl rfl, gh_w 639 rfl rfl⟩⟩⟩
set_option maxRecDepth 100000 in
theorem gh_y66 : ∃ q, gh_yt[66]? = some q ∧ gh_yOK q := ⟨_, rfl, ⟨gh_w 901 rfl rfl, gh_w 3 rfl rfl, ⟨by decide, by decide⟩, by decide +kernel, by decide, Or.inl ⟨rfl, gh_w 899 rfl rfl, gh_w 900 rfl rfl⟩⟩⟩
set_option maxRecDepth 100000 in
theorem gh_y67 : ∃ q, gh_yt[67]? = some q ∧ gh_yOK q := ⟨_, rfl, ⟨gh_w 666 rfl rfl, gh_w 3 rfl rfl, ⟨by decide, by decide⟩, by decide +kernel, by decide, Or.inl ⟨rfl, gh_w 664 rfl rfl, gh_w 665 rfl rfl⟩⟩⟩
set_option maxRecDepth 100000 in
theorem gh_y68 : ∃ q, gh_yt[68]? = some q ∧ gh_yOK q := ⟨_, rfl, ⟨gh_w 132 rfl rfl, gh_w 7 rfl rfl, ⟨by decide, by decide⟩, by decide +kernel, by decide, Or.inr (Or.inr ⟨rfl, rfl, rfl, gh_w 131 rfl rfl⟩)⟩⟩
set_option maxRecDepth 100000 in
theorem gh_y69 : ∃ q, gh_yt[69]? = some q ∧ gh_yOK q := ⟨_, rfl, ⟨gh_w 523 rfl rfl, gh_w 7 rfl rfl, ⟨by decide, by decide⟩, by decide +kernel, by decide, Or.inl ⟨rfl, gh_w 521 rfl rfl, gh_w 522 rfl rfl⟩⟩⟩
set_option maxRecDepth 100000 in
theorem gh_y70 : ∃ q, gh_yt[70]? = some q ∧ gh_yOK q := ⟨_, rfl, ⟨gh_w 688 rfl rfl, gh_w 7 rfl rfl, ⟨by decide, by decide⟩, by decide +kernel, by decide, Or.inl ⟨rfl, gh_w 686 rfl rfl, gh_w 687 rfl rfl⟩⟩⟩
set_option maxRecDepth 100000 in
theorem gh_y71 : ∃ q, gh_yt[71]? = some q ∧ gh_yOK q := ⟨_, rfl, ⟨gh_w 544 rfl rfl, gh_w 7 rfl rfl, ⟨by decide, by decide⟩, by decide +kernel, by decide, Or.inl ⟨rfl, gh_w 542 rfl rfl, gh_w 543 rfl rfl⟩⟩⟩
set_option maxRecDepth 100000 in
theorem gh_y72 : ∃ q, gh_yt[72]? = some q ∧ gh_yOK q := ⟨_, rfl, ⟨gh_w 552 rfl rfl, gh_w 7 rfl rfl, ⟨by decide, by decide⟩, by decide +kernel, by decide, Or.inl ⟨rfl, gh_w 550 rfl rfl, gh_w 551 rfl rfl⟩⟩⟩
set_option maxRecDepth 100000 in
theorem gh_y73 : ∃ q, gh_yt[73]? = some q ∧ gh_yOK q := ⟨_, rfl, ⟨gh_w 537 rfl rfl, gh_w 7 rfl rfl, ⟨by decide, by decide⟩, by decide +kernel, by decide, Or.inl ⟨rfl, gh_w 535 rfl rfl, gh_w 536 rfl rfl⟩⟩⟩
set_option maxRecDepth 100000 in
theorem gh_y74 : ∃ q, gh_yt[74]? = some q ∧ gh_yOK q := ⟨_, rfl, ⟨gh_w 609 rfl rfl, gh_w 7 rfl rfl, ⟨by decide, by decide⟩, by decide +kernel, by decide, Or.inl ⟨rfl, gh_w 607 rfl rfl, gh_w 608 rfl rfl⟩⟩⟩
set_option maxRecDepth 100000 in
theorem gh_y75 : ∃ q, gh_yt[75]? = some q ∧ gh_yOK q := ⟨_, rfl, ⟨gh_w 619 rfl rfl, gh_w 7 rfl rfl, ⟨by decide, by decide⟩, by decide +kernel, by decide, Or.inl ⟨rfl, gh_w 617 rfl rfl, gh_w 618 rfl rfl⟩⟩⟩
set_option maxRecDepth 100000 in
theorem gh_y76 : ∃ q, gh_yt[76]? = some q ∧ gh_yOK q := ⟨_, rfl, ⟨gh_w 684 rfl rfl, gh_w 7 rfl rfl, ⟨by decide, by decide⟩, by decide +kernel, by decide, Or.inl ⟨rfl, gh_w 682 rfl rfl, gh_w 683 rfl rfl⟩⟩⟩
set_option maxRecDepth 100000 in
theorem gh_y77 : ∃ q, gh_yt[77]? = some q ∧ gh_yOK q := ⟨_, rfl, ⟨gh_w 540 rfl rfl, gh_w 7 rfl rfl, ⟨by decide, by decide⟩, by decide +kernel, by decide, Or.inr (Or.inl ⟨rfl, gh_w 539 rfl rfl⟩)⟩⟩
set_option maxRecDepth 100000 in
theorem gh_y78 : ∃ q, gh_yt[78]? = some q ∧ gh_yOK q := ⟨_, rfl, ⟨gh_w 24 rfl rfl, gh_w 1 rfl rfl, ⟨by decide, by decide⟩, by decide +kernel, by decide, Or.inr (Or.inr ⟨rfl, rfl, rfl, gh_w 23 rfl rfl⟩)⟩⟩
set_option maxRecDepth 100000 in
theorem gh_y79 : ∃ q, gh_yt[79]? = some q ∧ gh_yOK q := ⟨_, rfl, ⟨gh_w 311 rfl rfl, gh_w 1 rfl rfl, ⟨by decide, by decide⟩, by decide +kernel, by decide, Or.inl ⟨rfl, gh_w 309 rfl rfl, gh_w 310 rfl rfl⟩⟩⟩
set_option maxRecDepth 100000 in
theorem gh_y80 : ∃ q, gh_yt[80]? = some q ∧ gh_yOK q := ⟨_, rfl, ⟨gh_w 297 rfl rfl, gh_w 1 rfl rfl, ⟨by decide, by decide⟩, by decide +kernel, by decide, Or.inl ⟨rfl, gh_w 295 rfl rfl, gh_w 296 rfl rfl⟩⟩⟩
set_option maxRecDepth 100000 in
theorem gh_y81 : ∃ q, gh_yt[81]? = some q ∧ gh_yOK q := ⟨_, rfl, ⟨gh_w 400 rfl rfl, gh_w 1 rfl rfl, ⟨by decide, by decide⟩, by decide +kernel, by decide, Or.inl ⟨rfl, gh_w 398 rfl rfl, gh_w 399 rfl rfl⟩⟩⟩
set_option maxRecDepth 100000 in
theorem gh_y82 : ∃ q, gh_yt[82]? = some q ∧ gh_yOK q := ⟨_, rfl, ⟨gh_w 414 rfl rfl, gh_w 1 rfl rfl, ⟨by decide, by decide⟩, by decide +kernel, by decide, Or.inl ⟨rfl, gh_w 412 rfl rfl, gh_w 413 rfl rfl⟩⟩⟩
set_option maxRecDepth 100000 in
theorem gh_y83 : ∃ q, gh_yt[83]? = some q ∧ gh_yOK q := ⟨_, rfl, ⟨gh_w 805 rfl rfl, gh_w 1 rfl rfl, ⟨by decide, by decide⟩, by decide +kernel, by decide, Or.inl ⟨rfl, gh_w 803 rfl rfl, gh_w 804 rfl rfl⟩⟩⟩
set_option maxRecDepth 100000 in
theorem gh_y84 : ∃ q, gh_yt[84]? = some q ∧ gh_yOK q := ⟨_, rfl, ⟨gh_w 872 rfl rfl, gh_w 1 rfl rfl, ⟨by decide, by decide⟩, by decide +kernel, by decide, Or.inl ⟨rfl, gh_w 870 rfl rfl, gh_w 871 rfl rfl⟩⟩⟩
set_option maxRecDepth 100000 in
theorem gh_y85 : ∃ q, gh_yt[85]? = some q ∧ gh_yOK q := ⟨_, rfl, ⟨gh_w 739 rfl rfl, gh_w 1 rfl rfl, ⟨by decide, by decide⟩, by decide +kernel, by decide, Or.inl ⟨rfl, gh_w 737 rfl rfl, gh_w 738 rfl rfl⟩⟩⟩
set_option maxRecDepth 100000 in
theorem gh_y86 : ∃ q, gh_yt[86]? = some q ∧ gh_yOK q := ⟨_, rfl, ⟨gh_w 626 rfl rfl, gh_w 1 rfl rfl, ⟨by decide, by decide⟩, by decide +kernel, by decide, Or.inl ⟨rfl, gh_w 624 rfl rfl, gh_w 625 rfl rfl⟩⟩⟩
set_option maxRecDepth 100000 in
theorem gh_y87 : ∃ q, gh_yt[87]? = some q ∧ gh_yOK q := ⟨_, rfl, ⟨gh_w 707 rfl rfl, gh_w 1 rfl rfl, ⟨by decide, by decide⟩, by decide +kernel, by decide, Or.inl ⟨rfl, gh_w 705 rfl rfl, gh_w 706 rfl rfl⟩⟩⟩
set_option maxRecDepth 100000 in
theorem gh_y88 : ∃ q, gh_yt[88]? = some q ∧ gh_yOK q := ⟨_, rfl, ⟨gh_w 918 rfl rfl, gh_w 1 rfl rfl, ⟨by decide, by decide⟩, by decide +kernel, by decide, Or.inl ⟨rfl, gh_w 916 rfl rfl, gh_w 917 rfl rfl⟩⟩⟩
set_option maxRecDepth 100000 in
theorem gh_y89 : ∃ q, gh_yt[89]? = some q ∧ gh_yOK q := ⟨_, rfl, ⟨gh_w 809 rfl rfl, gh_w 1 rfl rfl, ⟨by decide, by decide⟩, by decide +kernel, by decide, Or.inl ⟨rfl, gh_w 807 rfl rfl, gh_w 808 rfl rfl⟩⟩⟩
set_option maxRecDepth 100000 in
theorem gh_y90 : ∃ q, gh_yt[90]? = some q ∧ gh_yOK q := ⟨_, rfl, ⟨gh_w 862 rfl rfl, gh_w 1 rfl rfl, ⟨by decide, by decide⟩, by decide +kernel, by decide, Or.inl ⟨rfl, gh_w 860 rfl rfl, gh_w 861 rfl rfl⟩⟩⟩
set_option maxRecDepth 100000 in
theorem gh_y91 : ∃ q, gh_yt[91]? = some q ∧ gh_yOK q := ⟨_, rfl, ⟨gh_w 876 rfl rfl, gh_w 1 rfl rfl, ⟨by decide, by decide⟩, by decide +kernel, by decide, Or.inl ⟨rfl, gh_w 874 rfl rfl, gh_w 875 rfl rfl⟩⟩⟩
set_option maxRecDepth 100000 in
theorem gh_y92 : ∃ q, gh_yt[92]? = some q ∧ gh_yOK q := ⟨_, rfl, ⟨gh_w 753 rfl rfl, gh_w 1 rfl rfl, ⟨by decide, by decide⟩, by decide +kernel, by decide, Or.inl ⟨rfl, gh_w 751 rfl rfl, gh_w 752 rfl rfl⟩⟩⟩
set_option maxRecDepth 100000 in
theorem gh_y93 : ∃ q, gh_yt[93]? = some q ∧ gh_yOK q := ⟨_, rfl, ⟨gh_w 726 rfl rfl, gh_w 1 rfl rfl, ⟨by decide, by decide⟩, by decide +kernel, by decide, Or.inl ⟨rfl, gh_w 724 rfl rfl, gh_w 725 rfl rfl⟩⟩⟩
set_option maxRecDepth 100000 in
theorem gh_y94 : ∃ q, gh_yt[94]? = some q ∧ gh_yOK q := ⟨_, rfl, ⟨gh_w 881 rfl rfl, gh_w 1 rfl rfl, ⟨by decide, by decide⟩, by decide +kernel, by decide, Or.inl ⟨rfl, gh_w 879 rfl rfl, gh_w 880 rfl rfl⟩⟩⟩
set_option maxRecDepth 100000 in
theorem gh_y95 : ∃ q, gh_yt[95]? = some q ∧ gh_yOK q := ⟨_, rfl, ⟨gh_w 462 rfl rfl, gh_w 1 rfl rfl, ⟨by decide, by decide⟩, by decide +kernel, by decide, Or.inl ⟨rfl, gh_w 460 rfl rfl, gh_w 461 rfl rfl⟩⟩⟩
set_option maxRecDepth 100000 in
theorem gh_y96 : ∃ q, gh_yt[96]? = some q ∧ gh_yOK q := ⟨_, rfl, ⟨gh_w 885 rfl rfl, gh_w 1 rfl rfl, ⟨by decide, by decide⟩, by decide +kernel, by decide, Or.inl ⟨rfl, gh_w 883 rfl rfl, gh_w 884 rfl rfl⟩⟩⟩
set_option maxRecDepth 100000 in
theorem gh_y97 : ∃ q, gh_yt[97]? = some q ∧ gh_yOK q := ⟨_, rfl, ⟨gh_w 949 rfl rfl, gh_w 1 rfl rfl, ⟨by decide, by decide⟩, by decide +kernel, by decide, Or.inl ⟨rfl, gh_w 947 rfl rfl, gh_w 948 rfl rfl⟩⟩⟩
set_option maxRecDepth 100000 in
theorem gh_y98 : ∃ q, gh_yt[98]? = some q ∧ gh_yOK q := ⟨_, rfl, ⟨gh_w 954 rfl rfl, gh_w 1 rfl rfl, ⟨by decide, by decide⟩, by decide +kernel, by decide, Or.inl ⟨rfl, gh_w 952 rfl rfl, gh_w 953 rfl rfl⟩⟩⟩
set_option maxRecDepth 100000 in
theorem gh_y99 : ∃ q, gh_yt[99]? = some q ∧ gh_yOK q := ⟨_, rfl, ⟨gh_w 959 rfl rfl, gh_w 1 rfl rfl, ⟨by decide, by decide⟩, by decide +kernel, by decide, Or.inl ⟨rfl, gh_w 957 rfl rfl, gh_w 958 rfl rfl⟩⟩⟩
set_option maxRecDepth 100000 in
theorem gh_y100 : ∃ q, gh_yt[100]? = some q ∧ gh_yOK q := ⟨_, rfl, ⟨gh_w 889 rfl rfl, gh_w 1 rfl rfl, ⟨by decide, by decide⟩, by decide +kernel, by decide, Or.inl ⟨rfl, gh_w 887 rfl rfl, gh_w 888 rfl rfl⟩⟩⟩
set_option maxRecDepth 100000 in
theorem gh_y101 : ∃ q, gh_yt[101]? = some q ∧ gh_yOK q := ⟨_, rfl, ⟨gh_w 897 rfl rfl, gh_w 1 rfl rfl, ⟨by decide, by decide⟩, by decide +kernel, by decide, Or.inl ⟨rfl, gh_w 895 rfl rfl, gh_w 896 rfl rfl⟩⟩⟩
set_option maxRecDepth 100000 in
theorem gh_y102 : ∃ q, gh_yt[102]? = some q ∧ gh_yOK q := ⟨_, rfl, ⟨gh_w 910 rfl rfl, gh_w 1 rfl rfl, ⟨by decide, by decide⟩, by decide +kernel, by decide, Or.inl ⟨rfl, gh_w 908 rfl rfl, gh_w 909 rfl rfl⟩⟩⟩
set_option maxRecDepth 100000 in
theorem gh_y103 : ∃ q, gh_yt[103]? = some q ∧ gh_yOK q := ⟨_, rfl, ⟨gh_w 767 rfl rfl, gh_w 1 rfl rfl, ⟨by decide, by decide⟩, by decide +kernel, by decide, Or.inl ⟨rfl, gh_w 765 rfl rfl, gh_w 766 rfl rfl⟩⟩⟩
set_option maxRecDepth 100000 in
theorem gh_y104 : ∃ q, gh_yt[104]? = some q ∧ gh_yOK q := ⟨_, rfl, ⟨gh_w 788 rfl rfl, gh_w 1 rfl rfl, ⟨by decide, by decide⟩, by decide +kernel, by decide, Or.inl ⟨rfl, gh_w 786 rfl rfl, gh_w 787 rfl rfl⟩⟩⟩
set_option maxRecDepth 100000 in
theorem gh_y105 : ∃ q, gh_yt[105]? = some q ∧ gh_yOK q := ⟨_, rfl, ⟨gh_w 922 rfl rfl, gh_w 1 rfl rfl, ⟨by decide, by decide⟩, by decide +kernel, by decide, Or.inl ⟨rfl, gh_w 920 rfl rfl, gh_w 921 rfl rfl⟩⟩⟩
set_option maxRecDepth 100000 in
theorem gh_y106 : ∃ q, gh_yt[106]? = some q ∧ gh_yOK q := ⟨_, rfl, ⟨gh_w 926 rfl rfl, gh_w 1 rfl rfl, ⟨by decide, by decide⟩, by decide +kernel, by decide, Or.inl ⟨rfl, gh_w 924 rfl rfl, gh_w 925 rfl rfl⟩⟩⟩
set_option maxRecDepth 100000 in
theorem gh_y107 : ∃ q, gh_yt[107]? = some q ∧ gh_yOK q := ⟨_, rfl, ⟨gh_w 914 rfl rfl, gh_w 1 rfl rfl, ⟨by decide, by decide⟩, by decide +kernel, by decide, Or.inl ⟨rfl, gh_w 912 rfl rfl, gh_w 913 rfl rfl⟩⟩⟩
set_option maxRecDepth 100000 in
theorem gh_y108 : ∃ q, gh_yt[108]? = some q ∧ gh_yOK q := ⟨_, rfl, ⟨gh_w 813 rfl rfl, gh_w 1 rfl rfl, ⟨by decide, by decide⟩, by decide +kernel, by decide, Or.inl ⟨rfl, gh_w 811 rfl rfl, gh_w 812 rfl rfl⟩⟩⟩
set_option maxRecDepth 100000 in
theorem gh_y109 : ∃ q, gh_yt[109]? = some q ∧ gh_yOK q := ⟨_, rfl, ⟨gh_w 830 rfl rfl, gh_w 1 rfl rfl, ⟨by decide, by decide⟩, by decide +kernel, by decide, Or.inl ⟨rfl, gh_w 828 rfl rfl, gh_w 829 rfl rfl⟩⟩⟩
set_option maxRecDepth 100000 in
theorem gh_y110 : ∃ q, gh_yt[110]? = some q ∧ gh_yOK q := ⟨_, rfl, ⟨gh_w 418 rfl rfl, gh_w 1 rfl rfl, ⟨by decide, by decide⟩, by decide +kernel, by decide, Or.inl ⟨rfl, gh_w 417 rfl rfl, gh_wp 1 rfl⟩⟩⟩
set_option maxRecDepth 100000 in
theorem gh_y111 : ∃ q, gh_yt[111]? = some q ∧ gh_yOK q := ⟨_, rfl, ⟨gh_w 630 rfl rfl, gh_w 1 rfl rfl, ⟨by decide, by decide⟩, by decide +kernel, by decide, Or.inl ⟨rfl, gh_w 629 rfl rfl, gh_wp 18 rfl⟩⟩⟩
set_option maxRecDepth 100000 in
theorem gh_y112 : ∃ q, gh_yt[112]? = some q ∧ gh_yOK q := ⟨_, rfl, ⟨gh_w 834 rfl rfl, gh_w 1 rfl rfl, ⟨by decide, by decide⟩, by decide +kernel, by decide, Or.inl ⟨rfl, gh_w 833 rfl rfl, gh_wp 29 rfl⟩⟩⟩
set_option maxRecDepth 100000 in
theorem gh_y113 : ∃ q, gh_yt[113]? = some q ∧ gh_yOK q := ⟨_, rfl, ⟨gh_w 635 rfl rfl, gh_w 1 rfl rfl, ⟨by decide, by decide⟩, by decide +kernel, by decide, Or.inl ⟨rfl, gh_w 634 rfl rfl, gh_wp 19 rfl⟩⟩⟩
set_option maxRecDepth 100000 in
theorem gh_y114 : ∃ q, gh_yt[114]? = some q ∧ gh_yOK q := ⟨_, rfl, ⟨gh_w 757 rfl rfl, gh_w 1 rfl rfl, ⟨by decide, by decide⟩, by decide +kernel, by decide, Or.inl ⟨rfl, gh_w 756 rfl rfl, gh_wp 27 rfl⟩⟩⟩
set_option maxRecDepth 100000 in
theorem gh_y115 : ∃ q, gh_yt[115]? = some q ∧ gh_yOK q := ⟨_, rfl, ⟨gh_w 771 rfl rfl, gh_w 1 rfl rfl, ⟨by decide, by decide⟩, by decide +kernel, by decide, Or.inl ⟨rfl, gh_w 770 rfl rfl, gh_wp 28 rfl⟩⟩⟩
set_option maxRecDepth 100000 in
theorem gh_y116 : ∃ q, gh_yt[116]? = some q ∧ gh_yOK q := ⟨_, rfl, ⟨gh_w 438 rfl rfl, gh_w 1 rfl rfl, ⟨by decide, by decide⟩, by decide +kernel, by decide, Or.inl ⟨rfl, gh_w 437 rfl rfl, gh_wp 2 rfl⟩⟩⟩
set_option maxRecDepth 100000 in
theorem gh_y117 : ∃ q, gh_yt[117]? = some q ∧ gh_yOK q := ⟨_, rfl, ⟨gh_w 466 rfl rfl, gh_w 1 rfl rfl, ⟨by decide, by decide⟩, by decide +kernel, by decide, Or.inl ⟨rfl, gh_w 465 rfl rfl, gh_wp 4 rfl⟩⟩⟩
set_option maxRecDepth 100000 in
theorem gh_y118 : ∃ q, gh_yt[118]? = some q ∧ gh_yOK q := ⟨_, rfl, ⟨gh_w 471 rfl rfl, gh_w 1 rfl rfl, ⟨by decide, by decide⟩, by decide +kernel, by decide, Or.inl ⟨rfl, gh_w 470 rfl rfl, gh_wp 5 rfl⟩⟩⟩
set_option maxRecDepth 100000 in
theorem gh_y119 : ∃ q, gh_yt[119]? = some q ∧ gh_yOK q := ⟨_, rfl, ⟨gh_w 893 rfl rfl, gh_w 1 rfl rfl, ⟨by decide, by decide⟩, by decide +kernel, by decide, Or.inl ⟨rfl, gh_w 892 rfl rfl, gh_wp 30 rfl⟩⟩⟩
set_option maxRecDepth 100000 in
theorem gh_y120 : ∃ q, gh_yt[120]? = some q ∧ gh_yOK q := ⟨_, rfl, ⟨gh_w 905 rfl rfl, gh_w 1 rfl rfl, ⟨by decide, by decide⟩, by decide +kernel, by decide, Or.inl ⟨rfl, gh_w 904 rfl rfl, gh_wp 31 rfl⟩⟩⟩
set_option maxRecDepth 100000 in
theorem gh_y121 : ∃ q, gh_yt[121]? = some q ∧ gh_yOK q := ⟨_, rfl, ⟨gh_w 654 rfl rfl, gh_w 1 rfl rfl, ⟨by decide, by decide⟩, by decide +kernel, by decide, Or.inl ⟨rfl, gh_w 653 rfl rfl, gh_wp 20 rfl⟩⟩⟩
set_option maxRecDepth 100000 in
theorem gh_y122 : ∃ q, gh_yt[122]? = some q ∧ gh_yOK q := ⟨_, rfl, ⟨gh_w 680 rfl rfl, gh_w 1 rfl rfl, ⟨by decide, by decide⟩, by decide +kernel, by decide, Or.inl ⟨rfl, gh_w 679 rfl rfl, gh_wp 24 rfl⟩⟩⟩
set_option maxRecDepth 100000 in
theorem gh_y123 : ∃ q, gh_yt[123]? = some q ∧ gh_yOK q := ⟨_, rfl, ⟨gh_w 445 rfl rfl, gh_w 1 rfl rfl, ⟨by decide, by decide⟩, by decide +kernel, by decide, Or.inr (Or.inl ⟨rfl, gh_w 444 rfl rfl⟩)⟩⟩
set_option maxRecDepth 100000 in
theorem gh_y124 : ∃ q, gh_yt[124]? = some q ∧ gh_yOK q := ⟨_, rfl, ⟨gh_w 530 rfl rfl, gh_w 16 rfl rfl, ⟨by decide, by decide⟩, by decide +kernel, by decide, Or.inr (Or.inl ⟨rfl, gh_w 529 rfl rfl⟩)⟩⟩
set_option maxRecDepth 100000 in
theorem gh_y125 : ∃ q, gh_yt[125]? = some q ∧ gh_yOK q := ⟨_, rfl, ⟨gh_w 106 rfl rfl, gh_w 5 rfl rfl, ⟨by decide, by decide⟩, by decide +kernel, by decide, Or.inr (Or.inl ⟨rfl, gh_w 105 rfl rfl⟩)⟩⟩
set_option maxRecDepth 100000 in
theorem gh_y126 : ∃ q, gh_yt[126]? = some q ∧ gh_yOK q := ⟨_, rfl, ⟨gh_w 136 rfl rfl, gh_w 5 rfl rfl, ⟨by decide, by decide⟩, by decide +kernel, by decide, Or.inr (Or.inl ⟨rfl, gh_w 135 rfl rfl⟩)⟩⟩
set_option maxRecDepth 100000 in
theorem gh_y127 : ∃ q, gh_yt[127]? = some q ∧ gh_yOK q := ⟨_, rfl, ⟨gh_w 300 rfl rfl, gh_w 0 rfl rfl, ⟨by decide, by decide⟩, by decide +kernel, by decide, Or.inr (Or.inl ⟨rfl, gh_w 299 rfl rfl⟩)⟩⟩
def gh_mOK (own : Nat) (e : Nat × Nat × Nat) : Prop := ∃ q, gh_yt[e.2.1]? = some q ∧ gh_yOK q ∧ (parseMethodDescriptor q.1.desc).map (fun d => d.parameters.length + (if q.2.2.2.2 = 1 then 0 else 1)) = some e.2.2 ∧ (Cond.methodLink (gh_on own) e.1 q.1 ∈ gh_wsG ∨ (q.2.2.2.2 ≠ 0 ∧ ∃ host : String, Cond.methodLinkNest (gh_on own) e.1 q.1 host ∈ gh_nst))
theorem gh_mk {own : Nat} {e : Nat × Nat × Nat} {q : MethodName × ByteArray × Nat × Option FieldType × Nat} (h : ∃ q, gh_yt[e.2.1]? = some q ∧ gh_yOK q) (hq : gh_yt[e.2.1]? = some q) (h1 : (parseMethodDescriptor q.1.desc).map (fun d => d.parameters.length + (if q.2.2.2.2 = 1 then 0 else 1)) = some e.2.2) (h2 : Cond.methodLink (gh_on own) e.1 q.1 ∈ gh_wsG ∨ (q.2.2.2.2 ≠ 0 ∧ ∃ host : String, Cond.methodLinkNest (gh_on own) e.1 q.1 host ∈ gh_nst)) : gh_mOK own e := by
  obtain ⟨q', h3, h4⟩ := h
  cases Option.some.inj (h3.symm.trans hq)
  exact ⟨_, hq, h4, h1, h2⟩
set_option maxRecDepth 100000 in
theorem gh_m0 : ∀ e ∈ gh_mrt.getD 0 [], gh_mOK 0 e := by
  show ∀ e ∈ ([(11, 68, 1), (31, 7, 4), (110, 8, 4), (121, 26, 2), (47, 28, 2), (51, 123, 2), (124, 25, 2), (67, 32, 2), (117, 9, 3), (127, 33, 2), (88, 30, 2), (95, 31, 2), (35, 69, 1), (38, 6, 2), (75, 124, 1), (80, 73, 4), (55, 71, 2), (59, 2, 3), (72, 72, 2), (63, 10, 3), (130, 11, 3), (134, 13, 2), (84, 4, 4), (91, 5, 5)] : List (Nat × Nat × Nat)), gh_mOK 0 e
  exact List.forall_mem_cons.mpr ⟨gh_mk gh_y68 rfl (by decide +kernel) (Or.inl (gh_w 130 rfl rfl)), List.forall_mem_cons.mpr ⟨gh_mk gh_y7 rfl (by decide +kernel) (Or.inl (gh_w 477 rfl rfl)), List.forall_mem_cons.mpr ⟨gh_mk gh_y8 rfl (by decide +kernel) (Or.inl (gh_w 481 rfl rfl)), List.forall_mem_cons.mpr ⟨gh_mk gh_y26 rfl (by decide +kernel) (Or.inl (gh_w 485 rfl rfl)), List.forall_mem_cons.mpr ⟨gh_mk gh_y28 rfl (by decide +kernel) (Or.inl (gh_w 489 rfl rfl)), List.forall_mem_cons.mpr ⟨gh_mk gh_y123 rfl (by decide +kernel) (Or.inr ⟨by decide, _, gh_n 493 rfl rfl⟩), List.forall_mem_cons.mpr ⟨gh_mk gh_y25 rfl (by decide +kernel) (Or.inl (gh_w 494 rfl rfl)), List.forall_mem_cons.mpr ⟨gh_mk gh_y32 rfl (by decide +kernel) (Or.inl (gh_w 495 rfl rfl)), List.forall_mem_cons.mpr ⟨gh_mk gh_y9 rfl (by decide +kernel) (Or.inl (gh_w 499 rfl rfl)), List.forall_mem_cons.mpr ⟨gh_mk gh_y33 rfl (by decide +kernel) (Or.inl (gh_w 503 rfl rfl)), List.forall_mem_cons.mpr ⟨gh_mk gh_y30 rfl (by decide +kernel) (Or.inl (gh_w 518 rfl rfl)), List.forall_mem_cons.mpr ⟨gh_mk gh_y31 rfl (by decide +kernel) (Or.inl (gh_w 519 rfl rfl)), List.forall_mem_cons.mpr ⟨gh_mk gh_y69 rfl (by decide +kernel) (Or.inl (gh_w 520 rfl rfl)), List.forall_mem_cons.mpr ⟨gh_mk gh_y6 rfl (by decide +kernel) (Or.inl (gh_w 524 rfl rfl)), List.forall_mem_cons.mpr ⟨gh_mk gh_y124 rfl (by decide +kernel) (Or.inl (gh_w 528 rfl rfl)), List.forall_mem_cons.mpr ⟨gh_mk gh_y73 rfl (by decide +kernel) (Or.inl (gh_w 534 rfl rfl)), List.forall_mem_cons.mpr ⟨gh_mk gh_y71 rfl (by decide +kernel) (Or.inl (gh_w 541 rfl rfl)), List.forall_mem_cons.mpr ⟨gh_mk gh_y2 rfl (by decide +kernel) (Or.inl (gh_w 545 rfl rfl)), List.forall_mem_cons.mpr ⟨gh_mk gh_y72 rfl (by decide +kernel) (Or.inl (gh_w 549 rfl rfl)), List.forall_mem_cons.mpr ⟨gh_mk gh_y10 rfl (by decide +kernel) (Or.inl (gh_w 553 rfl rfl)), List.forall_mem_cons.mpr ⟨gh_mk gh_y11 rfl (by decide +kernel) (Or.inl (gh_w 557 rfl rfl)), List.forall_mem_cons.mpr ⟨gh_mk gh_y13 rfl (by decide +kernel) (Or.inl (gh_w 561 rfl rfl)), List.forall_mem_cons.mpr ⟨gh_mk gh_y4 rfl (by decide +kernel) (Or.inl (gh_w 931 rfl rfl)), List.forall_mem_cons.mpr ⟨gh_mk gh_y5 rfl (by decide +kernel) (Or.inl (gh_w 935 rfl rfl)), (fun _ h => absurd h List.not_mem_nil)⟩⟩⟩⟩⟩⟩⟩⟩⟩⟩⟩⟩⟩⟩⟩⟩⟩⟩⟩⟩⟩⟩⟩⟩
set_option maxRecDepth 100000 in
theorem gh_m1 : ∀ e ∈ gh_mrt.getD 1 [], gh_mOK 1 e := by
  show ∀ e ∈ ([(37, 68, 1), (55, 18, 2), (58, 20, 4), (66, 71, 2), (62, 15, 2), (51, 13, 2)] : List (Nat × Nat × Nat)), gh_mOK 1 e
  exact List.forall_mem_cons.mpr ⟨gh_mk gh_y68 rfl (by decide +kernel) (Or.inl (gh_w 214 rfl rfl)), List.forall_mem_cons.mpr ⟨gh_mk gh_y18 rfl (by decide +kernel) (Or.inl (gh_w 455 rfl rfl)), List.forall_mem_cons.mpr ⟨gh_mk gh_y20 rfl (by decide +kernel) (Or.inl (gh_w 588 rfl rfl)), List.forall_mem_cons.mpr ⟨gh_mk gh_y71 rfl (by decide +kernel) (Or.inl (gh_w 591 rfl rfl)), List.forall_mem_cons.mpr ⟨gh_mk gh_y15 rfl (by decide +kernel) (Or.inl (gh_w 592 rfl rfl)), List.forall_mem_cons.mpr ⟨gh_mk gh_y13 rfl (by decide +kernel) (Or.inl (gh_w 763 rfl rfl)), (fun _ h => absurd h List.not_mem_nil)⟩⟩⟩⟩⟩⟩
set_option maxRecDepth 100000 in
theorem gh_m2 : ∀ e ∈ gh_mrt.getD 2 [], gh_mOK 2 e := by
  show ∀ e ∈ ([(28, 25, 2), (32, 123, 2)] : List (Nat × Nat × Nat)), gh_mOK 2 e
  exact List.forall_mem_cons.mpr ⟨gh_mk gh_y25 rfl (by decide +kernel) (Or.inl (gh_w 407 rfl rfl)), List.forall_mem_cons.mpr ⟨gh_mk gh_y123 rfl (by decide +kernel) (Or.inr ⟨by decide, _, gh_n 443 rfl rfl⟩), (fun _ h => absurd h List.not_mem_nil)⟩⟩
set_option maxRecDepth 100000 in
theorem gh_m3 : ∀ e ∈ gh_mrt.getD 3 [], gh_mOK 3 e := by
  show ∀ e ∈ ([(24, 125, 2), (30, 30, 2), (34, 34, 1), (37, 31, 2), (40, 36, 4), (63, 67, 2), (44, 37, 2), (47, 38, 3)] : List (Nat × Nat × Nat)), gh_mOK 3 e
  exact List.forall_mem_cons.mpr ⟨gh_mk gh_y125 rfl (by decide +kernel) (Or.inl (gh_w 104 rfl rfl)), List.forall_mem_cons.mpr ⟨gh_mk gh_y30 rfl (by decide +kernel) (Or.inl (gh_w 507 rfl rfl)), List.forall_mem_cons.mpr ⟨gh_mk gh_y34 rfl (by decide +kernel) (Or.inl (gh_w 511 rfl rfl)), List.forall_mem_cons.mpr ⟨gh_mk gh_y31 rfl (by decide +kernel) (Or.inl (gh_w 514 rfl rfl)), List.forall_mem_cons.mpr ⟨gh_mk gh_y36 rfl (by decide +kernel) (Or.inl (gh_w 659 rfl rfl)), List.forall_mem_cons.mpr ⟨gh_mk gh_y67 rfl (by decide +kernel) (Or.inl (gh_w 663 rfl rfl)), List.forall_mem_cons.mpr ⟨gh_mk gh_y37 rfl (by decide +kernel) (Or.inl (gh_w 669 rfl rfl)), List.forall_mem_cons.mpr ⟨gh_mk gh_y38 rfl (by decide +kernel) (Or.inl (gh_w 673 rfl rfl)), (fun _ h => absurd h List.not_mem_nil)⟩⟩⟩⟩⟩⟩⟩⟩
set_option maxRecDepth 100000 in
theorem gh_m4 : ∀ e ∈ gh_mrt.getD 4 [], gh_mOK 4 e := by
  show ∀ e ∈ ([(50, 125, 2), (70, 48, 5), (82, 52, 2), (103, 53, 4), (110, 19, 3), (62, 57, 4), (114, 55, 4), (121, 74, 3), (118, 54, 3), (86, 56, 2), (74, 51, 3), (66, 40, 2)] : List (Nat × Nat × Nat)), gh_mOK 4 e
  exact List.forall_mem_cons.mpr ⟨gh_mk gh_y125 rfl (by decide +kernel) (Or.inl (gh_w 167 rfl rfl)), List.forall_mem_cons.mpr ⟨gh_mk gh_y48 rfl (by decide +kernel) (Or.inl (gh_w 569 rfl rfl)), List.forall_mem_cons.mpr ⟨gh_mk gh_y52 rfl (by decide +kernel) (Or.inl (gh_w 573 rfl rfl)), List.forall_mem_cons.mpr ⟨gh_mk gh_y53 rfl (by decide +kernel) (Or.inl (gh_w 580 rfl rfl)), List.forall_mem_cons.mpr ⟨gh_mk gh_y19 rfl (by decide +kernel) (Or.inl (gh_w 584 rfl rfl)), List.forall_mem_cons.mpr ⟨gh_mk gh_y57 rfl (by decide +kernel) (Or.inl (gh_w 596 rfl rfl)), List.forall_mem_cons.mpr ⟨gh_mk gh_y55 rfl (by decide +kernel) (Or.inl (gh_w 602 rfl rfl)), List.forall_mem_cons.mpr ⟨gh_mk gh_y74 rfl (by decide +kernel) (Or.inl (gh_w 606 rfl rfl)), List.forall_mem_cons.mpr ⟨gh_mk gh_y54 rfl (by decide +kernel) (Or.inl (gh_w 612 rfl rfl)), List.forall_mem_cons.mpr ⟨gh_mk gh_y56 rfl (by decide +kernel) (Or.inl (gh_w 697 rfl rfl)), List.forall_mem_cons.mpr ⟨gh_mk gh_y51 rfl (by decide +kernel) (Or.inl (gh_w 700 rfl rfl)), List.forall_mem_cons.mpr ⟨gh_mk gh_y40 rfl (by decide +kernel) (Or.inl (gh_w 822 rfl rfl)), (fun _ h => absurd h List.not_mem_nil)⟩⟩⟩⟩⟩⟩⟩⟩⟩⟩⟩⟩
set_option maxRecDepth 100000 in
theorem gh_m5 : ∀ e ∈ gh_mrt.getD 5 [], gh_mOK 5 e := by
  show ∀ e ∈ ([(44, 63, 2), (48, 64, 2), (51, 62, 2)] : List (Nat × Nat × Nat)), gh_mOK 5 e
  exact List.forall_mem_cons.mpr ⟨gh_mk gh_y63 rfl (by decide +kernel) (Or.inl (gh_w 641 rfl rfl)), List.forall_mem_cons.mpr ⟨gh_mk gh_y64 rfl (by decide +kernel) (Or.inl (gh_w 718 rfl rfl)), List.forall_mem_cons.mpr ⟨gh_mk gh_y62 rfl (by decide +kernel) (Or.inl (gh_w 719 rfl rfl)), (fun _ h => absurd h List.not_mem_nil)⟩⟩⟩
set_option maxRecDepth 100000 in
theorem gh_m6 : ∀ e ∈ gh_mrt.getD 6 [], gh_mOK 6 e := by
  show ∀ e ∈ ([(18, 126, 2), (30, 77, 2), (34, 72, 2), (38, 71, 2)] : List (Nat × Nat × Nat)), gh_mOK 6 e
  exact List.forall_mem_cons.mpr ⟨gh_mk gh_y126 rfl (by decide +kernel) (Or.inl (gh_w 134 rfl rfl)), List.forall_mem_cons.mpr ⟨gh_mk gh_y77 rfl (by decide +kernel) (Or.inl (gh_w 538 rfl rfl)), List.forall_mem_cons.mpr ⟨gh_mk gh_y72 rfl (by decide +kernel) (Or.inl (gh_w 610 rfl rfl)), List.forall_mem_cons.mpr ⟨gh_mk gh_y71 rfl (by decide +kernel) (Or.inl (gh_w 611 rfl rfl)), (fun _ h => absurd h List.not_mem_nil)⟩⟩⟩⟩
set_option maxRecDepth 100000 in
theorem gh_m7 : ∀ e ∈ gh_mrt.getD 7 [], gh_mOK 7 e := by
  show ∀ e ∈ ([(11, 21, 1), (18, 58, 1), (25, 29, 1), (41, 0, 1), (48, 39, 1), (55, 68, 1), (67, 12, 2), (89, 22, 2), (93, 110, 2), (96, 116, 2), (111, 24, 2), (99, 23, 3), (107, 17, 2), (185, 117, 2), (188, 118, 2), (206, 1, 5), (216, 47, 2), (223, 75, 1), (134, 111, 2), (114, 113, 3), (137, 65, 2), (147, 60, 3), (130, 121, 1), (318, 35, 3), (326, 122, 2), (322, 76, 2), (338, 70, 2), (335, 49, 3), (156, 64, 2), (161, 61, 3), (192, 15, 2), (197, 16, 2), (117, 27, 3), (126, 59, 4), (179, 114, 3), (182, 14, 3), (250, 115, 3), (253, 41, 3), (258, 45, 4), (262, 42, 4), (272, 46, 5), (279, 40, 2), (289, 43, 2), (276, 112, 2), (297, 44, 2), (170, 30, 2), (173, 31, 2), (176, 32, 2), (226, 119, 2), (240, 66, 2), (243, 120, 4), (165, 67, 2), (237, 3, 5), (285, 50, 3), (230, 71, 2), (234, 72, 2)] : List (Nat × Nat × Nat)), gh_mOK 7 e
  exact List.forall_mem_cons.mpr ⟨gh_mk gh_y21 rfl (by decide +kernel) (Or.inr ⟨by decide, _, gh_n 30 rfl rfl⟩), List.forall_mem_cons.mpr ⟨gh_mk gh_y58 rfl (by decide +kernel) (Or.inr ⟨by decide, _, gh_n 57 rfl rfl⟩), List.forall_mem_cons.mpr ⟨gh_mk gh_y29 rfl (by decide +kernel) (Or.inl (gh_w 100 rfl rfl)), List.forall_mem_cons.mpr ⟨gh_mk gh_y0 rfl (by decide +kernel) (Or.inr ⟨by decide, _, gh_n 124 rfl rfl⟩), List.forall_mem_cons.mpr ⟨gh_mk gh_y39 rfl (by decide +kernel) (Or.inl (gh_w 163 rfl rfl)), List.forall_mem_cons.mpr ⟨gh_mk gh_y68 rfl (by decide +kernel) (Or.inl (gh_w 207 rfl rfl)), List.forall_mem_cons.mpr ⟨gh_mk gh_y12 rfl (by decide +kernel) (Or.inl (gh_w 209 rfl rfl)), List.forall_mem_cons.mpr ⟨gh_mk gh_y22 rfl (by decide +kernel) (Or.inl (gh_w 403 rfl rfl)), List.forall_mem_cons.mpr ⟨gh_mk gh_y110 rfl (by decide +kernel) (Or.inl (gh_w 415 rfl rfl)), List.forall_mem_cons.mpr ⟨gh_mk gh_y116 rfl (by decide +kernel) (Or.inl (gh_w 435 rfl rfl)), List.forall_mem_cons.mpr ⟨gh_mk gh_y24 rfl (by decide +kernel) (Or.inl (gh_w 439 rfl rfl)), List.forall_mem_cons.mpr ⟨gh_mk gh_y23 rfl (by decide +kernel) (Or.inl (gh_w 447 rfl rfl)), List.forall_mem_cons.mpr ⟨gh_mk gh_y17 rfl (by decide +kernel) (Or.inl (gh_w 451 rfl rfl)), List.forall_mem_cons.mpr ⟨gh_mk gh_y117 rfl (by decide +kernel) (Or.inl (gh_w 463 rfl rfl)), List.forall_mem_cons.mpr ⟨gh_mk gh_y118 rfl (by decide +kernel) (Or.inl (gh_w 468 rfl rfl)), List.forall_mem_cons.mpr ⟨gh_mk gh_y1 rfl (by decide +kernel) (Or.inl (gh_w 473 rfl rfl)), List.forall_mem_cons.mpr ⟨gh_mk gh_y47 rfl (by decide +kernel) (Or.inl (gh_w 565 rfl rfl)), List.forall_mem_cons.mpr ⟨gh_mk gh_y75 rfl (by decide +kernel) (Or.inl (gh_w 616 rfl rfl)), List.forall_mem_cons.mpr ⟨gh_mk gh_y111 rfl (by decide +kernel) (Or.inl (gh_w 627 rfl rfl)), List.forall_mem_cons.mpr ⟨gh_mk gh_y113 rfl (by decide +kernel) (Or.inl (gh_w 632 rfl rfl)), List.forall_mem_cons.mpr ⟨gh_mk gh_y65 rfl (by decide +kernel) (Or.inl (gh_w 637 rfl rfl)), List.forall_mem_cons.mpr ⟨gh_mk gh_y60 rfl (by decide +kernel) (Or.inl (gh_w 647 rfl rfl)), List.forall_mem_cons.mpr ⟨gh_mk gh_y121 rfl (by decide +kernel) (Or.inl (gh_w 651 rfl rfl)), List.forall_mem_cons.mpr ⟨gh_mk gh_y35 rfl (by decide +kernel) (Or.inl (gh_w 655 rfl rfl)), List.forall_mem_cons.mpr ⟨gh_mk gh_y122 rfl (by decide +kernel) (Or.inl (gh_w 677 rfl rfl)), List.forall_mem_cons.mpr ⟨gh_mk gh_y76 rfl (by decide +kernel) (Or.inl (gh_w 681 rfl rfl)), List.forall_mem_cons.mpr ⟨gh_mk gh_y70 rfl (by decide +kernel) (Or.inl (gh_w 685 rfl rfl)), List.forall_mem_cons.mpr ⟨gh_mk gh_y49 rfl (by decide +kernel) (Or.inl (gh_w 693 rfl rfl)), List.forall_mem_cons.mpr ⟨gh_mk gh_y64 rfl (by decide +kernel) (Or.inl (gh_w 709 rfl rfl)), List.forall_mem_cons.mpr ⟨gh_mk gh_y61 rfl (by decide +kernel) (Or.inl (gh_w 714 rfl rfl)), List.forall_mem_cons.mpr ⟨gh_mk gh_y15 rfl (by decide +kernel) (Or.inl (gh_w 727 rfl rfl)), List.forall_mem_cons.mpr ⟨gh_mk gh_y16 rfl (by decide +kernel) (Or.inl (gh_w 729 rfl rfl)), List.forall_mem_cons.mpr ⟨gh_mk gh_y27 rfl (by decide +kernel) (Or.inl (gh_w 740 rfl rfl)), List.forall_mem_cons.mpr ⟨gh_mk gh_y59 rfl (by decide +kernel) (Or.inl (gh_w 746 rfl rfl)), List.forall_mem_cons.mpr ⟨gh_mk gh_y114 rfl (by decide +kernel) (Or.inl (gh_w 754 rfl rfl)), List.forall_mem_cons.mpr ⟨gh_mk gh_y14 rfl (by decide +kernel) (Or.inl (gh_w 759 rfl rfl)), List.forall_mem_cons.mpr ⟨gh_mk gh_y115 rfl (by decide +kernel) (Or.inl (gh_w 768 rfl rfl)), List.forall_mem_cons.mpr ⟨gh_mk gh_y41 rfl (by decide +kernel) (Or.inl (gh_w 773 rfl rfl)), List.forall_mem_cons.mpr ⟨gh_mk gh_y45 rfl (by decide +kernel) (Or.inl (gh_w 778 rfl rfl)), List.forall_mem_cons.mpr ⟨gh_mk gh_y42 rfl (by decide +kernel) (Or.inl (gh_w 789 rfl rfl)), List.forall_mem_cons.mpr ⟨gh_mk gh_y46 rfl (by decide +kernel) (Or.inl (gh_w 795 rfl rfl)), List.forall_mem_cons.mpr ⟨gh_mk gh_y40 rfl (by decide +kernel) (Or.inl (gh_w 814 rfl rfl)), List.forall_mem_cons.mpr ⟨gh_mk gh_y43 rfl (by decide +kernel) (Or.inl (gh_w 818 rfl rfl)), List.forall_mem_cons.mpr ⟨gh_mk gh_y112 rfl (by decide +kernel) (Or.inl (gh_w 831 rfl rfl)), List.forall_mem_cons.mpr ⟨gh_mk gh_y44 rfl (by decide +kernel) (Or.inl (gh_w 852 rfl rfl)), List.forall_mem_cons.mpr ⟨gh_mk gh_y30 rfl (by decide +kernel) (Or.inl (gh_w 864 rfl rfl)), List.forall_mem_cons.mpr ⟨gh_mk gh_y31 rfl (by decide +kernel) (Or.inl (gh_w 865 rfl rfl)), List.forall_mem_cons.mpr ⟨gh_mk gh_y32 rfl (by decide +kernel) (Or.inl (gh_w 877 rfl rfl)), List.forall_mem_cons.mpr ⟨gh_mk gh_y119 rfl (by decide +kernel) (Or.inl (gh_w 890 rfl rfl)), List.forall_mem_cons.mpr ⟨gh_mk gh_y66 rfl (by decide +kernel) (Or.inl (gh_w 898 rfl rfl)), List.forall_mem_cons.mpr ⟨gh_mk gh_y120 rfl (by decide +kernel) (Or.inl (gh_w 902 rfl rfl)), List.forall_mem_cons.mpr ⟨gh_mk gh_y67 rfl (by decide +kernel) (Or.inl (gh_w 906 rfl rfl)), List.forall_mem_cons.mpr ⟨gh_mk gh_y3 rfl (by decide +kernel) (Or.inl (gh_w 927 rfl rfl)), List.forall_mem_cons.mpr ⟨gh_mk gh_y50 rfl (by decide +kernel) (Or.inl (gh_w 939 rfl rfl)), List.forall_mem_cons.mpr ⟨gh_mk gh_y71 rfl (by decide +kernel) (Or.inl (gh_w 950 rfl rfl)), List.forall_mem_cons.mpr ⟨gh_mk gh_y72 rfl (by decide +kernel) (Or.inl (gh_w 955 rfl rfl)), (fun _ h => absurd h List.not_mem_nil)⟩⟩⟩⟩⟩⟩⟩⟩⟩⟩⟩⟩⟩⟩⟩⟩⟩⟩⟩⟩⟩⟩⟩⟩⟩⟩⟩⟩⟩⟩⟩⟩⟩⟩⟩⟩⟩⟩⟩⟩⟩⟩⟩⟩⟩⟩⟩⟩⟩⟩⟩⟩⟩⟩⟩⟩
set_option maxRecDepth 100000 in
theorem gh_m8 : ∀ e ∈ gh_mrt.getD 8 [], gh_mOK 8 e := by
  show ∀ e ∈ ([] : List (Nat × Nat × Nat)), gh_mOK 8 e
  exact (fun _ h => absurd h List.not_mem_nil)
set_option maxRecDepth 100000 in
theorem gh_m10 : ∀ e ∈ gh_mrt.getD 10 [], gh_mOK 10 e := by
  show ∀ e ∈ ([] : List (Nat × Nat × Nat)), gh_mOK 10 e
  exact (fun _ h => absurd h List.not_mem_nil)
set_option maxRecDepth 100000 in
theorem gh_m11 : ∀ e ∈ gh_mrt.getD 11 [], gh_mOK 11 e := by
  show ∀ e ∈ ([] : List (Nat × Nat × Nat)), gh_mOK 11 e
  exact (fun _ h => absurd h List.not_mem_nil)
set_option maxRecDepth 100000 in
theorem gh_m12 : ∀ e ∈ gh_mrt.getD 12 [], gh_mOK 12 e := by
  show ∀ e ∈ ([] : List (Nat × Nat × Nat)), gh_mOK 12 e
  exact (fun _ h => absurd h List.not_mem_nil)
