section LC3
variable {c0 : gh_C} {xs : List Int32} {t c : Nat} {lo : gh_L} {σ : gb_S}
theorem lc_16 (hc0 : c0 = (20, xs.map Value.int)) (hl : xs.length ≤ 2560) (hj : 5 * c + 5 ≤ xs.length) (l : LL lo c) (H : CM rI c (fx_209 (xj xs c 1)) (fx_156 (xj xs c 1)) σ) (cont : ∀ σ2 lo2, JJ (c + 1) σ2 → LL lo2 c → zw c0 t 1959 lo2 [] σ2) : zw c0 (t + 31) 1062 lo [] σ := by
  obtain ⟨k, σ1, b, σ2, e1, e2, e3, e4, e5, e6, e7⟩ := H
  refine zw_al (i := .aload_n 1) (len := 1) 1063 1 (by decide +kernel) rfl l.2.1 ?_
  refine zw_arg (pc := 1063) 1 hc0 hl (by omega) l (by decide +kernel) ?_
  refine zw_al (i := .aload_n 3) (len := 1) 1070 3 (by decide +kernel) rfl l.2.2.2.1 ?_
  refine zw_c (i := .invokestatic 170) (len := 3) 1073 (by decide +kernel) (gm_209 (xj xs c 1)) rfl (gb_ss rfl rfl rfl rfl rfl rfl rfl) e1 rfl rfl ?_
  refine zw_s (i := .istore 5) (len := 2) (lo' := gh_st1 lo 5 (vi k)) (st' := []) 1075 (by decide +kernel) rfl ?_
  have l5 := LL_5 (v := vi k) l
  refine zw_al (i := .aload_n 2) (len := 1) 1076 2 (by decide +kernel) rfl l5.2.2.1 ?_
  refine zw_arg (pc := 1076) 1 hc0 hl (by omega) l5 (by decide +kernel) ?_
  refine zw_c (i := .invokevirtual 172) (len := 3) 1085 (by decide +kernel) (gm_156 (xj xs c 1)) rfl (gb_vs rfl rfl rfl rfl rfl gcl_187 rfl rfl rfl) e2 rfl rfl ?_
  refine zw_s (i := .istore 6) (len := 2) (lo' := gh_st1 (gh_st1 lo 5 (vi k)) 6 (vi b)) (st' := []) 1087 (by decide +kernel) rfl ?_
  exact zw_tI (q := 1087) (off := 844) (LL_6 l5) (gl1 rfl rfl gs1) gs1 (by decide +kernel) (by decide +kernel) rfl e3 e4 e5 e6 (cont _ _ e7 (LL_6 l5))
theorem lc_17 (hc0 : c0 = (20, xs.map Value.int)) (hl : xs.length ≤ 2560) (hj : 5 * c + 5 ≤ xs.length) (l : LL lo c) (H : CM (fun b => b = 0 ∨ b = 1) c (fx_210 (xj xs c 1)) (fx_157 (xj xs c 1)) σ) (cont : ∀ σ2 lo2, JJ (c + 1) σ2 → LL lo2 c → zw c0 t 1959 lo2 [] σ2) : zw c0 (t + 37) 1118 lo [] σ := by
  obtain ⟨k, σ1, b, σ2, e1, e2, e3, e4, e5, e6, e7⟩ := H
  refine zw_al (i := .aload_n 1) (len := 1) 1119 1 (by decide +kernel) rfl l.2.1 ?_
  refine zw_arg (pc := 1119) 1 hc0 hl (by omega) l (by decide +kernel) ?_
  refine zw_al (i := .aload_n 3) (len := 1) 1126 3 (by decide +kernel) rfl l.2.2.2.1 ?_
  refine zw_c (i := .invokestatic 173) (len := 3) 1129 (by decide +kernel) (gm_210 (xj xs c 1)) rfl (gb_ss rfl rfl rfl rfl rfl rfl rfl) e1 rfl rfl ?_
  refine zw_s (i := .istore 5) (len := 2) (lo' := gh_st1 lo 5 (vi k)) (st' := []) 1131 (by decide +kernel) rfl ?_
  have l5 := LL_5 (v := vi k) l
  refine zw_al (i := .aload_n 2) (len := 1) 1132 2 (by decide +kernel) rfl l5.2.2.1 ?_
  refine zw_arg (pc := 1132) 1 hc0 hl (by omega) l5 (by decide +kernel) ?_
  refine zw_c (i := .invokevirtual 175) (len := 3) 1141 (by decide +kernel) (gm_157 (xj xs c 1)) rfl (gb_vs rfl rfl rfl rfl rfl gcl_187 rfl rfl rfl) e2 rfl rfl ?_
  refine zw_s (i := .istore 6) (len := 2) (lo' := gh_st1 (gh_st1 lo 5 (vi k)) 6 (vi b)) (st' := []) 1143 (by decide +kernel) rfl ?_
  exact zw_tZ (q := 1143) (off := 781) (LL_6 l5) (gl1 rfl rfl gs1) gs1 (by decide +kernel) (by decide +kernel) rfl e3 e4 e5 e6 (cont _ _ e7 (LL_6 l5))
theorem lc_18 (hc0 : c0 = (20, xs.map Value.int)) (hl : xs.length ≤ 2560) (hj : 5 * c + 5 ≤ xs.length) (l : LL lo c) (H : CM rJ c (fx_211 (xj xs c 1) (xj xs c 2)) (fx_174 (xj xs c 1) (xj xs c 2)) σ) (cont : ∀ σ2 lo2, JJ (c + 1) σ2 → LL lo2 c → zw c0 t 1959 lo2 [] σ2) : zw c0 (t + 41) 1181 lo [] σ := by
  obtain ⟨k, σ1, b, σ2, e1, e2, e3, e4, e5, e6, e7⟩ := H
  refine zw_al (i := .aload_n 1) (len := 1) 1182 1 (by decide +kernel) rfl l.2.1 ?_
  refine zw_arg (pc := 1182) 1 hc0 hl (by omega) l (by decide +kernel) ?_
  refine zw_arg (pc := 1188) 2 hc0 hl (by omega) l (by decide +kernel) ?_
  refine zw_al (i := .aload_n 3) (len := 1) 1195 3 (by decide +kernel) rfl l.2.2.2.1 ?_
  refine zw_c (i := .invokestatic 176) (len := 3) 1198 (by decide +kernel) (gm_211 (xj xs c 1) (xj xs c 2)) rfl (gb_ss rfl rfl rfl rfl rfl rfl rfl) e1 rfl rfl ?_
  refine zw_s (i := .istore 5) (len := 2) (lo' := gh_st1 lo 5 (vi k)) (st' := []) 1200 (by decide +kernel) rfl ?_
  have l5 := LL_5 (v := vi k) l
  refine zw_al (i := .aload_n 2) (len := 1) 1201 2 (by decide +kernel) rfl l5.2.2.1 ?_
  refine zw_arg (pc := 1201) 1 hc0 hl (by omega) l5 (by decide +kernel) ?_
  refine zw_arg (pc := 1207) 2 hc0 hl (by omega) l5 (by decide +kernel) ?_
  refine zw_c (i := .invokevirtual 178) (len := 3) 1216 (by decide +kernel) (gm_174 (xj xs c 1) (xj xs c 2)) rfl (gb_vs rfl rfl rfl rfl rfl gcl_187 rfl rfl rfl) e2 rfl rfl ?_
  refine zw_s (i := .lstore 6) (len := 2) (lo' := gh_st2 (gh_st1 lo 5 (vi k)) 6 (vl b)) (st' := []) 1218 (by decide +kernel) rfl ?_
  exact zw_tJ (q := 1218) (off := 714) (LL_7 l5) (gl2 rfl rfl rfl gs1) gs2 (by decide +kernel) (by decide +kernel) rfl e3 e4 e5 e6 (cont _ _ e7 (LL_7 l5))
theorem lc_19 (hc0 : c0 = (20, xs.map Value.int)) (hl : xs.length ≤ 2560) (hj : 5 * c + 5 ≤ xs.length) (l : LL lo c) (H : CM rJ c (fx_212 (xj xs c 1) (xj xs c 2)) (fx_175 (xj xs c 1) (xj xs c 2)) σ) (cont : ∀ σ2 lo2, JJ (c + 1) σ2 → LL lo2 c → zw c0 t 1959 lo2 [] σ2) : zw c0 (t + 41) 1248 lo [] σ := by
  obtain ⟨k, σ1, b, σ2, e1, e2, e3, e4, e5, e6, e7⟩ := H
  refine zw_al (i := .aload_n 1) (len := 1) 1249 1 (by decide +kernel) rfl l.2.1 ?_
  refine zw_arg (pc := 1249) 1 hc0 hl (by omega) l (by decide +kernel) ?_
  refine zw_arg (pc := 1255) 2 hc0 hl (by omega) l (by decide +kernel) ?_
  refine zw_al (i := .aload_n 3) (len := 1) 1262 3 (by decide +kernel) rfl l.2.2.2.1 ?_
  refine zw_c (i := .invokestatic 179) (len := 3) 1265 (by decide +kernel) (gm_212 (xj xs c 1) (xj xs c 2)) rfl (gb_ss rfl rfl rfl rfl rfl rfl rfl) e1 rfl rfl ?_
  refine zw_s (i := .istore 5) (len := 2) (lo' := gh_st1 lo 5 (vi k)) (st' := []) 1267 (by decide +kernel) rfl ?_
  have l5 := LL_5 (v := vi k) l
  refine zw_al (i := .aload_n 2) (len := 1) 1268 2 (by decide +kernel) rfl l5.2.2.1 ?_
  refine zw_arg (pc := 1268) 1 hc0 hl (by omega) l5 (by decide +kernel) ?_
  refine zw_arg (pc := 1274) 2 hc0 hl (by omega) l5 (by decide +kernel) ?_
  refine zw_c (i := .invokevirtual 181) (len := 3) 1283 (by decide +kernel) (gm_175 (xj xs c 1) (xj xs c 2)) rfl (gb_vs rfl rfl rfl rfl rfl gcl_187 rfl rfl rfl) e2 rfl rfl ?_
  refine zw_s (i := .lstore 6) (len := 2) (lo' := gh_st2 (gh_st1 lo 5 (vi k)) 6 (vl b)) (st' := []) 1285 (by decide +kernel) rfl ?_
  exact zw_tJ (q := 1285) (off := 647) (LL_7 l5) (gl2 rfl rfl rfl gs1) gs2 (by decide +kernel) (by decide +kernel) rfl e3 e4 e5 e6 (cont _ _ e7 (LL_7 l5))
theorem lc_20 (hc0 : c0 = (20, xs.map Value.int)) (hl : xs.length ≤ 2560) (hj : 5 * c + 5 ≤ xs.length) (l : LL lo c) (H : CM rJ c (fx_213 (xj xs c 1) (xj xs c 2)) (fx_176 (xj xs c 1) (xj xs c 2)) σ) (cont : ∀ σ2 lo2, JJ (c + 1) σ2 → LL lo2 c → zw c0 t 1959 lo2 [] σ2) : zw c0 (t + 41) 1315 lo [] σ := by
  obtain ⟨k, σ1, b, σ2, e1, e2, e3, e4, e5, e6, e7⟩ := H
  refine zw_al (i := .aload_n 1) (len := 1) 1316 1 (by decide +kernel) rfl l.2.1 ?_
  refine zw_arg (pc := 1316) 1 hc0 hl (by omega) l (by decide +kernel) ?_
  refine zw_arg (pc := 1322) 2 hc0 hl (by omega) l (by decide +kernel) ?_
  refine zw_al (i := .aload_n 3) (len := 1) 1329 3 (by decide +kernel) rfl l.2.2.2.1 ?_
  refine zw_c (i := .invokestatic 182) (len := 3) 1332 (by decide +kernel) (gm_213 (xj xs c 1) (xj xs c 2)) rfl (gb_ss rfl rfl rfl rfl rfl rfl rfl) e1 rfl rfl ?_
  refine zw_s (i := .istore 5) (len := 2) (lo' := gh_st1 lo 5 (vi k)) (st' := []) 1334 (by decide +kernel) rfl ?_
  have l5 := LL_5 (v := vi k) l
  refine zw_al (i := .aload_n 2) (len := 1) 1335 2 (by decide +kernel) rfl l5.2.2.1 ?_
  refine zw_arg (pc := 1335) 1 hc0 hl (by omega) l5 (by decide +kernel) ?_
  refine zw_arg (pc := 1341) 2 hc0 hl (by omega) l5 (by decide +kernel) ?_
  refine zw_c (i := .invokevirtual 184) (len := 3) 1350 (by decide +kernel) (gm_176 (xj xs c 1) (xj xs c 2)) rfl (gb_vs rfl rfl rfl rfl rfl gcl_187 rfl rfl rfl) e2 rfl rfl ?_
  refine zw_s (i := .lstore 6) (len := 2) (lo' := gh_st2 (gh_st1 lo 5 (vi k)) 6 (vl b)) (st' := []) 1352 (by decide +kernel) rfl ?_
  exact zw_tJ (q := 1352) (off := 580) (LL_7 l5) (gl2 rfl rfl rfl gs1) gs2 (by decide +kernel) (by decide +kernel) rfl e3 e4 e5 e6 (cont _ _ e7 (LL_7 l5))
theorem lc_21 (hc0 : c0 = (20, xs.map Value.int)) (hl : xs.length ≤ 2560) (hj : 5 * c + 5 ≤ xs.length) (l : LL lo c) (H : CM rI c (fx_214 (xj xs c 1)) (fx_177 (xj xs c 1)) σ) (cont : ∀ σ2 lo2, JJ (c + 1) σ2 → LL lo2 c → zw c0 t 1959 lo2 [] σ2) : zw c0 (t + 31) 1382 lo [] σ := by
  obtain ⟨k, σ1, b, σ2, e1, e2, e3, e4, e5, e6, e7⟩ := H
  refine zw_al (i := .aload_n 1) (len := 1) 1383 1 (by decide +kernel) rfl l.2.1 ?_
  refine zw_arg (pc := 1383) 1 hc0 hl (by omega) l (by decide +kernel) ?_
  refine zw_al (i := .aload_n 3) (len := 1) 1390 3 (by decide +kernel) rfl l.2.2.2.1 ?_
  refine zw_c (i := .invokestatic 185) (len := 3) 1393 (by decide +kernel) (gm_214 (xj xs c 1)) rfl (gb_ss rfl rfl rfl rfl rfl rfl rfl) e1 rfl rfl ?_
  refine zw_s (i := .istore 5) (len := 2) (lo' := gh_st1 lo 5 (vi k)) (st' := []) 1395 (by decide +kernel) rfl ?_
  have l5 := LL_5 (v := vi k) l
  refine zw_al (i := .aload_n 2) (len := 1) 1396 2 (by decide +kernel) rfl l5.2.2.1 ?_
  refine zw_arg (pc := 1396) 1 hc0 hl (by omega) l5 (by decide +kernel) ?_
  refine zw_c (i := .invokevirtual 187) (len := 3) 1405 (by decide +kernel) (gm_177 (xj xs c 1)) rfl (gb_vs rfl rfl rfl rfl rfl gcl_187 rfl rfl rfl) e2 rfl rfl ?_
  refine zw_s (i := .istore 6) (len := 2) (lo' := gh_st1 (gh_st1 lo 5 (vi k)) 6 (vi b)) (st' := []) 1407 (by decide +kernel) rfl ?_
  exact zw_tI (q := 1407) (off := 524) (LL_6 l5) (gl1 rfl rfl gs1) gs1 (by decide +kernel) (by decide +kernel) rfl e3 e4 e5 e6 (cont _ _ e7 (LL_6 l5))
theorem lc_22 (hc0 : c0 = (20, xs.map Value.int)) (hl : xs.length ≤ 2560) (hj : 5 * c + 5 ≤ xs.length) (l : LL lo c) (H : CM rI c (fx_215 (xj xs c 1)) (fx_178 (xj xs c 1)) σ) (cont : ∀ σ2 lo2, JJ (c + 1) σ2 → LL lo2 c → zw c0 t 1959 lo2 [] σ2) : zw c0 (t + 31) 1438 lo [] σ := by
  obtain ⟨k, σ1, b, σ2, e1, e2, e3, e4, e5, e6, e7⟩ := H
  refine zw_al (i := .aload_n 1) (len := 1) 1439 1 (by decide +kernel) rfl l.2.1 ?_
  refine zw_arg (pc := 1439) 1 hc0 hl (by omega) l (by decide +kernel) ?_
  refine zw_al (i := .aload_n 3) (len := 1) 1446 3 (by decide +kernel) rfl l.2.2.2.1 ?_
  refine zw_c (i := .invokestatic 188) (len := 3) 1449 (by decide +kernel) (gm_215 (xj xs c 1)) rfl (gb_ss rfl rfl rfl rfl rfl rfl rfl) e1 rfl rfl ?_
  refine zw_s (i := .istore 5) (len := 2) (lo' := gh_st1 lo 5 (vi k)) (st' := []) 1451 (by decide +kernel) rfl ?_
  have l5 := LL_5 (v := vi k) l
  refine zw_al (i := .aload_n 2) (len := 1) 1452 2 (by decide +kernel) rfl l5.2.2.1 ?_
  refine zw_arg (pc := 1452) 1 hc0 hl (by omega) l5 (by decide +kernel) ?_
  refine zw_c (i := .invokevirtual 190) (len := 3) 1461 (by decide +kernel) (gm_178 (xj xs c 1)) rfl (gb_vs rfl rfl rfl rfl rfl gcl_187 rfl rfl rfl) e2 rfl rfl ?_
  refine zw_s (i := .istore 6) (len := 2) (lo' := gh_st1 (gh_st1 lo 5 (vi k)) 6 (vi b)) (st' := []) 1463 (by decide +kernel) rfl ?_
  exact zw_tI (q := 1463) (off := 468) (LL_6 l5) (gl1 rfl rfl gs1) gs1 (by decide +kernel) (by decide +kernel) rfl e3 e4 e5 e6 (cont _ _ e7 (LL_6 l5))
theorem lc_23 (hc0 : c0 = (20, xs.map Value.int)) (hl : xs.length ≤ 2560) (hj : 5 * c + 5 ≤ xs.length) (l : LL lo c) (H : CM rI c (fx_216 (xj xs c 1)) (fx_179 (xj xs c 1)) σ) (cont : ∀ σ2 lo2, JJ (c + 1) σ2 → LL lo2 c → zw c0 t 1959 lo2 [] σ2) : zw c0 (t + 31) 1494 lo [] σ := by
  obtain ⟨k, σ1, b, σ2, e1, e2, e3, e4, e5, e6, e7⟩ := H
  refine zw_al (i := .aload_n 1) (len := 1) 1495 1 (by decide +kernel) rfl l.2.1 ?_
  refine zw_arg (pc := 1495) 1 hc0 hl (by omega) l (by decide +kernel) ?_
  refine zw_al (i := .aload_n 3) (len := 1) 1502 3 (by decide +kernel) rfl l.2.2.2.1 ?_
  refine zw_c (i := .invokestatic 191) (len := 3) 1505 (by decide +kernel) (gm_216 (xj xs c 1)) rfl (gb_ss rfl rfl rfl rfl rfl rfl rfl) e1 rfl rfl ?_
  refine zw_s (i := .istore 5) (len := 2) (lo' := gh_st1 lo 5 (vi k)) (st' := []) 1507 (by decide +kernel) rfl ?_
  have l5 := LL_5 (v := vi k) l
  refine zw_al (i := .aload_n 2) (len := 1) 1508 2 (by decide +kernel) rfl l5.2.2.1 ?_
  refine zw_arg (pc := 1508) 1 hc0 hl (by omega) l5 (by decide +kernel) ?_
  refine zw_c (i := .invokevirtual 193) (len := 3) 1517 (by decide +kernel) (gm_179 (xj xs c 1)) rfl (gb_vs rfl rfl rfl rfl rfl gcl_187 rfl rfl rfl) e2 rfl rfl ?_
  refine zw_s (i := .istore 6) (len := 2) (lo' := gh_st1 (gh_st1 lo 5 (vi k)) 6 (vi b)) (st' := []) 1519 (by decide +kernel) rfl ?_
  exact zw_tI (q := 1519) (off := 412) (LL_6 l5) (gl1 rfl rfl gs1) gs1 (by decide +kernel) (by decide +kernel) rfl e3 e4 e5 e6 (cont _ _ e7 (LL_6 l5))
end LC3
