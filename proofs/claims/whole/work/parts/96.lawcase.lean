set_option maxRecDepth 100000 in
theorem lkL_13 : Cond.methodLink R_law 13 yX7_set ∈ zm_tb := (zm_in 380 rfl rfl)
set_option maxRecDepth 100000 in
theorem lkL_17 : Cond.methodLink R_law 17 yX8_set ∈ zm_tb := (zm_in 1031 rfl rfl)
set_option maxRecDepth 100000 in
theorem lkL_18 : Cond.methodLink R_law 18 yX7_answer ∈ zm_tb := (zm_in 405 rfl rfl)
set_option maxRecDepth 100000 in
theorem lkL_22 : Cond.methodLink R_law 22 yX8_answer ∈ zm_tb := (zm_in 1038 rfl rfl)
set_option maxRecDepth 100000 in
theorem lkL_23 : Cond.methodLink R_law 23 yX7_read ∈ zm_tb := (zm_in 426 rfl rfl)
set_option maxRecDepth 100000 in
theorem lkL_27 : Cond.methodLink R_law 27 yX8_read ∈ zm_tb := (zm_in 1055 rfl rfl)
set_option maxRecDepth 100000 in
theorem lkL_28 : Cond.methodLink R_law 28 yX7_said ∈ zm_tb := (zm_in 437 rfl rfl)
set_option maxRecDepth 100000 in
theorem lkL_31 : Cond.methodLink R_law 31 yX8_said ∈ zm_tb := (zm_in 1060 rfl rfl)
set_option maxRecDepth 100000 in
theorem lkL_32 : Cond.methodLink R_law 32 yX7_type ∈ zm_tb := (zm_in 445 rfl rfl)
set_option maxRecDepth 100000 in
theorem lkL_36 : Cond.methodLink R_law 36 yX8_type ∈ zm_tb := (zm_in 1068 rfl rfl)
set_option maxRecDepth 100000 in
theorem lkL_37 : Cond.methodLink R_law 37 yX7_wipe ∈ zm_tb := (zm_in 482 rfl rfl)
set_option maxRecDepth 100000 in
theorem lkL_41 : Cond.methodLink R_law 41 yX8_wipe ∈ zm_tb := (zm_in 1073 rfl rfl)
set_option maxRecDepth 100000 in
theorem lkL_42 : Cond.methodLink R_law 42 yX7_fault ∈ zm_tb := (zm_in 490 rfl rfl)
set_option maxRecDepth 100000 in
theorem lkL_45 : Cond.methodLink R_law 45 yX8_fault ∈ zm_tb := (zm_in 1077 rfl rfl)
set_option maxRecDepth 100000 in
theorem lkL_46 : Cond.methodLink R_law 46 yX7_needed ∈ zm_tb := (zm_in 494 rfl rfl)
set_option maxRecDepth 100000 in
theorem lkL_49 : Cond.methodLink R_law 49 yX8_needed ∈ zm_tb := (zm_in 1108 rfl rfl)
set_option maxRecDepth 100000 in
theorem lkL_50 : Cond.methodLink R_law 50 yX7_errors ∈ zm_tb := (zm_in 516 rfl rfl)
set_option maxRecDepth 100000 in
theorem lkL_53 : Cond.methodLink R_law 53 yX8_errors ∈ zm_tb := (zm_in 1135 rfl rfl)
set_option maxRecDepth 100000 in
theorem lkL_54 : Cond.methodLink R_law 54 yX7_off ∈ zm_tb := (zm_in 532 rfl rfl)
set_option maxRecDepth 100000 in
theorem lkL_57 : Cond.methodLink R_law 57 yX8_off ∈ zm_tb := (zm_in 1151 rfl rfl)
set_option maxRecDepth 100000 in
theorem lkL_58 : Cond.methodLink R_law 58 yX7_row ∈ zm_tb := (zm_in 583 rfl rfl)
set_option maxRecDepth 100000 in
theorem lkL_61 : Cond.methodLink R_law 61 yX8_row ∈ zm_tb := (zm_in 1179 rfl rfl)
set_option maxRecDepth 100000 in
theorem lkL_62 : Cond.methodLink R_law 62 yX7_step ∈ zm_tb := (zm_in 587 rfl rfl)
set_option maxRecDepth 100000 in
theorem lkL_65 : Cond.methodLink R_law 65 yX8_step ∈ zm_tb := (zm_in 1183 rfl rfl)
set_option maxRecDepth 100000 in
theorem lkL_66 : Cond.methodLink R_law 66 yX7_offBy ∈ zm_tb := (zm_in 605 rfl rfl)
set_option maxRecDepth 100000 in
theorem lkL_69 : Cond.methodLink R_law 69 yX8_offBy ∈ zm_tb := (zm_in 1191 rfl rfl)
set_option maxRecDepth 100000 in
theorem lkL_70 : Cond.methodLink R_law 70 yX7_fit ∈ zm_tb := (zm_in 613 rfl rfl)
set_option maxRecDepth 100000 in
theorem lkL_74 : Cond.methodLink R_law 74 yX8_fit ∈ zm_tb := (zm_in 1199 rfl rfl)
set_option maxRecDepth 100000 in
theorem lkL_75 : Cond.methodLink R_law 75 yX7_odd ∈ zm_tb := (zm_in 642 rfl rfl)
set_option maxRecDepth 100000 in
theorem lkL_78 : Cond.methodLink R_law 78 yX8_odd ∈ zm_tb := (zm_in 1222 rfl rfl)
set_option maxRecDepth 100000 in
theorem lkL_79 : Cond.methodLink R_law 79 yX7_without ∈ zm_tb := (zm_in 646 rfl rfl)
set_option maxRecDepth 100000 in
theorem lkL_82 : Cond.methodLink R_law 82 yX8_without ∈ zm_tb := (zm_in 1230 rfl rfl)
set_option maxRecDepth 100000 in
theorem lkL_83 : Cond.methodLink R_law 83 yX7_worst ∈ zm_tb := (zm_in 658 rfl rfl)
set_option maxRecDepth 100000 in
theorem lkL_86 : Cond.methodLink R_law 86 yX8_worst ∈ zm_tb := (zm_in 1238 rfl rfl)
set_option maxRecDepth 100000 in
theorem lkL_87 : Cond.methodLink R_law 87 yX7_states ∈ zm_tb := (zm_in 662 rfl rfl)
set_option maxRecDepth 100000 in
theorem lkL_90 : Cond.methodLink R_law 90 yX8_states ∈ zm_tb := (zm_in 1246 rfl rfl)
set_option maxRecDepth 100000 in
theorem lkL_91 : Cond.methodLink R_law 91 yX7_belongs ∈ zm_tb := (zm_in 682 rfl rfl)
set_option maxRecDepth 100000 in
theorem lkL_94 : Cond.methodLink R_law 94 yX8_belongs ∈ zm_tb := (zm_in 1262 rfl rfl)
set_option maxRecDepth 100000 in
theorem lkL_95 : Cond.methodLink R_law 95 yX7_next ∈ zm_tb := (zm_in 694 rfl rfl)
set_option maxRecDepth 100000 in
theorem lkL_98 : Cond.methodLink R_law 98 yX8_next ∈ zm_tb := (zm_in 1270 rfl rfl)
set_option maxRecDepth 100000 in
theorem lkL_99 : Cond.methodLink R_law 99 yX7_paths ∈ zm_tb := (zm_in 702 rfl rfl)
set_option maxRecDepth 100000 in
theorem lkL_102 : Cond.methodLink R_law 102 yX8_paths ∈ zm_tb := (zm_in 1274 rfl rfl)
set_option maxRecDepth 100000 in
theorem lkL_103 : Cond.methodLink R_law 103 yX7_deep ∈ zm_tb := (zm_in 711 rfl rfl)
set_option maxRecDepth 100000 in
theorem lkL_106 : Cond.methodLink R_law 106 yX8_deep ∈ zm_tb := (zm_in 1282 rfl rfl)
set_option maxRecDepth 100000 in
theorem lkL_107 : Cond.methodLink R_law 107 yX7_sure ∈ zm_tb := (zm_in 716 rfl rfl)
set_option maxRecDepth 100000 in
theorem lkL_110 : Cond.methodLink R_law 110 yX8_sure ∈ zm_tb := (zm_in 1290 rfl rfl)
set_option maxRecDepth 100000 in
theorem lkL_111 : Cond.methodLink R_law 111 yX7_chance ∈ zm_tb := (zm_in 747 rfl rfl)
set_option maxRecDepth 100000 in
theorem lkL_115 : Cond.methodLink R_law 115 yX8_chance ∈ zm_tb := (zm_in 1302 rfl rfl)
set_option maxRecDepth 100000 in
theorem lkL_116 : Cond.methodLink R_law 116 yX7_share ∈ zm_tb := (zm_in 766 rfl rfl)
set_option maxRecDepth 100000 in
theorem lkL_119 : Cond.methodLink R_law 119 yX8_share ∈ zm_tb := (zm_in 1314 rfl rfl)
set_option maxRecDepth 100000 in
theorem lkL_120 : Cond.methodLink R_law 120 yX7_likeliest ∈ zm_tb := (zm_in 770 rfl rfl)
set_option maxRecDepth 100000 in
theorem lkL_123 : Cond.methodLink R_law 123 yX8_likeliest ∈ zm_tb := (zm_in 1318 rfl rfl)
set_option maxRecDepth 100000 in
theorem lkL_124 : Cond.methodLink R_law 124 yX7_lessons ∈ zm_tb := (zm_in 775 rfl rfl)
set_option maxRecDepth 100000 in
theorem lkL_127 : Cond.methodLink R_law 127 yX8_lessons ∈ zm_tb := (zm_in 1327 rfl rfl)
set_option maxRecDepth 100000 in
theorem lkL_128 : Cond.methodLink R_law 128 yX7_sheet ∈ zm_tb := (zm_in 807 rfl rfl)
set_option maxRecDepth 100000 in
theorem lkL_131 : Cond.methodLink R_law 131 yX8_sheet ∈ zm_tb := (zm_in 991 rfl rfl)
set_option maxRecDepth 100000 in
theorem lkL_132 : Cond.methodLink R_law 132 yX7_lose ∈ zm_tb := (zm_in 816 rfl rfl)
set_option maxRecDepth 100000 in
theorem lkL_135 : Cond.methodLink R_law 135 yX8_lose ∈ zm_tb := (zm_in 1007 rfl rfl)
set_option maxRecDepth 100000 in
theorem lkL_136 : Cond.methodLink R_law 136 yX7_lay ∈ zm_tb := (zm_in 820 rfl rfl)
set_option maxRecDepth 100000 in
theorem lkL_139 : Cond.methodLink R_law 139 yX8_lay ∈ zm_tb := (zm_in 1011 rfl rfl)
set_option maxRecDepth 100000 in
theorem lkL_140 : Cond.methodLink R_law 140 yX7_get ∈ zm_tb := (zm_in 833 rfl rfl)
set_option maxRecDepth 100000 in
theorem lkL_143 : Cond.methodLink R_law 143 yX8_get ∈ zm_tb := (zm_in 1022 rfl rfl)
set_option maxRecDepth 100000 in
theorem lkL_144 : Cond.methodLink R_law 144 yX7_copy ∈ zm_tb := (zm_in 838 rfl rfl)
set_option maxRecDepth 100000 in
theorem lkL_148 : Cond.methodLink R_law 148 yX8_copy ∈ zm_tb := (zm_in 1027 rfl rfl)
set_option maxRecDepth 100000 in
theorem lkL_149 : Cond.methodLink R_law 149 yX7_write ∈ zm_tb := (zm_in 847 rfl rfl)
set_option maxRecDepth 100000 in
theorem lkL_152 : Cond.methodLink R_law 152 yX8_write ∈ zm_tb := (zm_in 1347 rfl rfl)
set_option maxRecDepth 100000 in
theorem lkL_153 : Cond.methodLink R_law 153 yX7_count ∈ zm_tb := (zm_in 851 rfl rfl)
set_option maxRecDepth 100000 in
theorem lkL_156 : Cond.methodLink R_law 156 yX8_count ∈ zm_tb := (zm_in 1351 rfl rfl)
set_option maxRecDepth 100000 in
theorem lkL_157 : Cond.methodLink R_law 157 yX7_digest ∈ zm_tb := (zm_in 863 rfl rfl)
set_option maxRecDepth 100000 in
theorem lkL_161 : Cond.methodLink R_law 161 yX8_digest ∈ zm_tb := (zm_in 1359 rfl rfl)
section ZLC
variable {l : Launch} {p : Program} {e : Env} {s : State} {m : MethodId} {below : List Frame} {meth : Method} {c : Code} {b L : Nat} {xs : Nat → Int32} {D : va_G} {ca : FieldType → ClassId} {ad1 ad2 : Nat → Nat} {i : Int32} {w v : zm_S} {a : zs_A}
set_option maxRecDepth 20000 in
theorem zl_c0 (hG : zl_G p s m meth c b L xs D ca ad1 ad2) (h : zc_P a w) (h' : zd_P a v) (h1 : vp_in (i + 1) L) (h2 : vp_in (i + 2) L) (h3 : vp_in (i + 3) L) (h4 : vp_in (i + 4) L) (h5 : vp_in (i + 5) L) (K : ∀ (a' : zs_A) (w' v' : zm_S), zc_P a' w' → zd_P a' v' → zl_T l p e s m below meth c b D ca ad1 ad2 1337 i [] w' v') : zl_T l p e s m below meth c b D ca ad1 ad2 188 i [] w v := by
  refine zl_ld1 hG dL_law_188 ?_
  refine zl_arg (x := 1) hG h1 dL_law_189 dL_law_190 dL_law_191 (by decide) dL_law_192 dL_law_193 ?_
  refine zl_arg (x := 2) hG h2 dL_law_194 dL_law_195 dL_law_196 (by decide) dL_law_197 dL_law_198 ?_
  refine zl_set (x := (xs (i + 1).toNatClampNeg)) (y := (xs (i + 2).toNatClampNeg)) (rest := []) hG h dL_law_199 lkL_13 (Nat.le_of_ble_eq_true rfl) (zp_i (fun u hu => ?_))
  refine zl_ld2 hG dL_law_202 ?_
  refine zl_arg (x := 1) hG h1 dL_law_203 dL_law_204 dL_law_205 (by decide) dL_law_206 dL_law_207 ?_
  refine zl_arg (x := 2) hG h2 dL_law_208 dL_law_209 dL_law_210 (by decide) dL_law_211 dL_law_212 ?_
  refine zl_mi (as := [.int (xs (i + 1).toNatClampNeg), .int (xs (i + 2).toNatClampNeg)]) (rest := [_]) hG dL_law_213 mtX8_set lkL_17 (C := RX8) rfl rfl (fun _ => rfl) rfl rfl (Nat.le_of_ble_eq_true rfl) (Nat.le_of_ble_eq_true rfl) rfl (m_set (d := 0) h' (xs (i + 1).toNatClampNeg) (xs (i + 2).toNatClampNeg)) (zp_i (fun u' hu' => ?_))
  exact zl_eq hG dL_law_216 (K _ _ _ hu hu')
set_option maxRecDepth 20000 in
theorem zl_c1 (hG : zl_G p s m meth c b L xs D ca ad1 ad2) (h : zc_P a w) (h' : zd_P a v) (h1 : vp_in (i + 1) L) (h2 : vp_in (i + 2) L) (h3 : vp_in (i + 3) L) (h4 : vp_in (i + 4) L) (h5 : vp_in (i + 5) L) (K : ∀ (a' : zs_A) (w' v' : zm_S), zc_P a' w' → zd_P a' v' → zl_T l p e s m below meth c b D ca ad1 ad2 1337 i [] w' v') : zl_T l p e s m below meth c b D ca ad1 ad2 221 i [] w v := by
  refine zl_ld1 hG dL_law_221 ?_
  refine zl_arg (x := 1) hG h1 dL_law_222 dL_law_223 dL_law_224 (by decide) dL_law_225 dL_law_226 ?_
  refine zl_arg (x := 2) hG h2 dL_law_227 dL_law_228 dL_law_229 (by decide) dL_law_230 dL_law_231 ?_
  refine zl_arg (x := 3) hG h3 dL_law_232 dL_law_233 dL_law_234 (by decide) dL_law_235 dL_law_236 ?_
  refine zl_arg (x := 4) hG h4 dL_law_237 dL_law_238 dL_law_239 (by decide) dL_law_240 dL_law_241 ?_
  refine zl_xi (as := [.int (xs (i + 1).toNatClampNeg), .int (xs (i + 2).toNatClampNeg), .int (xs (i + 3).toNatClampNeg), .int (xs (i + 4).toNatClampNeg)]) (rest := []) hG dL_law_242 mtX7_answer lkL_18 (C := RX7) rfl rfl (fun _ => rfl) rfl rfl (Nat.le_of_ble_eq_true rfl) (Nat.le_of_ble_eq_true rfl) rfl (c_answer (d := 0) h (xs (i + 1).toNatClampNeg) (xs (i + 2).toNatClampNeg) (xs (i + 3).toNatClampNeg) (xs (i + 4).toNatClampNeg)) (zp_i (fun u hu => ?_))
  refine zl_ld2 hG dL_law_245 ?_
  refine zl_arg (x := 1) hG h1 dL_law_246 dL_law_247 dL_law_248 (by decide) dL_law_249 dL_law_250 ?_
  refine zl_arg (x := 2) hG h2 dL_law_251 dL_law_252 dL_law_253 (by decide) dL_law_254 dL_law_255 ?_
  refine zl_arg (x := 3) hG h3 dL_law_256 dL_law_257 dL_law_258 (by decide) dL_law_259 dL_law_260 ?_
  refine zl_arg (x := 4) hG h4 dL_law_261 dL_law_262 dL_law_263 (by decide) dL_law_264 dL_law_265 ?_
  refine zl_mi (as := [.int (xs (i + 1).toNatClampNeg), .int (xs (i + 2).toNatClampNeg), .int (xs (i + 3).toNatClampNeg), .int (xs (i + 4).toNatClampNeg)]) (rest := [_]) hG dL_law_266 mtX8_answer lkL_22 (C := RX8) rfl rfl (fun _ => rfl) rfl rfl (Nat.le_of_ble_eq_true rfl) (Nat.le_of_ble_eq_true rfl) rfl (m_answer (d := 0) h' (xs (i + 1).toNatClampNeg) (xs (i + 2).toNatClampNeg) (xs (i + 3).toNatClampNeg) (xs (i + 4).toNatClampNeg)) (zp_i (fun u' hu' => ?_))
  exact zl_eq hG dL_law_269 (K _ _ _ hu hu')
set_option maxRecDepth 20000 in
theorem zl_c2 (hG : zl_G p s m meth c b L xs D ca ad1 ad2) (h : zc_P a w) (h' : zd_P a v) (h1 : vp_in (i + 1) L) (h2 : vp_in (i + 2) L) (h3 : vp_in (i + 3) L) (h4 : vp_in (i + 4) L) (h5 : vp_in (i + 5) L) (K : ∀ (a' : zs_A) (w' v' : zm_S), zc_P a' w' → zd_P a' v' → zl_T l p e s m below meth c b D ca ad1 ad2 1337 i [] w' v') : zl_T l p e s m below meth c b D ca ad1 ad2 274 i [] w v := by
  refine zl_ld1 hG dL_law_274 ?_
  refine zl_arg (x := 1) hG h1 dL_law_275 dL_law_276 dL_law_277 (by decide) dL_law_278 dL_law_279 ?_
  refine zl_arg (x := 2) hG h2 dL_law_280 dL_law_281 dL_law_282 (by decide) dL_law_283 dL_law_284 ?_
  refine zl_arg (x := 3) hG h3 dL_law_285 dL_law_286 dL_law_287 (by decide) dL_law_288 dL_law_289 ?_
  refine zl_xi (as := [.int (xs (i + 1).toNatClampNeg), .int (xs (i + 2).toNatClampNeg), .int (xs (i + 3).toNatClampNeg)]) (rest := []) hG dL_law_290 mtX7_read lkL_23 (C := RX7) rfl rfl (fun _ => rfl) rfl rfl (Nat.le_of_ble_eq_true rfl) (Nat.le_of_ble_eq_true rfl) rfl (c_read (d := 0) h (xs (i + 1).toNatClampNeg) (xs (i + 2).toNatClampNeg) (xs (i + 3).toNatClampNeg)) (zp_i (fun u hu => ?_))
  refine zl_ld2 hG dL_law_293 ?_
  refine zl_arg (x := 1) hG h1 dL_law_294 dL_law_295 dL_law_296 (by decide) dL_law_297 dL_law_298 ?_
  refine zl_arg (x := 2) hG h2 dL_law_299 dL_law_300 dL_law_301 (by decide) dL_law_302 dL_law_303 ?_
  refine zl_arg (x := 3) hG h3 dL_law_304 dL_law_305 dL_law_306 (by decide) dL_law_307 dL_law_308 ?_
  refine zl_mi (as := [.int (xs (i + 1).toNatClampNeg), .int (xs (i + 2).toNatClampNeg), .int (xs (i + 3).toNatClampNeg)]) (rest := [_]) hG dL_law_309 mtX8_read lkL_27 (C := RX8) rfl rfl (fun _ => rfl) rfl rfl (Nat.le_of_ble_eq_true rfl) (Nat.le_of_ble_eq_true rfl) rfl (m_read (d := 0) h' (xs (i + 1).toNatClampNeg) (xs (i + 2).toNatClampNeg) (xs (i + 3).toNatClampNeg)) (zp_i (fun u' hu' => ?_))
  exact zl_eq hG dL_law_312 (K _ _ _ hu hu')
set_option maxRecDepth 20000 in
theorem zl_c3 (hG : zl_G p s m meth c b L xs D ca ad1 ad2) (h : zc_P a w) (h' : zd_P a v) (h1 : vp_in (i + 1) L) (h2 : vp_in (i + 2) L) (h3 : vp_in (i + 3) L) (h4 : vp_in (i + 4) L) (h5 : vp_in (i + 5) L) (K : ∀ (a' : zs_A) (w' v' : zm_S), zc_P a' w' → zd_P a' v' → zl_T l p e s m below meth c b D ca ad1 ad2 1337 i [] w' v') : zl_T l p e s m below meth c b D ca ad1 ad2 317 i [] w v := by
  refine zl_ld1 hG dL_law_317 ?_
  refine zl_arg (x := 1) hG h1 dL_law_318 dL_law_319 dL_law_320 (by decide) dL_law_321 dL_law_322 ?_
  refine zl_arg (x := 2) hG h2 dL_law_323 dL_law_324 dL_law_325 (by decide) dL_law_326 dL_law_327 ?_
  refine zl_xi (as := [.int (xs (i + 1).toNatClampNeg), .int (xs (i + 2).toNatClampNeg)]) (rest := []) hG dL_law_328 mtX7_said lkL_28 (C := RX7) rfl rfl (fun _ => rfl) rfl rfl (Nat.le_of_ble_eq_true rfl) (Nat.le_of_ble_eq_true rfl) rfl (c_said (d := 0) h (xs (i + 1).toNatClampNeg) (xs (i + 2).toNatClampNeg)) (zp_i (fun u hu => ?_))
  refine zl_ld2 hG dL_law_331 ?_
  refine zl_arg (x := 1) hG h1 dL_law_332 dL_law_333 dL_law_334 (by decide) dL_law_335 dL_law_336 ?_
  refine zl_arg (x := 2) hG h2 dL_law_337 dL_law_338 dL_law_339 (by decide) dL_law_340 dL_law_341 ?_
  refine zl_mi (as := [.int (xs (i + 1).toNatClampNeg), .int (xs (i + 2).toNatClampNeg)]) (rest := [_]) hG dL_law_342 mtX8_said lkL_31 (C := RX8) rfl rfl (fun _ => rfl) rfl rfl (Nat.le_of_ble_eq_true rfl) (Nat.le_of_ble_eq_true rfl) rfl (m_said (d := 0) h' (xs (i + 1).toNatClampNeg) (xs (i + 2).toNatClampNeg)) (zp_i (fun u' hu' => ?_))
  exact zl_eq hG dL_law_345 (K _ _ _ hu hu')
set_option maxRecDepth 20000 in
theorem zl_c4 (hG : zl_G p s m meth c b L xs D ca ad1 ad2) (h : zc_P a w) (h' : zd_P a v) (h1 : vp_in (i + 1) L) (h2 : vp_in (i + 2) L) (h3 : vp_in (i + 3) L) (h4 : vp_in (i + 4) L) (h5 : vp_in (i + 5) L) (K : ∀ (a' : zs_A) (w' v' : zm_S), zc_P a' w' → zd_P a' v' → zl_T l p e s m below meth c b D ca ad1 ad2 1337 i [] w' v') : zl_T l p e s m below meth c b D ca ad1 ad2 350 i [] w v := by
  refine zl_ld1 hG dL_law_350 ?_
  refine zl_arg (x := 1) hG h1 dL_law_351 dL_law_352 dL_law_353 (by decide) dL_law_354 dL_law_355 ?_
  refine zl_xi (as := [.int (xs (i + 1).toNatClampNeg)]) (rest := []) hG dL_law_356 mtX7_type lkL_32 (C := RX7) rfl rfl (fun _ => rfl) rfl rfl (Nat.le_of_ble_eq_true rfl) (Nat.le_of_ble_eq_true rfl) rfl (c_type (d := 0) h (xs (i + 1).toNatClampNeg)) (zp_i (fun u hu => ?_))
  refine zl_ld2 hG dL_law_359 ?_
  refine zl_arg (x := 1) hG h1 dL_law_360 dL_law_361 dL_law_362 (by decide) dL_law_363 dL_law_364 ?_
  refine zl_mi (as := [.int (xs (i + 1).toNatClampNeg)]) (rest := [_]) hG dL_law_365 mtX8_type lkL_36 (C := RX8) rfl rfl (fun _ => rfl) rfl rfl (Nat.le_of_ble_eq_true rfl) (Nat.le_of_ble_eq_true rfl) rfl (m_type (d := 0) h' (xs (i + 1).toNatClampNeg)) (zp_i (fun u' hu' => ?_))
  exact zl_eq hG dL_law_368 (K _ _ _ hu hu')
set_option maxRecDepth 20000 in
theorem zl_c5 (hG : zl_G p s m meth c b L xs D ca ad1 ad2) (h : zc_P a w) (h' : zd_P a v) (h1 : vp_in (i + 1) L) (h2 : vp_in (i + 2) L) (h3 : vp_in (i + 3) L) (h4 : vp_in (i + 4) L) (h5 : vp_in (i + 5) L) (K : ∀ (a' : zs_A) (w' v' : zm_S), zc_P a' w' → zd_P a' v' → zl_T l p e s m below meth c b D ca ad1 ad2 1337 i [] w' v') : zl_T l p e s m below meth c b D ca ad1 ad2 373 i [] w v := by
  refine zl_ld1 hG dL_law_373 ?_
  refine zl_xi (as := []) (rest := []) hG dL_law_374 mtX7_wipe lkL_37 (C := RX7) rfl rfl (fun _ => rfl) rfl rfl (Nat.le_of_ble_eq_true rfl) (Nat.le_of_ble_eq_true rfl) rfl (c_wipe (d := 0) h ) (zp_i (fun u hu => ?_))
  refine zl_ld2 hG dL_law_377 ?_
  refine zl_mi (as := []) (rest := [_]) hG dL_law_378 mtX8_wipe lkL_41 (C := RX8) rfl rfl (fun _ => rfl) rfl rfl (Nat.le_of_ble_eq_true rfl) (Nat.le_of_ble_eq_true rfl) rfl (m_wipe (d := 0) h' ) (zp_i (fun u' hu' => ?_))
  exact zl_eq hG dL_law_381 (K _ _ _ hu hu')
set_option maxRecDepth 20000 in
theorem zl_c6 (hG : zl_G p s m meth c b L xs D ca ad1 ad2) (h : zc_P a w) (h' : zd_P a v) (h1 : vp_in (i + 1) L) (h2 : vp_in (i + 2) L) (h3 : vp_in (i + 3) L) (h4 : vp_in (i + 4) L) (h5 : vp_in (i + 5) L) (K : ∀ (a' : zs_A) (w' v' : zm_S), zc_P a' w' → zd_P a' v' → zl_T l p e s m below meth c b D ca ad1 ad2 1337 i [] w' v') : zl_T l p e s m below meth c b D ca ad1 ad2 386 i [] w v := by
  refine zl_ld1 hG dL_law_386 ?_
  refine zl_xi (as := []) (rest := []) hG dL_law_387 mtX7_fault lkL_42 (C := RX7) rfl rfl (fun _ => rfl) rfl rfl (Nat.le_of_ble_eq_true rfl) (Nat.le_of_ble_eq_true rfl) rfl (c_fault (d := 0) h ) (zp_i (fun u hu => ?_))
  refine zl_ld2 hG dL_law_390 ?_
  refine zl_mi (as := []) (rest := [_]) hG dL_law_391 mtX8_fault lkL_45 (C := RX8) rfl rfl (fun _ => rfl) rfl rfl (Nat.le_of_ble_eq_true rfl) (Nat.le_of_ble_eq_true rfl) rfl (m_fault (d := 0) h' ) (zp_i (fun u' hu' => ?_))
  exact zl_eq hG dL_law_394 (K _ _ _ hu hu')
set_option maxRecDepth 20000 in
theorem zl_c7 (hG : zl_G p s m meth c b L xs D ca ad1 ad2) (h : zc_P a w) (h' : zd_P a v) (h1 : vp_in (i + 1) L) (h2 : vp_in (i + 2) L) (h3 : vp_in (i + 3) L) (h4 : vp_in (i + 4) L) (h5 : vp_in (i + 5) L) (K : ∀ (a' : zs_A) (w' v' : zm_S), zc_P a' w' → zd_P a' v' → zl_T l p e s m below meth c b D ca ad1 ad2 1337 i [] w' v') : zl_T l p e s m below meth c b D ca ad1 ad2 399 i [] w v := by
  refine zl_ld1 hG dL_law_399 ?_
  refine zl_arg (x := 1) hG h1 dL_law_400 dL_law_401 dL_law_402 (by decide) dL_law_403 dL_law_404 ?_
  refine zl_arg (x := 2) hG h2 dL_law_405 dL_law_406 dL_law_407 (by decide) dL_law_408 dL_law_409 ?_
  refine zl_arg (x := 3) hG h3 dL_law_410 dL_law_411 dL_law_412 (by decide) dL_law_413 dL_law_414 ?_
  refine zl_xi (as := [.int (xs (i + 1).toNatClampNeg), .int (xs (i + 2).toNatClampNeg), .int (xs (i + 3).toNatClampNeg)]) (rest := []) hG dL_law_415 mtX7_needed lkL_46 (C := RX7) rfl rfl (fun _ => rfl) rfl rfl (Nat.le_of_ble_eq_true rfl) (Nat.le_of_ble_eq_true rfl) rfl (c_needed (d := 0) h (xs (i + 1).toNatClampNeg) (xs (i + 2).toNatClampNeg) (xs (i + 3).toNatClampNeg)) (zp_i (fun u hu => ?_))
  refine zl_ld2 hG dL_law_418 ?_
  refine zl_arg (x := 1) hG h1 dL_law_419 dL_law_420 dL_law_421 (by decide) dL_law_422 dL_law_423 ?_
  refine zl_arg (x := 2) hG h2 dL_law_424 dL_law_425 dL_law_426 (by decide) dL_law_427 dL_law_428 ?_
  refine zl_arg (x := 3) hG h3 dL_law_429 dL_law_430 dL_law_431 (by decide) dL_law_432 dL_law_433 ?_
  refine zl_mi (as := [.int (xs (i + 1).toNatClampNeg), .int (xs (i + 2).toNatClampNeg), .int (xs (i + 3).toNatClampNeg)]) (rest := [_]) hG dL_law_434 mtX8_needed lkL_49 (C := RX8) rfl rfl (fun _ => rfl) rfl rfl (Nat.le_of_ble_eq_true rfl) (Nat.le_of_ble_eq_true rfl) rfl (m_needed (d := 0) h' (xs (i + 1).toNatClampNeg) (xs (i + 2).toNatClampNeg) (xs (i + 3).toNatClampNeg)) (zp_i (fun u' hu' => ?_))
  exact zl_eq hG dL_law_437 (K _ _ _ hu hu')
set_option maxRecDepth 20000 in
theorem zl_c8 (hG : zl_G p s m meth c b L xs D ca ad1 ad2) (h : zc_P a w) (h' : zd_P a v) (h1 : vp_in (i + 1) L) (h2 : vp_in (i + 2) L) (h3 : vp_in (i + 3) L) (h4 : vp_in (i + 4) L) (h5 : vp_in (i + 5) L) (K : ∀ (a' : zs_A) (w' v' : zm_S), zc_P a' w' → zd_P a' v' → zl_T l p e s m below meth c b D ca ad1 ad2 1337 i [] w' v') : zl_T l p e s m below meth c b D ca ad1 ad2 442 i [] w v := by
  refine zl_ld1 hG dL_law_442 ?_
  refine zl_arg (x := 1) hG h1 dL_law_443 dL_law_444 dL_law_445 (by decide) dL_law_446 dL_law_447 ?_
  refine zl_arg (x := 2) hG h2 dL_law_448 dL_law_449 dL_law_450 (by decide) dL_law_451 dL_law_452 ?_
  refine zl_xi (as := [.int (xs (i + 1).toNatClampNeg), .int (xs (i + 2).toNatClampNeg)]) (rest := []) hG dL_law_453 mtX7_errors lkL_50 (C := RX7) rfl rfl (fun _ => rfl) rfl rfl (Nat.le_of_ble_eq_true rfl) (Nat.le_of_ble_eq_true rfl) rfl (c_errors (d := 0) h (xs (i + 1).toNatClampNeg) (xs (i + 2).toNatClampNeg)) (zp_i (fun u hu => ?_))
  refine zl_ld2 hG dL_law_456 ?_
  refine zl_arg (x := 1) hG h1 dL_law_457 dL_law_458 dL_law_459 (by decide) dL_law_460 dL_law_461 ?_
  refine zl_arg (x := 2) hG h2 dL_law_462 dL_law_463 dL_law_464 (by decide) dL_law_465 dL_law_466 ?_
  refine zl_mi (as := [.int (xs (i + 1).toNatClampNeg), .int (xs (i + 2).toNatClampNeg)]) (rest := [_]) hG dL_law_467 mtX8_errors lkL_53 (C := RX8) rfl rfl (fun _ => rfl) rfl rfl (Nat.le_of_ble_eq_true rfl) (Nat.le_of_ble_eq_true rfl) rfl (m_errors (d := 0) h' (xs (i + 1).toNatClampNeg) (xs (i + 2).toNatClampNeg)) (zp_i (fun u' hu' => ?_))
  exact zl_eq hG dL_law_470 (K _ _ _ hu hu')
set_option maxRecDepth 20000 in
theorem zl_c9 (hG : zl_G p s m meth c b L xs D ca ad1 ad2) (h : zc_P a w) (h' : zd_P a v) (h1 : vp_in (i + 1) L) (h2 : vp_in (i + 2) L) (h3 : vp_in (i + 3) L) (h4 : vp_in (i + 4) L) (h5 : vp_in (i + 5) L) (K : ∀ (a' : zs_A) (w' v' : zm_S), zc_P a' w' → zd_P a' v' → zl_T l p e s m below meth c b D ca ad1 ad2 1337 i [] w' v') : zl_T l p e s m below meth c b D ca ad1 ad2 475 i [] w v := by
  refine zl_ld1 hG dL_law_475 ?_
  refine zl_arg (x := 1) hG h1 dL_law_476 dL_law_477 dL_law_478 (by decide) dL_law_479 dL_law_480 ?_
  refine zl_xi (as := [.int (xs (i + 1).toNatClampNeg)]) (rest := []) hG dL_law_481 mtX7_off lkL_54 (C := RX7) rfl rfl (fun _ => rfl) rfl rfl (Nat.le_of_ble_eq_true rfl) (Nat.le_of_ble_eq_true rfl) rfl (c_off (d := 0) h (xs (i + 1).toNatClampNeg)) (zp_i (fun u hu => ?_))
  refine zl_ld2 hG dL_law_484 ?_
  refine zl_arg (x := 1) hG h1 dL_law_485 dL_law_486 dL_law_487 (by decide) dL_law_488 dL_law_489 ?_
  refine zl_mi (as := [.int (xs (i + 1).toNatClampNeg)]) (rest := [_]) hG dL_law_490 mtX8_off lkL_57 (C := RX8) rfl rfl (fun _ => rfl) rfl rfl (Nat.le_of_ble_eq_true rfl) (Nat.le_of_ble_eq_true rfl) rfl (m_off (d := 0) h' (xs (i + 1).toNatClampNeg)) (zp_i (fun u' hu' => ?_))
  exact zl_eq hG dL_law_493 (K _ _ _ hu hu')
set_option maxRecDepth 20000 in
theorem zl_c10 (hG : zl_G p s m meth c b L xs D ca ad1 ad2) (h : zc_P a w) (h' : zd_P a v) (h1 : vp_in (i + 1) L) (h2 : vp_in (i + 2) L) (h3 : vp_in (i + 3) L) (h4 : vp_in (i + 4) L) (h5 : vp_in (i + 5) L) (K : ∀ (a' : zs_A) (w' v' : zm_S), zc_P a' w' → zd_P a' v' → zl_T l p e s m below meth c b D ca ad1 ad2 1337 i [] w' v') : zl_T l p e s m below meth c b D ca ad1 ad2 498 i [] w v := by
  refine zl_ld1 hG dL_law_498 ?_
  refine zl_arg (x := 1) hG h1 dL_law_499 dL_law_500 dL_law_501 (by decide) dL_law_502 dL_law_503 ?_
  refine zl_xi (as := [.int (xs (i + 1).toNatClampNeg)]) (rest := []) hG dL_law_504 mtX7_row lkL_58 (C := RX7) rfl rfl (fun _ => rfl) rfl rfl (Nat.le_of_ble_eq_true rfl) (Nat.le_of_ble_eq_true rfl) rfl (c_row (d := 0) h (xs (i + 1).toNatClampNeg)) (zp_i (fun u hu => ?_))
  refine zl_ld2 hG dL_law_507 ?_
  refine zl_arg (x := 1) hG h1 dL_law_508 dL_law_509 dL_law_510 (by decide) dL_law_511 dL_law_512 ?_
  refine zl_mi (as := [.int (xs (i + 1).toNatClampNeg)]) (rest := [_]) hG dL_law_513 mtX8_row lkL_61 (C := RX8) rfl rfl (fun _ => rfl) rfl rfl (Nat.le_of_ble_eq_true rfl) (Nat.le_of_ble_eq_true rfl) rfl (m_row (d := 0) h' (xs (i + 1).toNatClampNeg)) (zp_i (fun u' hu' => ?_))
  exact zl_eq hG dL_law_516 (K _ _ _ hu hu')
set_option maxRecDepth 20000 in
theorem zl_c11 (hG : zl_G p s m meth c b L xs D ca ad1 ad2) (h : zc_P a w) (h' : zd_P a v) (h1 : vp_in (i + 1) L) (h2 : vp_in (i + 2) L) (h3 : vp_in (i + 3) L) (h4 : vp_in (i + 4) L) (h5 : vp_in (i + 5) L) (K : ∀ (a' : zs_A) (w' v' : zm_S), zc_P a' w' → zd_P a' v' → zl_T l p e s m below meth c b D ca ad1 ad2 1337 i [] w' v') : zl_T l p e s m below meth c b D ca ad1 ad2 521 i [] w v := by
  refine zl_ld1 hG dL_law_521 ?_
  refine zl_arg (x := 1) hG h1 dL_law_522 dL_law_523 dL_law_524 (by decide) dL_law_525 dL_law_526 ?_
  refine zl_arg (x := 2) hG h2 dL_law_527 dL_law_528 dL_law_529 (by decide) dL_law_530 dL_law_531 ?_
  refine zl_xi (as := [.int (xs (i + 1).toNatClampNeg), .int (xs (i + 2).toNatClampNeg)]) (rest := []) hG dL_law_532 mtX7_step lkL_62 (C := RX7) rfl rfl (fun _ => rfl) rfl rfl (Nat.le_of_ble_eq_true rfl) (Nat.le_of_ble_eq_true rfl) rfl (c_step (d := 0) h (xs (i + 1).toNatClampNeg) (xs (i + 2).toNatClampNeg)) (zp_i (fun u hu => ?_))
  refine zl_ld2 hG dL_law_535 ?_
  refine zl_arg (x := 1) hG h1 dL_law_536 dL_law_537 dL_law_538 (by decide) dL_law_539 dL_law_540 ?_
  refine zl_arg (x := 2) hG h2 dL_law_541 dL_law_542 dL_law_543 (by decide) dL_law_544 dL_law_545 ?_
  refine zl_mi (as := [.int (xs (i + 1).toNatClampNeg), .int (xs (i + 2).toNatClampNeg)]) (rest := [_]) hG dL_law_546 mtX8_step lkL_65 (C := RX8) rfl rfl (fun _ => rfl) rfl rfl (Nat.le_of_ble_eq_true rfl) (Nat.le_of_ble_eq_true rfl) rfl (m_step (d := 0) h' (xs (i + 1).toNatClampNeg) (xs (i + 2).toNatClampNeg)) (zp_i (fun u' hu' => ?_))
  exact zl_eq hG dL_law_549 (K _ _ _ hu hu')
set_option maxRecDepth 20000 in
theorem zl_c12 (hG : zl_G p s m meth c b L xs D ca ad1 ad2) (h : zc_P a w) (h' : zd_P a v) (h1 : vp_in (i + 1) L) (h2 : vp_in (i + 2) L) (h3 : vp_in (i + 3) L) (h4 : vp_in (i + 4) L) (h5 : vp_in (i + 5) L) (K : ∀ (a' : zs_A) (w' v' : zm_S), zc_P a' w' → zd_P a' v' → zl_T l p e s m below meth c b D ca ad1 ad2 1337 i [] w' v') : zl_T l p e s m below meth c b D ca ad1 ad2 554 i [] w v := by
  refine zl_ld1 hG dL_law_554 ?_
  refine zl_arg (x := 1) hG h1 dL_law_555 dL_law_556 dL_law_557 (by decide) dL_law_558 dL_law_559 ?_
  refine zl_xi (as := [.int (xs (i + 1).toNatClampNeg)]) (rest := []) hG dL_law_560 mtX7_offBy lkL_66 (C := RX7) rfl rfl (fun _ => rfl) rfl rfl (Nat.le_of_ble_eq_true rfl) (Nat.le_of_ble_eq_true rfl) rfl (c_offBy (d := 0) h (xs (i + 1).toNatClampNeg)) (zp_i (fun u hu => ?_))
  refine zl_ld2 hG dL_law_563 ?_
  refine zl_arg (x := 1) hG h1 dL_law_564 dL_law_565 dL_law_566 (by decide) dL_law_567 dL_law_568 ?_
  refine zl_mi (as := [.int (xs (i + 1).toNatClampNeg)]) (rest := [_]) hG dL_law_569 mtX8_offBy lkL_69 (C := RX8) rfl rfl (fun _ => rfl) rfl rfl (Nat.le_of_ble_eq_true rfl) (Nat.le_of_ble_eq_true rfl) rfl (m_offBy (d := 0) h' (xs (i + 1).toNatClampNeg)) (zp_i (fun u' hu' => ?_))
  exact zl_eq hG dL_law_572 (K _ _ _ hu hu')
set_option maxRecDepth 20000 in
theorem zl_c13 (hG : zl_G p s m meth c b L xs D ca ad1 ad2) (h : zc_P a w) (h' : zd_P a v) (h1 : vp_in (i + 1) L) (h2 : vp_in (i + 2) L) (h3 : vp_in (i + 3) L) (h4 : vp_in (i + 4) L) (h5 : vp_in (i + 5) L) (K : ∀ (a' : zs_A) (w' v' : zm_S), zc_P a' w' → zd_P a' v' → zl_T l p e s m below meth c b D ca ad1 ad2 1337 i [] w' v') : zl_T l p e s m below meth c b D ca ad1 ad2 577 i [] w v := by
  refine zl_ld1 hG dL_law_577 ?_
  refine zl_arg (x := 1) hG h1 dL_law_578 dL_law_579 dL_law_580 (by decide) dL_law_581 dL_law_582 ?_
  refine zl_arg (x := 2) hG h2 dL_law_583 dL_law_584 dL_law_585 (by decide) dL_law_586 dL_law_587 ?_
  refine zl_xl (as := [.int (xs (i + 1).toNatClampNeg), .int (xs (i + 2).toNatClampNeg)]) (rest := []) hG dL_law_588 mtX7_fit lkL_70 (C := RX7) rfl rfl (fun _ => rfl) rfl rfl (Nat.le_of_ble_eq_true rfl) (Nat.le_of_ble_eq_true rfl) rfl (c_fit (d := 0) h (xs (i + 1).toNatClampNeg) (xs (i + 2).toNatClampNeg)) (zp_l (fun u hu => ?_))
  refine zl_ld2 hG dL_law_591 ?_
  refine zl_arg (x := 1) hG h1 dL_law_592 dL_law_593 dL_law_594 (by decide) dL_law_595 dL_law_596 ?_
  refine zl_arg (x := 2) hG h2 dL_law_597 dL_law_598 dL_law_599 (by decide) dL_law_600 dL_law_601 ?_
  refine zl_ml (as := [.int (xs (i + 1).toNatClampNeg), .int (xs (i + 2).toNatClampNeg)]) (rest := [_]) hG dL_law_602 mtX8_fit lkL_74 (C := RX8) rfl rfl (fun _ => rfl) rfl rfl (Nat.le_of_ble_eq_true rfl) (Nat.le_of_ble_eq_true rfl) rfl (m_fit (d := 0) h' (xs (i + 1).toNatClampNeg) (xs (i + 2).toNatClampNeg)) (zp_l (fun u' hu' => ?_))
  exact zl_leq hG dL_law_605 dL_law_606 (K _ _ _ hu hu')
set_option maxRecDepth 20000 in
theorem zl_c14 (hG : zl_G p s m meth c b L xs D ca ad1 ad2) (h : zc_P a w) (h' : zd_P a v) (h1 : vp_in (i + 1) L) (h2 : vp_in (i + 2) L) (h3 : vp_in (i + 3) L) (h4 : vp_in (i + 4) L) (h5 : vp_in (i + 5) L) (K : ∀ (a' : zs_A) (w' v' : zm_S), zc_P a' w' → zd_P a' v' → zl_T l p e s m below meth c b D ca ad1 ad2 1337 i [] w' v') : zl_T l p e s m below meth c b D ca ad1 ad2 611 i [] w v := by
  refine zl_ld1 hG dL_law_611 ?_
  refine zl_xi (as := []) (rest := []) hG dL_law_612 mtX7_odd lkL_75 (C := RX7) rfl rfl (fun _ => rfl) rfl rfl (Nat.le_of_ble_eq_true rfl) (Nat.le_of_ble_eq_true rfl) rfl (c_odd (d := 0) h ) (zp_i (fun u hu => ?_))
  refine zl_ld2 hG dL_law_615 ?_
  refine zl_mi (as := []) (rest := [_]) hG dL_law_616 mtX8_odd lkL_78 (C := RX8) rfl rfl (fun _ => rfl) rfl rfl (Nat.le_of_ble_eq_true rfl) (Nat.le_of_ble_eq_true rfl) rfl (m_odd (d := 0) h' ) (zp_i (fun u' hu' => ?_))
  exact zl_eq hG dL_law_619 (K _ _ _ hu hu')
set_option maxRecDepth 20000 in
theorem zl_c15 (hG : zl_G p s m meth c b L xs D ca ad1 ad2) (h : zc_P a w) (h' : zd_P a v) (h1 : vp_in (i + 1) L) (h2 : vp_in (i + 2) L) (h3 : vp_in (i + 3) L) (h4 : vp_in (i + 4) L) (h5 : vp_in (i + 5) L) (K : ∀ (a' : zs_A) (w' v' : zm_S), zc_P a' w' → zd_P a' v' → zl_T l p e s m below meth c b D ca ad1 ad2 1337 i [] w' v') : zl_T l p e s m below meth c b D ca ad1 ad2 624 i [] w v := by
  refine zl_ld1 hG dL_law_624 ?_
  refine zl_arg (x := 1) hG h1 dL_law_625 dL_law_626 dL_law_627 (by decide) dL_law_628 dL_law_629 ?_
  refine zl_arg (x := 2) hG h2 dL_law_630 dL_law_631 dL_law_632 (by decide) dL_law_633 dL_law_634 ?_
  refine zl_xi (as := [.int (xs (i + 1).toNatClampNeg), .int (xs (i + 2).toNatClampNeg)]) (rest := []) hG dL_law_635 mtX7_without lkL_79 (C := RX7) rfl rfl (fun _ => rfl) rfl rfl (Nat.le_of_ble_eq_true rfl) (Nat.le_of_ble_eq_true rfl) rfl (c_without (d := 0) h (xs (i + 1).toNatClampNeg) (xs (i + 2).toNatClampNeg)) (zp_i (fun u hu => ?_))
  refine zl_ld2 hG dL_law_638 ?_
  refine zl_arg (x := 1) hG h1 dL_law_639 dL_law_640 dL_law_641 (by decide) dL_law_642 dL_law_643 ?_
  refine zl_arg (x := 2) hG h2 dL_law_644 dL_law_645 dL_law_646 (by decide) dL_law_647 dL_law_648 ?_
  refine zl_mi (as := [.int (xs (i + 1).toNatClampNeg), .int (xs (i + 2).toNatClampNeg)]) (rest := [_]) hG dL_law_649 mtX8_without lkL_82 (C := RX8) rfl rfl (fun _ => rfl) rfl rfl (Nat.le_of_ble_eq_true rfl) (Nat.le_of_ble_eq_true rfl) rfl (m_without (d := 0) h' (xs (i + 1).toNatClampNeg) (xs (i + 2).toNatClampNeg)) (zp_i (fun u' hu' => ?_))
  exact zl_eq hG dL_law_652 (K _ _ _ hu hu')
set_option maxRecDepth 20000 in
theorem zl_c16 (hG : zl_G p s m meth c b L xs D ca ad1 ad2) (h : zc_P a w) (h' : zd_P a v) (h1 : vp_in (i + 1) L) (h2 : vp_in (i + 2) L) (h3 : vp_in (i + 3) L) (h4 : vp_in (i + 4) L) (h5 : vp_in (i + 5) L) (K : ∀ (a' : zs_A) (w' v' : zm_S), zc_P a' w' → zd_P a' v' → zl_T l p e s m below meth c b D ca ad1 ad2 1337 i [] w' v') : zl_T l p e s m below meth c b D ca ad1 ad2 657 i [] w v := by
  refine zl_ld1 hG dL_law_657 ?_
  refine zl_arg (x := 1) hG h1 dL_law_658 dL_law_659 dL_law_660 (by decide) dL_law_661 dL_law_662 ?_
  refine zl_xi (as := [.int (xs (i + 1).toNatClampNeg)]) (rest := []) hG dL_law_663 mtX7_worst lkL_83 (C := RX7) rfl rfl (fun _ => rfl) rfl rfl (Nat.le_of_ble_eq_true rfl) (Nat.le_of_ble_eq_true rfl) rfl (c_worst (d := 0) h (xs (i + 1).toNatClampNeg)) (zp_i (fun u hu => ?_))
  refine zl_ld2 hG dL_law_666 ?_
  refine zl_arg (x := 1) hG h1 dL_law_667 dL_law_668 dL_law_669 (by decide) dL_law_670 dL_law_671 ?_
  refine zl_mi (as := [.int (xs (i + 1).toNatClampNeg)]) (rest := [_]) hG dL_law_672 mtX8_worst lkL_86 (C := RX8) rfl rfl (fun _ => rfl) rfl rfl (Nat.le_of_ble_eq_true rfl) (Nat.le_of_ble_eq_true rfl) rfl (m_worst (d := 0) h' (xs (i + 1).toNatClampNeg)) (zp_i (fun u' hu' => ?_))
  exact zl_eq hG dL_law_675 (K _ _ _ hu hu')
set_option maxRecDepth 20000 in
theorem zl_c17 (hG : zl_G p s m meth c b L xs D ca ad1 ad2) (h : zc_P a w) (h' : zd_P a v) (h1 : vp_in (i + 1) L) (h2 : vp_in (i + 2) L) (h3 : vp_in (i + 3) L) (h4 : vp_in (i + 4) L) (h5 : vp_in (i + 5) L) (K : ∀ (a' : zs_A) (w' v' : zm_S), zc_P a' w' → zd_P a' v' → zl_T l p e s m below meth c b D ca ad1 ad2 1337 i [] w' v') : zl_T l p e s m below meth c b D ca ad1 ad2 680 i [] w v := by
  refine zl_ld1 hG dL_law_680 ?_
  refine zl_arg (x := 1) hG h1 dL_law_681 dL_law_682 dL_law_683 (by decide) dL_law_684 dL_law_685 ?_
  refine zl_xi (as := [.int (xs (i + 1).toNatClampNeg)]) (rest := []) hG dL_law_686 mtX7_states lkL_87 (C := RX7) rfl rfl (fun _ => rfl) rfl rfl (Nat.le_of_ble_eq_true rfl) (Nat.le_of_ble_eq_true rfl) rfl (c_states (d := 0) h (xs (i + 1).toNatClampNeg)) (zp_i (fun u hu => ?_))
  refine zl_ld2 hG dL_law_689 ?_
  refine zl_arg (x := 1) hG h1 dL_law_690 dL_law_691 dL_law_692 (by decide) dL_law_693 dL_law_694 ?_
  refine zl_mi (as := [.int (xs (i + 1).toNatClampNeg)]) (rest := [_]) hG dL_law_695 mtX8_states lkL_90 (C := RX8) rfl rfl (fun _ => rfl) rfl rfl (Nat.le_of_ble_eq_true rfl) (Nat.le_of_ble_eq_true rfl) rfl (m_states (d := 0) h' (xs (i + 1).toNatClampNeg)) (zp_i (fun u' hu' => ?_))
  exact zl_eq hG dL_law_698 (K _ _ _ hu hu')
set_option maxRecDepth 20000 in
theorem zl_c18 (hG : zl_G p s m meth c b L xs D ca ad1 ad2) (h : zc_P a w) (h' : zd_P a v) (h1 : vp_in (i + 1) L) (h2 : vp_in (i + 2) L) (h3 : vp_in (i + 3) L) (h4 : vp_in (i + 4) L) (h5 : vp_in (i + 5) L) (K : ∀ (a' : zs_A) (w' v' : zm_S), zc_P a' w' → zd_P a' v' → zl_T l p e s m below meth c b D ca ad1 ad2 1337 i [] w' v') : zl_T l p e s m below meth c b D ca ad1 ad2 703 i [] w v := by
  refine zl_ld1 hG dL_law_703 ?_
  refine zl_arg (x := 1) hG h1 dL_law_704 dL_law_705 dL_law_706 (by decide) dL_law_707 dL_law_708 ?_
  refine zl_arg (x := 2) hG h2 dL_law_709 dL_law_710 dL_law_711 (by decide) dL_law_712 dL_law_713 ?_
  refine zl_xi (as := [.int (xs (i + 1).toNatClampNeg), .int (xs (i + 2).toNatClampNeg)]) (rest := []) hG dL_law_714 mtX7_belongs lkL_91 (C := RX7) rfl rfl (fun _ => rfl) rfl rfl (Nat.le_of_ble_eq_true rfl) (Nat.le_of_ble_eq_true rfl) rfl (k_belongsC (d := 0) h (xs (i + 1).toNatClampNeg) (xs (i + 2).toNatClampNeg)) (zp_i (fun u hu => ?_))
  refine zl_ld2 hG dL_law_717 ?_
  refine zl_arg (x := 1) hG h1 dL_law_718 dL_law_719 dL_law_720 (by decide) dL_law_721 dL_law_722 ?_
  refine zl_arg (x := 2) hG h2 dL_law_723 dL_law_724 dL_law_725 (by decide) dL_law_726 dL_law_727 ?_
  refine zl_mi (as := [.int (xs (i + 1).toNatClampNeg), .int (xs (i + 2).toNatClampNeg)]) (rest := [_]) hG dL_law_728 mtX8_belongs lkL_94 (C := RX8) rfl rfl (fun _ => rfl) rfl rfl (Nat.le_of_ble_eq_true rfl) (Nat.le_of_ble_eq_true rfl) rfl (m_belongs (d := 0) h' (xs (i + 1).toNatClampNeg) (xs (i + 2).toNatClampNeg)) (zp_i (fun u' hu' => ?_))
  exact zl_eq hG dL_law_731 (K _ _ _ hu hu')
set_option maxRecDepth 20000 in
theorem zl_c19 (hG : zl_G p s m meth c b L xs D ca ad1 ad2) (h : zc_P a w) (h' : zd_P a v) (h1 : vp_in (i + 1) L) (h2 : vp_in (i + 2) L) (h3 : vp_in (i + 3) L) (h4 : vp_in (i + 4) L) (h5 : vp_in (i + 5) L) (K : ∀ (a' : zs_A) (w' v' : zm_S), zc_P a' w' → zd_P a' v' → zl_T l p e s m below meth c b D ca ad1 ad2 1337 i [] w' v') : zl_T l p e s m below meth c b D ca ad1 ad2 736 i [] w v := by
  refine zl_ld1 hG dL_law_736 ?_
  refine zl_arg (x := 1) hG h1 dL_law_737 dL_law_738 dL_law_739 (by decide) dL_law_740 dL_law_741 ?_
  refine zl_arg (x := 2) hG h2 dL_law_742 dL_law_743 dL_law_744 (by decide) dL_law_745 dL_law_746 ?_
  refine zl_xi (as := [.int (xs (i + 1).toNatClampNeg), .int (xs (i + 2).toNatClampNeg)]) (rest := []) hG dL_law_747 mtX7_next lkL_95 (C := RX7) rfl rfl (fun _ => rfl) rfl rfl (Nat.le_of_ble_eq_true rfl) (Nat.le_of_ble_eq_true rfl) rfl (c_next (d := 0) h (xs (i + 1).toNatClampNeg) (xs (i + 2).toNatClampNeg)) (zp_i (fun u hu => ?_))
  refine zl_ld2 hG dL_law_750 ?_
  refine zl_arg (x := 1) hG h1 dL_law_751 dL_law_752 dL_law_753 (by decide) dL_law_754 dL_law_755 ?_
  refine zl_arg (x := 2) hG h2 dL_law_756 dL_law_757 dL_law_758 (by decide) dL_law_759 dL_law_760 ?_
  refine zl_mi (as := [.int (xs (i + 1).toNatClampNeg), .int (xs (i + 2).toNatClampNeg)]) (rest := [_]) hG dL_law_761 mtX8_next lkL_98 (C := RX8) rfl rfl (fun _ => rfl) rfl rfl (Nat.le_of_ble_eq_true rfl) (Nat.le_of_ble_eq_true rfl) rfl (m_next (d := 0) h' (xs (i + 1).toNatClampNeg) (xs (i + 2).toNatClampNeg)) (zp_i (fun u' hu' => ?_))
  exact zl_eq hG dL_law_764 (K _ _ _ hu hu')
set_option maxRecDepth 20000 in
theorem zl_c20 (hG : zl_G p s m meth c b L xs D ca ad1 ad2) (h : zc_P a w) (h' : zd_P a v) (h1 : vp_in (i + 1) L) (h2 : vp_in (i + 2) L) (h3 : vp_in (i + 3) L) (h4 : vp_in (i + 4) L) (h5 : vp_in (i + 5) L) (K : ∀ (a' : zs_A) (w' v' : zm_S), zc_P a' w' → zd_P a' v' → zl_T l p e s m below meth c b D ca ad1 ad2 1337 i [] w' v') : zl_T l p e s m below meth c b D ca ad1 ad2 769 i [] w v := by
  refine zl_ld1 hG dL_law_769 ?_
  refine zl_xi (as := []) (rest := []) hG dL_law_770 mtX7_paths lkL_99 (C := RX7) rfl rfl (fun _ => rfl) rfl rfl (Nat.le_of_ble_eq_true rfl) (Nat.le_of_ble_eq_true rfl) rfl (c_paths (d := 0) h ) (zp_i (fun u hu => ?_))
  refine zl_ld2 hG dL_law_773 ?_
  refine zl_mi (as := []) (rest := [_]) hG dL_law_774 mtX8_paths lkL_102 (C := RX8) rfl rfl (fun _ => rfl) rfl rfl (Nat.le_of_ble_eq_true rfl) (Nat.le_of_ble_eq_true rfl) rfl (m_paths (d := 0) h' ) (zp_i (fun u' hu' => ?_))
  exact zl_eq hG dL_law_777 (K _ _ _ hu hu')
set_option maxRecDepth 20000 in
theorem zl_c21 (hG : zl_G p s m meth c b L xs D ca ad1 ad2) (h : zc_P a w) (h' : zd_P a v) (h1 : vp_in (i + 1) L) (h2 : vp_in (i + 2) L) (h3 : vp_in (i + 3) L) (h4 : vp_in (i + 4) L) (h5 : vp_in (i + 5) L) (K : ∀ (a' : zs_A) (w' v' : zm_S), zc_P a' w' → zd_P a' v' → zl_T l p e s m below meth c b D ca ad1 ad2 1337 i [] w' v') : zl_T l p e s m below meth c b D ca ad1 ad2 782 i [] w v := by
  refine zl_ld1 hG dL_law_782 ?_
  refine zl_arg (x := 1) hG h1 dL_law_783 dL_law_784 dL_law_785 (by decide) dL_law_786 dL_law_787 ?_
  refine zl_xi (as := [.int (xs (i + 1).toNatClampNeg)]) (rest := []) hG dL_law_788 mtX7_deep lkL_103 (C := RX7) rfl rfl (fun _ => rfl) rfl rfl (Nat.le_of_ble_eq_true rfl) (Nat.le_of_ble_eq_true rfl) rfl (c_deep (d := 0) h (xs (i + 1).toNatClampNeg)) (zp_i (fun u hu => ?_))
  refine zl_ld2 hG dL_law_791 ?_
  refine zl_arg (x := 1) hG h1 dL_law_792 dL_law_793 dL_law_794 (by decide) dL_law_795 dL_law_796 ?_
  refine zl_mi (as := [.int (xs (i + 1).toNatClampNeg)]) (rest := [_]) hG dL_law_797 mtX8_deep lkL_106 (C := RX8) rfl rfl (fun _ => rfl) rfl rfl (Nat.le_of_ble_eq_true rfl) (Nat.le_of_ble_eq_true rfl) rfl (m_deep (d := 0) h' (xs (i + 1).toNatClampNeg)) (zp_i (fun u' hu' => ?_))
  exact zl_eq hG dL_law_800 (K _ _ _ hu hu')
set_option maxRecDepth 20000 in
theorem zl_c22 (hG : zl_G p s m meth c b L xs D ca ad1 ad2) (h : zc_P a w) (h' : zd_P a v) (h1 : vp_in (i + 1) L) (h2 : vp_in (i + 2) L) (h3 : vp_in (i + 3) L) (h4 : vp_in (i + 4) L) (h5 : vp_in (i + 5) L) (K : ∀ (a' : zs_A) (w' v' : zm_S), zc_P a' w' → zd_P a' v' → zl_T l p e s m below meth c b D ca ad1 ad2 1337 i [] w' v') : zl_T l p e s m below meth c b D ca ad1 ad2 805 i [] w v := by
  refine zl_ld1 hG dL_law_805 ?_
  refine zl_arg (x := 1) hG h1 dL_law_806 dL_law_807 dL_law_808 (by decide) dL_law_809 dL_law_810 ?_
  refine zl_arg (x := 2) hG h2 dL_law_811 dL_law_812 dL_law_813 (by decide) dL_law_814 dL_law_815 ?_
  refine zl_arg (x := 3) hG h3 dL_law_816 dL_law_817 dL_law_818 (by decide) dL_law_819 dL_law_820 ?_
  refine zl_xi (as := [.int (xs (i + 1).toNatClampNeg), .int (xs (i + 2).toNatClampNeg), .int (xs (i + 3).toNatClampNeg)]) (rest := []) hG dL_law_821 mtX7_sure lkL_107 (C := RX7) rfl rfl (fun _ => rfl) rfl rfl (Nat.le_of_ble_eq_true rfl) (Nat.le_of_ble_eq_true rfl) rfl (c_sure (d := 0) h (xs (i + 1).toNatClampNeg) (xs (i + 2).toNatClampNeg) (xs (i + 3).toNatClampNeg)) (zp_i (fun u hu => ?_))
  refine zl_ld2 hG dL_law_824 ?_
  refine zl_arg (x := 1) hG h1 dL_law_825 dL_law_826 dL_law_827 (by decide) dL_law_828 dL_law_829 ?_
  refine zl_arg (x := 2) hG h2 dL_law_830 dL_law_831 dL_law_832 (by decide) dL_law_833 dL_law_834 ?_
  refine zl_arg (x := 3) hG h3 dL_law_835 dL_law_836 dL_law_837 (by decide) dL_law_838 dL_law_839 ?_
  refine zl_mi (as := [.int (xs (i + 1).toNatClampNeg), .int (xs (i + 2).toNatClampNeg), .int (xs (i + 3).toNatClampNeg)]) (rest := [_]) hG dL_law_840 mtX8_sure lkL_110 (C := RX8) rfl rfl (fun _ => rfl) rfl rfl (Nat.le_of_ble_eq_true rfl) (Nat.le_of_ble_eq_true rfl) rfl (m_sure (d := 0) h' (xs (i + 1).toNatClampNeg) (xs (i + 2).toNatClampNeg) (xs (i + 3).toNatClampNeg)) (zp_i (fun u' hu' => ?_))
  exact zl_eq hG dL_law_843 (K _ _ _ hu hu')
set_option maxRecDepth 20000 in
theorem zl_c23 (hG : zl_G p s m meth c b L xs D ca ad1 ad2) (h : zc_P a w) (h' : zd_P a v) (h1 : vp_in (i + 1) L) (h2 : vp_in (i + 2) L) (h3 : vp_in (i + 3) L) (h4 : vp_in (i + 4) L) (h5 : vp_in (i + 5) L) (K : ∀ (a' : zs_A) (w' v' : zm_S), zc_P a' w' → zd_P a' v' → zl_T l p e s m below meth c b D ca ad1 ad2 1337 i [] w' v') : zl_T l p e s m below meth c b D ca ad1 ad2 848 i [] w v := by
  refine zl_ld1 hG dL_law_848 ?_
  refine zl_arg (x := 1) hG h1 dL_law_849 dL_law_850 dL_law_851 (by decide) dL_law_852 dL_law_853 ?_
  refine zl_arg (x := 2) hG h2 dL_law_854 dL_law_855 dL_law_856 (by decide) dL_law_857 dL_law_858 ?_
  refine zl_arg (x := 3) hG h3 dL_law_859 dL_law_860 dL_law_861 (by decide) dL_law_862 dL_law_863 ?_
  refine zl_arg (x := 4) hG h4 dL_law_864 dL_law_865 dL_law_866 (by decide) dL_law_867 dL_law_868 ?_
  refine zl_arg (x := 5) hG h5 dL_law_869 dL_law_870 dL_law_871 (by decide) dL_law_872 dL_law_873 ?_
  refine zl_xl (as := [.int (xs (i + 1).toNatClampNeg), .int (xs (i + 2).toNatClampNeg), .int (xs (i + 3).toNatClampNeg), .int (xs (i + 4).toNatClampNeg), .int (xs (i + 5).toNatClampNeg)]) (rest := []) hG dL_law_874 mtX7_chance lkL_111 (C := RX7) rfl rfl (fun _ => rfl) rfl rfl (Nat.le_of_ble_eq_true rfl) (Nat.le_of_ble_eq_true rfl) rfl (c_chance (d := 0) h (xs (i + 1).toNatClampNeg) (xs (i + 2).toNatClampNeg) (xs (i + 3).toNatClampNeg) (xs (i + 4).toNatClampNeg) (xs (i + 5).toNatClampNeg)) (zp_l (fun u hu => ?_))
  refine zl_ld2 hG dL_law_877 ?_
  refine zl_arg (x := 1) hG h1 dL_law_878 dL_law_879 dL_law_880 (by decide) dL_law_881 dL_law_882 ?_
  refine zl_arg (x := 2) hG h2 dL_law_883 dL_law_884 dL_law_885 (by decide) dL_law_886 dL_law_887 ?_
  refine zl_arg (x := 3) hG h3 dL_law_888 dL_law_889 dL_law_890 (by decide) dL_law_891 dL_law_892 ?_
  refine zl_arg (x := 4) hG h4 dL_law_893 dL_law_894 dL_law_895 (by decide) dL_law_896 dL_law_897 ?_
  refine zl_arg (x := 5) hG h5 dL_law_898 dL_law_899 dL_law_900 (by decide) dL_law_901 dL_law_902 ?_
  refine zl_ml (as := [.int (xs (i + 1).toNatClampNeg), .int (xs (i + 2).toNatClampNeg), .int (xs (i + 3).toNatClampNeg), .int (xs (i + 4).toNatClampNeg), .int (xs (i + 5).toNatClampNeg)]) (rest := [_]) hG dL_law_903 mtX8_chance lkL_115 (C := RX8) rfl rfl (fun _ => rfl) rfl rfl (Nat.le_of_ble_eq_true rfl) (Nat.le_of_ble_eq_true rfl) rfl (m_chance (d := 0) h' (xs (i + 1).toNatClampNeg) (xs (i + 2).toNatClampNeg) (xs (i + 3).toNatClampNeg) (xs (i + 4).toNatClampNeg) (xs (i + 5).toNatClampNeg)) (zp_l (fun u' hu' => ?_))
  exact zl_leq hG dL_law_906 dL_law_907 (K _ _ _ hu hu')
set_option maxRecDepth 20000 in
theorem zl_c24 (hG : zl_G p s m meth c b L xs D ca ad1 ad2) (h : zc_P a w) (h' : zd_P a v) (h1 : vp_in (i + 1) L) (h2 : vp_in (i + 2) L) (h3 : vp_in (i + 3) L) (h4 : vp_in (i + 4) L) (h5 : vp_in (i + 5) L) (K : ∀ (a' : zs_A) (w' v' : zm_S), zc_P a' w' → zd_P a' v' → zl_T l p e s m below meth c b D ca ad1 ad2 1337 i [] w' v') : zl_T l p e s m below meth c b D ca ad1 ad2 912 i [] w v := by
  refine zl_ld1 hG dL_law_912 ?_
  refine zl_arg (x := 1) hG h1 dL_law_913 dL_law_914 dL_law_915 (by decide) dL_law_916 dL_law_917 ?_
  refine zl_arg (x := 2) hG h2 dL_law_918 dL_law_919 dL_law_920 (by decide) dL_law_921 dL_law_922 ?_
  refine zl_arg (x := 3) hG h3 dL_law_923 dL_law_924 dL_law_925 (by decide) dL_law_926 dL_law_927 ?_
  refine zl_arg (x := 4) hG h4 dL_law_928 dL_law_929 dL_law_930 (by decide) dL_law_931 dL_law_932 ?_
  refine zl_arg (x := 5) hG h5 dL_law_933 dL_law_934 dL_law_935 (by decide) dL_law_936 dL_law_937 ?_
  refine zl_xl (as := [.int (xs (i + 1).toNatClampNeg), .int (xs (i + 2).toNatClampNeg), .int (xs (i + 3).toNatClampNeg), .int (xs (i + 4).toNatClampNeg), .int (xs (i + 5).toNatClampNeg)]) (rest := []) hG dL_law_938 mtX7_share lkL_116 (C := RX7) rfl rfl (fun _ => rfl) rfl rfl (Nat.le_of_ble_eq_true rfl) (Nat.le_of_ble_eq_true rfl) rfl (c_share (d := 0) h (xs (i + 1).toNatClampNeg) (xs (i + 2).toNatClampNeg) (xs (i + 3).toNatClampNeg) (xs (i + 4).toNatClampNeg) (xs (i + 5).toNatClampNeg)) (zp_l (fun u hu => ?_))
  refine zl_ld2 hG dL_law_941 ?_
  refine zl_arg (x := 1) hG h1 dL_law_942 dL_law_943 dL_law_944 (by decide) dL_law_945 dL_law_946 ?_
  refine zl_arg (x := 2) hG h2 dL_law_947 dL_law_948 dL_law_949 (by decide) dL_law_950 dL_law_951 ?_
  refine zl_arg (x := 3) hG h3 dL_law_952 dL_law_953 dL_law_954 (by decide) dL_law_955 dL_law_956 ?_
  refine zl_arg (x := 4) hG h4 dL_law_957 dL_law_958 dL_law_959 (by decide) dL_law_960 dL_law_961 ?_
  refine zl_arg (x := 5) hG h5 dL_law_962 dL_law_963 dL_law_964 (by decide) dL_law_965 dL_law_966 ?_
  refine zl_ml (as := [.int (xs (i + 1).toNatClampNeg), .int (xs (i + 2).toNatClampNeg), .int (xs (i + 3).toNatClampNeg), .int (xs (i + 4).toNatClampNeg), .int (xs (i + 5).toNatClampNeg)]) (rest := [_]) hG dL_law_967 mtX8_share lkL_119 (C := RX8) rfl rfl (fun _ => rfl) rfl rfl (Nat.le_of_ble_eq_true rfl) (Nat.le_of_ble_eq_true rfl) rfl (m_share (d := 0) h' (xs (i + 1).toNatClampNeg) (xs (i + 2).toNatClampNeg) (xs (i + 3).toNatClampNeg) (xs (i + 4).toNatClampNeg) (xs (i + 5).toNatClampNeg)) (zp_l (fun u' hu' => ?_))
  exact zl_leq hG dL_law_970 dL_law_971 (K _ _ _ hu hu')
set_option maxRecDepth 20000 in
theorem zl_c25 (hG : zl_G p s m meth c b L xs D ca ad1 ad2) (h : zc_P a w) (h' : zd_P a v) (h1 : vp_in (i + 1) L) (h2 : vp_in (i + 2) L) (h3 : vp_in (i + 3) L) (h4 : vp_in (i + 4) L) (h5 : vp_in (i + 5) L) (K : ∀ (a' : zs_A) (w' v' : zm_S), zc_P a' w' → zd_P a' v' → zl_T l p e s m below meth c b D ca ad1 ad2 1337 i [] w' v') : zl_T l p e s m below meth c b D ca ad1 ad2 976 i [] w v := by
  refine zl_ld1 hG dL_law_976 ?_
  refine zl_arg (x := 1) hG h1 dL_law_977 dL_law_978 dL_law_979 (by decide) dL_law_980 dL_law_981 ?_
  refine zl_arg (x := 2) hG h2 dL_law_982 dL_law_983 dL_law_984 (by decide) dL_law_985 dL_law_986 ?_
  refine zl_arg (x := 3) hG h3 dL_law_987 dL_law_988 dL_law_989 (by decide) dL_law_990 dL_law_991 ?_
  refine zl_xi (as := [.int (xs (i + 1).toNatClampNeg), .int (xs (i + 2).toNatClampNeg), .int (xs (i + 3).toNatClampNeg)]) (rest := []) hG dL_law_992 mtX7_likeliest lkL_120 (C := RX7) rfl rfl (fun _ => rfl) rfl rfl (Nat.le_of_ble_eq_true rfl) (Nat.le_of_ble_eq_true rfl) rfl (c_likeliest (d := 0) h (xs (i + 1).toNatClampNeg) (xs (i + 2).toNatClampNeg) (xs (i + 3).toNatClampNeg)) (zp_i (fun u hu => ?_))
  refine zl_ld2 hG dL_law_995 ?_
  refine zl_arg (x := 1) hG h1 dL_law_996 dL_law_997 dL_law_998 (by decide) dL_law_999 dL_law_1000 ?_
  refine zl_arg (x := 2) hG h2 dL_law_1001 dL_law_1002 dL_law_1003 (by decide) dL_law_1004 dL_law_1005 ?_
  refine zl_arg (x := 3) hG h3 dL_law_1006 dL_law_1007 dL_law_1008 (by decide) dL_law_1009 dL_law_1010 ?_
  refine zl_mi (as := [.int (xs (i + 1).toNatClampNeg), .int (xs (i + 2).toNatClampNeg), .int (xs (i + 3).toNatClampNeg)]) (rest := [_]) hG dL_law_1011 mtX8_likeliest lkL_123 (C := RX8) rfl rfl (fun _ => rfl) rfl rfl (Nat.le_of_ble_eq_true rfl) (Nat.le_of_ble_eq_true rfl) rfl (m_likeliest (d := 0) h' (xs (i + 1).toNatClampNeg) (xs (i + 2).toNatClampNeg) (xs (i + 3).toNatClampNeg)) (zp_i (fun u' hu' => ?_))
  exact zl_eq hG dL_law_1014 (K _ _ _ hu hu')
set_option maxRecDepth 20000 in
theorem zl_c26 (hG : zl_G p s m meth c b L xs D ca ad1 ad2) (h : zc_P a w) (h' : zd_P a v) (h1 : vp_in (i + 1) L) (h2 : vp_in (i + 2) L) (h3 : vp_in (i + 3) L) (h4 : vp_in (i + 4) L) (h5 : vp_in (i + 5) L) (K : ∀ (a' : zs_A) (w' v' : zm_S), zc_P a' w' → zd_P a' v' → zl_T l p e s m below meth c b D ca ad1 ad2 1337 i [] w' v') : zl_T l p e s m below meth c b D ca ad1 ad2 1019 i [] w v := by
  refine zl_ld1 hG dL_law_1019 ?_
  refine zl_arg (x := 1) hG h1 dL_law_1020 dL_law_1021 dL_law_1022 (by decide) dL_law_1023 dL_law_1024 ?_
  refine zl_arg (x := 2) hG h2 dL_law_1025 dL_law_1026 dL_law_1027 (by decide) dL_law_1028 dL_law_1029 ?_
  refine zl_xi (as := [.int (xs (i + 1).toNatClampNeg), .int (xs (i + 2).toNatClampNeg)]) (rest := []) hG dL_law_1030 mtX7_lessons lkL_124 (C := RX7) rfl rfl (fun _ => rfl) rfl rfl (Nat.le_of_ble_eq_true rfl) (Nat.le_of_ble_eq_true rfl) rfl (c_lessons (d := 0) h (xs (i + 1).toNatClampNeg) (xs (i + 2).toNatClampNeg)) (zp_i (fun u hu => ?_))
  refine zl_ld2 hG dL_law_1033 ?_
  refine zl_arg (x := 1) hG h1 dL_law_1034 dL_law_1035 dL_law_1036 (by decide) dL_law_1037 dL_law_1038 ?_
  refine zl_arg (x := 2) hG h2 dL_law_1039 dL_law_1040 dL_law_1041 (by decide) dL_law_1042 dL_law_1043 ?_
  refine zl_mi (as := [.int (xs (i + 1).toNatClampNeg), .int (xs (i + 2).toNatClampNeg)]) (rest := [_]) hG dL_law_1044 mtX8_lessons lkL_127 (C := RX8) rfl rfl (fun _ => rfl) rfl rfl (Nat.le_of_ble_eq_true rfl) (Nat.le_of_ble_eq_true rfl) rfl (m_lessons (d := 0) h' (xs (i + 1).toNatClampNeg) (xs (i + 2).toNatClampNeg)) (zp_i (fun u' hu' => ?_))
  exact zl_eq hG dL_law_1047 (K _ _ _ hu hu')
set_option maxRecDepth 20000 in
theorem zl_c27 (hG : zl_G p s m meth c b L xs D ca ad1 ad2) (h : zc_P a w) (h' : zd_P a v) (h1 : vp_in (i + 1) L) (h2 : vp_in (i + 2) L) (h3 : vp_in (i + 3) L) (h4 : vp_in (i + 4) L) (h5 : vp_in (i + 5) L) (K : ∀ (a' : zs_A) (w' v' : zm_S), zc_P a' w' → zd_P a' v' → zl_T l p e s m below meth c b D ca ad1 ad2 1337 i [] w' v') : zl_T l p e s m below meth c b D ca ad1 ad2 1052 i [] w v := by
  refine zl_ld1 hG dL_law_1052 ?_
  refine zl_arg (x := 1) hG h1 dL_law_1053 dL_law_1054 dL_law_1055 (by decide) dL_law_1056 dL_law_1057 ?_
  refine zl_arg (x := 2) hG h2 dL_law_1058 dL_law_1059 dL_law_1060 (by decide) dL_law_1061 dL_law_1062 ?_
  refine zl_arg (x := 3) hG h3 dL_law_1063 dL_law_1064 dL_law_1065 (by decide) dL_law_1066 dL_law_1067 ?_
  refine zl_xi (as := [.int (xs (i + 1).toNatClampNeg), .int (xs (i + 2).toNatClampNeg), .int (xs (i + 3).toNatClampNeg)]) (rest := []) hG dL_law_1068 mtX7_sheet lkL_128 (C := RX7) rfl rfl (fun _ => rfl) rfl rfl (Nat.le_of_ble_eq_true rfl) (Nat.le_of_ble_eq_true rfl) rfl (c_sheet (d := 0) h (xs (i + 1).toNatClampNeg) (xs (i + 2).toNatClampNeg) (xs (i + 3).toNatClampNeg)) (zp_i (fun u hu => ?_))
  refine zl_ld2 hG dL_law_1071 ?_
  refine zl_arg (x := 1) hG h1 dL_law_1072 dL_law_1073 dL_law_1074 (by decide) dL_law_1075 dL_law_1076 ?_
  refine zl_arg (x := 2) hG h2 dL_law_1077 dL_law_1078 dL_law_1079 (by decide) dL_law_1080 dL_law_1081 ?_
  refine zl_arg (x := 3) hG h3 dL_law_1082 dL_law_1083 dL_law_1084 (by decide) dL_law_1085 dL_law_1086 ?_
  refine zl_mi (as := [.int (xs (i + 1).toNatClampNeg), .int (xs (i + 2).toNatClampNeg), .int (xs (i + 3).toNatClampNeg)]) (rest := [_]) hG dL_law_1087 mtX8_sheet lkL_131 (C := RX8) rfl rfl (fun _ => rfl) rfl rfl (Nat.le_of_ble_eq_true rfl) (Nat.le_of_ble_eq_true rfl) rfl (m_sheet (d := 0) h' (xs (i + 1).toNatClampNeg) (xs (i + 2).toNatClampNeg) (xs (i + 3).toNatClampNeg)) (zp_i (fun u' hu' => ?_))
  exact zl_eq hG dL_law_1090 (K _ _ _ hu hu')
set_option maxRecDepth 20000 in
theorem zl_c28 (hG : zl_G p s m meth c b L xs D ca ad1 ad2) (h : zc_P a w) (h' : zd_P a v) (h1 : vp_in (i + 1) L) (h2 : vp_in (i + 2) L) (h3 : vp_in (i + 3) L) (h4 : vp_in (i + 4) L) (h5 : vp_in (i + 5) L) (K : ∀ (a' : zs_A) (w' v' : zm_S), zc_P a' w' → zd_P a' v' → zl_T l p e s m below meth c b D ca ad1 ad2 1337 i [] w' v') : zl_T l p e s m below meth c b D ca ad1 ad2 1095 i [] w v := by
  refine zl_ld1 hG dL_law_1095 ?_
  refine zl_arg (x := 1) hG h1 dL_law_1096 dL_law_1097 dL_law_1098 (by decide) dL_law_1099 dL_law_1100 ?_
  refine zl_xi (as := [.int (xs (i + 1).toNatClampNeg)]) (rest := []) hG dL_law_1101 mtX7_lose lkL_132 (C := RX7) rfl rfl (fun _ => rfl) rfl rfl (Nat.le_of_ble_eq_true rfl) (Nat.le_of_ble_eq_true rfl) rfl (c_lose (d := 0) h (xs (i + 1).toNatClampNeg)) (zp_i (fun u hu => ?_))
  refine zl_ld2 hG dL_law_1104 ?_
  refine zl_arg (x := 1) hG h1 dL_law_1105 dL_law_1106 dL_law_1107 (by decide) dL_law_1108 dL_law_1109 ?_
  refine zl_mi (as := [.int (xs (i + 1).toNatClampNeg)]) (rest := [_]) hG dL_law_1110 mtX8_lose lkL_135 (C := RX8) rfl rfl (fun _ => rfl) rfl rfl (Nat.le_of_ble_eq_true rfl) (Nat.le_of_ble_eq_true rfl) rfl (m_lose (d := 0) h' (xs (i + 1).toNatClampNeg)) (zp_i (fun u' hu' => ?_))
  exact zl_eq hG dL_law_1113 (K _ _ _ hu hu')
set_option maxRecDepth 20000 in
theorem zl_c29 (hG : zl_G p s m meth c b L xs D ca ad1 ad2) (h : zc_P a w) (h' : zd_P a v) (h1 : vp_in (i + 1) L) (h2 : vp_in (i + 2) L) (h3 : vp_in (i + 3) L) (h4 : vp_in (i + 4) L) (h5 : vp_in (i + 5) L) (K : ∀ (a' : zs_A) (w' v' : zm_S), zc_P a' w' → zd_P a' v' → zl_T l p e s m below meth c b D ca ad1 ad2 1337 i [] w' v') : zl_T l p e s m below meth c b D ca ad1 ad2 1118 i [] w v := by
  refine zl_ld1 hG dL_law_1118 ?_
  refine zl_arg (x := 1) hG h1 dL_law_1119 dL_law_1120 dL_law_1121 (by decide) dL_law_1122 dL_law_1123 ?_
  refine zl_arg (x := 2) hG h2 dL_law_1124 dL_law_1125 dL_law_1126 (by decide) dL_law_1127 dL_law_1128 ?_
  refine zl_arg (x := 3) hG h3 dL_law_1129 dL_law_1130 dL_law_1131 (by decide) dL_law_1132 dL_law_1133 ?_
  refine zl_arg (x := 4) hG h4 dL_law_1134 dL_law_1135 dL_law_1136 (by decide) dL_law_1137 dL_law_1138 ?_
  refine zl_xi (as := [.int (xs (i + 1).toNatClampNeg), .int (xs (i + 2).toNatClampNeg), .int (xs (i + 3).toNatClampNeg), .int (xs (i + 4).toNatClampNeg)]) (rest := []) hG dL_law_1139 mtX7_lay lkL_136 (C := RX7) rfl rfl (fun _ => rfl) rfl rfl (Nat.le_of_ble_eq_true rfl) (Nat.le_of_ble_eq_true rfl) rfl (c_lay (d := 0) h (xs (i + 1).toNatClampNeg) (xs (i + 2).toNatClampNeg) (xs (i + 3).toNatClampNeg) (xs (i + 4).toNatClampNeg)) (zp_i (fun u hu => ?_))
  refine zl_ld2 hG dL_law_1142 ?_
  refine zl_arg (x := 1) hG h1 dL_law_1143 dL_law_1144 dL_law_1145 (by decide) dL_law_1146 dL_law_1147 ?_
  refine zl_arg (x := 2) hG h2 dL_law_1148 dL_law_1149 dL_law_1150 (by decide) dL_law_1151 dL_law_1152 ?_
  refine zl_arg (x := 3) hG h3 dL_law_1153 dL_law_1154 dL_law_1155 (by decide) dL_law_1156 dL_law_1157 ?_
  refine zl_arg (x := 4) hG h4 dL_law_1158 dL_law_1159 dL_law_1160 (by decide) dL_law_1161 dL_law_1162 ?_
  refine zl_mi (as := [.int (xs (i + 1).toNatClampNeg), .int (xs (i + 2).toNatClampNeg), .int (xs (i + 3).toNatClampNeg), .int (xs (i + 4).toNatClampNeg)]) (rest := [_]) hG dL_law_1163 mtX8_lay lkL_139 (C := RX8) rfl rfl (fun _ => rfl) rfl rfl (Nat.le_of_ble_eq_true rfl) (Nat.le_of_ble_eq_true rfl) rfl (m_lay (d := 0) h' (xs (i + 1).toNatClampNeg) (xs (i + 2).toNatClampNeg) (xs (i + 3).toNatClampNeg) (xs (i + 4).toNatClampNeg)) (zp_i (fun u' hu' => ?_))
  exact zl_eq hG dL_law_1166 (K _ _ _ hu hu')
set_option maxRecDepth 20000 in
theorem zl_c30 (hG : zl_G p s m meth c b L xs D ca ad1 ad2) (h : zc_P a w) (h' : zd_P a v) (h1 : vp_in (i + 1) L) (h2 : vp_in (i + 2) L) (h3 : vp_in (i + 3) L) (h4 : vp_in (i + 4) L) (h5 : vp_in (i + 5) L) (K : ∀ (a' : zs_A) (w' v' : zm_S), zc_P a' w' → zd_P a' v' → zl_T l p e s m below meth c b D ca ad1 ad2 1337 i [] w' v') : zl_T l p e s m below meth c b D ca ad1 ad2 1171 i [] w v := by
  refine zl_ld1 hG dL_law_1171 ?_
  refine zl_arg (x := 1) hG h1 dL_law_1172 dL_law_1173 dL_law_1174 (by decide) dL_law_1175 dL_law_1176 ?_
  refine zl_arg (x := 2) hG h2 dL_law_1177 dL_law_1178 dL_law_1179 (by decide) dL_law_1180 dL_law_1181 ?_
  refine zl_arg (x := 3) hG h3 dL_law_1182 dL_law_1183 dL_law_1184 (by decide) dL_law_1185 dL_law_1186 ?_
  refine zl_xi (as := [.int (xs (i + 1).toNatClampNeg), .int (xs (i + 2).toNatClampNeg), .int (xs (i + 3).toNatClampNeg)]) (rest := []) hG dL_law_1187 mtX7_get lkL_140 (C := RX7) rfl rfl (fun _ => rfl) rfl rfl (Nat.le_of_ble_eq_true rfl) (Nat.le_of_ble_eq_true rfl) rfl (c_get (d := 0) h (xs (i + 1).toNatClampNeg) (xs (i + 2).toNatClampNeg) (xs (i + 3).toNatClampNeg)) (zp_i (fun u hu => ?_))
  refine zl_ld2 hG dL_law_1190 ?_
  refine zl_arg (x := 1) hG h1 dL_law_1191 dL_law_1192 dL_law_1193 (by decide) dL_law_1194 dL_law_1195 ?_
  refine zl_arg (x := 2) hG h2 dL_law_1196 dL_law_1197 dL_law_1198 (by decide) dL_law_1199 dL_law_1200 ?_
  refine zl_arg (x := 3) hG h3 dL_law_1201 dL_law_1202 dL_law_1203 (by decide) dL_law_1204 dL_law_1205 ?_
  refine zl_mi (as := [.int (xs (i + 1).toNatClampNeg), .int (xs (i + 2).toNatClampNeg), .int (xs (i + 3).toNatClampNeg)]) (rest := [_]) hG dL_law_1206 mtX8_get lkL_143 (C := RX8) rfl rfl (fun _ => rfl) rfl rfl (Nat.le_of_ble_eq_true rfl) (Nat.le_of_ble_eq_true rfl) rfl (m_get (d := 0) h' (xs (i + 1).toNatClampNeg) (xs (i + 2).toNatClampNeg) (xs (i + 3).toNatClampNeg)) (zp_i (fun u' hu' => ?_))
  exact zl_eq hG dL_law_1209 (K _ _ _ hu hu')
set_option maxRecDepth 20000 in
theorem zl_c31 (hG : zl_G p s m meth c b L xs D ca ad1 ad2) (h : zc_P a w) (h' : zd_P a v) (h1 : vp_in (i + 1) L) (h2 : vp_in (i + 2) L) (h3 : vp_in (i + 3) L) (h4 : vp_in (i + 4) L) (h5 : vp_in (i + 5) L) (K : ∀ (a' : zs_A) (w' v' : zm_S), zc_P a' w' → zd_P a' v' → zl_T l p e s m below meth c b D ca ad1 ad2 1337 i [] w' v') : zl_T l p e s m below meth c b D ca ad1 ad2 1214 i [] w v := by
  refine zl_ld1 hG dL_law_1214 ?_
  refine zl_arg (x := 1) hG h1 dL_law_1215 dL_law_1216 dL_law_1217 (by decide) dL_law_1218 dL_law_1219 ?_
  refine zl_arg (x := 2) hG h2 dL_law_1220 dL_law_1221 dL_law_1222 (by decide) dL_law_1223 dL_law_1224 ?_
  refine zl_arg (x := 3) hG h3 dL_law_1225 dL_law_1226 dL_law_1227 (by decide) dL_law_1228 dL_law_1229 ?_
  refine zl_arg (x := 4) hG h4 dL_law_1230 dL_law_1231 dL_law_1232 (by decide) dL_law_1233 dL_law_1234 ?_
  refine zl_arg (x := 5) hG h5 dL_law_1235 dL_law_1236 dL_law_1237 (by decide) dL_law_1238 dL_law_1239 ?_
  refine zl_xi (as := [.int (xs (i + 1).toNatClampNeg), .int (xs (i + 2).toNatClampNeg), .int (xs (i + 3).toNatClampNeg), .int (xs (i + 4).toNatClampNeg), .int (xs (i + 5).toNatClampNeg)]) (rest := []) hG dL_law_1240 mtX7_copy lkL_144 (C := RX7) rfl rfl (fun _ => rfl) rfl rfl (Nat.le_of_ble_eq_true rfl) (Nat.le_of_ble_eq_true rfl) rfl (c_copy (d := 0) h (xs (i + 1).toNatClampNeg) (xs (i + 2).toNatClampNeg) (xs (i + 3).toNatClampNeg) (xs (i + 4).toNatClampNeg) (xs (i + 5).toNatClampNeg)) (zp_i (fun u hu => ?_))
  refine zl_ld2 hG dL_law_1243 ?_
  refine zl_arg (x := 1) hG h1 dL_law_1244 dL_law_1245 dL_law_1246 (by decide) dL_law_1247 dL_law_1248 ?_
  refine zl_arg (x := 2) hG h2 dL_law_1249 dL_law_1250 dL_law_1251 (by decide) dL_law_1252 dL_law_1253 ?_
  refine zl_arg (x := 3) hG h3 dL_law_1254 dL_law_1255 dL_law_1256 (by decide) dL_law_1257 dL_law_1258 ?_
  refine zl_arg (x := 4) hG h4 dL_law_1259 dL_law_1260 dL_law_1261 (by decide) dL_law_1262 dL_law_1263 ?_
  refine zl_arg (x := 5) hG h5 dL_law_1264 dL_law_1265 dL_law_1266 (by decide) dL_law_1267 dL_law_1268 ?_
  refine zl_mi (as := [.int (xs (i + 1).toNatClampNeg), .int (xs (i + 2).toNatClampNeg), .int (xs (i + 3).toNatClampNeg), .int (xs (i + 4).toNatClampNeg), .int (xs (i + 5).toNatClampNeg)]) (rest := [_]) hG dL_law_1269 mtX8_copy lkL_148 (C := RX8) rfl rfl (fun _ => rfl) rfl rfl (Nat.le_of_ble_eq_true rfl) (Nat.le_of_ble_eq_true rfl) rfl (m_copy (d := 0) h' (xs (i + 1).toNatClampNeg) (xs (i + 2).toNatClampNeg) (xs (i + 3).toNatClampNeg) (xs (i + 4).toNatClampNeg) (xs (i + 5).toNatClampNeg)) (zp_i (fun u' hu' => ?_))
  exact zl_eq hG dL_law_1272 (K _ _ _ hu hu')
set_option maxRecDepth 20000 in
theorem zl_c32 (hG : zl_G p s m meth c b L xs D ca ad1 ad2) (h : zc_P a w) (h' : zd_P a v) (h1 : vp_in (i + 1) L) (h2 : vp_in (i + 2) L) (h3 : vp_in (i + 3) L) (h4 : vp_in (i + 4) L) (h5 : vp_in (i + 5) L) (K : ∀ (a' : zs_A) (w' v' : zm_S), zc_P a' w' → zd_P a' v' → zl_T l p e s m below meth c b D ca ad1 ad2 1337 i [] w' v') : zl_T l p e s m below meth c b D ca ad1 ad2 1277 i [] w v := by
  refine zl_ld1 hG dL_law_1277 ?_
  refine zl_arg (x := 1) hG h1 dL_law_1278 dL_law_1279 dL_law_1280 (by decide) dL_law_1281 dL_law_1282 ?_
  refine zl_xi (as := [.int (xs (i + 1).toNatClampNeg)]) (rest := []) hG dL_law_1283 mtX7_write lkL_149 (C := RX7) rfl rfl (fun _ => rfl) rfl rfl (Nat.le_of_ble_eq_true rfl) (Nat.le_of_ble_eq_true rfl) rfl (c_write (d := 0) h (xs (i + 1).toNatClampNeg)) (zp_i (fun u hu => ?_))
  refine zl_ld2 hG dL_law_1286 ?_
  refine zl_arg (x := 1) hG h1 dL_law_1287 dL_law_1288 dL_law_1289 (by decide) dL_law_1290 dL_law_1291 ?_
  refine zl_mi (as := [.int (xs (i + 1).toNatClampNeg)]) (rest := [_]) hG dL_law_1292 mtX8_write lkL_152 (C := RX8) rfl rfl (fun _ => rfl) rfl rfl (Nat.le_of_ble_eq_true rfl) (Nat.le_of_ble_eq_true rfl) rfl (m_write (d := 0) h' (xs (i + 1).toNatClampNeg)) (zp_i (fun u' hu' => ?_))
  exact zl_eq hG dL_law_1295 (K _ _ _ hu hu')
set_option maxRecDepth 20000 in
theorem zl_c33 (hG : zl_G p s m meth c b L xs D ca ad1 ad2) (h : zc_P a w) (h' : zd_P a v) (h1 : vp_in (i + 1) L) (h2 : vp_in (i + 2) L) (h3 : vp_in (i + 3) L) (h4 : vp_in (i + 4) L) (h5 : vp_in (i + 5) L) (K : ∀ (a' : zs_A) (w' v' : zm_S), zc_P a' w' → zd_P a' v' → zl_T l p e s m below meth c b D ca ad1 ad2 1337 i [] w' v') : zl_T l p e s m below meth c b D ca ad1 ad2 1300 i [] w v := by
  refine zl_ld1 hG dL_law_1300 ?_
  refine zl_arg (x := 1) hG h1 dL_law_1301 dL_law_1302 dL_law_1303 (by decide) dL_law_1304 dL_law_1305 ?_
  refine zl_xi (as := [.int (xs (i + 1).toNatClampNeg)]) (rest := []) hG dL_law_1306 mtX7_count lkL_153 (C := RX7) rfl rfl (fun _ => rfl) rfl rfl (Nat.le_of_ble_eq_true rfl) (Nat.le_of_ble_eq_true rfl) rfl (c_count (d := 0) h (xs (i + 1).toNatClampNeg)) (zp_i (fun u hu => ?_))
  refine zl_ld2 hG dL_law_1309 ?_
  refine zl_arg (x := 1) hG h1 dL_law_1310 dL_law_1311 dL_law_1312 (by decide) dL_law_1313 dL_law_1314 ?_
  refine zl_mi (as := [.int (xs (i + 1).toNatClampNeg)]) (rest := [_]) hG dL_law_1315 mtX8_count lkL_156 (C := RX8) rfl rfl (fun _ => rfl) rfl rfl (Nat.le_of_ble_eq_true rfl) (Nat.le_of_ble_eq_true rfl) rfl (zm_C.post (Q' := zp (.int (zs_count a (xs (i + 1).toNatClampNeg))) (zd_P a)) (fun _ _ q => ⟨q.1, q.2.1⟩) (m_count (d := 0) h' (xs (i + 1).toNatClampNeg))) (zp_i (fun u' hu' => ?_))
  exact zl_eq hG dL_law_1318 (K _ _ _ hu hu')
set_option maxRecDepth 20000 in
theorem zl_c34 (hG : zl_G p s m meth c b L xs D ca ad1 ad2) (h : zc_P a w) (h' : zd_P a v) (h1 : vp_in (i + 1) L) (h2 : vp_in (i + 2) L) (h3 : vp_in (i + 3) L) (h4 : vp_in (i + 4) L) (h5 : vp_in (i + 5) L) (K : ∀ (a' : zs_A) (w' v' : zm_S), zc_P a' w' → zd_P a' v' → zl_T l p e s m below meth c b D ca ad1 ad2 1337 i [] w' v') : zl_T l p e s m below meth c b D ca ad1 ad2 1323 i [] w v := by
  refine zl_ld1 hG dL_law_1323 ?_
  refine zl_xl (as := []) (rest := []) hG dL_law_1324 mtX7_digest lkL_157 (C := RX7) rfl rfl (fun _ => rfl) rfl rfl (Nat.le_of_ble_eq_true rfl) (Nat.le_of_ble_eq_true rfl) rfl (c_digest (d := 0) h ) (zp_l (fun u hu => ?_))
  refine zl_ld2 hG dL_law_1327 ?_
  refine zl_ml (as := []) (rest := [_]) hG dL_law_1328 mtX8_digest lkL_161 (C := RX8) rfl rfl (fun _ => rfl) rfl rfl (Nat.le_of_ble_eq_true rfl) (Nat.le_of_ble_eq_true rfl) rfl (m_digest (d := 0) h' ) (zp_l (fun u' hu' => ?_))
  exact zl_leq hG dL_law_1331 dL_law_1332 (K _ _ _ hu hu')
end ZLC
