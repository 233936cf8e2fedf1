theorem qd_L_92 : Cond.constantLong "WinterTellersLaw" 92 (4294967295 : Int64) ∈ mj_TT := mj_tt (List.mem_of_getElem? (i := 1770) (by decide +kernel)) (by decide +kernel)
theorem ql_L_102 : Cond.methodLink "WinterTellersLaw" 102 y_M_status ∈ mj_TT := mj_tt (List.mem_of_getElem? (i := 1606) (by decide +kernel)) (by decide +kernel)
theorem ql_L_103 : Cond.methodLink "WinterTellersLaw" 103 y_W_undo ∈ mj_TT := mj_tt (List.mem_of_getElem? (i := 815) (by decide +kernel)) (by decide +kernel)
theorem ql_L_106 : Cond.methodLink "WinterTellersLaw" 106 y_M_undo ∈ mj_TT := mj_tt (List.mem_of_getElem? (i := 1610) (by decide +kernel)) (by decide +kernel)
theorem ql_L_107 : Cond.methodLink "WinterTellersLaw" 107 y_W_log ∈ mj_TT := mj_tt (List.mem_of_getElem? (i := 827) (by decide +kernel)) (by decide +kernel)
theorem ql_L_110 : Cond.methodLink "WinterTellersLaw" 110 y_M_log ∈ mj_TT := mj_tt (List.mem_of_getElem? (i := 1614) (by decide +kernel)) (by decide +kernel)
theorem ql_L_111 : Cond.methodLink "WinterTellersLaw" 111 y_W_best ∈ mj_TT := mj_tt (List.mem_of_getElem? (i := 839) (by decide +kernel)) (by decide +kernel)
theorem ql_L_114 : Cond.methodLink "WinterTellersLaw" 114 y_M_best ∈ mj_TT := mj_tt (List.mem_of_getElem? (i := 1618) (by decide +kernel)) (by decide +kernel)
theorem ql_L_115 : Cond.methodLink "WinterTellersLaw" 115 y_W_two ∈ mj_TT := mj_tt (List.mem_of_getElem? (i := 849) (by decide +kernel)) (by decide +kernel)
theorem ql_L_118 : Cond.methodLink "WinterTellersLaw" 118 y_M_two ∈ mj_TT := mj_tt (List.mem_of_getElem? (i := 1626) (by decide +kernel)) (by decide +kernel)
theorem ql_L_119 : Cond.methodLink "WinterTellersLaw" 119 y_W_places ∈ mj_TT := mj_tt (List.mem_of_getElem? (i := 881) (by decide +kernel)) (by decide +kernel)
theorem ql_L_122 : Cond.methodLink "WinterTellersLaw" 122 y_M_places ∈ mj_TT := mj_tt (List.mem_of_getElem? (i := 1642) (by decide +kernel)) (by decide +kernel)
theorem ql_L_123 : Cond.methodLink "WinterTellersLaw" 123 y_W_fewest ∈ mj_TT := mj_tt (List.mem_of_getElem? (i := 902) (by decide +kernel)) (by decide +kernel)
theorem ql_L_126 : Cond.methodLink "WinterTellersLaw" 126 y_M_fewest ∈ mj_TT := mj_tt (List.mem_of_getElem? (i := 1658) (by decide +kernel)) (by decide +kernel)
theorem ql_L_127 : Cond.methodLink "WinterTellersLaw" 127 y_W_seen ∈ mj_TT := mj_tt (List.mem_of_getElem? (i := 919) (by decide +kernel)) (by decide +kernel)
theorem ql_L_131 : Cond.methodLink "WinterTellersLaw" 131 y_M_seen ∈ mj_TT := mj_tt (List.mem_of_getElem? (i := 1662) (by decide +kernel)) (by decide +kernel)
theorem ql_L_132 : Cond.methodLink "WinterTellersLaw" 132 y_W_told ∈ mj_TT := mj_tt (List.mem_of_getElem? (i := 927) (by decide +kernel)) (by decide +kernel)
theorem ql_L_135 : Cond.methodLink "WinterTellersLaw" 135 y_M_told ∈ mj_TT := mj_tt (List.mem_of_getElem? (i := 1666) (by decide +kernel)) (by decide +kernel)
theorem ql_L_136 : Cond.methodLink "WinterTellersLaw" 136 y_W_ask ∈ mj_TT := mj_tt (List.mem_of_getElem? (i := 947) (by decide +kernel)) (by decide +kernel)
theorem ql_L_139 : Cond.methodLink "WinterTellersLaw" 139 y_M_ask ∈ mj_TT := mj_tt (List.mem_of_getElem? (i := 1678) (by decide +kernel)) (by decide +kernel)
theorem ql_L_140 : Cond.methodLink "WinterTellersLaw" 140 y_W_game ∈ mj_TT := mj_tt (List.mem_of_getElem? (i := 960) (by decide +kernel)) (by decide +kernel)
theorem ql_L_144 : Cond.methodLink "WinterTellersLaw" 144 y_M_game ∈ mj_TT := mj_tt (List.mem_of_getElem? (i := 1683) (by decide +kernel)) (by decide +kernel)
theorem ql_L_145 : Cond.methodLink "WinterTellersLaw" 145 y_W_rests ∈ mj_TT := mj_tt (List.mem_of_getElem? (i := 988) (by decide +kernel)) (by decide +kernel)
theorem ql_L_148 : Cond.methodLink "WinterTellersLaw" 148 y_M_rests ∈ mj_TT := mj_tt (List.mem_of_getElem? (i := 1692) (by decide +kernel)) (by decide +kernel)
theorem ql_L_149 : Cond.methodLink "WinterTellersLaw" 149 y_W_odds ∈ mj_TT := mj_tt (List.mem_of_getElem? (i := 1002) (by decide +kernel)) (by decide +kernel)
theorem ql_L_152 : Cond.methodLink "WinterTellersLaw" 152 y_M_odds ∈ mj_TT := mj_tt (List.mem_of_getElem? (i := 1700) (by decide +kernel)) (by decide +kernel)
theorem ql_L_153 : Cond.methodLink "WinterTellersLaw" 153 y_W_reach ∈ mj_TT := mj_tt (List.mem_of_getElem? (i := 1008) (by decide +kernel)) (by decide +kernel)
theorem ql_L_156 : Cond.methodLink "WinterTellersLaw" 156 y_M_reach ∈ mj_TT := mj_tt (List.mem_of_getElem? (i := 1706) (by decide +kernel)) (by decide +kernel)
theorem ql_L_157 : Cond.methodLink "WinterTellersLaw" 157 y_W_shares ∈ mj_TT := mj_tt (List.mem_of_getElem? (i := 1012) (by decide +kernel)) (by decide +kernel)
theorem ql_L_160 : Cond.methodLink "WinterTellersLaw" 160 y_M_shares ∈ mj_TT := mj_tt (List.mem_of_getElem? (i := 1710) (by decide +kernel)) (by decide +kernel)
theorem ql_L_161 : Cond.methodLink "WinterTellersLaw" 161 y_W_fresh ∈ mj_TT := mj_tt (List.mem_of_getElem? (i := 1016) (by decide +kernel)) (by decide +kernel)
theorem ql_L_164 : Cond.methodLink "WinterTellersLaw" 164 y_M_fresh ∈ mj_TT := mj_tt (List.mem_of_getElem? (i := 1714) (by decide +kernel)) (by decide +kernel)
theorem ql_L_165 : Cond.methodLink "WinterTellersLaw" 165 y_W_where ∈ mj_TT := mj_tt (List.mem_of_getElem? (i := 1020) (by decide +kernel)) (by decide +kernel)
theorem ql_L_168 : Cond.methodLink "WinterTellersLaw" 168 y_M_where ∈ mj_TT := mj_tt (List.mem_of_getElem? (i := 1650) (by decide +kernel)) (by decide +kernel)
theorem ql_L_169 : Cond.methodLink "WinterTellersLaw" 169 y_W_round ∈ mj_TT := mj_tt (List.mem_of_getElem? (i := 1024) (by decide +kernel)) (by decide +kernel)
theorem ql_L_172 : Cond.methodLink "WinterTellersLaw" 172 y_M_round ∈ mj_TT := mj_tt (List.mem_of_getElem? (i := 1718) (by decide +kernel)) (by decide +kernel)
theorem ql_L_173 : Cond.methodLink "WinterTellersLaw" 173 y_W_most ∈ mj_TT := mj_tt (List.mem_of_getElem? (i := 1039) (by decide +kernel)) (by decide +kernel)
theorem ql_L_176 : Cond.methodLink "WinterTellersLaw" 176 y_M_most ∈ mj_TT := mj_tt (List.mem_of_getElem? (i := 1730) (by decide +kernel)) (by decide +kernel)
theorem ql_L_177 : Cond.methodLink "WinterTellersLaw" 177 y_W_image ∈ mj_TT := mj_tt (List.mem_of_getElem? (i := 1071) (by decide +kernel)) (by decide +kernel)
theorem ql_L_180 : Cond.methodLink "WinterTellersLaw" 180 y_M_image ∈ mj_TT := mj_tt (List.mem_of_getElem? (i := 1758) (by decide +kernel)) (by decide +kernel)
theorem ql_L_181 : Cond.methodLink "WinterTellersLaw" 181 y_W_back ∈ mj_TT := mj_tt (List.mem_of_getElem? (i := 1080) (by decide +kernel)) (by decide +kernel)
theorem ql_L_184 : Cond.methodLink "WinterTellersLaw" 184 y_M_back ∈ mj_TT := mj_tt (List.mem_of_getElem? (i := 1762) (by decide +kernel)) (by decide +kernel)
theorem ql_L_185 : Cond.methodLink "WinterTellersLaw" 185 y_W_count ∈ mj_TT := mj_tt (List.mem_of_getElem? (i := 1088) (by decide +kernel)) (by decide +kernel)
theorem ql_L_188 : Cond.methodLink "WinterTellersLaw" 188 y_M_count ∈ mj_TT := mj_tt (List.mem_of_getElem? (i := 1766) (by decide +kernel)) (by decide +kernel)
theorem ql_L_19 : Cond.methodLink "WinterTellersLaw" 19 y_W_feed ∈ mj_TT := mj_tt (List.mem_of_getElem? (i := 440) (by decide +kernel)) (by decide +kernel)
theorem ql_L_23 : Cond.methodLink "WinterTellersLaw" 23 y_M_feed ∈ mj_TT := mj_tt (List.mem_of_getElem? (i := 1311) (by decide +kernel)) (by decide +kernel)
theorem ql_L_24 : Cond.methodLink "WinterTellersLaw" 24 y_W_end ∈ mj_TT := mj_tt (List.mem_of_getElem? (i := 451) (by decide +kernel)) (by decide +kernel)
theorem ql_L_28 : Cond.methodLink "WinterTellersLaw" 28 y_M_end ∈ mj_TT := mj_tt (List.mem_of_getElem? (i := 1318) (by decide +kernel)) (by decide +kernel)
theorem ql_L_29 : Cond.methodLink "WinterTellersLaw" 29 y_W_fault ∈ mj_TT := mj_tt (List.mem_of_getElem? (i := 455) (by decide +kernel)) (by decide +kernel)
theorem ql_L_33 : Cond.methodLink "WinterTellersLaw" 33 y_M_fault ∈ mj_TT := mj_tt (List.mem_of_getElem? (i := 1322) (by decide +kernel)) (by decide +kernel)
theorem ql_L_34 : Cond.methodLink "WinterTellersLaw" 34 y_W_text ∈ mj_TT := mj_tt (List.mem_of_getElem? (i := 595) (by decide +kernel)) (by decide +kernel)
theorem ql_L_37 : Cond.methodLink "WinterTellersLaw" 37 y_M_text ∈ mj_TT := mj_tt (List.mem_of_getElem? (i := 1438) (by decide +kernel)) (by decide +kernel)
theorem ql_L_38 : Cond.methodLink "WinterTellersLaw" 38 y_W_house ∈ mj_TT := mj_tt (List.mem_of_getElem? (i := 633) (by decide +kernel)) (by decide +kernel)
theorem ql_L_41 : Cond.methodLink "WinterTellersLaw" 41 y_M_house ∈ mj_TT := mj_tt (List.mem_of_getElem? (i := 1454) (by decide +kernel)) (by decide +kernel)
theorem ql_L_52 : Cond.methodLink "WinterTellersLaw" 52 y_W_heard ∈ mj_TT := mj_tt (List.mem_of_getElem? (i := 645) (by decide +kernel)) (by decide +kernel)
theorem ql_L_55 : Cond.methodLink "WinterTellersLaw" 55 y_M_heard ∈ mj_TT := mj_tt (List.mem_of_getElem? (i := 1482) (by decide +kernel)) (by decide +kernel)
theorem ql_L_56 : Cond.methodLink "WinterTellersLaw" 56 y_W_nights ∈ mj_TT := mj_tt (List.mem_of_getElem? (i := 658) (by decide +kernel)) (by decide +kernel)
theorem ql_L_59 : Cond.methodLink "WinterTellersLaw" 59 y_M_nights ∈ mj_TT := mj_tt (List.mem_of_getElem? (i := 1486) (by decide +kernel)) (by decide +kernel)
theorem ql_L_60 : Cond.methodLink "WinterTellersLaw" 60 y_W_law ∈ mj_TT := mj_tt (List.mem_of_getElem? (i := 698) (by decide +kernel)) (by decide +kernel)
theorem ql_L_63 : Cond.methodLink "WinterTellersLaw" 63 y_M_law ∈ mj_TT := mj_tt (List.mem_of_getElem? (i := 1522) (by decide +kernel)) (by decide +kernel)
theorem ql_L_64 : Cond.methodLink "WinterTellersLaw" 64 y_W_tells ∈ mj_TT := mj_tt (List.mem_of_getElem? (i := 702) (by decide +kernel)) (by decide +kernel)
theorem ql_L_67 : Cond.methodLink "WinterTellersLaw" 67 y_M_tells ∈ mj_TT := mj_tt (List.mem_of_getElem? (i := 1526) (by decide +kernel)) (by decide +kernel)
theorem ql_L_68 : Cond.methodLink "WinterTellersLaw" 68 y_W_goes ∈ mj_TT := mj_tt (List.mem_of_getElem? (i := 744) (by decide +kernel)) (by decide +kernel)
theorem ql_L_71 : Cond.methodLink "WinterTellersLaw" 71 y_M_goes ∈ mj_TT := mj_tt (List.mem_of_getElem? (i := 1558) (by decide +kernel)) (by decide +kernel)
theorem ql_L_72 : Cond.methodLink "WinterTellersLaw" 72 y_W_learns ∈ mj_TT := mj_tt (List.mem_of_getElem? (i := 760) (by decide +kernel)) (by decide +kernel)
theorem ql_L_75 : Cond.methodLink "WinterTellersLaw" 75 y_M_learns ∈ mj_TT := mj_tt (List.mem_of_getElem? (i := 1571) (by decide +kernel)) (by decide +kernel)
theorem ql_L_76 : Cond.methodLink "WinterTellersLaw" 76 y_W_ties ∈ mj_TT := mj_tt (List.mem_of_getElem? (i := 770) (by decide +kernel)) (by decide +kernel)
theorem ql_L_79 : Cond.methodLink "WinterTellersLaw" 79 y_M_ties ∈ mj_TT := mj_tt (List.mem_of_getElem? (i := 1576) (by decide +kernel)) (by decide +kernel)
theorem ql_L_80 : Cond.methodLink "WinterTellersLaw" 80 y_W_rest ∈ mj_TT := mj_tt (List.mem_of_getElem? (i := 774) (by decide +kernel)) (by decide +kernel)
theorem ql_L_83 : Cond.methodLink "WinterTellersLaw" 83 y_M_rest ∈ mj_TT := mj_tt (List.mem_of_getElem? (i := 1580) (by decide +kernel)) (by decide +kernel)
theorem ql_L_84 : Cond.methodLink "WinterTellersLaw" 84 y_W_give ∈ mj_TT := mj_tt (List.mem_of_getElem? (i := 782) (by decide +kernel)) (by decide +kernel)
theorem ql_L_87 : Cond.methodLink "WinterTellersLaw" 87 y_M_give ∈ mj_TT := mj_tt (List.mem_of_getElem? (i := 1584) (by decide +kernel)) (by decide +kernel)
theorem ql_L_88 : Cond.methodLink "WinterTellersLaw" 88 y_W_whys ∈ mj_TT := mj_tt (List.mem_of_getElem? (i := 786) (by decide +kernel)) (by decide +kernel)
theorem ql_L_91 : Cond.methodLink "WinterTellersLaw" 91 y_M_whys ∈ mj_TT := mj_tt (List.mem_of_getElem? (i := 1588) (by decide +kernel)) (by decide +kernel)
theorem ql_L_94 : Cond.methodLink "WinterTellersLaw" 94 y_W_years ∈ mj_TT := mj_tt (List.mem_of_getElem? (i := 790) (by decide +kernel)) (by decide +kernel)
theorem ql_L_98 : Cond.methodLink "WinterTellersLaw" 98 y_M_years ∈ mj_TT := mj_tt (List.mem_of_getElem? (i := 1592) (by decide +kernel)) (by decide +kernel)
theorem ql_L_99 : Cond.methodLink "WinterTellersLaw" 99 y_W_status ∈ mj_TT := mj_tt (List.mem_of_getElem? (i := 811) (by decide +kernel)) (by decide +kernel)
/-! ===== the law, case by case ===== -/
set_option maxRecDepth 20000 in
theorem Lc_0 {g : mj_G} {b Lz : Nat} {xs : Nat → Int32} {x4 : Int32} {M M1 M2 : mj_M} {ce sl : Nat} {r : Int32} (N : Nat) (h1 : vp_in (x4 + (1 : Int32)) Lz) (h2 : vp_in (x4 + (2 : Int32)) Lz) (h3 : vp_in (x4 + (3 : Int32)) Lz) (h4 : vp_in (x4 + (4 : Int32)) Lz) (h5 : vp_in (x4 + (5 : Int32)) Lz) (hce : ce ≤ 601024) (hsl : sl ≤ 7293034) (hf0 : F_W_feed N (xs (x4 + (1 : Int32)).toNatClampNeg) (xs (x4 + (2 : Int32)).toNatClampNeg) (xs (x4 + (3 : Int32)).toNatClampNeg) (xs (x4 + (4 : Int32)).toNatClampNeg) (xs (x4 + (5 : Int32)).toNatClampNeg) M = some (r, M1)) (hf1 : F_M_feed N (xs (x4 + (1 : Int32)).toNatClampNeg) (xs (x4 + (2 : Int32)).toNatClampNeg) (xs (x4 + (3 : Int32)).toNatClampNeg) (xs (x4 + (4 : Int32)).toNatClampNeg) (xs (x4 + (5 : Int32)).toNatClampNeg) M1 = some (r, M2)) (kk : mj_Z g b Lz xs 1482 [(4, .int x4), (0, .ref b), (1, .ref (mj_d g 0)), (2, .ref (mj_d g 48)), (3, .ref (mj_d g 73))] [] M2 ce sl) : mj_Z g b Lz xs 212 [(4, .int x4), (0, .ref b), (1, .ref (mj_d g 0)), (2, .ref (mj_d g 48)), (3, .ref (mj_d g 73))] [] M ce sl := by
  refine mz_aload_n (pc := 212) (i := 1) (j := 2) rfl dl_212 ?_
  refine mz_aload_n (pc := 213) (i := 0) (j := 1) rfl dl_213 ?_
  refine mz_iload (pc := 214) (i := 4) (j := 0) rfl dl_214 ?_
  refine mz_iconst (pc := 216) (v := (1 : Int32)) (by decide) dl_216 ?_
  refine mz_iadd (pc := 217) dl_217 ?_
  refine mz_sld (pc := 218) h1 dl_218 ?_
  refine mz_aload_n (pc := 219) (i := 0) (j := 1) rfl dl_219 ?_
  refine mz_iload (pc := 220) (i := 4) (j := 0) rfl dl_220 ?_
  refine mz_iconst (pc := 222) (v := (2 : Int32)) (by decide) dl_222 ?_
  refine mz_iadd (pc := 223) dl_223 ?_
  refine mz_sld (pc := 224) h2 dl_224 ?_
  refine mz_aload_n (pc := 225) (i := 0) (j := 1) rfl dl_225 ?_
  refine mz_iload (pc := 226) (i := 4) (j := 0) rfl dl_226 ?_
  refine mz_iconst (pc := 228) (v := (3 : Int32)) (by decide) dl_228 ?_
  refine mz_iadd (pc := 229) dl_229 ?_
  refine mz_sld (pc := 230) h3 dl_230 ?_
  refine mz_aload_n (pc := 231) (i := 0) (j := 1) rfl dl_231 ?_
  refine mz_iload (pc := 232) (i := 4) (j := 0) rfl dl_232 ?_
  refine mz_iconst (pc := 234) (v := (4 : Int32)) (by decide) dl_234 ?_
  refine mz_iadd (pc := 235) dl_235 ?_
  refine mz_sld (pc := 236) h4 dl_236 ?_
  refine mz_aload_n (pc := 237) (i := 0) (j := 1) rfl dl_237 ?_
  refine mz_iload (pc := 238) (i := 4) (j := 0) rfl dl_238 ?_
  refine mz_iconst (pc := 240) (v := (5 : Int32)) (by decide) dl_240 ?_
  refine mz_iadd (pc := 241) dl_241 ?_
  refine mz_sld (pc := 242) h5 dl_242 ?_
  refine mz_callI (pc := 243) (idx := 19) (bo := 0) (As := [.int (xs (x4 + (1 : Int32)).toNatClampNeg), .int (xs (x4 + (2 : Int32)).toNatClampNeg), .int (xs (x4 + (3 : Int32)).toNatClampNeg), .int (xs (x4 + (4 : Int32)).toNatClampNeg), .int (xs (x4 + (5 : Int32)).toNatClampNeg)]) (st := []) (q := (r, M1)) sh_0 cl_11 ev_W_feed ql_L_19 rfl rfl (Nat.le_of_ble_eq_true rfl) hce hsl (T_W_feed (g := g) N 1000 (by decide) (xs (x4 + (1 : Int32)).toNatClampNeg) (xs (x4 + (2 : Int32)).toNatClampNeg) (xs (x4 + (3 : Int32)).toNatClampNeg) (xs (x4 + (4 : Int32)).toNatClampNeg) (xs (x4 + (5 : Int32)).toNatClampNeg) M) hf0 dl_243 ?_
  refine mz_aload_n (pc := 246) (i := 2) (j := 3) rfl dl_246 ?_
  refine mz_aload_n (pc := 247) (i := 0) (j := 1) rfl dl_247 ?_
  refine mz_iload (pc := 248) (i := 4) (j := 0) rfl dl_248 ?_
  refine mz_iconst (pc := 250) (v := (1 : Int32)) (by decide) dl_250 ?_
  refine mz_iadd (pc := 251) dl_251 ?_
  refine mz_sld (pc := 252) h1 dl_252 ?_
  refine mz_aload_n (pc := 253) (i := 0) (j := 1) rfl dl_253 ?_
  refine mz_iload (pc := 254) (i := 4) (j := 0) rfl dl_254 ?_
  refine mz_iconst (pc := 256) (v := (2 : Int32)) (by decide) dl_256 ?_
  refine mz_iadd (pc := 257) dl_257 ?_
  refine mz_sld (pc := 258) h2 dl_258 ?_
  refine mz_aload_n (pc := 259) (i := 0) (j := 1) rfl dl_259 ?_
  refine mz_iload (pc := 260) (i := 4) (j := 0) rfl dl_260 ?_
  refine mz_iconst (pc := 262) (v := (3 : Int32)) (by decide) dl_262 ?_
  refine mz_iadd (pc := 263) dl_263 ?_
  refine mz_sld (pc := 264) h3 dl_264 ?_
  refine mz_aload_n (pc := 265) (i := 0) (j := 1) rfl dl_265 ?_
  refine mz_iload (pc := 266) (i := 4) (j := 0) rfl dl_266 ?_
  refine mz_iconst (pc := 268) (v := (4 : Int32)) (by decide) dl_268 ?_
  refine mz_iadd (pc := 269) dl_269 ?_
  refine mz_sld (pc := 270) h4 dl_270 ?_
  refine mz_aload_n (pc := 271) (i := 0) (j := 1) rfl dl_271 ?_
  refine mz_iload (pc := 272) (i := 4) (j := 0) rfl dl_272 ?_
  refine mz_iconst (pc := 274) (v := (5 : Int32)) (by decide) dl_274 ?_
  refine mz_iadd (pc := 275) dl_275 ?_
  refine mz_sld (pc := 276) h5 dl_276 ?_
  refine mz_callI (pc := 277) (idx := 23) (bo := 48) (As := [.int (xs (x4 + (1 : Int32)).toNatClampNeg), .int (xs (x4 + (2 : Int32)).toNatClampNeg), .int (xs (x4 + (3 : Int32)).toNatClampNeg), .int (xs (x4 + (4 : Int32)).toNatClampNeg), .int (xs (x4 + (5 : Int32)).toNatClampNeg)]) (st := [.int r]) (q := (r, M2)) sh_48 cl_12 ev_M_feed ql_L_23 rfl rfl (Nat.le_of_ble_eq_true rfl) hce hsl (T_M_feed (g := g) N 1000 (by decide) (xs (x4 + (1 : Int32)).toNatClampNeg) (xs (x4 + (2 : Int32)).toNatClampNeg) (xs (x4 + (3 : Int32)).toNatClampNeg) (xs (x4 + (4 : Int32)).toNatClampNeg) (xs (x4 + (5 : Int32)).toNatClampNeg) M1) hf1 dl_277 ?_
  refine mz_icmp_eq (pc := 280) (tgt := 1482) dl_280 rfl (fun _ => ?_) (fun hz => absurd rfl hz)
  exact kk
set_option maxRecDepth 20000 in
theorem Lc_1 {g : mj_G} {b Lz : Nat} {xs : Nat → Int32} {x4 : Int32} {M M1 M2 : mj_M} {ce sl : Nat} {r : Int32} (N : Nat) (h1 : vp_in (x4 + (1 : Int32)) Lz) (hce : ce ≤ 601024) (hsl : sl ≤ 7293034) (hf0 : F_W_end (xs (x4 + (1 : Int32)).toNatClampNeg) M = some (r, M1)) (hf1 : F_M_end (xs (x4 + (1 : Int32)).toNatClampNeg) M1 = some (r, M2)) (kk : mj_Z g b Lz xs 1482 [(4, .int x4), (0, .ref b), (1, .ref (mj_d g 0)), (2, .ref (mj_d g 48)), (3, .ref (mj_d g 73))] [] M2 ce sl) : mj_Z g b Lz xs 285 [(4, .int x4), (0, .ref b), (1, .ref (mj_d g 0)), (2, .ref (mj_d g 48)), (3, .ref (mj_d g 73))] [] M ce sl := by
  refine mz_aload_n (pc := 285) (i := 1) (j := 2) rfl dl_285 ?_
  refine mz_aload_n (pc := 286) (i := 0) (j := 1) rfl dl_286 ?_
  refine mz_iload (pc := 287) (i := 4) (j := 0) rfl dl_287 ?_
  refine mz_iconst (pc := 289) (v := (1 : Int32)) (by decide) dl_289 ?_
  refine mz_iadd (pc := 290) dl_290 ?_
  refine mz_sld (pc := 291) h1 dl_291 ?_
  refine mz_callI (pc := 292) (idx := 24) (bo := 0) (As := [.int (xs (x4 + (1 : Int32)).toNatClampNeg)]) (st := []) (q := (r, M1)) sh_0 cl_11 ev_W_end ql_L_24 rfl rfl (Nat.le_of_ble_eq_true rfl) hce hsl (T_W_end (g := g) 1000 (by decide) (xs (x4 + (1 : Int32)).toNatClampNeg) M) hf0 dl_292 ?_
  refine mz_aload_n (pc := 295) (i := 2) (j := 3) rfl dl_295 ?_
  refine mz_aload_n (pc := 296) (i := 0) (j := 1) rfl dl_296 ?_
  refine mz_iload (pc := 297) (i := 4) (j := 0) rfl dl_297 ?_
  refine mz_iconst (pc := 299) (v := (1 : Int32)) (by decide) dl_299 ?_
  refine mz_iadd (pc := 300) dl_300 ?_
  refine mz_sld (pc := 301) h1 dl_301 ?_
  refine mz_callI (pc := 302) (idx := 28) (bo := 48) (As := [.int (xs (x4 + (1 : Int32)).toNatClampNeg)]) (st := [.int r]) (q := (r, M2)) sh_48 cl_12 ev_M_end ql_L_28 rfl rfl (Nat.le_of_ble_eq_true rfl) hce hsl (T_M_end (g := g) 1000 (by decide) (xs (x4 + (1 : Int32)).toNatClampNeg) M1) hf1 dl_302 ?_
  refine mz_icmp_eq (pc := 305) (tgt := 1482) dl_305 rfl (fun _ => ?_) (fun hz => absurd rfl hz)
  exact kk
set_option maxRecDepth 20000 in
theorem Lc_2 {g : mj_G} {b Lz : Nat} {xs : Nat → Int32} {x4 : Int32} {M M1 M2 : mj_M} {ce sl : Nat} {r : Int32} (N : Nat) (h1 : vp_in (x4 + (1 : Int32)) Lz) (hce : ce ≤ 601024) (hsl : sl ≤ 7293034) (hf0 : F_W_fault N (xs (x4 + (1 : Int32)).toNatClampNeg) M = some (r, M1)) (hf1 : F_M_fault N (xs (x4 + (1 : Int32)).toNatClampNeg) M1 = some (r, M2)) (kk : mj_Z g b Lz xs 1482 [(4, .int x4), (0, .ref b), (1, .ref (mj_d g 0)), (2, .ref (mj_d g 48)), (3, .ref (mj_d g 73))] [] M2 ce sl) : mj_Z g b Lz xs 310 [(4, .int x4), (0, .ref b), (1, .ref (mj_d g 0)), (2, .ref (mj_d g 48)), (3, .ref (mj_d g 73))] [] M ce sl := by
  refine mz_aload_n (pc := 310) (i := 1) (j := 2) rfl dl_310 ?_
  refine mz_aload_n (pc := 311) (i := 0) (j := 1) rfl dl_311 ?_
  refine mz_iload (pc := 312) (i := 4) (j := 0) rfl dl_312 ?_
  refine mz_iconst (pc := 314) (v := (1 : Int32)) (by decide) dl_314 ?_
  refine mz_iadd (pc := 315) dl_315 ?_
  refine mz_sld (pc := 316) h1 dl_316 ?_
  refine mz_callI (pc := 317) (idx := 29) (bo := 0) (As := [.int (xs (x4 + (1 : Int32)).toNatClampNeg)]) (st := []) (q := (r, M1)) sh_0 cl_11 ev_W_fault ql_L_29 rfl rfl (Nat.le_of_ble_eq_true rfl) hce hsl (T_W_fault (g := g) N 1000 (by decide) (xs (x4 + (1 : Int32)).toNatClampNeg) M) hf0 dl_317 ?_
  refine mz_aload_n (pc := 320) (i := 2) (j := 3) rfl dl_320 ?_
  refine mz_aload_n (pc := 321) (i := 0) (j := 1) rfl dl_321 ?_
  refine mz_iload (pc := 322) (i := 4) (j := 0) rfl dl_322 ?_
  refine mz_iconst (pc := 324) (v := (1 : Int32)) (by decide) dl_324 ?_
  refine mz_iadd (pc := 325) dl_325 ?_
  refine mz_sld (pc := 326) h1 dl_326 ?_
  refine mz_callI (pc := 327) (idx := 33) (bo := 48) (As := [.int (xs (x4 + (1 : Int32)).toNatClampNeg)]) (st := [.int r]) (q := (r, M2)) sh_48 cl_12 ev_M_fault ql_L_33 rfl rfl (Nat.le_of_ble_eq_true rfl) hce hsl (T_M_fault (g := g) N 1000 (by decide) (xs (x4 + (1 : Int32)).toNatClampNeg) M1) hf1 dl_327 ?_
  refine mz_icmp_eq (pc := 330) (tgt := 1482) dl_330 rfl (fun _ => ?_) (fun hz => absurd rfl hz)
  exact kk
set_option maxRecDepth 20000 in
theorem Lc_3 {g : mj_G} {b Lz : Nat} {xs : Nat → Int32} {x4 : Int32} {M M1 M2 : mj_M} {ce sl : Nat} {r : Int32} (N : Nat) (h1 : vp_in (x4 + (1 : Int32)) Lz) (hce : ce ≤ 601024) (hsl : sl ≤ 7293034) (hf0 : F_W_text N (xs (x4 + (1 : Int32)).toNatClampNeg) M = some (r, M1)) (hf1 : F_M_text N (xs (x4 + (1 : Int32)).toNatClampNeg) M1 = some (r, M2)) (kk : mj_Z g b Lz xs 1482 [(4, .int x4), (0, .ref b), (1, .ref (mj_d g 0)), (2, .ref (mj_d g 48)), (3, .ref (mj_d g 73))] [] M2 ce sl) : mj_Z g b Lz xs 335 [(4, .int x4), (0, .ref b), (1, .ref (mj_d g 0)), (2, .ref (mj_d g 48)), (3, .ref (mj_d g 73))] [] M ce sl := by
  refine mz_aload_n (pc := 335) (i := 1) (j := 2) rfl dl_335 ?_
  refine mz_aload_n (pc := 336) (i := 0) (j := 1) rfl dl_336 ?_
  refine mz_iload (pc := 337) (i := 4) (j := 0) rfl dl_337 ?_
  refine mz_iconst (pc := 339) (v := (1 : Int32)) (by decide) dl_339 ?_
  refine mz_iadd (pc := 340) dl_340 ?_
  refine mz_sld (pc := 341) h1 dl_341 ?_
  refine mz_callI (pc := 342) (idx := 34) (bo := 0) (As := [.int (xs (x4 + (1 : Int32)).toNatClampNeg)]) (st := []) (q := (r, M1)) sh_0 cl_11 ev_W_text ql_L_34 rfl rfl (Nat.le_of_ble_eq_true rfl) hce hsl (T_W_text (g := g) N 1000 (by decide) (xs (x4 + (1 : Int32)).toNatClampNeg) M) hf0 dl_342 ?_
  refine mz_aload_n (pc := 345) (i := 2) (j := 3) rfl dl_345 ?_
  refine mz_aload_n (pc := 346) (i := 0) (j := 1) rfl dl_346 ?_
  refine mz_iload (pc := 347) (i := 4) (j := 0) rfl dl_347 ?_
  refine mz_iconst (pc := 349) (v := (1 : Int32)) (by decide) dl_349 ?_
  refine mz_iadd (pc := 350) dl_350 ?_
  refine mz_sld (pc := 351) h1 dl_351 ?_
  refine mz_callI (pc := 352) (idx := 37) (bo := 48) (As := [.int (xs (x4 + (1 : Int32)).toNatClampNeg)]) (st := [.int r]) (q := (r, M2)) sh_48 cl_12 ev_M_text ql_L_37 rfl rfl (Nat.le_of_ble_eq_true rfl) hce hsl (T_M_text (g := g) N 1000 (by decide) (xs (x4 + (1 : Int32)).toNatClampNeg) M1) hf1 dl_352 ?_
  refine mz_icmp_eq (pc := 355) (tgt := 1482) dl_355 rfl (fun _ => ?_) (fun hz => absurd rfl hz)
  exact kk
set_option maxRecDepth 20000 in
theorem Lc_4 {g : mj_G} {b Lz : Nat} {xs : Nat → Int32} {x4 : Int32} {M M1 M2 : mj_M} {ce sl : Nat} {r : Int32} (N : Nat) (h1 : vp_in (x4 + (1 : Int32)) Lz) (h2 : vp_in (x4 + (2 : Int32)) Lz) (hce : ce ≤ 601024) (hsl : sl ≤ 7293034) (hf0 : F_W_house N (xs (x4 + (1 : Int32)).toNatClampNeg) (xs (x4 + (2 : Int32)).toNatClampNeg) M = some (r, M1)) (hf1 : F_M_house N (xs (x4 + (1 : Int32)).toNatClampNeg) (xs (x4 + (2 : Int32)).toNatClampNeg) M1 = some (r, M2)) (kk : mj_Z g b Lz xs 1482 [(4, .int x4), (0, .ref b), (1, .ref (mj_d g 0)), (2, .ref (mj_d g 48)), (3, .ref (mj_d g 73))] [] M2 ce sl) : mj_Z g b Lz xs 360 [(4, .int x4), (0, .ref b), (1, .ref (mj_d g 0)), (2, .ref (mj_d g 48)), (3, .ref (mj_d g 73))] [] M ce sl := by
  refine mz_aload_n (pc := 360) (i := 1) (j := 2) rfl dl_360 ?_
  refine mz_aload_n (pc := 361) (i := 0) (j := 1) rfl dl_361 ?_
  refine mz_iload (pc := 362) (i := 4) (j := 0) rfl dl_362 ?_
  refine mz_iconst (pc := 364) (v := (1 : Int32)) (by decide) dl_364 ?_
  refine mz_iadd (pc := 365) dl_365 ?_
  refine mz_sld (pc := 366) h1 dl_366 ?_
  refine mz_aload_n (pc := 367) (i := 0) (j := 1) rfl dl_367 ?_
  refine mz_iload (pc := 368) (i := 4) (j := 0) rfl dl_368 ?_
  refine mz_iconst (pc := 370) (v := (2 : Int32)) (by decide) dl_370 ?_
  refine mz_iadd (pc := 371) dl_371 ?_
  refine mz_sld (pc := 372) h2 dl_372 ?_
  refine mz_callI (pc := 373) (idx := 38) (bo := 0) (As := [.int (xs (x4 + (1 : Int32)).toNatClampNeg), .int (xs (x4 + (2 : Int32)).toNatClampNeg)]) (st := []) (q := (r, M1)) sh_0 cl_11 ev_W_house ql_L_38 rfl rfl (Nat.le_of_ble_eq_true rfl) hce hsl (T_W_house (g := g) N 1000 (by decide) (xs (x4 + (1 : Int32)).toNatClampNeg) (xs (x4 + (2 : Int32)).toNatClampNeg) M) hf0 dl_373 ?_
  refine mz_aload_n (pc := 376) (i := 2) (j := 3) rfl dl_376 ?_
  refine mz_aload_n (pc := 377) (i := 0) (j := 1) rfl dl_377 ?_
  refine mz_iload (pc := 378) (i := 4) (j := 0) rfl dl_378 ?_
  refine mz_iconst (pc := 380) (v := (1 : Int32)) (by decide) dl_380 ?_
  refine mz_iadd (pc := 381) dl_381 ?_
  refine mz_sld (pc := 382) h1 dl_382 ?_
  refine mz_aload_n (pc := 383) (i := 0) (j := 1) rfl dl_383 ?_
  refine mz_iload (pc := 384) (i := 4) (j := 0) rfl dl_384 ?_
  refine mz_iconst (pc := 386) (v := (2 : Int32)) (by decide) dl_386 ?_
  refine mz_iadd (pc := 387) dl_387 ?_
  refine mz_sld (pc := 388) h2 dl_388 ?_
  refine mz_callI (pc := 389) (idx := 41) (bo := 48) (As := [.int (xs (x4 + (1 : Int32)).toNatClampNeg), .int (xs (x4 + (2 : Int32)).toNatClampNeg)]) (st := [.int r]) (q := (r, M2)) sh_48 cl_12 ev_M_house ql_L_41 rfl rfl (Nat.le_of_ble_eq_true rfl) hce hsl (T_M_house (g := g) N 1000 (by decide) (xs (x4 + (1 : Int32)).toNatClampNeg) (xs (x4 + (2 : Int32)).toNatClampNeg) M1) hf1 dl_389 ?_
  refine mz_icmp_eq (pc := 392) (tgt := 1482) dl_392 rfl (fun _ => ?_) (fun hz => absurd rfl hz)
  exact kk
set_option maxRecDepth 20000 in
theorem Lc_6 {g : mj_G} {b Lz : Nat} {xs : Nat → Int32} {x4 : Int32} {M M1 M2 : mj_M} {ce sl : Nat} {r : Int32} (N : Nat) (h1 : vp_in (x4 + (1 : Int32)) Lz) (h2 : vp_in (x4 + (2 : Int32)) Lz) (hce : ce ≤ 601024) (hsl : sl ≤ 7293034) (hf0 : F_W_heard (xs (x4 + (1 : Int32)).toNatClampNeg) (xs (x4 + (2 : Int32)).toNatClampNeg) M = some (r, M1)) (hf1 : F_M_heard (xs (x4 + (1 : Int32)).toNatClampNeg) (xs (x4 + (2 : Int32)).toNatClampNeg) M1 = some (r, M2)) (kk : mj_Z g b Lz xs 1482 [(4, .int x4), (0, .ref b), (1, .ref (mj_d g 0)), (2, .ref (mj_d g 48)), (3, .ref (mj_d g 73))] [] M2 ce sl) : mj_Z g b Lz xs 465 [(4, .int x4), (0, .ref b), (1, .ref (mj_d g 0)), (2, .ref (mj_d g 48)), (3, .ref (mj_d g 73))] [] M ce sl := by
  refine mz_aload_n (pc := 465) (i := 1) (j := 2) rfl dl_465 ?_
  refine mz_aload_n (pc := 466) (i := 0) (j := 1) rfl dl_466 ?_
  refine mz_iload (pc := 467) (i := 4) (j := 0) rfl dl_467 ?_
  refine mz_iconst (pc := 469) (v := (1 : Int32)) (by decide) dl_469 ?_
  refine mz_iadd (pc := 470) dl_470 ?_
  refine mz_sld (pc := 471) h1 dl_471 ?_
  refine mz_aload_n (pc := 472) (i := 0) (j := 1) rfl dl_472 ?_
  refine mz_iload (pc := 473) (i := 4) (j := 0) rfl dl_473 ?_
  refine mz_iconst (pc := 475) (v := (2 : Int32)) (by decide) dl_475 ?_
  refine mz_iadd (pc := 476) dl_476 ?_
  refine mz_sld (pc := 477) h2 dl_477 ?_
  refine mz_callI (pc := 478) (idx := 52) (bo := 0) (As := [.int (xs (x4 + (1 : Int32)).toNatClampNeg), .int (xs (x4 + (2 : Int32)).toNatClampNeg)]) (st := []) (q := (r, M1)) sh_0 cl_11 ev_W_heard ql_L_52 rfl rfl (Nat.le_of_ble_eq_true rfl) hce hsl (T_W_heard (g := g) 1000 (by decide) (xs (x4 + (1 : Int32)).toNatClampNeg) (xs (x4 + (2 : Int32)).toNatClampNeg) M) hf0 dl_478 ?_
  refine mz_aload_n (pc := 481) (i := 2) (j := 3) rfl dl_481 ?_
  refine mz_aload_n (pc := 482) (i := 0) (j := 1) rfl dl_482 ?_
  refine mz_iload (pc := 483) (i := 4) (j := 0) rfl dl_483 ?_
  refine mz_iconst (pc := 485) (v := (1 : Int32)) (by decide) dl_485 ?_
  refine mz_iadd (pc := 486) dl_486 ?_
  refine mz_sld (pc := 487) h1 dl_487 ?_
  refine mz_aload_n (pc := 488) (i := 0) (j := 1) rfl dl_488 ?_
  refine mz_iload (pc := 489) (i := 4) (j := 0) rfl dl_489 ?_
  refine mz_iconst (pc := 491) (v := (2 : Int32)) (by decide) dl_491 ?_
  refine mz_iadd (pc := 492) dl_492 ?_
  refine mz_sld (pc := 493) h2 dl_493 ?_
  refine mz_callI (pc := 494) (idx := 55) (bo := 48) (As := [.int (xs (x4 + (1 : Int32)).toNatClampNeg), .int (xs (x4 + (2 : Int32)).toNatClampNeg)]) (st := [.int r]) (q := (r, M2)) sh_48 cl_12 ev_M_heard ql_L_55 rfl rfl (Nat.le_of_ble_eq_true rfl) hce hsl (T_M_heard (g := g) 1000 (by decide) (xs (x4 + (1 : Int32)).toNatClampNeg) (xs (x4 + (2 : Int32)).toNatClampNeg) M1) hf1 dl_494 ?_
  refine mz_icmp_eq (pc := 497) (tgt := 1482) dl_497 rfl (fun _ => ?_) (fun hz => absurd rfl hz)
  exact kk
set_option maxRecDepth 20000 in
theorem Lc_7 {g : mj_G} {b Lz : Nat} {xs : Nat → Int32} {x4 : Int32} {M M1 M2 : mj_M} {ce sl : Nat} {r : Int32} (N : Nat) (h1 : vp_in (x4 + (1 : Int32)) Lz) (h2 : vp_in (x4 + (2 : Int32)) Lz) (hce : ce ≤ 601024) (hsl : sl ≤ 7293034) (hf0 : F_W_nights N (xs (x4 + (1 : Int32)).toNatClampNeg) (xs (x4 + (2 : Int32)).toNatClampNeg) M = some (r, M1)) (hf1 : F_M_nights N (xs (x4 + (1 : Int32)).toNatClampNeg) (xs (x4 + (2 : Int32)).toNatClampNeg) M1 = some (r, M2)) (kk : mj_Z g b Lz xs 1482 [(4, .int x4), (0, .ref b), (1, .ref (mj_d g 0)), (2, .ref (mj_d g 48)), (3, .ref (mj_d g 73))] [] M2 ce sl) : mj_Z g b Lz xs 502 [(4, .int x4), (0, .ref b), (1, .ref (mj_d g 0)), (2, .ref (mj_d g 48)), (3, .ref (mj_d g 73))] [] M ce sl := by
  refine mz_aload_n (pc := 502) (i := 1) (j := 2) rfl dl_502 ?_
  refine mz_aload_n (pc := 503) (i := 0) (j := 1) rfl dl_503 ?_
  refine mz_iload (pc := 504) (i := 4) (j := 0) rfl dl_504 ?_
  refine mz_iconst (pc := 506) (v := (1 : Int32)) (by decide) dl_506 ?_
  refine mz_iadd (pc := 507) dl_507 ?_
  refine mz_sld (pc := 508) h1 dl_508 ?_
  refine mz_aload_n (pc := 509) (i := 0) (j := 1) rfl dl_509 ?_
  refine mz_iload (pc := 510) (i := 4) (j := 0) rfl dl_510 ?_
  refine mz_iconst (pc := 512) (v := (2 : Int32)) (by decide) dl_512 ?_
  refine mz_iadd (pc := 513) dl_513 ?_
  refine mz_sld (pc := 514) h2 dl_514 ?_
  refine mz_callI (pc := 515) (idx := 56) (bo := 0) (As := [.int (xs (x4 + (1 : Int32)).toNatClampNeg), .int (xs (x4 + (2 : Int32)).toNatClampNeg)]) (st := []) (q := (r, M1)) sh_0 cl_11 ev_W_nights ql_L_56 rfl rfl (Nat.le_of_ble_eq_true rfl) hce hsl (T_W_nights (g := g) N 1000 (by decide) (xs (x4 + (1 : Int32)).toNatClampNeg) (xs (x4 + (2 : Int32)).toNatClampNeg) M) hf0 dl_515 ?_
  refine mz_aload_n (pc := 518) (i := 2) (j := 3) rfl dl_518 ?_
  refine mz_aload_n (pc := 519) (i := 0) (j := 1) rfl dl_519 ?_
  refine mz_iload (pc := 520) (i := 4) (j := 0) rfl dl_520 ?_
  refine mz_iconst (pc := 522) (v := (1 : Int32)) (by decide) dl_522 ?_
  refine mz_iadd (pc := 523) dl_523 ?_
  refine mz_sld (pc := 524) h1 dl_524 ?_
  refine mz_aload_n (pc := 525) (i := 0) (j := 1) rfl dl_525 ?_
  refine mz_iload (pc := 526) (i := 4) (j := 0) rfl dl_526 ?_
  refine mz_iconst (pc := 528) (v := (2 : Int32)) (by decide) dl_528 ?_
  refine mz_iadd (pc := 529) dl_529 ?_
  refine mz_sld (pc := 530) h2 dl_530 ?_
  refine mz_callI (pc := 531) (idx := 59) (bo := 48) (As := [.int (xs (x4 + (1 : Int32)).toNatClampNeg), .int (xs (x4 + (2 : Int32)).toNatClampNeg)]) (st := [.int r]) (q := (r, M2)) sh_48 cl_12 ev_M_nights ql_L_59 rfl rfl (Nat.le_of_ble_eq_true rfl) hce hsl (T_M_nights (g := g) N 1000 (by decide) (xs (x4 + (1 : Int32)).toNatClampNeg) (xs (x4 + (2 : Int32)).toNatClampNeg) M1) hf1 dl_531 ?_
  refine mz_icmp_eq (pc := 534) (tgt := 1482) dl_534 rfl (fun _ => ?_) (fun hz => absurd rfl hz)
  exact kk
set_option maxRecDepth 20000 in
theorem Lc_8 {g : mj_G} {b Lz : Nat} {xs : Nat → Int32} {x4 : Int32} {M M1 M2 : mj_M} {ce sl : Nat} {r : Int32} (N : Nat) (h1 : vp_in (x4 + (1 : Int32)) Lz) (hce : ce ≤ 601024) (hsl : sl ≤ 7293034) (hf0 : F_W_law (xs (x4 + (1 : Int32)).toNatClampNeg) M = some (r, M1)) (hf1 : F_M_law (xs (x4 + (1 : Int32)).toNatClampNeg) M1 = some (r, M2)) (kk : mj_Z g b Lz xs 1482 [(4, .int x4), (0, .ref b), (1, .ref (mj_d g 0)), (2, .ref (mj_d g 48)), (3, .ref (mj_d g 73))] [] M2 ce sl) : mj_Z g b Lz xs 539 [(4, .int x4), (0, .ref b), (1, .ref (mj_d g 0)), (2, .ref (mj_d g 48)), (3, .ref (mj_d g 73))] [] M ce sl := by
  refine mz_aload_n (pc := 539) (i := 1) (j := 2) rfl dl_539 ?_
  refine mz_aload_n (pc := 540) (i := 0) (j := 1) rfl dl_540 ?_
  refine mz_iload (pc := 541) (i := 4) (j := 0) rfl dl_541 ?_
  refine mz_iconst (pc := 543) (v := (1 : Int32)) (by decide) dl_543 ?_
  refine mz_iadd (pc := 544) dl_544 ?_
  refine mz_sld (pc := 545) h1 dl_545 ?_
  refine mz_callI (pc := 546) (idx := 60) (bo := 0) (As := [.int (xs (x4 + (1 : Int32)).toNatClampNeg)]) (st := []) (q := (r, M1)) sh_0 cl_11 ev_W_law ql_L_60 rfl rfl (Nat.le_of_ble_eq_true rfl) hce hsl (T_W_law (g := g) 1000 (by decide) (xs (x4 + (1 : Int32)).toNatClampNeg) M) hf0 dl_546 ?_
  refine mz_aload_n (pc := 549) (i := 2) (j := 3) rfl dl_549 ?_
  refine mz_aload_n (pc := 550) (i := 0) (j := 1) rfl dl_550 ?_
  refine mz_iload (pc := 551) (i := 4) (j := 0) rfl dl_551 ?_
  refine mz_iconst (pc := 553) (v := (1 : Int32)) (by decide) dl_553 ?_
  refine mz_iadd (pc := 554) dl_554 ?_
  refine mz_sld (pc := 555) h1 dl_555 ?_
  refine mz_callI (pc := 556) (idx := 63) (bo := 48) (As := [.int (xs (x4 + (1 : Int32)).toNatClampNeg)]) (st := [.int r]) (q := (r, M2)) sh_48 cl_12 ev_M_law ql_L_63 rfl rfl (Nat.le_of_ble_eq_true rfl) hce hsl (T_M_law (g := g) 1000 (by decide) (xs (x4 + (1 : Int32)).toNatClampNeg) M1) hf1 dl_556 ?_
  refine mz_icmp_eq (pc := 559) (tgt := 1482) dl_559 rfl (fun _ => ?_) (fun hz => absurd rfl hz)
  exact kk
set_option maxRecDepth 20000 in
theorem Lc_9 {g : mj_G} {b Lz : Nat} {xs : Nat → Int32} {x4 : Int32} {M M1 M2 : mj_M} {ce sl : Nat} {r : Int32} (N : Nat) (h1 : vp_in (x4 + (1 : Int32)) Lz) (hce : ce ≤ 601024) (hsl : sl ≤ 7293034) (hf0 : F_W_tells N (xs (x4 + (1 : Int32)).toNatClampNeg) M = some (r, M1)) (hf1 : F_M_tells N (xs (x4 + (1 : Int32)).toNatClampNeg) M1 = some (r, M2)) (kk : mj_Z g b Lz xs 1482 [(4, .int x4), (0, .ref b), (1, .ref (mj_d g 0)), (2, .ref (mj_d g 48)), (3, .ref (mj_d g 73))] [] M2 ce sl) : mj_Z g b Lz xs 564 [(4, .int x4), (0, .ref b), (1, .ref (mj_d g 0)), (2, .ref (mj_d g 48)), (3, .ref (mj_d g 73))] [] M ce sl := by
  refine mz_aload_n (pc := 564) (i := 1) (j := 2) rfl dl_564 ?_
  refine mz_aload_n (pc := 565) (i := 0) (j := 1) rfl dl_565 ?_
  refine mz_iload (pc := 566) (i := 4) (j := 0) rfl dl_566 ?_
  refine mz_iconst (pc := 568) (v := (1 : Int32)) (by decide) dl_568 ?_
  refine mz_iadd (pc := 569) dl_569 ?_
  refine mz_sld (pc := 570) h1 dl_570 ?_
  refine mz_callI (pc := 571) (idx := 64) (bo := 0) (As := [.int (xs (x4 + (1 : Int32)).toNatClampNeg)]) (st := []) (q := (r, M1)) sh_0 cl_11 ev_W_tells ql_L_64 rfl rfl (Nat.le_of_ble_eq_true rfl) hce hsl (T_W_tells (g := g) N 1000 (by decide) (xs (x4 + (1 : Int32)).toNatClampNeg) M) hf0 dl_571 ?_
  refine mz_aload_n (pc := 574) (i := 2) (j := 3) rfl dl_574 ?_
  refine mz_aload_n (pc := 575) (i := 0) (j := 1) rfl dl_575 ?_
  refine mz_iload (pc := 576) (i := 4) (j := 0) rfl dl_576 ?_
  refine mz_iconst (pc := 578) (v := (1 : Int32)) (by decide) dl_578 ?_
  refine mz_iadd (pc := 579) dl_579 ?_
  refine mz_sld (pc := 580) h1 dl_580 ?_
  refine mz_callI (pc := 581) (idx := 67) (bo := 48) (As := [.int (xs (x4 + (1 : Int32)).toNatClampNeg)]) (st := [.int r]) (q := (r, M2)) sh_48 cl_12 ev_M_tells ql_L_67 rfl rfl (Nat.le_of_ble_eq_true rfl) hce hsl (T_M_tells (g := g) N 1000 (by decide) (xs (x4 + (1 : Int32)).toNatClampNeg) M1) hf1 dl_581 ?_
  refine mz_icmp_eq (pc := 584) (tgt := 1482) dl_584 rfl (fun _ => ?_) (fun hz => absurd rfl hz)
  exact kk
set_option maxRecDepth 20000 in
theorem Lc_10 {g : mj_G} {b Lz : Nat} {xs : Nat → Int32} {x4 : Int32} {M M1 M2 : mj_M} {ce sl : Nat} {r : Int32} (N : Nat) (h1 : vp_in (x4 + (1 : Int32)) Lz) (hce : ce ≤ 601024) (hsl : sl ≤ 7293034) (hf0 : F_W_goes (xs (x4 + (1 : Int32)).toNatClampNeg) M = some (r, M1)) (hf1 : F_M_goes N (xs (x4 + (1 : Int32)).toNatClampNeg) M1 = some (r, M2)) (kk : mj_Z g b Lz xs 1482 [(4, .int x4), (0, .ref b), (1, .ref (mj_d g 0)), (2, .ref (mj_d g 48)), (3, .ref (mj_d g 73))] [] M2 ce sl) : mj_Z g b Lz xs 589 [(4, .int x4), (0, .ref b), (1, .ref (mj_d g 0)), (2, .ref (mj_d g 48)), (3, .ref (mj_d g 73))] [] M ce sl := by
  refine mz_aload_n (pc := 589) (i := 1) (j := 2) rfl dl_589 ?_
  refine mz_aload_n (pc := 590) (i := 0) (j := 1) rfl dl_590 ?_
  refine mz_iload (pc := 591) (i := 4) (j := 0) rfl dl_591 ?_
  refine mz_iconst (pc := 593) (v := (1 : Int32)) (by decide) dl_593 ?_
  refine mz_iadd (pc := 594) dl_594 ?_
  refine mz_sld (pc := 595) h1 dl_595 ?_
  refine mz_callI (pc := 596) (idx := 68) (bo := 0) (As := [.int (xs (x4 + (1 : Int32)).toNatClampNeg)]) (st := []) (q := (r, M1)) sh_0 cl_11 ev_W_goes ql_L_68 rfl rfl (Nat.le_of_ble_eq_true rfl) hce hsl (T_W_goes (g := g) 1000 (by decide) (xs (x4 + (1 : Int32)).toNatClampNeg) M) hf0 dl_596 ?_
  refine mz_aload_n (pc := 599) (i := 2) (j := 3) rfl dl_599 ?_
  refine mz_aload_n (pc := 600) (i := 0) (j := 1) rfl dl_600 ?_
  refine mz_iload (pc := 601) (i := 4) (j := 0) rfl dl_601 ?_
  refine mz_iconst (pc := 603) (v := (1 : Int32)) (by decide) dl_603 ?_
  refine mz_iadd (pc := 604) dl_604 ?_
  refine mz_sld (pc := 605) h1 dl_605 ?_
  refine mz_callI (pc := 606) (idx := 71) (bo := 48) (As := [.int (xs (x4 + (1 : Int32)).toNatClampNeg)]) (st := [.int r]) (q := (r, M2)) sh_48 cl_12 ev_M_goes ql_L_71 rfl rfl (Nat.le_of_ble_eq_true rfl) hce hsl (T_M_goes (g := g) N 1000 (by decide) (xs (x4 + (1 : Int32)).toNatClampNeg) M1) hf1 dl_606 ?_
  refine mz_icmp_eq (pc := 609) (tgt := 1482) dl_609 rfl (fun _ => ?_) (fun hz => absurd rfl hz)
  exact kk
set_option maxRecDepth 20000 in
theorem Lc_11 {g : mj_G} {b Lz : Nat} {xs : Nat → Int32} {x4 : Int32} {M M1 M2 : mj_M} {ce sl : Nat} {r : Int32} (N : Nat) (h1 : vp_in (x4 + (1 : Int32)) Lz) (hce : ce ≤ 601024) (hsl : sl ≤ 7293034) (hf0 : F_W_learns (xs (x4 + (1 : Int32)).toNatClampNeg) M = some (r, M1)) (hf1 : F_M_learns N (xs (x4 + (1 : Int32)).toNatClampNeg) M1 = some (r, M2)) (kk : mj_Z g b Lz xs 1482 [(4, .int x4), (0, .ref b), (1, .ref (mj_d g 0)), (2, .ref (mj_d g 48)), (3, .ref (mj_d g 73))] [] M2 ce sl) : mj_Z g b Lz xs 614 [(4, .int x4), (0, .ref b), (1, .ref (mj_d g 0)), (2, .ref (mj_d g 48)), (3, .ref (mj_d g 73))] [] M ce sl := by
  refine mz_aload_n (pc := 614) (i := 1) (j := 2) rfl dl_614 ?_
  refine mz_aload_n (pc := 615) (i := 0) (j := 1) rfl dl_615 ?_
  refine mz_iload (pc := 616) (i := 4) (j := 0) rfl dl_616 ?_
  refine mz_iconst (pc := 618) (v := (1 : Int32)) (by decide) dl_618 ?_
  refine mz_iadd (pc := 619) dl_619 ?_
  refine mz_sld (pc := 620) h1 dl_620 ?_
  refine mz_callI (pc := 621) (idx := 72) (bo := 0) (As := [.int (xs (x4 + (1 : Int32)).toNatClampNeg)]) (st := []) (q := (r, M1)) sh_0 cl_11 ev_W_learns ql_L_72 rfl rfl (Nat.le_of_ble_eq_true rfl) hce hsl (T_W_learns (g := g) 1000 (by decide) (xs (x4 + (1 : Int32)).toNatClampNeg) M) hf0 dl_621 ?_
  refine mz_aload_n (pc := 624) (i := 2) (j := 3) rfl dl_624 ?_
  refine mz_aload_n (pc := 625) (i := 0) (j := 1) rfl dl_625 ?_
  refine mz_iload (pc := 626) (i := 4) (j := 0) rfl dl_626 ?_
  refine mz_iconst (pc := 628) (v := (1 : Int32)) (by decide) dl_628 ?_
  refine mz_iadd (pc := 629) dl_629 ?_
  refine mz_sld (pc := 630) h1 dl_630 ?_
  refine mz_callI (pc := 631) (idx := 75) (bo := 48) (As := [.int (xs (x4 + (1 : Int32)).toNatClampNeg)]) (st := [.int r]) (q := (r, M2)) sh_48 cl_12 ev_M_learns ql_L_75 rfl rfl (Nat.le_of_ble_eq_true rfl) hce hsl (T_M_learns (g := g) N 1000 (by decide) (xs (x4 + (1 : Int32)).toNatClampNeg) M1) hf1 dl_631 ?_
  refine mz_icmp_eq (pc := 634) (tgt := 1482) dl_634 rfl (fun _ => ?_) (fun hz => absurd rfl hz)
  exact kk
set_option maxRecDepth 20000 in
theorem Lc_12 {g : mj_G} {b Lz : Nat} {xs : Nat → Int32} {x4 : Int32} {M M1 M2 : mj_M} {ce sl : Nat} {r : Int32} (N : Nat) (h1 : vp_in (x4 + (1 : Int32)) Lz) (hce : ce ≤ 601024) (hsl : sl ≤ 7293034) (hf0 : F_W_ties (xs (x4 + (1 : Int32)).toNatClampNeg) M = some (r, M1)) (hf1 : F_M_ties N (xs (x4 + (1 : Int32)).toNatClampNeg) M1 = some (r, M2)) (kk : mj_Z g b Lz xs 1482 [(4, .int x4), (0, .ref b), (1, .ref (mj_d g 0)), (2, .ref (mj_d g 48)), (3, .ref (mj_d g 73))] [] M2 ce sl) : mj_Z g b Lz xs 639 [(4, .int x4), (0, .ref b), (1, .ref (mj_d g 0)), (2, .ref (mj_d g 48)), (3, .ref (mj_d g 73))] [] M ce sl := by
  refine mz_aload_n (pc := 639) (i := 1) (j := 2) rfl dl_639 ?_
  refine mz_aload_n (pc := 640) (i := 0) (j := 1) rfl dl_640 ?_
  refine mz_iload (pc := 641) (i := 4) (j := 0) rfl dl_641 ?_
  refine mz_iconst (pc := 643) (v := (1 : Int32)) (by decide) dl_643 ?_
  refine mz_iadd (pc := 644) dl_644 ?_
  refine mz_sld (pc := 645) h1 dl_645 ?_
  refine mz_callI (pc := 646) (idx := 76) (bo := 0) (As := [.int (xs (x4 + (1 : Int32)).toNatClampNeg)]) (st := []) (q := (r, M1)) sh_0 cl_11 ev_W_ties ql_L_76 rfl rfl (Nat.le_of_ble_eq_true rfl) hce hsl (T_W_ties (g := g) 1000 (by decide) (xs (x4 + (1 : Int32)).toNatClampNeg) M) hf0 dl_646 ?_
  refine mz_aload_n (pc := 649) (i := 2) (j := 3) rfl dl_649 ?_
  refine mz_aload_n (pc := 650) (i := 0) (j := 1) rfl dl_650 ?_
  refine mz_iload (pc := 651) (i := 4) (j := 0) rfl dl_651 ?_
  refine mz_iconst (pc := 653) (v := (1 : Int32)) (by decide) dl_653 ?_
  refine mz_iadd (pc := 654) dl_654 ?_
  refine mz_sld (pc := 655) h1 dl_655 ?_
  refine mz_callI (pc := 656) (idx := 79) (bo := 48) (As := [.int (xs (x4 + (1 : Int32)).toNatClampNeg)]) (st := [.int r]) (q := (r, M2)) sh_48 cl_12 ev_M_ties ql_L_79 rfl rfl (Nat.le_of_ble_eq_true rfl) hce hsl (T_M_ties (g := g) N 1000 (by decide) (xs (x4 + (1 : Int32)).toNatClampNeg) M1) hf1 dl_656 ?_
  refine mz_icmp_eq (pc := 659) (tgt := 1482) dl_659 rfl (fun _ => ?_) (fun hz => absurd rfl hz)
  exact kk
set_option maxRecDepth 20000 in
theorem Lc_13 {g : mj_G} {b Lz : Nat} {xs : Nat → Int32} {x4 : Int32} {M M1 M2 : mj_M} {ce sl : Nat} {r : Int32} (N : Nat) (hce : ce ≤ 601024) (hsl : sl ≤ 7293034) (hf0 : F_W_rest M = some (r, M1)) (hf1 : F_M_rest N M1 = some (r, M2)) (kk : mj_Z g b Lz xs 1482 [(4, .int x4), (0, .ref b), (1, .ref (mj_d g 0)), (2, .ref (mj_d g 48)), (3, .ref (mj_d g 73))] [] M2 ce sl) : mj_Z g b Lz xs 664 [(4, .int x4), (0, .ref b), (1, .ref (mj_d g 0)), (2, .ref (mj_d g 48)), (3, .ref (mj_d g 73))] [] M ce sl := by
  refine mz_aload_n (pc := 664) (i := 1) (j := 2) rfl dl_664 ?_
  refine mz_callI (pc := 665) (idx := 80) (bo := 0) (As := []) (st := []) (q := (r, M1)) sh_0 cl_11 ev_W_rest ql_L_80 rfl rfl (Nat.le_of_ble_eq_true rfl) hce hsl (T_W_rest (g := g) 1000 (by decide) M) hf0 dl_665 ?_
  refine mz_aload_n (pc := 668) (i := 2) (j := 3) rfl dl_668 ?_
  refine mz_callI (pc := 669) (idx := 83) (bo := 48) (As := []) (st := [.int r]) (q := (r, M2)) sh_48 cl_12 ev_M_rest ql_L_83 rfl rfl (Nat.le_of_ble_eq_true rfl) hce hsl (T_M_rest (g := g) N 1000 (by decide) M1) hf1 dl_669 ?_
  refine mz_icmp_eq (pc := 672) (tgt := 1482) dl_672 rfl (fun _ => ?_) (fun hz => absurd rfl hz)
  exact kk
set_option maxRecDepth 20000 in
theorem Lc_14 {g : mj_G} {b Lz : Nat} {xs : Nat → Int32} {x4 : Int32} {M M1 M2 : mj_M} {ce sl : Nat} {r : Int32} (N : Nat) (h1 : vp_in (x4 + (1 : Int32)) Lz) (hce : ce ≤ 601024) (hsl : sl ≤ 7293034) (hf0 : F_W_give (xs (x4 + (1 : Int32)).toNatClampNeg) M = some (r, M1)) (hf1 : F_M_give N (xs (x4 + (1 : Int32)).toNatClampNeg) M1 = some (r, M2)) (kk : mj_Z g b Lz xs 1482 [(4, .int x4), (0, .ref b), (1, .ref (mj_d g 0)), (2, .ref (mj_d g 48)), (3, .ref (mj_d g 73))] [] M2 ce sl) : mj_Z g b Lz xs 677 [(4, .int x4), (0, .ref b), (1, .ref (mj_d g 0)), (2, .ref (mj_d g 48)), (3, .ref (mj_d g 73))] [] M ce sl := by
  refine mz_aload_n (pc := 677) (i := 1) (j := 2) rfl dl_677 ?_
  refine mz_aload_n (pc := 678) (i := 0) (j := 1) rfl dl_678 ?_
  refine mz_iload (pc := 679) (i := 4) (j := 0) rfl dl_679 ?_
  refine mz_iconst (pc := 681) (v := (1 : Int32)) (by decide) dl_681 ?_
  refine mz_iadd (pc := 682) dl_682 ?_
  refine mz_sld (pc := 683) h1 dl_683 ?_
  refine mz_callI (pc := 684) (idx := 84) (bo := 0) (As := [.int (xs (x4 + (1 : Int32)).toNatClampNeg)]) (st := []) (q := (r, M1)) sh_0 cl_11 ev_W_give ql_L_84 rfl rfl (Nat.le_of_ble_eq_true rfl) hce hsl (T_W_give (g := g) 1000 (by decide) (xs (x4 + (1 : Int32)).toNatClampNeg) M) hf0 dl_684 ?_
  refine mz_aload_n (pc := 687) (i := 2) (j := 3) rfl dl_687 ?_
  refine mz_aload_n (pc := 688) (i := 0) (j := 1) rfl dl_688 ?_
  refine mz_iload (pc := 689) (i := 4) (j := 0) rfl dl_689 ?_
  refine mz_iconst (pc := 691) (v := (1 : Int32)) (by decide) dl_691 ?_
  refine mz_iadd (pc := 692) dl_692 ?_
  refine mz_sld (pc := 693) h1 dl_693 ?_
  refine mz_callI (pc := 694) (idx := 87) (bo := 48) (As := [.int (xs (x4 + (1 : Int32)).toNatClampNeg)]) (st := [.int r]) (q := (r, M2)) sh_48 cl_12 ev_M_give ql_L_87 rfl rfl (Nat.le_of_ble_eq_true rfl) hce hsl (T_M_give (g := g) N 1000 (by decide) (xs (x4 + (1 : Int32)).toNatClampNeg) M1) hf1 dl_694 ?_
  refine mz_icmp_eq (pc := 697) (tgt := 1482) dl_697 rfl (fun _ => ?_) (fun hz => absurd rfl hz)
  exact kk
set_option maxRecDepth 20000 in
theorem Lc_15 {g : mj_G} {b Lz : Nat} {xs : Nat → Int32} {x4 : Int32} {M M1 M2 : mj_M} {ce sl : Nat} {r : Int32} (N : Nat) (h1 : vp_in (x4 + (1 : Int32)) Lz) (hce : ce ≤ 601024) (hsl : sl ≤ 7293034) (hf0 : F_W_whys (xs (x4 + (1 : Int32)).toNatClampNeg) M = some (r, M1)) (hf1 : F_M_whys (xs (x4 + (1 : Int32)).toNatClampNeg) M1 = some (r, M2)) (kk : mj_Z g b Lz xs 1482 [(4, .int x4), (0, .ref b), (1, .ref (mj_d g 0)), (2, .ref (mj_d g 48)), (3, .ref (mj_d g 73))] [] M2 ce sl) : mj_Z g b Lz xs 702 [(4, .int x4), (0, .ref b), (1, .ref (mj_d g 0)), (2, .ref (mj_d g 48)), (3, .ref (mj_d g 73))] [] M ce sl := by
  refine mz_aload_n (pc := 702) (i := 1) (j := 2) rfl dl_702 ?_
  refine mz_aload_n (pc := 703) (i := 0) (j := 1) rfl dl_703 ?_
  refine mz_iload (pc := 704) (i := 4) (j := 0) rfl dl_704 ?_
  refine mz_iconst (pc := 706) (v := (1 : Int32)) (by decide) dl_706 ?_
  refine mz_iadd (pc := 707) dl_707 ?_
  refine mz_sld (pc := 708) h1 dl_708 ?_
  refine mz_callI (pc := 709) (idx := 88) (bo := 0) (As := [.int (xs (x4 + (1 : Int32)).toNatClampNeg)]) (st := []) (q := (r, M1)) sh_0 cl_11 ev_W_whys ql_L_88 rfl rfl (Nat.le_of_ble_eq_true rfl) hce hsl (T_W_whys (g := g) 1000 (by decide) (xs (x4 + (1 : Int32)).toNatClampNeg) M) hf0 dl_709 ?_
  refine mz_aload_n (pc := 712) (i := 2) (j := 3) rfl dl_712 ?_
  refine mz_aload_n (pc := 713) (i := 0) (j := 1) rfl dl_713 ?_
  refine mz_iload (pc := 714) (i := 4) (j := 0) rfl dl_714 ?_
  refine mz_iconst (pc := 716) (v := (1 : Int32)) (by decide) dl_716 ?_
  refine mz_iadd (pc := 717) dl_717 ?_
  refine mz_sld (pc := 718) h1 dl_718 ?_
  refine mz_callI (pc := 719) (idx := 91) (bo := 48) (As := [.int (xs (x4 + (1 : Int32)).toNatClampNeg)]) (st := [.int r]) (q := (r, M2)) sh_48 cl_12 ev_M_whys ql_L_91 rfl rfl (Nat.le_of_ble_eq_true rfl) hce hsl (T_M_whys (g := g) 1000 (by decide) (xs (x4 + (1 : Int32)).toNatClampNeg) M1) hf1 dl_719 ?_
  refine mz_icmp_eq (pc := 722) (tgt := 1482) dl_722 rfl (fun _ => ?_) (fun hz => absurd rfl hz)
  exact kk
set_option maxRecDepth 20000 in
theorem Lc_16 {g : mj_G} {b Lz : Nat} {xs : Nat → Int32} {x4 : Int32} {M M1 M2 : mj_M} {ce sl : Nat} {r : Int32} (N : Nat) (h1 : vp_in (x4 + (1 : Int32)) Lz) (h2 : vp_in (x4 + (2 : Int32)) Lz) (h3 : vp_in (x4 + (3 : Int32)) Lz) (hce : ce ≤ 601024) (hsl : sl ≤ 7293034) (hf0 : F_W_years N (xs (x4 + (1 : Int32)).toNatClampNeg) ((((xs (x4 + (2 : Int32)).toNatClampNeg).toInt64) <<< 32) ||| (((xs (x4 + (3 : Int32)).toNatClampNeg).toInt64) &&& (4294967295 : Int64))) M = some (r, M1)) (hf1 : F_M_years N (xs (x4 + (1 : Int32)).toNatClampNeg) ((((xs (x4 + (2 : Int32)).toNatClampNeg).toInt64) <<< 32) ||| (((xs (x4 + (3 : Int32)).toNatClampNeg).toInt64) &&& (4294967295 : Int64))) M1 = some (r, M2)) (kk : mj_Z g b Lz xs 1482 [(4, .int x4), (0, .ref b), (1, .ref (mj_d g 0)), (2, .ref (mj_d g 48)), (3, .ref (mj_d g 73))] [] M2 ce sl) : mj_Z g b Lz xs 727 [(4, .int x4), (0, .ref b), (1, .ref (mj_d g 0)), (2, .ref (mj_d g 48)), (3, .ref (mj_d g 73))] [] M ce sl := by
  refine mz_aload_n (pc := 727) (i := 1) (j := 2) rfl dl_727 ?_
  refine mz_aload_n (pc := 728) (i := 0) (j := 1) rfl dl_728 ?_
  refine mz_iload (pc := 729) (i := 4) (j := 0) rfl dl_729 ?_
  refine mz_iconst (pc := 731) (v := (1 : Int32)) (by decide) dl_731 ?_
  refine mz_iadd (pc := 732) dl_732 ?_
  refine mz_sld (pc := 733) h1 dl_733 ?_
  refine mz_aload_n (pc := 734) (i := 0) (j := 1) rfl dl_734 ?_
  refine mz_iload (pc := 735) (i := 4) (j := 0) rfl dl_735 ?_
  refine mz_iconst (pc := 737) (v := (2 : Int32)) (by decide) dl_737 ?_
  refine mz_iadd (pc := 738) dl_738 ?_
  refine mz_sld (pc := 739) h2 dl_739 ?_
  refine mz_i2l (pc := 740) dl_740 ?_
  refine mz_bipush (pc := 741) (v := (32 : Int32)) (by decide) dl_741 ?_
  refine mz_lshl (pc := 743) (v := ((xs (x4 + (2 : Int32)).toNatClampNeg).toInt64) <<< 32) rfl dl_743 ?_
  refine mz_aload_n (pc := 744) (i := 0) (j := 1) rfl dl_744 ?_
  refine mz_iload (pc := 745) (i := 4) (j := 0) rfl dl_745 ?_
  refine mz_iconst (pc := 747) (v := (3 : Int32)) (by decide) dl_747 ?_
  refine mz_iadd (pc := 748) dl_748 ?_
  refine mz_sld (pc := 749) h3 dl_749 ?_
  refine mz_i2l (pc := 750) dl_750 ?_
  refine mz_ldc2 (pc := 751) qd_L_92 dl_751 ?_
  refine mz_land (pc := 754) dl_754 ?_
  refine mz_lor (pc := 755) dl_755 ?_
  refine mz_callI (pc := 756) (idx := 94) (bo := 0) (As := [.int (xs (x4 + (1 : Int32)).toNatClampNeg), .long ((((xs (x4 + (2 : Int32)).toNatClampNeg).toInt64) <<< 32) ||| (((xs (x4 + (3 : Int32)).toNatClampNeg).toInt64) &&& (4294967295 : Int64)))]) (st := []) (q := (r, M1)) sh_0 cl_11 ev_W_years ql_L_94 rfl rfl (Nat.le_of_ble_eq_true rfl) hce hsl (T_W_years (g := g) N 1000 (by decide) (xs (x4 + (1 : Int32)).toNatClampNeg) ((((xs (x4 + (2 : Int32)).toNatClampNeg).toInt64) <<< 32) ||| (((xs (x4 + (3 : Int32)).toNatClampNeg).toInt64) &&& (4294967295 : Int64))) M) hf0 dl_756 ?_
  refine mz_aload_n (pc := 759) (i := 2) (j := 3) rfl dl_759 ?_
  refine mz_aload_n (pc := 760) (i := 0) (j := 1) rfl dl_760 ?_
  refine mz_iload (pc := 761) (i := 4) (j := 0) rfl dl_761 ?_
  refine mz_iconst (pc := 763) (v := (1 : Int32)) (by decide) dl_763 ?_
  refine mz_iadd (pc := 764) dl_764 ?_
  refine mz_sld (pc := 765) h1 dl_765 ?_
  refine mz_aload_n (pc := 766) (i := 0) (j := 1) rfl dl_766 ?_
  refine mz_iload (pc := 767) (i := 4) (j := 0) rfl dl_767 ?_
  refine mz_iconst (pc := 769) (v := (2 : Int32)) (by decide) dl_769 ?_
  refine mz_iadd (pc := 770) dl_770 ?_
  refine mz_sld (pc := 771) h2 dl_771 ?_
  refine mz_i2l (pc := 772) dl_772 ?_
  refine mz_bipush (pc := 773) (v := (32 : Int32)) (by decide) dl_773 ?_
  refine mz_lshl (pc := 775) (v := ((xs (x4 + (2 : Int32)).toNatClampNeg).toInt64) <<< 32) rfl dl_775 ?_
  refine mz_aload_n (pc := 776) (i := 0) (j := 1) rfl dl_776 ?_
  refine mz_iload (pc := 777) (i := 4) (j := 0) rfl dl_777 ?_
  refine mz_iconst (pc := 779) (v := (3 : Int32)) (by decide) dl_779 ?_
  refine mz_iadd (pc := 780) dl_780 ?_
  refine mz_sld (pc := 781) h3 dl_781 ?_
  refine mz_i2l (pc := 782) dl_782 ?_
  refine mz_ldc2 (pc := 783) qd_L_92 dl_783 ?_
  refine mz_land (pc := 786) dl_786 ?_
  refine mz_lor (pc := 787) dl_787 ?_
  refine mz_callI (pc := 788) (idx := 98) (bo := 48) (As := [.int (xs (x4 + (1 : Int32)).toNatClampNeg), .long ((((xs (x4 + (2 : Int32)).toNatClampNeg).toInt64) <<< 32) ||| (((xs (x4 + (3 : Int32)).toNatClampNeg).toInt64) &&& (4294967295 : Int64)))]) (st := [.int r]) (q := (r, M2)) sh_48 cl_12 ev_M_years ql_L_98 rfl rfl (Nat.le_of_ble_eq_true rfl) hce hsl (T_M_years (g := g) N 1000 (by decide) (xs (x4 + (1 : Int32)).toNatClampNeg) ((((xs (x4 + (2 : Int32)).toNatClampNeg).toInt64) <<< 32) ||| (((xs (x4 + (3 : Int32)).toNatClampNeg).toInt64) &&& (4294967295 : Int64))) M1) hf1 dl_788 ?_
  refine mz_icmp_eq (pc := 791) (tgt := 1482) dl_791 rfl (fun _ => ?_) (fun hz => absurd rfl hz)
  exact kk
set_option maxRecDepth 20000 in
theorem Lc_17 {g : mj_G} {b Lz : Nat} {xs : Nat → Int32} {x4 : Int32} {M M1 M2 : mj_M} {ce sl : Nat} {r : Int32} (N : Nat) (h1 : vp_in (x4 + (1 : Int32)) Lz) (hce : ce ≤ 601024) (hsl : sl ≤ 7293034) (hf0 : F_W_status (xs (x4 + (1 : Int32)).toNatClampNeg) M = some (r, M1)) (hf1 : F_M_status (xs (x4 + (1 : Int32)).toNatClampNeg) M1 = some (r, M2)) (kk : mj_Z g b Lz xs 1482 [(4, .int x4), (0, .ref b), (1, .ref (mj_d g 0)), (2, .ref (mj_d g 48)), (3, .ref (mj_d g 73))] [] M2 ce sl) : mj_Z g b Lz xs 796 [(4, .int x4), (0, .ref b), (1, .ref (mj_d g 0)), (2, .ref (mj_d g 48)), (3, .ref (mj_d g 73))] [] M ce sl := by
  refine mz_aload_n (pc := 796) (i := 1) (j := 2) rfl dl_796 ?_
  refine mz_aload_n (pc := 797) (i := 0) (j := 1) rfl dl_797 ?_
  refine mz_iload (pc := 798) (i := 4) (j := 0) rfl dl_798 ?_
  refine mz_iconst (pc := 800) (v := (1 : Int32)) (by decide) dl_800 ?_
  refine mz_iadd (pc := 801) dl_801 ?_
  refine mz_sld (pc := 802) h1 dl_802 ?_
  refine mz_callI (pc := 803) (idx := 99) (bo := 0) (As := [.int (xs (x4 + (1 : Int32)).toNatClampNeg)]) (st := []) (q := (r, M1)) sh_0 cl_11 ev_W_status ql_L_99 rfl rfl (Nat.le_of_ble_eq_true rfl) hce hsl (T_W_status (g := g) 1000 (by decide) (xs (x4 + (1 : Int32)).toNatClampNeg) M) hf0 dl_803 ?_
  refine mz_aload_n (pc := 806) (i := 2) (j := 3) rfl dl_806 ?_
  refine mz_aload_n (pc := 807) (i := 0) (j := 1) rfl dl_807 ?_
  refine mz_iload (pc := 808) (i := 4) (j := 0) rfl dl_808 ?_
  refine mz_iconst (pc := 810) (v := (1 : Int32)) (by decide) dl_810 ?_
  refine mz_iadd (pc := 811) dl_811 ?_
  refine mz_sld (pc := 812) h1 dl_812 ?_
  refine mz_callI (pc := 813) (idx := 102) (bo := 48) (As := [.int (xs (x4 + (1 : Int32)).toNatClampNeg)]) (st := [.int r]) (q := (r, M2)) sh_48 cl_12 ev_M_status ql_L_102 rfl rfl (Nat.le_of_ble_eq_true rfl) hce hsl (T_M_status (g := g) 1000 (by decide) (xs (x4 + (1 : Int32)).toNatClampNeg) M1) hf1 dl_813 ?_
  refine mz_icmp_eq (pc := 816) (tgt := 1482) dl_816 rfl (fun _ => ?_) (fun hz => absurd rfl hz)
  exact kk
set_option maxRecDepth 20000 in
theorem Lc_18 {g : mj_G} {b Lz : Nat} {xs : Nat → Int32} {x4 : Int32} {M M1 M2 : mj_M} {ce sl : Nat} {r : Int32} (N : Nat) (hce : ce ≤ 601024) (hsl : sl ≤ 7293034) (hf0 : F_W_undo M = some (r, M1)) (hf1 : F_M_undo N M1 = some (r, M2)) (kk : mj_Z g b Lz xs 1482 [(4, .int x4), (0, .ref b), (1, .ref (mj_d g 0)), (2, .ref (mj_d g 48)), (3, .ref (mj_d g 73))] [] M2 ce sl) : mj_Z g b Lz xs 821 [(4, .int x4), (0, .ref b), (1, .ref (mj_d g 0)), (2, .ref (mj_d g 48)), (3, .ref (mj_d g 73))] [] M ce sl := by
  refine mz_aload_n (pc := 821) (i := 1) (j := 2) rfl dl_821 ?_
  refine mz_callI (pc := 822) (idx := 103) (bo := 0) (As := []) (st := []) (q := (r, M1)) sh_0 cl_11 ev_W_undo ql_L_103 rfl rfl (Nat.le_of_ble_eq_true rfl) hce hsl (T_W_undo (g := g) 1000 (by decide) M) hf0 dl_822 ?_
  refine mz_aload_n (pc := 825) (i := 2) (j := 3) rfl dl_825 ?_
  refine mz_callI (pc := 826) (idx := 106) (bo := 48) (As := []) (st := [.int r]) (q := (r, M2)) sh_48 cl_12 ev_M_undo ql_L_106 rfl rfl (Nat.le_of_ble_eq_true rfl) hce hsl (T_M_undo (g := g) N 1000 (by decide) M1) hf1 dl_826 ?_
  refine mz_icmp_eq (pc := 829) (tgt := 1482) dl_829 rfl (fun _ => ?_) (fun hz => absurd rfl hz)
  exact kk
set_option maxRecDepth 20000 in
theorem Lc_19 {g : mj_G} {b Lz : Nat} {xs : Nat → Int32} {x4 : Int32} {M M1 M2 : mj_M} {ce sl : Nat} {r : Int32} (N : Nat) (h1 : vp_in (x4 + (1 : Int32)) Lz) (h2 : vp_in (x4 + (2 : Int32)) Lz) (hce : ce ≤ 601024) (hsl : sl ≤ 7293034) (hf0 : F_W_log (xs (x4 + (1 : Int32)).toNatClampNeg) (xs (x4 + (2 : Int32)).toNatClampNeg) M = some (r, M1)) (hf1 : F_M_log (xs (x4 + (1 : Int32)).toNatClampNeg) (xs (x4 + (2 : Int32)).toNatClampNeg) M1 = some (r, M2)) (kk : mj_Z g b Lz xs 1482 [(4, .int x4), (0, .ref b), (1, .ref (mj_d g 0)), (2, .ref (mj_d g 48)), (3, .ref (mj_d g 73))] [] M2 ce sl) : mj_Z g b Lz xs 834 [(4, .int x4), (0, .ref b), (1, .ref (mj_d g 0)), (2, .ref (mj_d g 48)), (3, .ref (mj_d g 73))] [] M ce sl := by
  refine mz_aload_n (pc := 834) (i := 1) (j := 2) rfl dl_834 ?_
  refine mz_aload_n (pc := 835) (i := 0) (j := 1) rfl dl_835 ?_
  refine mz_iload (pc := 836) (i := 4) (j := 0) rfl dl_836 ?_
  refine mz_iconst (pc := 838) (v := (1 : Int32)) (by decide) dl_838 ?_
  refine mz_iadd (pc := 839) dl_839 ?_
  refine mz_sld (pc := 840) h1 dl_840 ?_
  refine mz_aload_n (pc := 841) (i := 0) (j := 1) rfl dl_841 ?_
  refine mz_iload (pc := 842) (i := 4) (j := 0) rfl dl_842 ?_
  refine mz_iconst (pc := 844) (v := (2 : Int32)) (by decide) dl_844 ?_
  refine mz_iadd (pc := 845) dl_845 ?_
  refine mz_sld (pc := 846) h2 dl_846 ?_
  refine mz_callI (pc := 847) (idx := 107) (bo := 0) (As := [.int (xs (x4 + (1 : Int32)).toNatClampNeg), .int (xs (x4 + (2 : Int32)).toNatClampNeg)]) (st := []) (q := (r, M1)) sh_0 cl_11 ev_W_log ql_L_107 rfl rfl (Nat.le_of_ble_eq_true rfl) hce hsl (T_W_log (g := g) 1000 (by decide) (xs (x4 + (1 : Int32)).toNatClampNeg) (xs (x4 + (2 : Int32)).toNatClampNeg) M) hf0 dl_847 ?_
  refine mz_aload_n (pc := 850) (i := 2) (j := 3) rfl dl_850 ?_
  refine mz_aload_n (pc := 851) (i := 0) (j := 1) rfl dl_851 ?_
  refine mz_iload (pc := 852) (i := 4) (j := 0) rfl dl_852 ?_
  refine mz_iconst (pc := 854) (v := (1 : Int32)) (by decide) dl_854 ?_
  refine mz_iadd (pc := 855) dl_855 ?_
  refine mz_sld (pc := 856) h1 dl_856 ?_
  refine mz_aload_n (pc := 857) (i := 0) (j := 1) rfl dl_857 ?_
  refine mz_iload (pc := 858) (i := 4) (j := 0) rfl dl_858 ?_
  refine mz_iconst (pc := 860) (v := (2 : Int32)) (by decide) dl_860 ?_
  refine mz_iadd (pc := 861) dl_861 ?_
  refine mz_sld (pc := 862) h2 dl_862 ?_
  refine mz_callI (pc := 863) (idx := 110) (bo := 48) (As := [.int (xs (x4 + (1 : Int32)).toNatClampNeg), .int (xs (x4 + (2 : Int32)).toNatClampNeg)]) (st := [.int r]) (q := (r, M2)) sh_48 cl_12 ev_M_log ql_L_110 rfl rfl (Nat.le_of_ble_eq_true rfl) hce hsl (T_M_log (g := g) 1000 (by decide) (xs (x4 + (1 : Int32)).toNatClampNeg) (xs (x4 + (2 : Int32)).toNatClampNeg) M1) hf1 dl_863 ?_
  refine mz_icmp_eq (pc := 866) (tgt := 1482) dl_866 rfl (fun _ => ?_) (fun hz => absurd rfl hz)
  exact kk
set_option maxRecDepth 20000 in
theorem Lc_20 {g : mj_G} {b Lz : Nat} {xs : Nat → Int32} {x4 : Int32} {M M1 M2 : mj_M} {ce sl : Nat} {r : Int32} (N : Nat) (h1 : vp_in (x4 + (1 : Int32)) Lz) (h2 : vp_in (x4 + (2 : Int32)) Lz) (hce : ce ≤ 601024) (hsl : sl ≤ 7293034) (hf0 : F_W_best N (xs (x4 + (1 : Int32)).toNatClampNeg) (xs (x4 + (2 : Int32)).toNatClampNeg) M = some (r, M1)) (hf1 : F_M_best N (xs (x4 + (1 : Int32)).toNatClampNeg) (xs (x4 + (2 : Int32)).toNatClampNeg) M1 = some (r, M2)) (kk : mj_Z g b Lz xs 1482 [(4, .int x4), (0, .ref b), (1, .ref (mj_d g 0)), (2, .ref (mj_d g 48)), (3, .ref (mj_d g 73))] [] M2 ce sl) : mj_Z g b Lz xs 871 [(4, .int x4), (0, .ref b), (1, .ref (mj_d g 0)), (2, .ref (mj_d g 48)), (3, .ref (mj_d g 73))] [] M ce sl := by
  refine mz_aload_n (pc := 871) (i := 1) (j := 2) rfl dl_871 ?_
  refine mz_aload_n (pc := 872) (i := 0) (j := 1) rfl dl_872 ?_
  refine mz_iload (pc := 873) (i := 4) (j := 0) rfl dl_873 ?_
  refine mz_iconst (pc := 875) (v := (1 : Int32)) (by decide) dl_875 ?_
  refine mz_iadd (pc := 876) dl_876 ?_
  refine mz_sld (pc := 877) h1 dl_877 ?_
  refine mz_aload_n (pc := 878) (i := 0) (j := 1) rfl dl_878 ?_
  refine mz_iload (pc := 879) (i := 4) (j := 0) rfl dl_879 ?_
  refine mz_iconst (pc := 881) (v := (2 : Int32)) (by decide) dl_881 ?_
  refine mz_iadd (pc := 882) dl_882 ?_
  refine mz_sld (pc := 883) h2 dl_883 ?_
  refine mz_callI (pc := 884) (idx := 111) (bo := 0) (As := [.int (xs (x4 + (1 : Int32)).toNatClampNeg), .int (xs (x4 + (2 : Int32)).toNatClampNeg)]) (st := []) (q := (r, M1)) sh_0 cl_11 ev_W_best ql_L_111 rfl rfl (Nat.le_of_ble_eq_true rfl) hce hsl (T_W_best (g := g) N 1000 (by decide) (xs (x4 + (1 : Int32)).toNatClampNeg) (xs (x4 + (2 : Int32)).toNatClampNeg) M) hf0 dl_884 ?_
  refine mz_aload_n (pc := 887) (i := 2) (j := 3) rfl dl_887 ?_
  refine mz_aload_n (pc := 888) (i := 0) (j := 1) rfl dl_888 ?_
  refine mz_iload (pc := 889) (i := 4) (j := 0) rfl dl_889 ?_
  refine mz_iconst (pc := 891) (v := (1 : Int32)) (by decide) dl_891 ?_
  refine mz_iadd (pc := 892) dl_892 ?_
  refine mz_sld (pc := 893) h1 dl_893 ?_
  refine mz_aload_n (pc := 894) (i := 0) (j := 1) rfl dl_894 ?_
  refine mz_iload (pc := 895) (i := 4) (j := 0) rfl dl_895 ?_
  refine mz_iconst (pc := 897) (v := (2 : Int32)) (by decide) dl_897 ?_
  refine mz_iadd (pc := 898) dl_898 ?_
  refine mz_sld (pc := 899) h2 dl_899 ?_
  refine mz_callI (pc := 900) (idx := 114) (bo := 48) (As := [.int (xs (x4 + (1 : Int32)).toNatClampNeg), .int (xs (x4 + (2 : Int32)).toNatClampNeg)]) (st := [.int r]) (q := (r, M2)) sh_48 cl_12 ev_M_best ql_L_114 rfl rfl (Nat.le_of_ble_eq_true rfl) hce hsl (T_M_best (g := g) N 1000 (by decide) (xs (x4 + (1 : Int32)).toNatClampNeg) (xs (x4 + (2 : Int32)).toNatClampNeg) M1) hf1 dl_900 ?_
  refine mz_icmp_eq (pc := 903) (tgt := 1482) dl_903 rfl (fun _ => ?_) (fun hz => absurd rfl hz)
  exact kk
set_option maxRecDepth 20000 in
theorem Lc_21 {g : mj_G} {b Lz : Nat} {xs : Nat → Int32} {x4 : Int32} {M M1 M2 : mj_M} {ce sl : Nat} {r : Int32} (N : Nat) (h1 : vp_in (x4 + (1 : Int32)) Lz) (hce : ce ≤ 601024) (hsl : sl ≤ 7293034) (hf0 : F_W_two N (xs (x4 + (1 : Int32)).toNatClampNeg) M = some (r, M1)) (hf1 : F_M_two N (xs (x4 + (1 : Int32)).toNatClampNeg) M1 = some (r, M2)) (kk : mj_Z g b Lz xs 1482 [(4, .int x4), (0, .ref b), (1, .ref (mj_d g 0)), (2, .ref (mj_d g 48)), (3, .ref (mj_d g 73))] [] M2 ce sl) : mj_Z g b Lz xs 908 [(4, .int x4), (0, .ref b), (1, .ref (mj_d g 0)), (2, .ref (mj_d g 48)), (3, .ref (mj_d g 73))] [] M ce sl := by
  refine mz_aload_n (pc := 908) (i := 1) (j := 2) rfl dl_908 ?_
  refine mz_aload_n (pc := 909) (i := 0) (j := 1) rfl dl_909 ?_
  refine mz_iload (pc := 910) (i := 4) (j := 0) rfl dl_910 ?_
  refine mz_iconst (pc := 912) (v := (1 : Int32)) (by decide) dl_912 ?_
  refine mz_iadd (pc := 913) dl_913 ?_
  refine mz_sld (pc := 914) h1 dl_914 ?_
  refine mz_callI (pc := 915) (idx := 115) (bo := 0) (As := [.int (xs (x4 + (1 : Int32)).toNatClampNeg)]) (st := []) (q := (r, M1)) sh_0 cl_11 ev_W_two ql_L_115 rfl rfl (Nat.le_of_ble_eq_true rfl) hce hsl (T_W_two (g := g) N 1000 (by decide) (xs (x4 + (1 : Int32)).toNatClampNeg) M) hf0 dl_915 ?_
  refine mz_aload_n (pc := 918) (i := 2) (j := 3) rfl dl_918 ?_
  refine mz_aload_n (pc := 919) (i := 0) (j := 1) rfl dl_919 ?_
  refine mz_iload (pc := 920) (i := 4) (j := 0) rfl dl_920 ?_
  refine mz_iconst (pc := 922) (v := (1 : Int32)) (by decide) dl_922 ?_
  refine mz_iadd (pc := 923) dl_923 ?_
  refine mz_sld (pc := 924) h1 dl_924 ?_
  refine mz_callI (pc := 925) (idx := 118) (bo := 48) (As := [.int (xs (x4 + (1 : Int32)).toNatClampNeg)]) (st := [.int r]) (q := (r, M2)) sh_48 cl_12 ev_M_two ql_L_118 rfl rfl (Nat.le_of_ble_eq_true rfl) hce hsl (T_M_two (g := g) N 1000 (by decide) (xs (x4 + (1 : Int32)).toNatClampNeg) M1) hf1 dl_925 ?_
  refine mz_icmp_eq (pc := 928) (tgt := 1482) dl_928 rfl (fun _ => ?_) (fun hz => absurd rfl hz)
  exact kk
set_option maxRecDepth 20000 in
theorem Lc_22 {g : mj_G} {b Lz : Nat} {xs : Nat → Int32} {x4 : Int32} {M M1 M2 : mj_M} {ce sl : Nat} {r : Int32} (N : Nat) (h1 : vp_in (x4 + (1 : Int32)) Lz) (hce : ce ≤ 601024) (hsl : sl ≤ 7293034) (hf0 : F_W_places N (xs (x4 + (1 : Int32)).toNatClampNeg) M = some (r, M1)) (hf1 : F_M_places N (xs (x4 + (1 : Int32)).toNatClampNeg) M1 = some (r, M2)) (kk : mj_Z g b Lz xs 1482 [(4, .int x4), (0, .ref b), (1, .ref (mj_d g 0)), (2, .ref (mj_d g 48)), (3, .ref (mj_d g 73))] [] M2 ce sl) : mj_Z g b Lz xs 933 [(4, .int x4), (0, .ref b), (1, .ref (mj_d g 0)), (2, .ref (mj_d g 48)), (3, .ref (mj_d g 73))] [] M ce sl := by
  refine mz_aload_n (pc := 933) (i := 1) (j := 2) rfl dl_933 ?_
  refine mz_aload_n (pc := 934) (i := 0) (j := 1) rfl dl_934 ?_
  refine mz_iload (pc := 935) (i := 4) (j := 0) rfl dl_935 ?_
  refine mz_iconst (pc := 937) (v := (1 : Int32)) (by decide) dl_937 ?_
  refine mz_iadd (pc := 938) dl_938 ?_
  refine mz_sld (pc := 939) h1 dl_939 ?_
  refine mz_callI (pc := 940) (idx := 119) (bo := 0) (As := [.int (xs (x4 + (1 : Int32)).toNatClampNeg)]) (st := []) (q := (r, M1)) sh_0 cl_11 ev_W_places ql_L_119 rfl rfl (Nat.le_of_ble_eq_true rfl) hce hsl (T_W_places (g := g) N 1000 (by decide) (xs (x4 + (1 : Int32)).toNatClampNeg) M) hf0 dl_940 ?_
  refine mz_aload_n (pc := 943) (i := 2) (j := 3) rfl dl_943 ?_
  refine mz_aload_n (pc := 944) (i := 0) (j := 1) rfl dl_944 ?_
  refine mz_iload (pc := 945) (i := 4) (j := 0) rfl dl_945 ?_
  refine mz_iconst (pc := 947) (v := (1 : Int32)) (by decide) dl_947 ?_
  refine mz_iadd (pc := 948) dl_948 ?_
  refine mz_sld (pc := 949) h1 dl_949 ?_
  refine mz_callI (pc := 950) (idx := 122) (bo := 48) (As := [.int (xs (x4 + (1 : Int32)).toNatClampNeg)]) (st := [.int r]) (q := (r, M2)) sh_48 cl_12 ev_M_places ql_L_122 rfl rfl (Nat.le_of_ble_eq_true rfl) hce hsl (T_M_places (g := g) N 1000 (by decide) (xs (x4 + (1 : Int32)).toNatClampNeg) M1) hf1 dl_950 ?_
  refine mz_icmp_eq (pc := 953) (tgt := 1482) dl_953 rfl (fun _ => ?_) (fun hz => absurd rfl hz)
  exact kk
set_option maxRecDepth 20000 in
theorem Lc_23 {g : mj_G} {b Lz : Nat} {xs : Nat → Int32} {x4 : Int32} {M M1 M2 : mj_M} {ce sl : Nat} {r : Int32} (N : Nat) (h1 : vp_in (x4 + (1 : Int32)) Lz) (hce : ce ≤ 601024) (hsl : sl ≤ 7293034) (hf0 : F_W_fewest N (xs (x4 + (1 : Int32)).toNatClampNeg) M = some (r, M1)) (hf1 : F_M_fewest N (xs (x4 + (1 : Int32)).toNatClampNeg) M1 = some (r, M2)) (kk : mj_Z g b Lz xs 1482 [(4, .int x4), (0, .ref b), (1, .ref (mj_d g 0)), (2, .ref (mj_d g 48)), (3, .ref (mj_d g 73))] [] M2 ce sl) : mj_Z g b Lz xs 958 [(4, .int x4), (0, .ref b), (1, .ref (mj_d g 0)), (2, .ref (mj_d g 48)), (3, .ref (mj_d g 73))] [] M ce sl := by
  refine mz_aload_n (pc := 958) (i := 1) (j := 2) rfl dl_958 ?_
  refine mz_aload_n (pc := 959) (i := 0) (j := 1) rfl dl_959 ?_
  refine mz_iload (pc := 960) (i := 4) (j := 0) rfl dl_960 ?_
  refine mz_iconst (pc := 962) (v := (1 : Int32)) (by decide) dl_962 ?_
  refine mz_iadd (pc := 963) dl_963 ?_
  refine mz_sld (pc := 964) h1 dl_964 ?_
  refine mz_callI (pc := 965) (idx := 123) (bo := 0) (As := [.int (xs (x4 + (1 : Int32)).toNatClampNeg)]) (st := []) (q := (r, M1)) sh_0 cl_11 ev_W_fewest ql_L_123 rfl rfl (Nat.le_of_ble_eq_true rfl) hce hsl (T_W_fewest (g := g) N 1000 (by decide) (xs (x4 + (1 : Int32)).toNatClampNeg) M) hf0 dl_965 ?_
  refine mz_aload_n (pc := 968) (i := 2) (j := 3) rfl dl_968 ?_
  refine mz_aload_n (pc := 969) (i := 0) (j := 1) rfl dl_969 ?_
  refine mz_iload (pc := 970) (i := 4) (j := 0) rfl dl_970 ?_
  refine mz_iconst (pc := 972) (v := (1 : Int32)) (by decide) dl_972 ?_
  refine mz_iadd (pc := 973) dl_973 ?_
  refine mz_sld (pc := 974) h1 dl_974 ?_
  refine mz_callI (pc := 975) (idx := 126) (bo := 48) (As := [.int (xs (x4 + (1 : Int32)).toNatClampNeg)]) (st := [.int r]) (q := (r, M2)) sh_48 cl_12 ev_M_fewest ql_L_126 rfl rfl (Nat.le_of_ble_eq_true rfl) hce hsl (T_M_fewest (g := g) N 1000 (by decide) (xs (x4 + (1 : Int32)).toNatClampNeg) M1) hf1 dl_975 ?_
  refine mz_icmp_eq (pc := 978) (tgt := 1482) dl_978 rfl (fun _ => ?_) (fun hz => absurd rfl hz)
  exact kk
set_option maxRecDepth 20000 in
theorem Lc_24z {g : mj_G} {b Lz : Nat} {xs : Nat → Int32} {x4 : Int32} {M M1 M2 : mj_M} {ce sl : Nat} {r : Int32} (N : Nat) (h1 : vp_in (x4 + (1 : Int32)) Lz) (h2 : vp_in (x4 + (2 : Int32)) Lz) (h3 : vp_in (x4 + (3 : Int32)) Lz) (hc : xs (x4 + (3 : Int32)).toNatClampNeg = 0) (hce : ce ≤ 601024) (hsl : sl ≤ 7293034) (hf0 : F_W_seen (xs (x4 + (1 : Int32)).toNatClampNeg) (xs (x4 + (2 : Int32)).toNatClampNeg) (0 : Int32) M = some (r, M1)) (hf1 : F_M_seen (xs (x4 + (1 : Int32)).toNatClampNeg) (xs (x4 + (2 : Int32)).toNatClampNeg) (0 : Int32) M1 = some (r, M2)) (kk : mj_Z g b Lz xs 1482 [(4, .int x4), (0, .ref b), (1, .ref (mj_d g 0)), (2, .ref (mj_d g 48)), (3, .ref (mj_d g 73))] [] M2 ce sl) : mj_Z g b Lz xs 983 [(4, .int x4), (0, .ref b), (1, .ref (mj_d g 0)), (2, .ref (mj_d g 48)), (3, .ref (mj_d g 73))] [] M ce sl := by
  refine mz_aload_n (pc := 983) (i := 1) (j := 2) rfl dl_983 ?_
  refine mz_aload_n (pc := 984) (i := 0) (j := 1) rfl dl_984 ?_
  refine mz_iload (pc := 985) (i := 4) (j := 0) rfl dl_985 ?_
  refine mz_iconst (pc := 987) (v := (1 : Int32)) (by decide) dl_987 ?_
  refine mz_iadd (pc := 988) dl_988 ?_
  refine mz_sld (pc := 989) h1 dl_989 ?_
  refine mz_aload_n (pc := 990) (i := 0) (j := 1) rfl dl_990 ?_
  refine mz_iload (pc := 991) (i := 4) (j := 0) rfl dl_991 ?_
  refine mz_iconst (pc := 993) (v := (2 : Int32)) (by decide) dl_993 ?_
  refine mz_iadd (pc := 994) dl_994 ?_
  refine mz_sld (pc := 995) h2 dl_995 ?_
  refine mz_aload_n (pc := 996) (i := 0) (j := 1) rfl dl_996 ?_
  refine mz_iload (pc := 997) (i := 4) (j := 0) rfl dl_997 ?_
  refine mz_iconst (pc := 999) (v := (3 : Int32)) (by decide) dl_999 ?_
  refine mz_iadd (pc := 1000) dl_1000 ?_
  refine mz_sld (pc := 1001) h3 dl_1001 ?_
  refine mz_if_eq (pc := 1002) (tgt := 1009) dl_1002 rfl (fun hz => ?_) (fun hz => ?_)
  · refine mz_iconst (pc := 1009) (v := (0 : Int32)) (by decide) dl_1009 ?_
    refine mz_callI (pc := 1010) (idx := 127) (bo := 0) (As := [.int (xs (x4 + (1 : Int32)).toNatClampNeg), .int (xs (x4 + (2 : Int32)).toNatClampNeg), .int (0 : Int32)]) (st := []) (q := (r, M1)) sh_0 cl_11 ev_W_seen ql_L_127 rfl rfl (Nat.le_of_ble_eq_true rfl) hce hsl (T_W_seen (g := g) 1000 (by decide) (xs (x4 + (1 : Int32)).toNatClampNeg) (xs (x4 + (2 : Int32)).toNatClampNeg) (0 : Int32) M) hf0 dl_1010 ?_
    refine mz_aload_n (pc := 1013) (i := 2) (j := 3) rfl dl_1013 ?_
    refine mz_aload_n (pc := 1014) (i := 0) (j := 1) rfl dl_1014 ?_
    refine mz_iload (pc := 1015) (i := 4) (j := 0) rfl dl_1015 ?_
    refine mz_iconst (pc := 1017) (v := (1 : Int32)) (by decide) dl_1017 ?_
    refine mz_iadd (pc := 1018) dl_1018 ?_
    refine mz_sld (pc := 1019) h1 dl_1019 ?_
    refine mz_aload_n (pc := 1020) (i := 0) (j := 1) rfl dl_1020 ?_
    refine mz_iload (pc := 1021) (i := 4) (j := 0) rfl dl_1021 ?_
    refine mz_iconst (pc := 1023) (v := (2 : Int32)) (by decide) dl_1023 ?_
    refine mz_iadd (pc := 1024) dl_1024 ?_
    refine mz_sld (pc := 1025) h2 dl_1025 ?_
    refine mz_aload_n (pc := 1026) (i := 0) (j := 1) rfl dl_1026 ?_
    refine mz_iload (pc := 1027) (i := 4) (j := 0) rfl dl_1027 ?_
    refine mz_iconst (pc := 1029) (v := (3 : Int32)) (by decide) dl_1029 ?_
    refine mz_iadd (pc := 1030) dl_1030 ?_
    refine mz_sld (pc := 1031) h3 dl_1031 ?_
    refine mz_if_eq (pc := 1032) (tgt := 1039) dl_1032 rfl (fun hz => ?_) (fun hz => ?_)
    · refine mz_iconst (pc := 1039) (v := (0 : Int32)) (by decide) dl_1039 ?_
      refine mz_callI (pc := 1040) (idx := 131) (bo := 48) (As := [.int (xs (x4 + (1 : Int32)).toNatClampNeg), .int (xs (x4 + (2 : Int32)).toNatClampNeg), .int (0 : Int32)]) (st := [.int r]) (q := (r, M2)) sh_48 cl_12 ev_M_seen ql_L_131 rfl rfl (Nat.le_of_ble_eq_true rfl) hce hsl (T_M_seen (g := g) 1000 (by decide) (xs (x4 + (1 : Int32)).toNatClampNeg) (xs (x4 + (2 : Int32)).toNatClampNeg) (0 : Int32) M1) hf1 dl_1040 ?_
      refine mz_icmp_eq (pc := 1043) (tgt := 1482) dl_1043 rfl (fun _ => ?_) (fun hz => absurd rfl hz)
      exact kk
    · exact absurd hc hz
  · exact absurd hc hz
set_option maxRecDepth 20000 in
theorem Lc_24n {g : mj_G} {b Lz : Nat} {xs : Nat → Int32} {x4 : Int32} {M M1 M2 : mj_M} {ce sl : Nat} {r : Int32} (N : Nat) (h1 : vp_in (x4 + (1 : Int32)) Lz) (h2 : vp_in (x4 + (2 : Int32)) Lz) (h3 : vp_in (x4 + (3 : Int32)) Lz) (hc : ¬ xs (x4 + (3 : Int32)).toNatClampNeg = 0) (hce : ce ≤ 601024) (hsl : sl ≤ 7293034) (hf0 : F_W_seen (xs (x4 + (1 : Int32)).toNatClampNeg) (xs (x4 + (2 : Int32)).toNatClampNeg) (1 : Int32) M = some (r, M1)) (hf1 : F_M_seen (xs (x4 + (1 : Int32)).toNatClampNeg) (xs (x4 + (2 : Int32)).toNatClampNeg) (1 : Int32) M1 = some (r, M2)) (kk : mj_Z g b Lz xs 1482 [(4, .int x4), (0, .ref b), (1, .ref (mj_d g 0)), (2, .ref (mj_d g 48)), (3, .ref (mj_d g 73))] [] M2 ce sl) : mj_Z g b Lz xs 983 [(4, .int x4), (0, .ref b), (1, .ref (mj_d g 0)), (2, .ref (mj_d g 48)), (3, .ref (mj_d g 73))] [] M ce sl := by
  refine mz_aload_n (pc := 983) (i := 1) (j := 2) rfl dl_983 ?_
  refine mz_aload_n (pc := 984) (i := 0) (j := 1) rfl dl_984 ?_
  refine mz_iload (pc := 985) (i := 4) (j := 0) rfl dl_985 ?_
  refine mz_iconst (pc := 987) (v := (1 : Int32)) (by decide) dl_987 ?_
  refine mz_iadd (pc := 988) dl_988 ?_
  refine mz_sld (pc := 989) h1 dl_989 ?_
  refine mz_aload_n (pc := 990) (i := 0) (j := 1) rfl dl_990 ?_
  refine mz_iload (pc := 991) (i := 4) (j := 0) rfl dl_991 ?_
  refine mz_iconst (pc := 993) (v := (2 : Int32)) (by decide) dl_993 ?_
  refine mz_iadd (pc := 994) dl_994 ?_
  refine mz_sld (pc := 995) h2 dl_995 ?_
  refine mz_aload_n (pc := 996) (i := 0) (j := 1) rfl dl_996 ?_
  refine mz_iload (pc := 997) (i := 4) (j := 0) rfl dl_997 ?_
  refine mz_iconst (pc := 999) (v := (3 : Int32)) (by decide) dl_999 ?_
  refine mz_iadd (pc := 1000) dl_1000 ?_
  refine mz_sld (pc := 1001) h3 dl_1001 ?_
  refine mz_if_eq (pc := 1002) (tgt := 1009) dl_1002 rfl (fun hz => ?_) (fun hz => ?_)
  · exact absurd hz hc
  · refine mz_iconst (pc := 1005) (v := (1 : Int32)) (by decide) dl_1005 ?_
    refine mz_goto (pc := 1006) (tgt := 1010) dl_1006 rfl ?_
    refine mz_callI (pc := 1010) (idx := 127) (bo := 0) (As := [.int (xs (x4 + (1 : Int32)).toNatClampNeg), .int (xs (x4 + (2 : Int32)).toNatClampNeg), .int (1 : Int32)]) (st := []) (q := (r, M1)) sh_0 cl_11 ev_W_seen ql_L_127 rfl rfl (Nat.le_of_ble_eq_true rfl) hce hsl (T_W_seen (g := g) 1000 (by decide) (xs (x4 + (1 : Int32)).toNatClampNeg) (xs (x4 + (2 : Int32)).toNatClampNeg) (1 : Int32) M) hf0 dl_1010 ?_
    refine mz_aload_n (pc := 1013) (i := 2) (j := 3) rfl dl_1013 ?_
    refine mz_aload_n (pc := 1014) (i := 0) (j := 1) rfl dl_1014 ?_
    refine mz_iload (pc := 1015) (i := 4) (j := 0) rfl dl_1015 ?_
    refine mz_iconst (pc := 1017) (v := (1 : Int32)) (by decide) dl_1017 ?_
    refine mz_iadd (pc := 1018) dl_1018 ?_
    refine mz_sld (pc := 1019) h1 dl_1019 ?_
    refine mz_aload_n (pc := 1020) (i := 0) (j := 1) rfl dl_1020 ?_
    refine mz_iload (pc := 1021) (i := 4) (j := 0) rfl dl_1021 ?_
    refine mz_iconst (pc := 1023) (v := (2 : Int32)) (by decide) dl_1023 ?_
    refine mz_iadd (pc := 1024) dl_1024 ?_
    refine mz_sld (pc := 1025) h2 dl_1025 ?_
    refine mz_aload_n (pc := 1026) (i := 0) (j := 1) rfl dl_1026 ?_
    refine mz_iload (pc := 1027) (i := 4) (j := 0) rfl dl_1027 ?_
    refine mz_iconst (pc := 1029) (v := (3 : Int32)) (by decide) dl_1029 ?_
    refine mz_iadd (pc := 1030) dl_1030 ?_
    refine mz_sld (pc := 1031) h3 dl_1031 ?_
    refine mz_if_eq (pc := 1032) (tgt := 1039) dl_1032 rfl (fun hz => ?_) (fun hz => ?_)
    · exact absurd hz hc
    · refine mz_iconst (pc := 1035) (v := (1 : Int32)) (by decide) dl_1035 ?_
      refine mz_goto (pc := 1036) (tgt := 1040) dl_1036 rfl ?_
      refine mz_callI (pc := 1040) (idx := 131) (bo := 48) (As := [.int (xs (x4 + (1 : Int32)).toNatClampNeg), .int (xs (x4 + (2 : Int32)).toNatClampNeg), .int (1 : Int32)]) (st := [.int r]) (q := (r, M2)) sh_48 cl_12 ev_M_seen ql_L_131 rfl rfl (Nat.le_of_ble_eq_true rfl) hce hsl (T_M_seen (g := g) 1000 (by decide) (xs (x4 + (1 : Int32)).toNatClampNeg) (xs (x4 + (2 : Int32)).toNatClampNeg) (1 : Int32) M1) hf1 dl_1040 ?_
      refine mz_icmp_eq (pc := 1043) (tgt := 1482) dl_1043 rfl (fun _ => ?_) (fun hz => absurd rfl hz)
      exact kk
set_option maxRecDepth 20000 in
theorem Lc_25 {g : mj_G} {b Lz : Nat} {xs : Nat → Int32} {x4 : Int32} {M M1 M2 : mj_M} {ce sl : Nat} {r : Int32} (N : Nat) (h1 : vp_in (x4 + (1 : Int32)) Lz) (hce : ce ≤ 601024) (hsl : sl ≤ 7293034) (hf0 : F_W_told N (xs (x4 + (1 : Int32)).toNatClampNeg) M = some (r, M1)) (hf1 : F_M_told N (xs (x4 + (1 : Int32)).toNatClampNeg) M1 = some (r, M2)) (kk : mj_Z g b Lz xs 1482 [(4, .int x4), (0, .ref b), (1, .ref (mj_d g 0)), (2, .ref (mj_d g 48)), (3, .ref (mj_d g 73))] [] M2 ce sl) : mj_Z g b Lz xs 1048 [(4, .int x4), (0, .ref b), (1, .ref (mj_d g 0)), (2, .ref (mj_d g 48)), (3, .ref (mj_d g 73))] [] M ce sl := by
  refine mz_aload_n (pc := 1048) (i := 1) (j := 2) rfl dl_1048 ?_
  refine mz_aload_n (pc := 1049) (i := 0) (j := 1) rfl dl_1049 ?_
  refine mz_iload (pc := 1050) (i := 4) (j := 0) rfl dl_1050 ?_
  refine mz_iconst (pc := 1052) (v := (1 : Int32)) (by decide) dl_1052 ?_
  refine mz_iadd (pc := 1053) dl_1053 ?_
  refine mz_sld (pc := 1054) h1 dl_1054 ?_
  refine mz_callI (pc := 1055) (idx := 132) (bo := 0) (As := [.int (xs (x4 + (1 : Int32)).toNatClampNeg)]) (st := []) (q := (r, M1)) sh_0 cl_11 ev_W_told ql_L_132 rfl rfl (Nat.le_of_ble_eq_true rfl) hce hsl (T_W_told (g := g) N 1000 (by decide) (xs (x4 + (1 : Int32)).toNatClampNeg) M) hf0 dl_1055 ?_
  refine mz_aload_n (pc := 1058) (i := 2) (j := 3) rfl dl_1058 ?_
  refine mz_aload_n (pc := 1059) (i := 0) (j := 1) rfl dl_1059 ?_
  refine mz_iload (pc := 1060) (i := 4) (j := 0) rfl dl_1060 ?_
  refine mz_iconst (pc := 1062) (v := (1 : Int32)) (by decide) dl_1062 ?_
  refine mz_iadd (pc := 1063) dl_1063 ?_
  refine mz_sld (pc := 1064) h1 dl_1064 ?_
  refine mz_callI (pc := 1065) (idx := 135) (bo := 48) (As := [.int (xs (x4 + (1 : Int32)).toNatClampNeg)]) (st := [.int r]) (q := (r, M2)) sh_48 cl_12 ev_M_told ql_L_135 rfl rfl (Nat.le_of_ble_eq_true rfl) hce hsl (T_M_told (g := g) N 1000 (by decide) (xs (x4 + (1 : Int32)).toNatClampNeg) M1) hf1 dl_1065 ?_
  refine mz_icmp_eq (pc := 1068) (tgt := 1482) dl_1068 rfl (fun _ => ?_) (fun hz => absurd rfl hz)
  exact kk
set_option maxRecDepth 20000 in
theorem Lc_26 {g : mj_G} {b Lz : Nat} {xs : Nat → Int32} {x4 : Int32} {M M1 M2 : mj_M} {ce sl : Nat} {r : Int32} (N : Nat) (h1 : vp_in (x4 + (1 : Int32)) Lz) (hce : ce ≤ 601024) (hsl : sl ≤ 7293034) (hf0 : F_W_ask N (xs (x4 + (1 : Int32)).toNatClampNeg) M = some (r, M1)) (hf1 : F_M_ask N (xs (x4 + (1 : Int32)).toNatClampNeg) M1 = some (r, M2)) (kk : mj_Z g b Lz xs 1482 [(4, .int x4), (0, .ref b), (1, .ref (mj_d g 0)), (2, .ref (mj_d g 48)), (3, .ref (mj_d g 73))] [] M2 ce sl) : mj_Z g b Lz xs 1073 [(4, .int x4), (0, .ref b), (1, .ref (mj_d g 0)), (2, .ref (mj_d g 48)), (3, .ref (mj_d g 73))] [] M ce sl := by
  refine mz_aload_n (pc := 1073) (i := 1) (j := 2) rfl dl_1073 ?_
  refine mz_aload_n (pc := 1074) (i := 0) (j := 1) rfl dl_1074 ?_
  refine mz_iload (pc := 1075) (i := 4) (j := 0) rfl dl_1075 ?_
  refine mz_iconst (pc := 1077) (v := (1 : Int32)) (by decide) dl_1077 ?_
  refine mz_iadd (pc := 1078) dl_1078 ?_
  refine mz_sld (pc := 1079) h1 dl_1079 ?_
  refine mz_callI (pc := 1080) (idx := 136) (bo := 0) (As := [.int (xs (x4 + (1 : Int32)).toNatClampNeg)]) (st := []) (q := (r, M1)) sh_0 cl_11 ev_W_ask ql_L_136 rfl rfl (Nat.le_of_ble_eq_true rfl) hce hsl (T_W_ask (g := g) N 1000 (by decide) (xs (x4 + (1 : Int32)).toNatClampNeg) M) hf0 dl_1080 ?_
  refine mz_aload_n (pc := 1083) (i := 2) (j := 3) rfl dl_1083 ?_
  refine mz_aload_n (pc := 1084) (i := 0) (j := 1) rfl dl_1084 ?_
  refine mz_iload (pc := 1085) (i := 4) (j := 0) rfl dl_1085 ?_
  refine mz_iconst (pc := 1087) (v := (1 : Int32)) (by decide) dl_1087 ?_
  refine mz_iadd (pc := 1088) dl_1088 ?_
  refine mz_sld (pc := 1089) h1 dl_1089 ?_
  refine mz_callI (pc := 1090) (idx := 139) (bo := 48) (As := [.int (xs (x4 + (1 : Int32)).toNatClampNeg)]) (st := [.int r]) (q := (r, M2)) sh_48 cl_12 ev_M_ask ql_L_139 rfl rfl (Nat.le_of_ble_eq_true rfl) hce hsl (T_M_ask (g := g) N 1000 (by decide) (xs (x4 + (1 : Int32)).toNatClampNeg) M1) hf1 dl_1090 ?_
  refine mz_icmp_eq (pc := 1093) (tgt := 1482) dl_1093 rfl (fun _ => ?_) (fun hz => absurd rfl hz)
  exact kk
set_option maxRecDepth 20000 in
theorem Lc_27 {g : mj_G} {b Lz : Nat} {xs : Nat → Int32} {x4 : Int32} {M M1 M2 : mj_M} {ce sl : Nat} {r : Int32} (N : Nat) (h1 : vp_in (x4 + (1 : Int32)) Lz) (h2 : vp_in (x4 + (2 : Int32)) Lz) (h3 : vp_in (x4 + (3 : Int32)) Lz) (h4 : vp_in (x4 + (4 : Int32)) Lz) (hce : ce ≤ 601024) (hsl : sl ≤ 7293034) (hf0 : F_W_game N (xs (x4 + (1 : Int32)).toNatClampNeg) (xs (x4 + (2 : Int32)).toNatClampNeg) (xs (x4 + (3 : Int32)).toNatClampNeg) (xs (x4 + (4 : Int32)).toNatClampNeg) M = some (r, M1)) (hf1 : F_M_game N (xs (x4 + (1 : Int32)).toNatClampNeg) (xs (x4 + (2 : Int32)).toNatClampNeg) (xs (x4 + (3 : Int32)).toNatClampNeg) (xs (x4 + (4 : Int32)).toNatClampNeg) M1 = some (r, M2)) (kk : mj_Z g b Lz xs 1482 [(4, .int x4), (0, .ref b), (1, .ref (mj_d g 0)), (2, .ref (mj_d g 48)), (3, .ref (mj_d g 73))] [] M2 ce sl) : mj_Z g b Lz xs 1098 [(4, .int x4), (0, .ref b), (1, .ref (mj_d g 0)), (2, .ref (mj_d g 48)), (3, .ref (mj_d g 73))] [] M ce sl := by
  refine mz_aload_n (pc := 1098) (i := 1) (j := 2) rfl dl_1098 ?_
  refine mz_aload_n (pc := 1099) (i := 0) (j := 1) rfl dl_1099 ?_
  refine mz_iload (pc := 1100) (i := 4) (j := 0) rfl dl_1100 ?_
  refine mz_iconst (pc := 1102) (v := (1 : Int32)) (by decide) dl_1102 ?_
  refine mz_iadd (pc := 1103) dl_1103 ?_
  refine mz_sld (pc := 1104) h1 dl_1104 ?_
  refine mz_aload_n (pc := 1105) (i := 0) (j := 1) rfl dl_1105 ?_
  refine mz_iload (pc := 1106) (i := 4) (j := 0) rfl dl_1106 ?_
  refine mz_iconst (pc := 1108) (v := (2 : Int32)) (by decide) dl_1108 ?_
  refine mz_iadd (pc := 1109) dl_1109 ?_
  refine mz_sld (pc := 1110) h2 dl_1110 ?_
  refine mz_aload_n (pc := 1111) (i := 0) (j := 1) rfl dl_1111 ?_
  refine mz_iload (pc := 1112) (i := 4) (j := 0) rfl dl_1112 ?_
  refine mz_iconst (pc := 1114) (v := (3 : Int32)) (by decide) dl_1114 ?_
  refine mz_iadd (pc := 1115) dl_1115 ?_
  refine mz_sld (pc := 1116) h3 dl_1116 ?_
  refine mz_aload_n (pc := 1117) (i := 0) (j := 1) rfl dl_1117 ?_
  refine mz_iload (pc := 1118) (i := 4) (j := 0) rfl dl_1118 ?_
  refine mz_iconst (pc := 1120) (v := (4 : Int32)) (by decide) dl_1120 ?_
  refine mz_iadd (pc := 1121) dl_1121 ?_
  refine mz_sld (pc := 1122) h4 dl_1122 ?_
  refine mz_callI (pc := 1123) (idx := 140) (bo := 0) (As := [.int (xs (x4 + (1 : Int32)).toNatClampNeg), .int (xs (x4 + (2 : Int32)).toNatClampNeg), .int (xs (x4 + (3 : Int32)).toNatClampNeg), .int (xs (x4 + (4 : Int32)).toNatClampNeg)]) (st := []) (q := (r, M1)) sh_0 cl_11 ev_W_game ql_L_140 rfl rfl (Nat.le_of_ble_eq_true rfl) hce hsl (T_W_game (g := g) N 1000 (by decide) (xs (x4 + (1 : Int32)).toNatClampNeg) (xs (x4 + (2 : Int32)).toNatClampNeg) (xs (x4 + (3 : Int32)).toNatClampNeg) (xs (x4 + (4 : Int32)).toNatClampNeg) M) hf0 dl_1123 ?_
  refine mz_aload_n (pc := 1126) (i := 2) (j := 3) rfl dl_1126 ?_
  refine mz_aload_n (pc := 1127) (i := 0) (j := 1) rfl dl_1127 ?_
  refine mz_iload (pc := 1128) (i := 4) (j := 0) rfl dl_1128 ?_
  refine mz_iconst (pc := 1130) (v := (1 : Int32)) (by decide) dl_1130 ?_
  refine mz_iadd (pc := 1131) dl_1131 ?_
  refine mz_sld (pc := 1132) h1 dl_1132 ?_
  refine mz_aload_n (pc := 1133) (i := 0) (j := 1) rfl dl_1133 ?_
  refine mz_iload (pc := 1134) (i := 4) (j := 0) rfl dl_1134 ?_
  refine mz_iconst (pc := 1136) (v := (2 : Int32)) (by decide) dl_1136 ?_
  refine mz_iadd (pc := 1137) dl_1137 ?_
  refine mz_sld (pc := 1138) h2 dl_1138 ?_
  refine mz_aload_n (pc := 1139) (i := 0) (j := 1) rfl dl_1139 ?_
  refine mz_iload (pc := 1140) (i := 4) (j := 0) rfl dl_1140 ?_
  refine mz_iconst (pc := 1142) (v := (3 : Int32)) (by decide) dl_1142 ?_
  refine mz_iadd (pc := 1143) dl_1143 ?_
  refine mz_sld (pc := 1144) h3 dl_1144 ?_
  refine mz_aload_n (pc := 1145) (i := 0) (j := 1) rfl dl_1145 ?_
  refine mz_iload (pc := 1146) (i := 4) (j := 0) rfl dl_1146 ?_
  refine mz_iconst (pc := 1148) (v := (4 : Int32)) (by decide) dl_1148 ?_
  refine mz_iadd (pc := 1149) dl_1149 ?_
  refine mz_sld (pc := 1150) h4 dl_1150 ?_
  refine mz_callI (pc := 1151) (idx := 144) (bo := 48) (As := [.int (xs (x4 + (1 : Int32)).toNatClampNeg), .int (xs (x4 + (2 : Int32)).toNatClampNeg), .int (xs (x4 + (3 : Int32)).toNatClampNeg), .int (xs (x4 + (4 : Int32)).toNatClampNeg)]) (st := [.int r]) (q := (r, M2)) sh_48 cl_12 ev_M_game ql_L_144 rfl rfl (Nat.le_of_ble_eq_true rfl) hce hsl (T_M_game (g := g) N 1000 (by decide) (xs (x4 + (1 : Int32)).toNatClampNeg) (xs (x4 + (2 : Int32)).toNatClampNeg) (xs (x4 + (3 : Int32)).toNatClampNeg) (xs (x4 + (4 : Int32)).toNatClampNeg) M1) hf1 dl_1151 ?_
  refine mz_icmp_eq (pc := 1154) (tgt := 1482) dl_1154 rfl (fun _ => ?_) (fun hz => absurd rfl hz)
  exact kk
set_option maxRecDepth 20000 in
theorem Lc_28 {g : mj_G} {b Lz : Nat} {xs : Nat → Int32} {x4 : Int32} {M M1 M2 : mj_M} {ce sl : Nat} {r : Int32} (N : Nat) (h1 : vp_in (x4 + (1 : Int32)) Lz) (h2 : vp_in (x4 + (2 : Int32)) Lz) (hce : ce ≤ 601024) (hsl : sl ≤ 7293034) (hf0 : F_W_rests N (xs (x4 + (1 : Int32)).toNatClampNeg) (xs (x4 + (2 : Int32)).toNatClampNeg) M = some (r, M1)) (hf1 : F_M_rests N (xs (x4 + (1 : Int32)).toNatClampNeg) (xs (x4 + (2 : Int32)).toNatClampNeg) M1 = some (r, M2)) (kk : mj_Z g b Lz xs 1482 [(4, .int x4), (0, .ref b), (1, .ref (mj_d g 0)), (2, .ref (mj_d g 48)), (3, .ref (mj_d g 73))] [] M2 ce sl) : mj_Z g b Lz xs 1159 [(4, .int x4), (0, .ref b), (1, .ref (mj_d g 0)), (2, .ref (mj_d g 48)), (3, .ref (mj_d g 73))] [] M ce sl := by
  refine mz_aload_n (pc := 1159) (i := 1) (j := 2) rfl dl_1159 ?_
  refine mz_aload_n (pc := 1160) (i := 0) (j := 1) rfl dl_1160 ?_
  refine mz_iload (pc := 1161) (i := 4) (j := 0) rfl dl_1161 ?_
  refine mz_iconst (pc := 1163) (v := (1 : Int32)) (by decide) dl_1163 ?_
  refine mz_iadd (pc := 1164) dl_1164 ?_
  refine mz_sld (pc := 1165) h1 dl_1165 ?_
  refine mz_aload_n (pc := 1166) (i := 0) (j := 1) rfl dl_1166 ?_
  refine mz_iload (pc := 1167) (i := 4) (j := 0) rfl dl_1167 ?_
  refine mz_iconst (pc := 1169) (v := (2 : Int32)) (by decide) dl_1169 ?_
  refine mz_iadd (pc := 1170) dl_1170 ?_
  refine mz_sld (pc := 1171) h2 dl_1171 ?_
  refine mz_callI (pc := 1172) (idx := 145) (bo := 0) (As := [.int (xs (x4 + (1 : Int32)).toNatClampNeg), .int (xs (x4 + (2 : Int32)).toNatClampNeg)]) (st := []) (q := (r, M1)) sh_0 cl_11 ev_W_rests ql_L_145 rfl rfl (Nat.le_of_ble_eq_true rfl) hce hsl (T_W_rests (g := g) N 1000 (by decide) (xs (x4 + (1 : Int32)).toNatClampNeg) (xs (x4 + (2 : Int32)).toNatClampNeg) M) hf0 dl_1172 ?_
  refine mz_aload_n (pc := 1175) (i := 2) (j := 3) rfl dl_1175 ?_
  refine mz_aload_n (pc := 1176) (i := 0) (j := 1) rfl dl_1176 ?_
  refine mz_iload (pc := 1177) (i := 4) (j := 0) rfl dl_1177 ?_
  refine mz_iconst (pc := 1179) (v := (1 : Int32)) (by decide) dl_1179 ?_
  refine mz_iadd (pc := 1180) dl_1180 ?_
  refine mz_sld (pc := 1181) h1 dl_1181 ?_
  refine mz_aload_n (pc := 1182) (i := 0) (j := 1) rfl dl_1182 ?_
  refine mz_iload (pc := 1183) (i := 4) (j := 0) rfl dl_1183 ?_
  refine mz_iconst (pc := 1185) (v := (2 : Int32)) (by decide) dl_1185 ?_
  refine mz_iadd (pc := 1186) dl_1186 ?_
  refine mz_sld (pc := 1187) h2 dl_1187 ?_
  refine mz_callI (pc := 1188) (idx := 148) (bo := 48) (As := [.int (xs (x4 + (1 : Int32)).toNatClampNeg), .int (xs (x4 + (2 : Int32)).toNatClampNeg)]) (st := [.int r]) (q := (r, M2)) sh_48 cl_12 ev_M_rests ql_L_148 rfl rfl (Nat.le_of_ble_eq_true rfl) hce hsl (T_M_rests (g := g) N 1000 (by decide) (xs (x4 + (1 : Int32)).toNatClampNeg) (xs (x4 + (2 : Int32)).toNatClampNeg) M1) hf1 dl_1188 ?_
  refine mz_icmp_eq (pc := 1191) (tgt := 1482) dl_1191 rfl (fun _ => ?_) (fun hz => absurd rfl hz)
  exact kk
set_option maxRecDepth 20000 in
theorem Lc_29 {g : mj_G} {b Lz : Nat} {xs : Nat → Int32} {x4 : Int32} {M M1 M2 : mj_M} {ce sl : Nat} {r : Int32} (N : Nat) (h1 : vp_in (x4 + (1 : Int32)) Lz) (h2 : vp_in (x4 + (2 : Int32)) Lz) (h3 : vp_in (x4 + (3 : Int32)) Lz) (h4 : vp_in (x4 + (4 : Int32)) Lz) (hce : ce ≤ 601024) (hsl : sl ≤ 7293034) (hf0 : F_W_odds N (xs (x4 + (1 : Int32)).toNatClampNeg) (xs (x4 + (2 : Int32)).toNatClampNeg) (xs (x4 + (3 : Int32)).toNatClampNeg) (xs (x4 + (4 : Int32)).toNatClampNeg) M = some (r, M1)) (hf1 : F_M_odds N (xs (x4 + (1 : Int32)).toNatClampNeg) (xs (x4 + (2 : Int32)).toNatClampNeg) (xs (x4 + (3 : Int32)).toNatClampNeg) (xs (x4 + (4 : Int32)).toNatClampNeg) M1 = some (r, M2)) (kk : mj_Z g b Lz xs 1482 [(4, .int x4), (0, .ref b), (1, .ref (mj_d g 0)), (2, .ref (mj_d g 48)), (3, .ref (mj_d g 73))] [] M2 ce sl) : mj_Z g b Lz xs 1196 [(4, .int x4), (0, .ref b), (1, .ref (mj_d g 0)), (2, .ref (mj_d g 48)), (3, .ref (mj_d g 73))] [] M ce sl := by
  refine mz_aload_n (pc := 1196) (i := 1) (j := 2) rfl dl_1196 ?_
  refine mz_aload_n (pc := 1197) (i := 0) (j := 1) rfl dl_1197 ?_
  refine mz_iload (pc := 1198) (i := 4) (j := 0) rfl dl_1198 ?_
  refine mz_iconst (pc := 1200) (v := (1 : Int32)) (by decide) dl_1200 ?_
  refine mz_iadd (pc := 1201) dl_1201 ?_
  refine mz_sld (pc := 1202) h1 dl_1202 ?_
  refine mz_aload_n (pc := 1203) (i := 0) (j := 1) rfl dl_1203 ?_
  refine mz_iload (pc := 1204) (i := 4) (j := 0) rfl dl_1204 ?_
  refine mz_iconst (pc := 1206) (v := (2 : Int32)) (by decide) dl_1206 ?_
  refine mz_iadd (pc := 1207) dl_1207 ?_
  refine mz_sld (pc := 1208) h2 dl_1208 ?_
  refine mz_aload_n (pc := 1209) (i := 0) (j := 1) rfl dl_1209 ?_
  refine mz_iload (pc := 1210) (i := 4) (j := 0) rfl dl_1210 ?_
  refine mz_iconst (pc := 1212) (v := (3 : Int32)) (by decide) dl_1212 ?_
  refine mz_iadd (pc := 1213) dl_1213 ?_
  refine mz_sld (pc := 1214) h3 dl_1214 ?_
  refine mz_aload_n (pc := 1215) (i := 0) (j := 1) rfl dl_1215 ?_
  refine mz_iload (pc := 1216) (i := 4) (j := 0) rfl dl_1216 ?_
  refine mz_iconst (pc := 1218) (v := (4 : Int32)) (by decide) dl_1218 ?_
  refine mz_iadd (pc := 1219) dl_1219 ?_
  refine mz_sld (pc := 1220) h4 dl_1220 ?_
  refine mz_callI (pc := 1221) (idx := 149) (bo := 0) (As := [.int (xs (x4 + (1 : Int32)).toNatClampNeg), .int (xs (x4 + (2 : Int32)).toNatClampNeg), .int (xs (x4 + (3 : Int32)).toNatClampNeg), .int (xs (x4 + (4 : Int32)).toNatClampNeg)]) (st := []) (q := (r, M1)) sh_0 cl_11 ev_W_odds ql_L_149 rfl rfl (Nat.le_of_ble_eq_true rfl) hce hsl (T_W_odds (g := g) N 1000 (by decide) (xs (x4 + (1 : Int32)).toNatClampNeg) (xs (x4 + (2 : Int32)).toNatClampNeg) (xs (x4 + (3 : Int32)).toNatClampNeg) (xs (x4 + (4 : Int32)).toNatClampNeg) M) hf0 dl_1221 ?_
  refine mz_aload_n (pc := 1224) (i := 2) (j := 3) rfl dl_1224 ?_
  refine mz_aload_n (pc := 1225) (i := 0) (j := 1) rfl dl_1225 ?_
  refine mz_iload (pc := 1226) (i := 4) (j := 0) rfl dl_1226 ?_
  refine mz_iconst (pc := 1228) (v := (1 : Int32)) (by decide) dl_1228 ?_
  refine mz_iadd (pc := 1229) dl_1229 ?_
  refine mz_sld (pc := 1230) h1 dl_1230 ?_
  refine mz_aload_n (pc := 1231) (i := 0) (j := 1) rfl dl_1231 ?_
  refine mz_iload (pc := 1232) (i := 4) (j := 0) rfl dl_1232 ?_
  refine mz_iconst (pc := 1234) (v := (2 : Int32)) (by decide) dl_1234 ?_
  refine mz_iadd (pc := 1235) dl_1235 ?_
  refine mz_sld (pc := 1236) h2 dl_1236 ?_
  refine mz_aload_n (pc := 1237) (i := 0) (j := 1) rfl dl_1237 ?_
  refine mz_iload (pc := 1238) (i := 4) (j := 0) rfl dl_1238 ?_
  refine mz_iconst (pc := 1240) (v := (3 : Int32)) (by decide) dl_1240 ?_
  refine mz_iadd (pc := 1241) dl_1241 ?_
  refine mz_sld (pc := 1242) h3 dl_1242 ?_
  refine mz_aload_n (pc := 1243) (i := 0) (j := 1) rfl dl_1243 ?_
  refine mz_iload (pc := 1244) (i := 4) (j := 0) rfl dl_1244 ?_
  refine mz_iconst (pc := 1246) (v := (4 : Int32)) (by decide) dl_1246 ?_
  refine mz_iadd (pc := 1247) dl_1247 ?_
  refine mz_sld (pc := 1248) h4 dl_1248 ?_
  refine mz_callI (pc := 1249) (idx := 152) (bo := 48) (As := [.int (xs (x4 + (1 : Int32)).toNatClampNeg), .int (xs (x4 + (2 : Int32)).toNatClampNeg), .int (xs (x4 + (3 : Int32)).toNatClampNeg), .int (xs (x4 + (4 : Int32)).toNatClampNeg)]) (st := [.int r]) (q := (r, M2)) sh_48 cl_12 ev_M_odds ql_L_152 rfl rfl (Nat.le_of_ble_eq_true rfl) hce hsl (T_M_odds (g := g) N 1000 (by decide) (xs (x4 + (1 : Int32)).toNatClampNeg) (xs (x4 + (2 : Int32)).toNatClampNeg) (xs (x4 + (3 : Int32)).toNatClampNeg) (xs (x4 + (4 : Int32)).toNatClampNeg) M1) hf1 dl_1249 ?_
  refine mz_icmp_eq (pc := 1252) (tgt := 1482) dl_1252 rfl (fun _ => ?_) (fun hz => absurd rfl hz)
  exact kk
set_option maxRecDepth 20000 in
theorem Lc_30 {g : mj_G} {b Lz : Nat} {xs : Nat → Int32} {x4 : Int32} {M M1 M2 : mj_M} {ce sl : Nat} {r : Int32} (N : Nat) (hce : ce ≤ 601024) (hsl : sl ≤ 7293034) (hf0 : F_W_reach N M = some (r, M1)) (hf1 : F_M_reach N M1 = some (r, M2)) (kk : mj_Z g b Lz xs 1482 [(4, .int x4), (0, .ref b), (1, .ref (mj_d g 0)), (2, .ref (mj_d g 48)), (3, .ref (mj_d g 73))] [] M2 ce sl) : mj_Z g b Lz xs 1257 [(4, .int x4), (0, .ref b), (1, .ref (mj_d g 0)), (2, .ref (mj_d g 48)), (3, .ref (mj_d g 73))] [] M ce sl := by
  refine mz_aload_n (pc := 1257) (i := 1) (j := 2) rfl dl_1257 ?_
  refine mz_callI (pc := 1258) (idx := 153) (bo := 0) (As := []) (st := []) (q := (r, M1)) sh_0 cl_11 ev_W_reach ql_L_153 rfl rfl (Nat.le_of_ble_eq_true rfl) hce hsl (T_W_reach (g := g) N 1000 (by decide) M) hf0 dl_1258 ?_
  refine mz_aload_n (pc := 1261) (i := 2) (j := 3) rfl dl_1261 ?_
  refine mz_callI (pc := 1262) (idx := 156) (bo := 48) (As := []) (st := [.int r]) (q := (r, M2)) sh_48 cl_12 ev_M_reach ql_L_156 rfl rfl (Nat.le_of_ble_eq_true rfl) hce hsl (T_M_reach (g := g) N 1000 (by decide) M1) hf1 dl_1262 ?_
  refine mz_icmp_eq (pc := 1265) (tgt := 1482) dl_1265 rfl (fun _ => ?_) (fun hz => absurd rfl hz)
  exact kk
set_option maxRecDepth 20000 in
theorem Lc_31 {g : mj_G} {b Lz : Nat} {xs : Nat → Int32} {x4 : Int32} {M M1 M2 : mj_M} {ce sl : Nat} {r : Int32} (N : Nat) (h1 : vp_in (x4 + (1 : Int32)) Lz) (h2 : vp_in (x4 + (2 : Int32)) Lz) (hce : ce ≤ 601024) (hsl : sl ≤ 7293034) (hf0 : F_W_shares N (xs (x4 + (1 : Int32)).toNatClampNeg) (xs (x4 + (2 : Int32)).toNatClampNeg) M = some (r, M1)) (hf1 : F_M_shares N (xs (x4 + (1 : Int32)).toNatClampNeg) (xs (x4 + (2 : Int32)).toNatClampNeg) M1 = some (r, M2)) (kk : mj_Z g b Lz xs 1482 [(4, .int x4), (0, .ref b), (1, .ref (mj_d g 0)), (2, .ref (mj_d g 48)), (3, .ref (mj_d g 73))] [] M2 ce sl) : mj_Z g b Lz xs 1270 [(4, .int x4), (0, .ref b), (1, .ref (mj_d g 0)), (2, .ref (mj_d g 48)), (3, .ref (mj_d g 73))] [] M ce sl := by
  refine mz_aload_n (pc := 1270) (i := 1) (j := 2) rfl dl_1270 ?_
  refine mz_aload_n (pc := 1271) (i := 0) (j := 1) rfl dl_1271 ?_
  refine mz_iload (pc := 1272) (i := 4) (j := 0) rfl dl_1272 ?_
  refine mz_iconst (pc := 1274) (v := (1 : Int32)) (by decide) dl_1274 ?_
  refine mz_iadd (pc := 1275) dl_1275 ?_
  refine mz_sld (pc := 1276) h1 dl_1276 ?_
  refine mz_aload_n (pc := 1277) (i := 0) (j := 1) rfl dl_1277 ?_
  refine mz_iload (pc := 1278) (i := 4) (j := 0) rfl dl_1278 ?_
  refine mz_iconst (pc := 1280) (v := (2 : Int32)) (by decide) dl_1280 ?_
  refine mz_iadd (pc := 1281) dl_1281 ?_
  refine mz_sld (pc := 1282) h2 dl_1282 ?_
  refine mz_callI (pc := 1283) (idx := 157) (bo := 0) (As := [.int (xs (x4 + (1 : Int32)).toNatClampNeg), .int (xs (x4 + (2 : Int32)).toNatClampNeg)]) (st := []) (q := (r, M1)) sh_0 cl_11 ev_W_shares ql_L_157 rfl rfl (Nat.le_of_ble_eq_true rfl) hce hsl (T_W_shares (g := g) N 1000 (by decide) (xs (x4 + (1 : Int32)).toNatClampNeg) (xs (x4 + (2 : Int32)).toNatClampNeg) M) hf0 dl_1283 ?_
  refine mz_aload_n (pc := 1286) (i := 2) (j := 3) rfl dl_1286 ?_
  refine mz_aload_n (pc := 1287) (i := 0) (j := 1) rfl dl_1287 ?_
  refine mz_iload (pc := 1288) (i := 4) (j := 0) rfl dl_1288 ?_
  refine mz_iconst (pc := 1290) (v := (1 : Int32)) (by decide) dl_1290 ?_
  refine mz_iadd (pc := 1291) dl_1291 ?_
  refine mz_sld (pc := 1292) h1 dl_1292 ?_
  refine mz_aload_n (pc := 1293) (i := 0) (j := 1) rfl dl_1293 ?_
  refine mz_iload (pc := 1294) (i := 4) (j := 0) rfl dl_1294 ?_
  refine mz_iconst (pc := 1296) (v := (2 : Int32)) (by decide) dl_1296 ?_
  refine mz_iadd (pc := 1297) dl_1297 ?_
  refine mz_sld (pc := 1298) h2 dl_1298 ?_
  refine mz_callI (pc := 1299) (idx := 160) (bo := 48) (As := [.int (xs (x4 + (1 : Int32)).toNatClampNeg), .int (xs (x4 + (2 : Int32)).toNatClampNeg)]) (st := [.int r]) (q := (r, M2)) sh_48 cl_12 ev_M_shares ql_L_160 rfl rfl (Nat.le_of_ble_eq_true rfl) hce hsl (T_M_shares (g := g) N 1000 (by decide) (xs (x4 + (1 : Int32)).toNatClampNeg) (xs (x4 + (2 : Int32)).toNatClampNeg) M1) hf1 dl_1299 ?_
  refine mz_icmp_eq (pc := 1302) (tgt := 1482) dl_1302 rfl (fun _ => ?_) (fun hz => absurd rfl hz)
  exact kk
set_option maxRecDepth 20000 in
theorem Lc_32 {g : mj_G} {b Lz : Nat} {xs : Nat → Int32} {x4 : Int32} {M M1 M2 : mj_M} {ce sl : Nat} {r : Int32} (N : Nat) (h1 : vp_in (x4 + (1 : Int32)) Lz) (h2 : vp_in (x4 + (2 : Int32)) Lz) (hce : ce ≤ 601024) (hsl : sl ≤ 7293034) (hf0 : F_W_fresh N (xs (x4 + (1 : Int32)).toNatClampNeg) (xs (x4 + (2 : Int32)).toNatClampNeg) M = some (r, M1)) (hf1 : F_M_fresh N (xs (x4 + (1 : Int32)).toNatClampNeg) (xs (x4 + (2 : Int32)).toNatClampNeg) M1 = some (r, M2)) (kk : mj_Z g b Lz xs 1482 [(4, .int x4), (0, .ref b), (1, .ref (mj_d g 0)), (2, .ref (mj_d g 48)), (3, .ref (mj_d g 73))] [] M2 ce sl) : mj_Z g b Lz xs 1307 [(4, .int x4), (0, .ref b), (1, .ref (mj_d g 0)), (2, .ref (mj_d g 48)), (3, .ref (mj_d g 73))] [] M ce sl := by
  refine mz_aload_n (pc := 1307) (i := 1) (j := 2) rfl dl_1307 ?_
  refine mz_aload_n (pc := 1308) (i := 0) (j := 1) rfl dl_1308 ?_
  refine mz_iload (pc := 1309) (i := 4) (j := 0) rfl dl_1309 ?_
  refine mz_iconst (pc := 1311) (v := (1 : Int32)) (by decide) dl_1311 ?_
  refine mz_iadd (pc := 1312) dl_1312 ?_
  refine mz_sld (pc := 1313) h1 dl_1313 ?_
  refine mz_aload_n (pc := 1314) (i := 0) (j := 1) rfl dl_1314 ?_
  refine mz_iload (pc := 1315) (i := 4) (j := 0) rfl dl_1315 ?_
  refine mz_iconst (pc := 1317) (v := (2 : Int32)) (by decide) dl_1317 ?_
  refine mz_iadd (pc := 1318) dl_1318 ?_
  refine mz_sld (pc := 1319) h2 dl_1319 ?_
  refine mz_callI (pc := 1320) (idx := 161) (bo := 0) (As := [.int (xs (x4 + (1 : Int32)).toNatClampNeg), .int (xs (x4 + (2 : Int32)).toNatClampNeg)]) (st := []) (q := (r, M1)) sh_0 cl_11 ev_W_fresh ql_L_161 rfl rfl (Nat.le_of_ble_eq_true rfl) hce hsl (T_W_fresh (g := g) N 1000 (by decide) (xs (x4 + (1 : Int32)).toNatClampNeg) (xs (x4 + (2 : Int32)).toNatClampNeg) M) hf0 dl_1320 ?_
  refine mz_aload_n (pc := 1323) (i := 2) (j := 3) rfl dl_1323 ?_
  refine mz_aload_n (pc := 1324) (i := 0) (j := 1) rfl dl_1324 ?_
  refine mz_iload (pc := 1325) (i := 4) (j := 0) rfl dl_1325 ?_
  refine mz_iconst (pc := 1327) (v := (1 : Int32)) (by decide) dl_1327 ?_
  refine mz_iadd (pc := 1328) dl_1328 ?_
  refine mz_sld (pc := 1329) h1 dl_1329 ?_
  refine mz_aload_n (pc := 1330) (i := 0) (j := 1) rfl dl_1330 ?_
  refine mz_iload (pc := 1331) (i := 4) (j := 0) rfl dl_1331 ?_
  refine mz_iconst (pc := 1333) (v := (2 : Int32)) (by decide) dl_1333 ?_
  refine mz_iadd (pc := 1334) dl_1334 ?_
  refine mz_sld (pc := 1335) h2 dl_1335 ?_
  refine mz_callI (pc := 1336) (idx := 164) (bo := 48) (As := [.int (xs (x4 + (1 : Int32)).toNatClampNeg), .int (xs (x4 + (2 : Int32)).toNatClampNeg)]) (st := [.int r]) (q := (r, M2)) sh_48 cl_12 ev_M_fresh ql_L_164 rfl rfl (Nat.le_of_ble_eq_true rfl) hce hsl (T_M_fresh (g := g) N 1000 (by decide) (xs (x4 + (1 : Int32)).toNatClampNeg) (xs (x4 + (2 : Int32)).toNatClampNeg) M1) hf1 dl_1336 ?_
  refine mz_icmp_eq (pc := 1339) (tgt := 1482) dl_1339 rfl (fun _ => ?_) (fun hz => absurd rfl hz)
  exact kk
set_option maxRecDepth 20000 in
theorem Lc_33 {g : mj_G} {b Lz : Nat} {xs : Nat → Int32} {x4 : Int32} {M M1 M2 : mj_M} {ce sl : Nat} {r : Int32} (N : Nat) (h1 : vp_in (x4 + (1 : Int32)) Lz) (h2 : vp_in (x4 + (2 : Int32)) Lz) (hce : ce ≤ 601024) (hsl : sl ≤ 7293034) (hf0 : F_W_where N (xs (x4 + (1 : Int32)).toNatClampNeg) (xs (x4 + (2 : Int32)).toNatClampNeg) M = some (r, M1)) (hf1 : F_M_where N (xs (x4 + (1 : Int32)).toNatClampNeg) (xs (x4 + (2 : Int32)).toNatClampNeg) M1 = some (r, M2)) (kk : mj_Z g b Lz xs 1482 [(4, .int x4), (0, .ref b), (1, .ref (mj_d g 0)), (2, .ref (mj_d g 48)), (3, .ref (mj_d g 73))] [] M2 ce sl) : mj_Z g b Lz xs 1344 [(4, .int x4), (0, .ref b), (1, .ref (mj_d g 0)), (2, .ref (mj_d g 48)), (3, .ref (mj_d g 73))] [] M ce sl := by
  refine mz_aload_n (pc := 1344) (i := 1) (j := 2) rfl dl_1344 ?_
  refine mz_aload_n (pc := 1345) (i := 0) (j := 1) rfl dl_1345 ?_
  refine mz_iload (pc := 1346) (i := 4) (j := 0) rfl dl_1346 ?_
  refine mz_iconst (pc := 1348) (v := (1 : Int32)) (by decide) dl_1348 ?_
  refine mz_iadd (pc := 1349) dl_1349 ?_
  refine mz_sld (pc := 1350) h1 dl_1350 ?_
  refine mz_aload_n (pc := 1351) (i := 0) (j := 1) rfl dl_1351 ?_
  refine mz_iload (pc := 1352) (i := 4) (j := 0) rfl dl_1352 ?_
  refine mz_iconst (pc := 1354) (v := (2 : Int32)) (by decide) dl_1354 ?_
  refine mz_iadd (pc := 1355) dl_1355 ?_
  refine mz_sld (pc := 1356) h2 dl_1356 ?_
  refine mz_callI (pc := 1357) (idx := 165) (bo := 0) (As := [.int (xs (x4 + (1 : Int32)).toNatClampNeg), .int (xs (x4 + (2 : Int32)).toNatClampNeg)]) (st := []) (q := (r, M1)) sh_0 cl_11 ev_W_where ql_L_165 rfl rfl (Nat.le_of_ble_eq_true rfl) hce hsl (T_W_where (g := g) N 1000 (by decide) (xs (x4 + (1 : Int32)).toNatClampNeg) (xs (x4 + (2 : Int32)).toNatClampNeg) M) hf0 dl_1357 ?_
  refine mz_aload_n (pc := 1360) (i := 2) (j := 3) rfl dl_1360 ?_
  refine mz_aload_n (pc := 1361) (i := 0) (j := 1) rfl dl_1361 ?_
  refine mz_iload (pc := 1362) (i := 4) (j := 0) rfl dl_1362 ?_
  refine mz_iconst (pc := 1364) (v := (1 : Int32)) (by decide) dl_1364 ?_
  refine mz_iadd (pc := 1365) dl_1365 ?_
  refine mz_sld (pc := 1366) h1 dl_1366 ?_
  refine mz_aload_n (pc := 1367) (i := 0) (j := 1) rfl dl_1367 ?_
  refine mz_iload (pc := 1368) (i := 4) (j := 0) rfl dl_1368 ?_
  refine mz_iconst (pc := 1370) (v := (2 : Int32)) (by decide) dl_1370 ?_
  refine mz_iadd (pc := 1371) dl_1371 ?_
  refine mz_sld (pc := 1372) h2 dl_1372 ?_
  refine mz_callI (pc := 1373) (idx := 168) (bo := 48) (As := [.int (xs (x4 + (1 : Int32)).toNatClampNeg), .int (xs (x4 + (2 : Int32)).toNatClampNeg)]) (st := [.int r]) (q := (r, M2)) sh_48 cl_12 ev_M_where ql_L_168 rfl rfl (Nat.le_of_ble_eq_true rfl) hce hsl (T_M_where (g := g) N 1000 (by decide) (xs (x4 + (1 : Int32)).toNatClampNeg) (xs (x4 + (2 : Int32)).toNatClampNeg) M1) hf1 dl_1373 ?_
  refine mz_icmp_eq (pc := 1376) (tgt := 1482) dl_1376 rfl (fun _ => ?_) (fun hz => absurd rfl hz)
  exact kk
set_option maxRecDepth 20000 in
theorem Lc_34 {g : mj_G} {b Lz : Nat} {xs : Nat → Int32} {x4 : Int32} {M M1 M2 : mj_M} {ce sl : Nat} {r : Int32} (N : Nat) (h1 : vp_in (x4 + (1 : Int32)) Lz) (hce : ce ≤ 601024) (hsl : sl ≤ 7293034) (hf0 : F_W_round N (xs (x4 + (1 : Int32)).toNatClampNeg) M = some (r, M1)) (hf1 : F_M_round N (xs (x4 + (1 : Int32)).toNatClampNeg) M1 = some (r, M2)) (kk : mj_Z g b Lz xs 1482 [(4, .int x4), (0, .ref b), (1, .ref (mj_d g 0)), (2, .ref (mj_d g 48)), (3, .ref (mj_d g 73))] [] M2 ce sl) : mj_Z g b Lz xs 1381 [(4, .int x4), (0, .ref b), (1, .ref (mj_d g 0)), (2, .ref (mj_d g 48)), (3, .ref (mj_d g 73))] [] M ce sl := by
  refine mz_aload_n (pc := 1381) (i := 1) (j := 2) rfl dl_1381 ?_
  refine mz_aload_n (pc := 1382) (i := 0) (j := 1) rfl dl_1382 ?_
  refine mz_iload (pc := 1383) (i := 4) (j := 0) rfl dl_1383 ?_
  refine mz_iconst (pc := 1385) (v := (1 : Int32)) (by decide) dl_1385 ?_
  refine mz_iadd (pc := 1386) dl_1386 ?_
  refine mz_sld (pc := 1387) h1 dl_1387 ?_
  refine mz_callI (pc := 1388) (idx := 169) (bo := 0) (As := [.int (xs (x4 + (1 : Int32)).toNatClampNeg)]) (st := []) (q := (r, M1)) sh_0 cl_11 ev_W_round ql_L_169 rfl rfl (Nat.le_of_ble_eq_true rfl) hce hsl (T_W_round (g := g) N 1000 (by decide) (xs (x4 + (1 : Int32)).toNatClampNeg) M) hf0 dl_1388 ?_
  refine mz_aload_n (pc := 1391) (i := 2) (j := 3) rfl dl_1391 ?_
  refine mz_aload_n (pc := 1392) (i := 0) (j := 1) rfl dl_1392 ?_
  refine mz_iload (pc := 1393) (i := 4) (j := 0) rfl dl_1393 ?_
  refine mz_iconst (pc := 1395) (v := (1 : Int32)) (by decide) dl_1395 ?_
  refine mz_iadd (pc := 1396) dl_1396 ?_
  refine mz_sld (pc := 1397) h1 dl_1397 ?_
  refine mz_callI (pc := 1398) (idx := 172) (bo := 48) (As := [.int (xs (x4 + (1 : Int32)).toNatClampNeg)]) (st := [.int r]) (q := (r, M2)) sh_48 cl_12 ev_M_round ql_L_172 rfl rfl (Nat.le_of_ble_eq_true rfl) hce hsl (T_M_round (g := g) N 1000 (by decide) (xs (x4 + (1 : Int32)).toNatClampNeg) M1) hf1 dl_1398 ?_
  refine mz_icmp_eq (pc := 1401) (tgt := 1482) dl_1401 rfl (fun _ => ?_) (fun hz => absurd rfl hz)
  exact kk
set_option maxRecDepth 20000 in
theorem Lc_35 {g : mj_G} {b Lz : Nat} {xs : Nat → Int32} {x4 : Int32} {M M1 M2 : mj_M} {ce sl : Nat} {r : Int32} (N : Nat) (h1 : vp_in (x4 + (1 : Int32)) Lz) (hce : ce ≤ 601024) (hsl : sl ≤ 7293034) (hf0 : F_W_most N (xs (x4 + (1 : Int32)).toNatClampNeg) M = some (r, M1)) (hf1 : F_M_most N (xs (x4 + (1 : Int32)).toNatClampNeg) M1 = some (r, M2)) (kk : mj_Z g b Lz xs 1482 [(4, .int x4), (0, .ref b), (1, .ref (mj_d g 0)), (2, .ref (mj_d g 48)), (3, .ref (mj_d g 73))] [] M2 ce sl) : mj_Z g b Lz xs 1406 [(4, .int x4), (0, .ref b), (1, .ref (mj_d g 0)), (2, .ref (mj_d g 48)), (3, .ref (mj_d g 73))] [] M ce sl := by
  refine mz_aload_n (pc := 1406) (i := 1) (j := 2) rfl dl_1406 ?_
  refine mz_aload_n (pc := 1407) (i := 0) (j := 1) rfl dl_1407 ?_
  refine mz_iload (pc := 1408) (i := 4) (j := 0) rfl dl_1408 ?_
  refine mz_iconst (pc := 1410) (v := (1 : Int32)) (by decide) dl_1410 ?_
  refine mz_iadd (pc := 1411) dl_1411 ?_
  refine mz_sld (pc := 1412) h1 dl_1412 ?_
  refine mz_callI (pc := 1413) (idx := 173) (bo := 0) (As := [.int (xs (x4 + (1 : Int32)).toNatClampNeg)]) (st := []) (q := (r, M1)) sh_0 cl_11 ev_W_most ql_L_173 rfl rfl (Nat.le_of_ble_eq_true rfl) hce hsl (T_W_most (g := g) N 1000 (by decide) (xs (x4 + (1 : Int32)).toNatClampNeg) M) hf0 dl_1413 ?_
  refine mz_aload_n (pc := 1416) (i := 2) (j := 3) rfl dl_1416 ?_
  refine mz_aload_n (pc := 1417) (i := 0) (j := 1) rfl dl_1417 ?_
  refine mz_iload (pc := 1418) (i := 4) (j := 0) rfl dl_1418 ?_
  refine mz_iconst (pc := 1420) (v := (1 : Int32)) (by decide) dl_1420 ?_
  refine mz_iadd (pc := 1421) dl_1421 ?_
  refine mz_sld (pc := 1422) h1 dl_1422 ?_
  refine mz_callI (pc := 1423) (idx := 176) (bo := 48) (As := [.int (xs (x4 + (1 : Int32)).toNatClampNeg)]) (st := [.int r]) (q := (r, M2)) sh_48 cl_12 ev_M_most ql_L_176 rfl rfl (Nat.le_of_ble_eq_true rfl) hce hsl (T_M_most (g := g) N 1000 (by decide) (xs (x4 + (1 : Int32)).toNatClampNeg) M1) hf1 dl_1423 ?_
  refine mz_icmp_eq (pc := 1426) (tgt := 1482) dl_1426 rfl (fun _ => ?_) (fun hz => absurd rfl hz)
  exact kk
set_option maxRecDepth 20000 in
theorem Lc_36 {g : mj_G} {b Lz : Nat} {xs : Nat → Int32} {x4 : Int32} {M M1 M2 : mj_M} {ce sl : Nat} {r : Int32} (N : Nat) (hce : ce ≤ 601024) (hsl : sl ≤ 7293034) (hf0 : F_W_image M = some (r, M1)) (hf1 : F_M_image N M1 = some (r, M2)) (kk : mj_Z g b Lz xs 1482 [(4, .int x4), (0, .ref b), (1, .ref (mj_d g 0)), (2, .ref (mj_d g 48)), (3, .ref (mj_d g 73))] [] M2 ce sl) : mj_Z g b Lz xs 1431 [(4, .int x4), (0, .ref b), (1, .ref (mj_d g 0)), (2, .ref (mj_d g 48)), (3, .ref (mj_d g 73))] [] M ce sl := by
  refine mz_aload_n (pc := 1431) (i := 1) (j := 2) rfl dl_1431 ?_
  refine mz_callI (pc := 1432) (idx := 177) (bo := 0) (As := []) (st := []) (q := (r, M1)) sh_0 cl_11 ev_W_image ql_L_177 rfl rfl (Nat.le_of_ble_eq_true rfl) hce hsl (T_W_image (g := g) 1000 (by decide) M) hf0 dl_1432 ?_
  refine mz_aload_n (pc := 1435) (i := 2) (j := 3) rfl dl_1435 ?_
  refine mz_callI (pc := 1436) (idx := 180) (bo := 48) (As := []) (st := [.int r]) (q := (r, M2)) sh_48 cl_12 ev_M_image ql_L_180 rfl rfl (Nat.le_of_ble_eq_true rfl) hce hsl (T_M_image (g := g) N 1000 (by decide) M1) hf1 dl_1436 ?_
  refine mz_icmp_eq (pc := 1439) (tgt := 1482) dl_1439 rfl (fun _ => ?_) (fun hz => absurd rfl hz)
  exact kk
set_option maxRecDepth 20000 in
theorem Lc_37 {g : mj_G} {b Lz : Nat} {xs : Nat → Int32} {x4 : Int32} {M M1 M2 : mj_M} {ce sl : Nat} {r : Int32} (N : Nat) (hce : ce ≤ 601024) (hsl : sl ≤ 7293034) (hf0 : F_W_back M = some (r, M1)) (hf1 : F_M_back N M1 = some (r, M2)) (kk : mj_Z g b Lz xs 1482 [(4, .int x4), (0, .ref b), (1, .ref (mj_d g 0)), (2, .ref (mj_d g 48)), (3, .ref (mj_d g 73))] [] M2 ce sl) : mj_Z g b Lz xs 1444 [(4, .int x4), (0, .ref b), (1, .ref (mj_d g 0)), (2, .ref (mj_d g 48)), (3, .ref (mj_d g 73))] [] M ce sl := by
  refine mz_aload_n (pc := 1444) (i := 1) (j := 2) rfl dl_1444 ?_
  refine mz_callI (pc := 1445) (idx := 181) (bo := 0) (As := []) (st := []) (q := (r, M1)) sh_0 cl_11 ev_W_back ql_L_181 rfl rfl (Nat.le_of_ble_eq_true rfl) hce hsl (T_W_back (g := g) 1000 (by decide) M) hf0 dl_1445 ?_
  refine mz_aload_n (pc := 1448) (i := 2) (j := 3) rfl dl_1448 ?_
  refine mz_callI (pc := 1449) (idx := 184) (bo := 48) (As := []) (st := [.int r]) (q := (r, M2)) sh_48 cl_12 ev_M_back ql_L_184 rfl rfl (Nat.le_of_ble_eq_true rfl) hce hsl (T_M_back (g := g) N 1000 (by decide) M1) hf1 dl_1449 ?_
  refine mz_icmp_eq (pc := 1452) (tgt := 1482) dl_1452 rfl (fun _ => ?_) (fun hz => absurd rfl hz)
  exact kk
set_option maxRecDepth 20000 in
theorem Lc_38 {g : mj_G} {b Lz : Nat} {xs : Nat → Int32} {x4 : Int32} {M M1 M2 : mj_M} {ce sl : Nat} {r : Int32} (N : Nat) (h1 : vp_in (x4 + (1 : Int32)) Lz) (hce : ce ≤ 601024) (hsl : sl ≤ 7293034) (hf0 : F_W_count (xs (x4 + (1 : Int32)).toNatClampNeg) M = some (r, M1)) (hf1 : F_M_count (xs (x4 + (1 : Int32)).toNatClampNeg) M1 = some (r, M2)) (kk : mj_Z g b Lz xs 1482 [(4, .int x4), (0, .ref b), (1, .ref (mj_d g 0)), (2, .ref (mj_d g 48)), (3, .ref (mj_d g 73))] [] M2 ce sl) : mj_Z g b Lz xs 1457 [(4, .int x4), (0, .ref b), (1, .ref (mj_d g 0)), (2, .ref (mj_d g 48)), (3, .ref (mj_d g 73))] [] M ce sl := by
  refine mz_aload_n (pc := 1457) (i := 1) (j := 2) rfl dl_1457 ?_
  refine mz_aload_n (pc := 1458) (i := 0) (j := 1) rfl dl_1458 ?_
  refine mz_iload (pc := 1459) (i := 4) (j := 0) rfl dl_1459 ?_
  refine mz_iconst (pc := 1461) (v := (1 : Int32)) (by decide) dl_1461 ?_
  refine mz_iadd (pc := 1462) dl_1462 ?_
  refine mz_sld (pc := 1463) h1 dl_1463 ?_
  refine mz_callI (pc := 1464) (idx := 185) (bo := 0) (As := [.int (xs (x4 + (1 : Int32)).toNatClampNeg)]) (st := []) (q := (r, M1)) sh_0 cl_11 ev_W_count ql_L_185 rfl rfl (Nat.le_of_ble_eq_true rfl) hce hsl (T_W_count (g := g) 1000 (by decide) (xs (x4 + (1 : Int32)).toNatClampNeg) M) hf0 dl_1464 ?_
  refine mz_aload_n (pc := 1467) (i := 2) (j := 3) rfl dl_1467 ?_
  refine mz_aload_n (pc := 1468) (i := 0) (j := 1) rfl dl_1468 ?_
  refine mz_iload (pc := 1469) (i := 4) (j := 0) rfl dl_1469 ?_
  refine mz_iconst (pc := 1471) (v := (1 : Int32)) (by decide) dl_1471 ?_
  refine mz_iadd (pc := 1472) dl_1472 ?_
  refine mz_sld (pc := 1473) h1 dl_1473 ?_
  refine mz_callI (pc := 1474) (idx := 188) (bo := 48) (As := [.int (xs (x4 + (1 : Int32)).toNatClampNeg)]) (st := [.int r]) (q := (r, M2)) sh_48 cl_12 ev_M_count ql_L_188 rfl rfl (Nat.le_of_ble_eq_true rfl) hce hsl (T_M_count (g := g) 1000 (by decide) (xs (x4 + (1 : Int32)).toNatClampNeg) M1) hf1 dl_1474 ?_
  refine mz_icmp_eq (pc := 1477) (tgt := 1482) dl_1477 rfl (fun _ => ?_) (fun hz => absurd rfl hz)
  exact kk
