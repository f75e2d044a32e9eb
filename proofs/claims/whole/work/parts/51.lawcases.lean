theorem lkL_13 : lkV "SignedOutsideLaw" 13 mX11_house 0 := lkV_mk kw296 kw297 kw298 kw1 kw299 (by decide +kernel)
theorem lkL_17 : lkV "SignedOutsideLaw" 17 mX12_house 0 := lkV_mk kw951 kw952 kw953 kw13 kw954 (by decide +kernel)
theorem lkL_18 : lkV "SignedOutsideLaw" 18 mX11_member 2 := lkV_mk kw308 kw309 kw310 kw1 kw311 (by decide +kernel)
theorem lkL_22 : lkV "SignedOutsideLaw" 22 mX12_member 2 := lkV_mk kw959 kw960 kw961 kw13 kw962 (by decide +kernel)
theorem lkL_23 : lkV "SignedOutsideLaw" 23 mX11_letter 3 := lkV_mk kw331 kw332 kw333 kw1 kw334 (by decide +kernel)
theorem lkL_27 : lkV "SignedOutsideLaw" 27 mX12_letter 3 := lkV_mk kw982 kw983 kw984 kw13 kw985 (by decide +kernel)
theorem lkL_28 : lkV "SignedOutsideLaw" 28 mX11_type 1 := lkV_mk kw339 kw340 kw341 kw1 kw342 (by decide +kernel)
theorem lkL_32 : lkV "SignedOutsideLaw" 32 mX12_type 1 := lkV_mk kw1193 kw1194 kw1195 kw13 kw1196 (by decide +kernel)
theorem lkL_33 : lkV "SignedOutsideLaw" 33 mX11_clear 0 := lkV_mk kw347 kw348 kw349 kw1 kw350 (by decide +kernel)
theorem lkL_36 : lkV "SignedOutsideLaw" 36 mX12_clear 0 := lkV_mk kw1198 kw1199 kw1200 kw13 kw1201 (by decide +kernel)
theorem lkL_37 : lkV "SignedOutsideLaw" 37 mX11_read 0 := lkV_mk kw351 kw352 kw353 kw1 kw354 (by decide +kernel)
theorem lkL_40 : lkV "SignedOutsideLaw" 40 mX12_read 0 := lkV_mk kw1202 kw1203 kw1204 kw13 kw1205 (by decide +kernel)
theorem lkL_41 : lkV "SignedOutsideLaw" 41 mX11_frank 2 := lkV_mk kw556 kw557 kw558 kw1 kw559 (by decide +kernel)
theorem lkL_44 : lkV "SignedOutsideLaw" 44 mX12_frank 2 := lkV_mk kw994 kw995 kw996 kw13 kw997 (by decide +kernel)
theorem lkL_45 : lkV "SignedOutsideLaw" 45 mX11_pay 1 := lkV_mk kw579 kw580 kw581 kw1 kw582 (by decide +kernel)
theorem lkL_48 : lkV "SignedOutsideLaw" 48 mX12_pay 1 := lkV_mk kw1035 kw1036 kw1037 kw13 kw1038 (by decide +kernel)
theorem lkL_49 : lkV "SignedOutsideLaw" 49 mX11_moves 2 := lkV_mk kw588 kw589 kw590 kw1 kw591 (by decide +kernel)
theorem lkL_52 : lkV "SignedOutsideLaw" 52 mX12_moves 2 := lkV_mk kw1047 kw1048 kw1049 kw13 kw1050 (by decide +kernel)
theorem lkL_53 : lkV "SignedOutsideLaw" 53 mX11_day 0 := lkV_mk kw592 kw593 kw594 kw1 kw595 (by decide +kernel)
theorem lkL_56 : lkV "SignedOutsideLaw" 56 mX12_day 0 := lkV_mk kw1051 kw1052 kw1053 kw13 kw1054 (by decide +kernel)
theorem lkL_57 : lkV "SignedOutsideLaw" 57 mX11_undo 0 := lkV_mk kw603 kw604 kw605 kw1 kw606 (by decide +kernel)
theorem lkL_60 : lkV "SignedOutsideLaw" 60 mX12_undo 0 := lkV_mk kw1058 kw1059 kw1060 kw13 kw1061 (by decide +kernel)
theorem lkL_61 : lkV "SignedOutsideLaw" 61 mX11_of 2 := lkV_mk kw611 kw612 kw613 kw1 kw614 (by decide +kernel)
theorem lkL_64 : lkV "SignedOutsideLaw" 64 mX12_of 2 := lkV_mk kw1062 kw1063 kw1064 kw13 kw1065 (by decide +kernel)
theorem lkL_65 : lkV "SignedOutsideLaw" 65 mX11_about 2 := lkV_mk kw619 kw620 kw621 kw1 kw622 (by decide +kernel)
theorem lkL_68 : lkV "SignedOutsideLaw" 68 mX12_about 2 := lkV_mk kw1066 kw1067 kw1068 kw13 kw1069 (by decide +kernel)
theorem lkL_69 : lkV "SignedOutsideLaw" 69 mX11_now 1 := lkV_mk kw627 kw628 kw629 kw1 kw630 (by decide +kernel)
theorem lkL_72 : lkV "SignedOutsideLaw" 72 mX12_now 1 := lkV_mk kw1075 kw1076 kw1077 kw13 kw1078 (by decide +kernel)
theorem lkL_73 : lkV "SignedOutsideLaw" 73 mX11_may 1 := lkV_mk kw635 kw636 kw637 kw1 kw638 (by decide +kernel)
theorem lkL_76 : lkV "SignedOutsideLaw" 76 mX12_may 1 := lkV_mk kw1083 kw1084 kw1085 kw13 kw1086 (by decide +kernel)
theorem lkL_77 : lkV "SignedOutsideLaw" 77 mX11_all 1 := lkV_mk kw644 kw645 kw646 kw1 kw647 (by decide +kernel)
theorem lkL_80 : lkV "SignedOutsideLaw" 80 mX12_all 1 := lkV_mk kw1087 kw1088 kw1089 kw13 kw1090 (by decide +kernel)
theorem lkL_81 : lkV "SignedOutsideLaw" 81 mX11_fewest 0 := lkV_mk kw671 kw672 kw673 kw1 kw674 (by decide +kernel)
theorem lkL_84 : lkV "SignedOutsideLaw" 84 mX12_fewest 0 := lkV_mk kw1104 kw1105 kw1106 kw13 kw1107 (by decide +kernel)
theorem lkL_85 : lkV "SignedOutsideLaw" 85 mX11_stand 2 := lkV_mk kw681 kw682 kw683 kw1 kw684 (by decide +kernel)
theorem lkL_88 : lkV "SignedOutsideLaw" 88 mX12_stand 2 := lkV_mk kw1111 kw1112 kw1113 kw13 kw1114 (by decide +kernel)
theorem lkL_89 : lkV "SignedOutsideLaw" 89 mX11_penny 0 := lkV_mk kw698 kw699 kw700 kw1 kw701 (by decide +kernel)
theorem lkL_92 : lkV "SignedOutsideLaw" 92 mX12_penny 0 := lkV_mk kw1119 kw1120 kw1121 kw13 kw1122 (by decide +kernel)
theorem lkL_93 : lkV "SignedOutsideLaw" 93 mX11_cover 3 := lkV_mk kw717 kw718 kw719 kw1 kw720 (by decide +kernel)
theorem lkL_96 : lkV "SignedOutsideLaw" 96 mX12_cover 3 := lkV_mk kw1127 kw1128 kw1129 kw13 kw1130 (by decide +kernel)
theorem lkL_97 : lkV "SignedOutsideLaw" 97 mX11_note 3 := lkV_mk kw728 kw729 kw730 kw1 kw731 (by decide +kernel)
theorem lkL_100 : lkV "SignedOutsideLaw" 100 mX12_note 3 := lkV_mk kw1131 kw1132 kw1133 kw13 kw1134 (by decide +kernel)
theorem lkL_101 : lkV "SignedOutsideLaw" 101 mX11_forget 1 := lkV_mk kw732 kw733 kw734 kw1 kw735 (by decide +kernel)
theorem lkL_104 : lkV "SignedOutsideLaw" 104 mX12_forget 1 := lkV_mk kw1136 kw1137 kw1138 kw13 kw1139 (by decide +kernel)
theorem lkL_105 : lkV "SignedOutsideLaw" 105 mX11_where 3 := lkV_mk kw736 kw737 kw738 kw1 kw739 (by decide +kernel)
theorem lkL_108 : lkV "SignedOutsideLaw" 108 mX12_where 3 := lkV_mk kw1140 kw1141 kw1142 kw13 kw1143 (by decide +kernel)
theorem lkL_109 : lkV "SignedOutsideLaw" 109 mX11_look 2 := lkV_mk kw765 kw766 kw767 kw1 kw768 (by decide +kernel)
theorem lkL_112 : lkV "SignedOutsideLaw" 112 mX12_look 2 := lkV_mk kw1155 kw1156 kw1157 kw13 kw1158 (by decide +kernel)
theorem lkL_113 : lkV "SignedOutsideLaw" 113 mX11_forged 1 := lkV_mk kw774 kw775 kw776 kw1 kw777 (by decide +kernel)
theorem lkL_116 : lkV "SignedOutsideLaw" 116 mX12_forged 1 := lkV_mk kw1160 kw1161 kw1162 kw13 kw1163 (by decide +kernel)
theorem lkL_117 : lkV "SignedOutsideLaw" 117 mX11_is 1 := lkV_mk kw790 kw791 kw792 kw1 kw793 (by decide +kernel)
theorem lkL_120 : lkV "SignedOutsideLaw" 120 mX12_is 1 := lkV_mk kw1168 kw1169 kw1170 kw13 kw1171 (by decide +kernel)
theorem lkL_121 : lkV "SignedOutsideLaw" 121 mX11_sell 3 := lkV_mk kw802 kw803 kw804 kw1 kw805 (by decide +kernel)
theorem lkL_124 : lkV "SignedOutsideLaw" 124 mX12_sell 3 := lkV_mk kw1172 kw1173 kw1174 kw13 kw1175 (by decide +kernel)
theorem lkL_125 : lkV "SignedOutsideLaw" 125 mX11_found 1 := lkV_mk kw813 kw814 kw815 kw1 kw816 (by decide +kernel)
theorem lkL_128 : lkV "SignedOutsideLaw" 128 mX12_found 1 := lkV_mk kw1176 kw1177 kw1178 kw13 kw1179 (by decide +kernel)
theorem lkL_129 : lkV "SignedOutsideLaw" 129 mX11_sessions 2 := lkV_mk kw822 kw823 kw824 kw1 kw825 (by decide +kernel)
theorem lkL_132 : lkV "SignedOutsideLaw" 132 mX12_sessions 2 := lkV_mk kw1181 kw1182 kw1183 kw13 kw1184 (by decide +kernel)
theorem lkL_133 : lkV "SignedOutsideLaw" 133 mX11_part 1 := lkV_mk kw838 kw839 kw840 kw1 kw841 (by decide +kernel)
theorem lkL_137 : lkV "SignedOutsideLaw" 137 mX12_part 1 := lkV_mk kw1248 kw1249 kw1250 kw13 kw1251 (by decide +kernel)
theorem lkL_138 : lkV "SignedOutsideLaw" 138 mX11_image 1 := lkV_mk kw842 kw843 kw844 kw1 kw845 (by decide +kernel)
theorem lkL_141 : lkV "SignedOutsideLaw" 141 mX12_image 1 := lkV_mk kw1252 kw1253 kw1254 kw13 kw1255 (by decide +kernel)
theorem lkL_142 : lkV "SignedOutsideLaw" 142 mX11_from 1 := lkV_mk kw846 kw847 kw848 kw1 kw849 (by decide +kernel)
theorem lkL_145 : lkV "SignedOutsideLaw" 145 mX12_from 1 := lkV_mk kw1256 kw1257 kw1258 kw13 kw1259 (by decide +kernel)
theorem lkL_146 : lkV "SignedOutsideLaw" 146 mX11_status 1 := lkV_mk kw850 kw851 kw852 kw1 kw853 (by decide +kernel)
theorem lkL_149 : lkV "SignedOutsideLaw" 149 mX12_status 1 := lkV_mk kw1260 kw1261 kw1262 kw13 kw1263 (by decide +kernel)
theorem lkL_150 : lkV "SignedOutsideLaw" 150 mX11_count 1 := lkV_mk kw854 kw855 kw856 kw1 kw857 (by decide +kernel)
theorem lkL_153 : lkV "SignedOutsideLaw" 153 mX12_count 1 := lkV_mk kw1265 kw1266 kw1267 kw13 kw1268 (by decide +kernel)
theorem lkL_154 : lkV "SignedOutsideLaw" 154 mX11_digest 0 := lkV_mk kw866 kw867 kw868 kw1 kw869 (by decide +kernel)
theorem lkL_158 : lkV "SignedOutsideLaw" 158 mX12_digest 0 := lkV_mk kw1278 kw1279 kw1280 kw13 kw1281 (by decide +kernel)
set_option maxHeartbeats 4000000 in
set_option maxRecDepth 100000 in
theorem law_house {p : Program} {l : Launch} {e : Env} {s : State} {m : MethodId} {below : List Frame} {meth : Method} {c : Code} {b L : Nat} {xs : Nat → Int32} {G : va_G} {ct : Nat → ClassId} {sk sv : Nat → Nat} {g am : Nat → Nat} {n : Nat} {INV : INVT} (C : LAWC l G ct sk sv p s m meth c b L xs) (S : SIM_house n INV) {i : Nat} (hi : i + 4 ≤ L) (K : LAt p l e s m below meth c b G ct g am INV i 1095) : LAt p l e s m below meth c b G ct g am INV i 188 := by
  obtain ⟨hx, hb, hr, hml, hown, hts, hK, hZ, hX, hbl, hlocks, hL2⟩ := C
  have hA : ∀ q : Nat, s.heap.size ≤ q → (fun q : Nat => s.heap.size ≤ q) q := fun _ h => h
  have hbA : ¬ (fun q : Nat => s.heap.size ≤ q) b := Nat.not_le.mpr hbl
  intro xo nv rv h0 h1 h2 h3 nt0 cv0 nt1 cv1 nt2 cv2 nt3 cv3 ps0 ps1 ps2 ps3 mo hI H locs ls hP hD hS hl
  refine lv_aload_n hx hb dL_law_188 rfl (lv_at hl 1 rfl) ?_
  obtain ⟨r, h0', nt0', cv0', ps0', mo', eq1, eq2, hI⟩ := S xo nv rv h0 h1 h2 h3 nt0 cv0 nt1 cv1 nt2 cv2 nt3 cv3 ps0 ps1 ps2 ps3 mo  hI
  refine call_V (As := []) (rest := []) hx hb hml hown hts hK hP hD hS hA hZ lkL_13 (Ctr.upL (c_X11_house l G ct sk sv g n xo h0 nt0 cv0 ps0  eq1) [lfN ct (fun j => g (10 + j)) nv, lfR ct (fun j => g (18 + j)) rv, lfH ct (hsA g 1) g h1, lfH ct (hsA g 2) g h2, lfH ct (hsA g 3) g h3, lfS ct (fun j => (hsA g 1) (12 + j)) nt1, lfS ct (fun j => (hsA g 1) (8 + j)) cv1, lfS ct (fun j => (hsA g 2) (12 + j)) nt2, lfS ct (fun j => (hsA g 2) (8 + j)) cv2, lfS ct (fun j => (hsA g 3) (12 + j)) nt3, lfS ct (fun j => (hsA g 3) (8 + j)) cv3, lfP ct (fun j => (hsA g 1) (16 + j)) ps1, lfP ct (fun j => (hsA g 2) (16 + j)) ps2, lfP ct (fun j => (hsA g 3) (16 + j)) ps3, lfK ct g, lfM ct am mo] (LWs ct g am xo nv rv h0 h1 h2 h3 nt0 cv0 nt1 cv1 nt2 cv2 nt3 cv3 ps0 ps1 ps2 ps3 mo) (LWs ct g am xo nv rv h0' h1 h2 h3 nt0' cv0' nt1 cv1 nt2 cv2 nt3 cv3 ps0' ps1 ps2 ps3 mo) [0, 3, 7, 8, 15, 1, 2, 4, 5, 6, 9, 10, 11, 12, 13, 14, 16, 17, 18, 19, 20] 21 (by decide) rfl rfl rfl rfl) 0 rfl rfl ⟨Nat.le_of_ble_eq_true rfl, Nat.le_of_ble_eq_true rfl⟩ rfl hl.1 rfl (Nat.le_of_ble_eq_true rfl) dL_law_189 ⟨Nat.le_of_ble_eq_true rfl, Nat.le_of_ble_eq_true rfl⟩ (fun r9 w9 H locs hB hP hD hS => ?_)
  obtain ⟨rfl, rfl⟩ := hB
  refine W.widen (k := 107) (n := 2324) (Nat.le_of_ble_eq_true rfl) (Nat.le_of_ble_eq_true rfl) ?_
  refine W.eq (g2 := F0 m 192 ls [.int r]) rfl ?_
  refine lv_aload_n hx hb dL_law_192 rfl (lv_at hl 2 rfl) ?_
  refine call_V (As := []) (rest := [.int r]) hx hb hml hown hts hK hP hD hS hA hZ lkL_17 (Ctr.upL (c_X12_house l G ct sk sv am n mo  eq2) [lfX ct g xo, lfN ct (fun j => g (10 + j)) nv, lfR ct (fun j => g (18 + j)) rv, lfH ct (hsA g 0) g h0', lfH ct (hsA g 1) g h1, lfH ct (hsA g 2) g h2, lfH ct (hsA g 3) g h3, lfS ct (fun j => (hsA g 0) (12 + j)) nt0', lfS ct (fun j => (hsA g 0) (8 + j)) cv0', lfS ct (fun j => (hsA g 1) (12 + j)) nt1, lfS ct (fun j => (hsA g 1) (8 + j)) cv1, lfS ct (fun j => (hsA g 2) (12 + j)) nt2, lfS ct (fun j => (hsA g 2) (8 + j)) cv2, lfS ct (fun j => (hsA g 3) (12 + j)) nt3, lfS ct (fun j => (hsA g 3) (8 + j)) cv3, lfP ct (fun j => (hsA g 0) (16 + j)) ps0', lfP ct (fun j => (hsA g 1) (16 + j)) ps1, lfP ct (fun j => (hsA g 2) (16 + j)) ps2, lfP ct (fun j => (hsA g 3) (16 + j)) ps3, lfK ct g] (LWs ct g am xo nv rv h0' h1 h2 h3 nt0' cv0' nt1 cv1 nt2 cv2 nt3 cv3 ps0' ps1 ps2 ps3 mo) (LWs ct g am xo nv rv h0' h1 h2 h3 nt0' cv0' nt1 cv1 nt2 cv2 nt3 cv3 ps0' ps1 ps2 ps3 mo') [20, 0, 1, 2, 3, 4, 5, 6, 7, 8, 9, 10, 11, 12, 13, 14, 15, 16, 17, 18, 19] 21 (by decide) rfl rfl rfl rfl) 92 rfl rfl ⟨Nat.le_of_ble_eq_true rfl, Nat.le_of_ble_eq_true rfl⟩ rfl hl.1 rfl (Nat.le_of_ble_eq_true rfl) dL_law_193 ⟨Nat.le_of_ble_eq_true rfl, Nat.le_of_ble_eq_true rfl⟩ (fun r9 w9 H locs hB hP hD hS => ?_)
  obtain ⟨rfl, rfl⟩ := hB
  refine W.widen (k := 107) (n := 2324) (Nat.le_of_ble_eq_true rfl) (Nat.le_of_ble_eq_true rfl) ?_
  refine W.eq (g2 := F0 m 196 ls [.int r, .int r]) rfl ?_
  refine lv_icmp_eq (tgt := 1095) hx hb dL_law_196 (by decide) (fun c1 => ?_) (fun c1 => absurd rfl c1)
  exact K xo nv rv h0' h1 h2 h3 nt0' cv0' nt1 cv1 nt2 cv2 nt3 cv3 ps0' ps1 ps2 ps3 mo' hI _ _ ls hP hD hS hl
set_option maxHeartbeats 4000000 in
set_option maxRecDepth 100000 in
theorem law_member {p : Program} {l : Launch} {e : Env} {s : State} {m : MethodId} {below : List Frame} {meth : Method} {c : Code} {b L : Nat} {xs : Nat → Int32} {G : va_G} {ct : Nat → ClassId} {sk sv : Nat → Nat} {g am : Nat → Nat} {n : Nat} {INV : INVT} (C : LAWC l G ct sk sv p s m meth c b L xs) (S : SIM_member n INV) {i : Nat} (hi : i + 4 ≤ L) (K : LAt p l e s m below meth c b G ct g am INV i 1095) : LAt p l e s m below meth c b G ct g am INV i 201 := by
  obtain ⟨hx, hb, hr, hml, hown, hts, hK, hZ, hX, hbl, hlocks, hL2⟩ := C
  have hA : ∀ q : Nat, s.heap.size ≤ q → (fun q : Nat => s.heap.size ≤ q) q := fun _ h => h
  have hbA : ¬ (fun q : Nat => s.heap.size ≤ q) b := Nat.not_le.mpr hbl
  intro xo nv rv h0 h1 h2 h3 nt0 cv0 nt1 cv1 nt2 cv2 nt3 cv3 ps0 ps1 ps2 ps3 mo hI H locs ls hP hD hS hl
  refine lv_aload_n hx hb dL_law_201 rfl (lv_at hl 1 rfl) ?_
  refine lv_aload_n hx hb dL_law_202 rfl (lv_at hl 0 rfl) ?_
  refine lv_iload_n hx hb dL_law_203 rfl (lv_at hl 3 rfl) ?_
  refine lv_iconst (v := 1) hx hb dL_law_204 (by decide) ?_
  refine lv_iadd hx hb dL_law_205 ?_
  refine va_sld hx hb hX hbl hbA hS (scr_in hi hL2 (k := 1) (by decide) (by decide)) dL_law_206 ?_
  refine lv_aload_n hx hb dL_law_207 rfl (lv_at hl 0 rfl) ?_
  refine lv_iload_n hx hb dL_law_208 rfl (lv_at hl 3 rfl) ?_
  refine lv_iconst (v := 2) hx hb dL_law_209 (by decide) ?_
  refine lv_iadd hx hb dL_law_210 ?_
  refine va_sld hx hb hX hbl hbA hS (scr_in hi hL2 (k := 2) (by decide) (by decide)) dL_law_211 ?_
  obtain ⟨r, xo', h0', ps0', mo', eq1, eq2, hI⟩ := S xo nv rv h0 h1 h2 h3 nt0 cv0 nt1 cv1 nt2 cv2 nt3 cv3 ps0 ps1 ps2 ps3 mo (xs (nI i + 1).toNatClampNeg) (xs (nI i + 2).toNatClampNeg) hI
  refine call_V (As := [.int (xs (nI i + 1).toNatClampNeg), .int (xs (nI i + 2).toNatClampNeg)]) (rest := []) hx hb hml hown hts hK hP hD hS hA hZ lkL_18 (Ctr.upL (c_X11_member l G ct sk sv g n xo h0 ps0 (xs (nI i + 1).toNatClampNeg) (xs (nI i + 2).toNatClampNeg) eq1) [lfN ct (fun j => g (10 + j)) nv, lfR ct (fun j => g (18 + j)) rv, lfH ct (hsA g 1) g h1, lfH ct (hsA g 2) g h2, lfH ct (hsA g 3) g h3, lfS ct (fun j => (hsA g 0) (12 + j)) nt0, lfS ct (fun j => (hsA g 0) (8 + j)) cv0, lfS ct (fun j => (hsA g 1) (12 + j)) nt1, lfS ct (fun j => (hsA g 1) (8 + j)) cv1, lfS ct (fun j => (hsA g 2) (12 + j)) nt2, lfS ct (fun j => (hsA g 2) (8 + j)) cv2, lfS ct (fun j => (hsA g 3) (12 + j)) nt3, lfS ct (fun j => (hsA g 3) (8 + j)) cv3, lfP ct (fun j => (hsA g 1) (16 + j)) ps1, lfP ct (fun j => (hsA g 2) (16 + j)) ps2, lfP ct (fun j => (hsA g 3) (16 + j)) ps3, lfK ct g, lfM ct am mo] (LWs ct g am xo nv rv h0 h1 h2 h3 nt0 cv0 nt1 cv1 nt2 cv2 nt3 cv3 ps0 ps1 ps2 ps3 mo) (LWs ct g am xo' nv rv h0' h1 h2 h3 nt0 cv0 nt1 cv1 nt2 cv2 nt3 cv3 ps0' ps1 ps2 ps3 mo) [0, 3, 15, 1, 2, 4, 5, 6, 7, 8, 9, 10, 11, 12, 13, 14, 16, 17, 18, 19, 20] 21 (by decide) rfl rfl rfl rfl) 0 rfl rfl ⟨Nat.le_of_ble_eq_true rfl, Nat.le_of_ble_eq_true rfl⟩ rfl hl.1 rfl (Nat.le_of_ble_eq_true rfl) dL_law_212 ⟨Nat.le_of_ble_eq_true rfl, Nat.le_of_ble_eq_true rfl⟩ (fun r9 w9 H locs hB hP hD hS => ?_)
  obtain ⟨rfl, rfl⟩ := hB
  refine W.widen (k := 107) (n := 2324) (Nat.le_of_ble_eq_true rfl) (Nat.le_of_ble_eq_true rfl) ?_
  refine W.eq (g2 := F0 m 215 ls [.int r]) rfl ?_
  refine lv_aload_n hx hb dL_law_215 rfl (lv_at hl 2 rfl) ?_
  refine lv_aload_n hx hb dL_law_216 rfl (lv_at hl 0 rfl) ?_
  refine lv_iload_n hx hb dL_law_217 rfl (lv_at hl 3 rfl) ?_
  refine lv_iconst (v := 1) hx hb dL_law_218 (by decide) ?_
  refine lv_iadd hx hb dL_law_219 ?_
  refine va_sld hx hb hX hbl hbA hS (scr_in hi hL2 (k := 1) (by decide) (by decide)) dL_law_220 ?_
  refine lv_aload_n hx hb dL_law_221 rfl (lv_at hl 0 rfl) ?_
  refine lv_iload_n hx hb dL_law_222 rfl (lv_at hl 3 rfl) ?_
  refine lv_iconst (v := 2) hx hb dL_law_223 (by decide) ?_
  refine lv_iadd hx hb dL_law_224 ?_
  refine va_sld hx hb hX hbl hbA hS (scr_in hi hL2 (k := 2) (by decide) (by decide)) dL_law_225 ?_
  refine call_V (As := [.int (xs (nI i + 1).toNatClampNeg), .int (xs (nI i + 2).toNatClampNeg)]) (rest := [.int r]) hx hb hml hown hts hK hP hD hS hA hZ lkL_22 (Ctr.upL (c_X12_member l G ct sk sv am n mo (xs (nI i + 1).toNatClampNeg) (xs (nI i + 2).toNatClampNeg) eq2) [lfX ct g xo', lfN ct (fun j => g (10 + j)) nv, lfR ct (fun j => g (18 + j)) rv, lfH ct (hsA g 0) g h0', lfH ct (hsA g 1) g h1, lfH ct (hsA g 2) g h2, lfH ct (hsA g 3) g h3, lfS ct (fun j => (hsA g 0) (12 + j)) nt0, lfS ct (fun j => (hsA g 0) (8 + j)) cv0, lfS ct (fun j => (hsA g 1) (12 + j)) nt1, lfS ct (fun j => (hsA g 1) (8 + j)) cv1, lfS ct (fun j => (hsA g 2) (12 + j)) nt2, lfS ct (fun j => (hsA g 2) (8 + j)) cv2, lfS ct (fun j => (hsA g 3) (12 + j)) nt3, lfS ct (fun j => (hsA g 3) (8 + j)) cv3, lfP ct (fun j => (hsA g 0) (16 + j)) ps0', lfP ct (fun j => (hsA g 1) (16 + j)) ps1, lfP ct (fun j => (hsA g 2) (16 + j)) ps2, lfP ct (fun j => (hsA g 3) (16 + j)) ps3, lfK ct g] (LWs ct g am xo' nv rv h0' h1 h2 h3 nt0 cv0 nt1 cv1 nt2 cv2 nt3 cv3 ps0' ps1 ps2 ps3 mo) (LWs ct g am xo' nv rv h0' h1 h2 h3 nt0 cv0 nt1 cv1 nt2 cv2 nt3 cv3 ps0' ps1 ps2 ps3 mo') [20, 0, 1, 2, 3, 4, 5, 6, 7, 8, 9, 10, 11, 12, 13, 14, 15, 16, 17, 18, 19] 21 (by decide) rfl rfl rfl rfl) 92 rfl rfl ⟨Nat.le_of_ble_eq_true rfl, Nat.le_of_ble_eq_true rfl⟩ rfl hl.1 rfl (Nat.le_of_ble_eq_true rfl) dL_law_226 ⟨Nat.le_of_ble_eq_true rfl, Nat.le_of_ble_eq_true rfl⟩ (fun r9 w9 H locs hB hP hD hS => ?_)
  obtain ⟨rfl, rfl⟩ := hB
  refine W.widen (k := 107) (n := 2324) (Nat.le_of_ble_eq_true rfl) (Nat.le_of_ble_eq_true rfl) ?_
  refine W.eq (g2 := F0 m 229 ls [.int r, .int r]) rfl ?_
  refine lv_icmp_eq (tgt := 1095) hx hb dL_law_229 (by decide) (fun c1 => ?_) (fun c1 => absurd rfl c1)
  exact K xo' nv rv h0' h1 h2 h3 nt0 cv0 nt1 cv1 nt2 cv2 nt3 cv3 ps0' ps1 ps2 ps3 mo' hI _ _ ls hP hD hS hl
set_option maxHeartbeats 4000000 in
set_option maxRecDepth 100000 in
theorem law_letter {p : Program} {l : Launch} {e : Env} {s : State} {m : MethodId} {below : List Frame} {meth : Method} {c : Code} {b L : Nat} {xs : Nat → Int32} {G : va_G} {ct : Nat → ClassId} {sk sv : Nat → Nat} {g am : Nat → Nat} {n : Nat} {INV : INVT} (C : LAWC l G ct sk sv p s m meth c b L xs) (S : SIM_letter n INV) {i : Nat} (hi : i + 4 ≤ L) (K : LAt p l e s m below meth c b G ct g am INV i 1095) : LAt p l e s m below meth c b G ct g am INV i 234 := by
  obtain ⟨hx, hb, hr, hml, hown, hts, hK, hZ, hX, hbl, hlocks, hL2⟩ := C
  have hA : ∀ q : Nat, s.heap.size ≤ q → (fun q : Nat => s.heap.size ≤ q) q := fun _ h => h
  have hbA : ¬ (fun q : Nat => s.heap.size ≤ q) b := Nat.not_le.mpr hbl
  intro xo nv rv h0 h1 h2 h3 nt0 cv0 nt1 cv1 nt2 cv2 nt3 cv3 ps0 ps1 ps2 ps3 mo hI H locs ls hP hD hS hl
  refine lv_aload_n hx hb dL_law_234 rfl (lv_at hl 1 rfl) ?_
  refine lv_aload_n hx hb dL_law_235 rfl (lv_at hl 0 rfl) ?_
  refine lv_iload_n hx hb dL_law_236 rfl (lv_at hl 3 rfl) ?_
  refine lv_iconst (v := 1) hx hb dL_law_237 (by decide) ?_
  refine lv_iadd hx hb dL_law_238 ?_
  refine va_sld hx hb hX hbl hbA hS (scr_in hi hL2 (k := 1) (by decide) (by decide)) dL_law_239 ?_
  refine lv_aload_n hx hb dL_law_240 rfl (lv_at hl 0 rfl) ?_
  refine lv_iload_n hx hb dL_law_241 rfl (lv_at hl 3 rfl) ?_
  refine lv_iconst (v := 2) hx hb dL_law_242 (by decide) ?_
  refine lv_iadd hx hb dL_law_243 ?_
  refine va_sld hx hb hX hbl hbA hS (scr_in hi hL2 (k := 2) (by decide) (by decide)) dL_law_244 ?_
  refine lv_aload_n hx hb dL_law_245 rfl (lv_at hl 0 rfl) ?_
  refine lv_iload_n hx hb dL_law_246 rfl (lv_at hl 3 rfl) ?_
  refine lv_iconst (v := 3) hx hb dL_law_247 (by decide) ?_
  refine lv_iadd hx hb dL_law_248 ?_
  refine va_sld hx hb hX hbl hbA hS (scr_in hi hL2 (k := 3) (by decide) (by decide)) dL_law_249 ?_
  obtain ⟨r, xo', h0', ps0', mo', eq1, eq2, hI⟩ := S xo nv rv h0 h1 h2 h3 nt0 cv0 nt1 cv1 nt2 cv2 nt3 cv3 ps0 ps1 ps2 ps3 mo (xs (nI i + 1).toNatClampNeg) (xs (nI i + 2).toNatClampNeg) (xs (nI i + 3).toNatClampNeg) hI
  refine call_V (As := [.int (xs (nI i + 1).toNatClampNeg), .int (xs (nI i + 2).toNatClampNeg), .int (xs (nI i + 3).toNatClampNeg)]) (rest := []) hx hb hml hown hts hK hP hD hS hA hZ lkL_23 (Ctr.upL (c_X11_letter l G ct sk sv g n xo h0 ps0 (xs (nI i + 1).toNatClampNeg) (xs (nI i + 2).toNatClampNeg) (xs (nI i + 3).toNatClampNeg) eq1) [lfN ct (fun j => g (10 + j)) nv, lfR ct (fun j => g (18 + j)) rv, lfH ct (hsA g 1) g h1, lfH ct (hsA g 2) g h2, lfH ct (hsA g 3) g h3, lfS ct (fun j => (hsA g 0) (12 + j)) nt0, lfS ct (fun j => (hsA g 0) (8 + j)) cv0, lfS ct (fun j => (hsA g 1) (12 + j)) nt1, lfS ct (fun j => (hsA g 1) (8 + j)) cv1, lfS ct (fun j => (hsA g 2) (12 + j)) nt2, lfS ct (fun j => (hsA g 2) (8 + j)) cv2, lfS ct (fun j => (hsA g 3) (12 + j)) nt3, lfS ct (fun j => (hsA g 3) (8 + j)) cv3, lfP ct (fun j => (hsA g 1) (16 + j)) ps1, lfP ct (fun j => (hsA g 2) (16 + j)) ps2, lfP ct (fun j => (hsA g 3) (16 + j)) ps3, lfK ct g, lfM ct am mo] (LWs ct g am xo nv rv h0 h1 h2 h3 nt0 cv0 nt1 cv1 nt2 cv2 nt3 cv3 ps0 ps1 ps2 ps3 mo) (LWs ct g am xo' nv rv h0' h1 h2 h3 nt0 cv0 nt1 cv1 nt2 cv2 nt3 cv3 ps0' ps1 ps2 ps3 mo) [0, 3, 15, 1, 2, 4, 5, 6, 7, 8, 9, 10, 11, 12, 13, 14, 16, 17, 18, 19, 20] 21 (by decide) rfl rfl rfl rfl) 0 rfl rfl ⟨Nat.le_of_ble_eq_true rfl, Nat.le_of_ble_eq_true rfl⟩ rfl hl.1 rfl (Nat.le_of_ble_eq_true rfl) dL_law_250 ⟨Nat.le_of_ble_eq_true rfl, Nat.le_of_ble_eq_true rfl⟩ (fun r9 w9 H locs hB hP hD hS => ?_)
  obtain ⟨rfl, rfl⟩ := hB
  refine W.widen (k := 107) (n := 2324) (Nat.le_of_ble_eq_true rfl) (Nat.le_of_ble_eq_true rfl) ?_
  refine W.eq (g2 := F0 m 253 ls [.int r]) rfl ?_
  refine lv_aload_n hx hb dL_law_253 rfl (lv_at hl 2 rfl) ?_
  refine lv_aload_n hx hb dL_law_254 rfl (lv_at hl 0 rfl) ?_
  refine lv_iload_n hx hb dL_law_255 rfl (lv_at hl 3 rfl) ?_
  refine lv_iconst (v := 1) hx hb dL_law_256 (by decide) ?_
  refine lv_iadd hx hb dL_law_257 ?_
  refine va_sld hx hb hX hbl hbA hS (scr_in hi hL2 (k := 1) (by decide) (by decide)) dL_law_258 ?_
  refine lv_aload_n hx hb dL_law_259 rfl (lv_at hl 0 rfl) ?_
  refine lv_iload_n hx hb dL_law_260 rfl (lv_at hl 3 rfl) ?_
  refine lv_iconst (v := 2) hx hb dL_law_261 (by decide) ?_
  refine lv_iadd hx hb dL_law_262 ?_
  refine va_sld hx hb hX hbl hbA hS (scr_in hi hL2 (k := 2) (by decide) (by decide)) dL_law_263 ?_
  refine lv_aload_n hx hb dL_law_264 rfl (lv_at hl 0 rfl) ?_
  refine lv_iload_n hx hb dL_law_265 rfl (lv_at hl 3 rfl) ?_
  refine lv_iconst (v := 3) hx hb dL_law_266 (by decide) ?_
  refine lv_iadd hx hb dL_law_267 ?_
  refine va_sld hx hb hX hbl hbA hS (scr_in hi hL2 (k := 3) (by decide) (by decide)) dL_law_268 ?_
  refine call_V (As := [.int (xs (nI i + 1).toNatClampNeg), .int (xs (nI i + 2).toNatClampNeg), .int (xs (nI i + 3).toNatClampNeg)]) (rest := [.int r]) hx hb hml hown hts hK hP hD hS hA hZ lkL_27 (Ctr.upL (c_X12_letter l G ct sk sv am n mo (xs (nI i + 1).toNatClampNeg) (xs (nI i + 2).toNatClampNeg) (xs (nI i + 3).toNatClampNeg) eq2) [lfX ct g xo', lfN ct (fun j => g (10 + j)) nv, lfR ct (fun j => g (18 + j)) rv, lfH ct (hsA g 0) g h0', lfH ct (hsA g 1) g h1, lfH ct (hsA g 2) g h2, lfH ct (hsA g 3) g h3, lfS ct (fun j => (hsA g 0) (12 + j)) nt0, lfS ct (fun j => (hsA g 0) (8 + j)) cv0, lfS ct (fun j => (hsA g 1) (12 + j)) nt1, lfS ct (fun j => (hsA g 1) (8 + j)) cv1, lfS ct (fun j => (hsA g 2) (12 + j)) nt2, lfS ct (fun j => (hsA g 2) (8 + j)) cv2, lfS ct (fun j => (hsA g 3) (12 + j)) nt3, lfS ct (fun j => (hsA g 3) (8 + j)) cv3, lfP ct (fun j => (hsA g 0) (16 + j)) ps0', lfP ct (fun j => (hsA g 1) (16 + j)) ps1, lfP ct (fun j => (hsA g 2) (16 + j)) ps2, lfP ct (fun j => (hsA g 3) (16 + j)) ps3, lfK ct g] (LWs ct g am xo' nv rv h0' h1 h2 h3 nt0 cv0 nt1 cv1 nt2 cv2 nt3 cv3 ps0' ps1 ps2 ps3 mo) (LWs ct g am xo' nv rv h0' h1 h2 h3 nt0 cv0 nt1 cv1 nt2 cv2 nt3 cv3 ps0' ps1 ps2 ps3 mo') [20, 0, 1, 2, 3, 4, 5, 6, 7, 8, 9, 10, 11, 12, 13, 14, 15, 16, 17, 18, 19] 21 (by decide) rfl rfl rfl rfl) 92 rfl rfl ⟨Nat.le_of_ble_eq_true rfl, Nat.le_of_ble_eq_true rfl⟩ rfl hl.1 rfl (Nat.le_of_ble_eq_true rfl) dL_law_269 ⟨Nat.le_of_ble_eq_true rfl, Nat.le_of_ble_eq_true rfl⟩ (fun r9 w9 H locs hB hP hD hS => ?_)
  obtain ⟨rfl, rfl⟩ := hB
  refine W.widen (k := 107) (n := 2324) (Nat.le_of_ble_eq_true rfl) (Nat.le_of_ble_eq_true rfl) ?_
  refine W.eq (g2 := F0 m 272 ls [.int r, .int r]) rfl ?_
  refine lv_icmp_eq (tgt := 1095) hx hb dL_law_272 (by decide) (fun c1 => ?_) (fun c1 => absurd rfl c1)
  exact K xo' nv rv h0' h1 h2 h3 nt0 cv0 nt1 cv1 nt2 cv2 nt3 cv3 ps0' ps1 ps2 ps3 mo' hI _ _ ls hP hD hS hl
set_option maxHeartbeats 4000000 in
set_option maxRecDepth 100000 in
theorem law_type {p : Program} {l : Launch} {e : Env} {s : State} {m : MethodId} {below : List Frame} {meth : Method} {c : Code} {b L : Nat} {xs : Nat → Int32} {G : va_G} {ct : Nat → ClassId} {sk sv : Nat → Nat} {g am : Nat → Nat} {n : Nat} {INV : INVT} (C : LAWC l G ct sk sv p s m meth c b L xs) (S : SIM_type n INV) {i : Nat} (hi : i + 4 ≤ L) (K : LAt p l e s m below meth c b G ct g am INV i 1095) : LAt p l e s m below meth c b G ct g am INV i 277 := by
  obtain ⟨hx, hb, hr, hml, hown, hts, hK, hZ, hX, hbl, hlocks, hL2⟩ := C
  have hA : ∀ q : Nat, s.heap.size ≤ q → (fun q : Nat => s.heap.size ≤ q) q := fun _ h => h
  have hbA : ¬ (fun q : Nat => s.heap.size ≤ q) b := Nat.not_le.mpr hbl
  intro xo nv rv h0 h1 h2 h3 nt0 cv0 nt1 cv1 nt2 cv2 nt3 cv3 ps0 ps1 ps2 ps3 mo hI H locs ls hP hD hS hl
  refine lv_aload_n hx hb dL_law_277 rfl (lv_at hl 1 rfl) ?_
  refine lv_aload_n hx hb dL_law_278 rfl (lv_at hl 0 rfl) ?_
  refine lv_iload_n hx hb dL_law_279 rfl (lv_at hl 3 rfl) ?_
  refine lv_iconst (v := 1) hx hb dL_law_280 (by decide) ?_
  refine lv_iadd hx hb dL_law_281 ?_
  refine va_sld hx hb hX hbl hbA hS (scr_in hi hL2 (k := 1) (by decide) (by decide)) dL_law_282 ?_
  obtain ⟨r, xo', rv', mo', eq1, eq2, hI⟩ := S xo nv rv h0 h1 h2 h3 nt0 cv0 nt1 cv1 nt2 cv2 nt3 cv3 ps0 ps1 ps2 ps3 mo (xs (nI i + 1).toNatClampNeg) hI
  refine call_V (As := [.int (xs (nI i + 1).toNatClampNeg)]) (rest := []) hx hb hml hown hts hK hP hD hS hA hZ lkL_28 (Ctr.upL (c_X11_type l G ct sk sv g n xo rv (xs (nI i + 1).toNatClampNeg) eq1) [lfN ct (fun j => g (10 + j)) nv, lfH ct (hsA g 0) g h0, lfH ct (hsA g 1) g h1, lfH ct (hsA g 2) g h2, lfH ct (hsA g 3) g h3, lfS ct (fun j => (hsA g 0) (12 + j)) nt0, lfS ct (fun j => (hsA g 0) (8 + j)) cv0, lfS ct (fun j => (hsA g 1) (12 + j)) nt1, lfS ct (fun j => (hsA g 1) (8 + j)) cv1, lfS ct (fun j => (hsA g 2) (12 + j)) nt2, lfS ct (fun j => (hsA g 2) (8 + j)) cv2, lfS ct (fun j => (hsA g 3) (12 + j)) nt3, lfS ct (fun j => (hsA g 3) (8 + j)) cv3, lfP ct (fun j => (hsA g 0) (16 + j)) ps0, lfP ct (fun j => (hsA g 1) (16 + j)) ps1, lfP ct (fun j => (hsA g 2) (16 + j)) ps2, lfP ct (fun j => (hsA g 3) (16 + j)) ps3, lfK ct g, lfM ct am mo] (LWs ct g am xo nv rv h0 h1 h2 h3 nt0 cv0 nt1 cv1 nt2 cv2 nt3 cv3 ps0 ps1 ps2 ps3 mo) (LWs ct g am xo' nv rv' h0 h1 h2 h3 nt0 cv0 nt1 cv1 nt2 cv2 nt3 cv3 ps0 ps1 ps2 ps3 mo) [0, 2, 1, 3, 4, 5, 6, 7, 8, 9, 10, 11, 12, 13, 14, 15, 16, 17, 18, 19, 20] 21 (by decide) rfl rfl rfl rfl) 0 rfl rfl ⟨Nat.le_of_ble_eq_true rfl, Nat.le_of_ble_eq_true rfl⟩ rfl hl.1 rfl (Nat.le_of_ble_eq_true rfl) dL_law_283 ⟨Nat.le_of_ble_eq_true rfl, Nat.le_of_ble_eq_true rfl⟩ (fun r9 w9 H locs hB hP hD hS => ?_)
  obtain ⟨rfl, rfl⟩ := hB
  refine W.widen (k := 107) (n := 2324) (Nat.le_of_ble_eq_true rfl) (Nat.le_of_ble_eq_true rfl) ?_
  refine W.eq (g2 := F0 m 286 ls [.int r]) rfl ?_
  refine lv_aload_n hx hb dL_law_286 rfl (lv_at hl 2 rfl) ?_
  refine lv_aload_n hx hb dL_law_287 rfl (lv_at hl 0 rfl) ?_
  refine lv_iload_n hx hb dL_law_288 rfl (lv_at hl 3 rfl) ?_
  refine lv_iconst (v := 1) hx hb dL_law_289 (by decide) ?_
  refine lv_iadd hx hb dL_law_290 ?_
  refine va_sld hx hb hX hbl hbA hS (scr_in hi hL2 (k := 1) (by decide) (by decide)) dL_law_291 ?_
  refine call_V (As := [.int (xs (nI i + 1).toNatClampNeg)]) (rest := [.int r]) hx hb hml hown hts hK hP hD hS hA hZ lkL_32 (Ctr.upL (c_X12_type l G ct sk sv am n mo (xs (nI i + 1).toNatClampNeg) eq2) [lfX ct g xo', lfN ct (fun j => g (10 + j)) nv, lfR ct (fun j => g (18 + j)) rv', lfH ct (hsA g 0) g h0, lfH ct (hsA g 1) g h1, lfH ct (hsA g 2) g h2, lfH ct (hsA g 3) g h3, lfS ct (fun j => (hsA g 0) (12 + j)) nt0, lfS ct (fun j => (hsA g 0) (8 + j)) cv0, lfS ct (fun j => (hsA g 1) (12 + j)) nt1, lfS ct (fun j => (hsA g 1) (8 + j)) cv1, lfS ct (fun j => (hsA g 2) (12 + j)) nt2, lfS ct (fun j => (hsA g 2) (8 + j)) cv2, lfS ct (fun j => (hsA g 3) (12 + j)) nt3, lfS ct (fun j => (hsA g 3) (8 + j)) cv3, lfP ct (fun j => (hsA g 0) (16 + j)) ps0, lfP ct (fun j => (hsA g 1) (16 + j)) ps1, lfP ct (fun j => (hsA g 2) (16 + j)) ps2, lfP ct (fun j => (hsA g 3) (16 + j)) ps3, lfK ct g] (LWs ct g am xo' nv rv' h0 h1 h2 h3 nt0 cv0 nt1 cv1 nt2 cv2 nt3 cv3 ps0 ps1 ps2 ps3 mo) (LWs ct g am xo' nv rv' h0 h1 h2 h3 nt0 cv0 nt1 cv1 nt2 cv2 nt3 cv3 ps0 ps1 ps2 ps3 mo') [20, 0, 1, 2, 3, 4, 5, 6, 7, 8, 9, 10, 11, 12, 13, 14, 15, 16, 17, 18, 19] 21 (by decide) rfl rfl rfl rfl) 92 rfl rfl ⟨Nat.le_of_ble_eq_true rfl, Nat.le_of_ble_eq_true rfl⟩ rfl hl.1 rfl (Nat.le_of_ble_eq_true rfl) dL_law_292 ⟨Nat.le_of_ble_eq_true rfl, Nat.le_of_ble_eq_true rfl⟩ (fun r9 w9 H locs hB hP hD hS => ?_)
  obtain ⟨rfl, rfl⟩ := hB
  refine W.widen (k := 107) (n := 2324) (Nat.le_of_ble_eq_true rfl) (Nat.le_of_ble_eq_true rfl) ?_
  refine W.eq (g2 := F0 m 295 ls [.int r, .int r]) rfl ?_
  refine lv_icmp_eq (tgt := 1095) hx hb dL_law_295 (by decide) (fun c1 => ?_) (fun c1 => absurd rfl c1)
  exact K xo' nv rv' h0 h1 h2 h3 nt0 cv0 nt1 cv1 nt2 cv2 nt3 cv3 ps0 ps1 ps2 ps3 mo' hI _ _ ls hP hD hS hl
set_option maxHeartbeats 4000000 in
set_option maxRecDepth 100000 in
theorem law_clear {p : Program} {l : Launch} {e : Env} {s : State} {m : MethodId} {below : List Frame} {meth : Method} {c : Code} {b L : Nat} {xs : Nat → Int32} {G : va_G} {ct : Nat → ClassId} {sk sv : Nat → Nat} {g am : Nat → Nat} {n : Nat} {INV : INVT} (C : LAWC l G ct sk sv p s m meth c b L xs) (S : SIM_clear n INV) {i : Nat} (hi : i + 4 ≤ L) (K : LAt p l e s m below meth c b G ct g am INV i 1095) : LAt p l e s m below meth c b G ct g am INV i 300 := by
  obtain ⟨hx, hb, hr, hml, hown, hts, hK, hZ, hX, hbl, hlocks, hL2⟩ := C
  have hA : ∀ q : Nat, s.heap.size ≤ q → (fun q : Nat => s.heap.size ≤ q) q := fun _ h => h
  have hbA : ¬ (fun q : Nat => s.heap.size ≤ q) b := Nat.not_le.mpr hbl
  intro xo nv rv h0 h1 h2 h3 nt0 cv0 nt1 cv1 nt2 cv2 nt3 cv3 ps0 ps1 ps2 ps3 mo hI H locs ls hP hD hS hl
  refine lv_aload_n hx hb dL_law_300 rfl (lv_at hl 1 rfl) ?_
  obtain ⟨r, rv', mo', eq1, eq2, hI⟩ := S xo nv rv h0 h1 h2 h3 nt0 cv0 nt1 cv1 nt2 cv2 nt3 cv3 ps0 ps1 ps2 ps3 mo  hI
  refine call_V (As := []) (rest := []) hx hb hml hown hts hK hP hD hS hA hZ lkL_33 (Ctr.upL (c_X11_clear l G ct sk sv g n xo rv  eq1) [lfN ct (fun j => g (10 + j)) nv, lfH ct (hsA g 0) g h0, lfH ct (hsA g 1) g h1, lfH ct (hsA g 2) g h2, lfH ct (hsA g 3) g h3, lfS ct (fun j => (hsA g 0) (12 + j)) nt0, lfS ct (fun j => (hsA g 0) (8 + j)) cv0, lfS ct (fun j => (hsA g 1) (12 + j)) nt1, lfS ct (fun j => (hsA g 1) (8 + j)) cv1, lfS ct (fun j => (hsA g 2) (12 + j)) nt2, lfS ct (fun j => (hsA g 2) (8 + j)) cv2, lfS ct (fun j => (hsA g 3) (12 + j)) nt3, lfS ct (fun j => (hsA g 3) (8 + j)) cv3, lfP ct (fun j => (hsA g 0) (16 + j)) ps0, lfP ct (fun j => (hsA g 1) (16 + j)) ps1, lfP ct (fun j => (hsA g 2) (16 + j)) ps2, lfP ct (fun j => (hsA g 3) (16 + j)) ps3, lfK ct g, lfM ct am mo] (LWs ct g am xo nv rv h0 h1 h2 h3 nt0 cv0 nt1 cv1 nt2 cv2 nt3 cv3 ps0 ps1 ps2 ps3 mo) (LWs ct g am xo nv rv' h0 h1 h2 h3 nt0 cv0 nt1 cv1 nt2 cv2 nt3 cv3 ps0 ps1 ps2 ps3 mo) [0, 2, 1, 3, 4, 5, 6, 7, 8, 9, 10, 11, 12, 13, 14, 15, 16, 17, 18, 19, 20] 21 (by decide) rfl rfl rfl rfl) 0 rfl rfl ⟨Nat.le_of_ble_eq_true rfl, Nat.le_of_ble_eq_true rfl⟩ rfl hl.1 rfl (Nat.le_of_ble_eq_true rfl) dL_law_301 ⟨Nat.le_of_ble_eq_true rfl, Nat.le_of_ble_eq_true rfl⟩ (fun r9 w9 H locs hB hP hD hS => ?_)
  obtain ⟨rfl, rfl⟩ := hB
  refine W.widen (k := 107) (n := 2324) (Nat.le_of_ble_eq_true rfl) (Nat.le_of_ble_eq_true rfl) ?_
  refine W.eq (g2 := F0 m 304 ls [.int r]) rfl ?_
  refine lv_aload_n hx hb dL_law_304 rfl (lv_at hl 2 rfl) ?_
  refine call_V (As := []) (rest := [.int r]) hx hb hml hown hts hK hP hD hS hA hZ lkL_36 (Ctr.upL (c_X12_clear l G ct sk sv am n mo  eq2) [lfX ct g xo, lfN ct (fun j => g (10 + j)) nv, lfR ct (fun j => g (18 + j)) rv', lfH ct (hsA g 0) g h0, lfH ct (hsA g 1) g h1, lfH ct (hsA g 2) g h2, lfH ct (hsA g 3) g h3, lfS ct (fun j => (hsA g 0) (12 + j)) nt0, lfS ct (fun j => (hsA g 0) (8 + j)) cv0, lfS ct (fun j => (hsA g 1) (12 + j)) nt1, lfS ct (fun j => (hsA g 1) (8 + j)) cv1, lfS ct (fun j => (hsA g 2) (12 + j)) nt2, lfS ct (fun j => (hsA g 2) (8 + j)) cv2, lfS ct (fun j => (hsA g 3) (12 + j)) nt3, lfS ct (fun j => (hsA g 3) (8 + j)) cv3, lfP ct (fun j => (hsA g 0) (16 + j)) ps0, lfP ct (fun j => (hsA g 1) (16 + j)) ps1, lfP ct (fun j => (hsA g 2) (16 + j)) ps2, lfP ct (fun j => (hsA g 3) (16 + j)) ps3, lfK ct g] (LWs ct g am xo nv rv' h0 h1 h2 h3 nt0 cv0 nt1 cv1 nt2 cv2 nt3 cv3 ps0 ps1 ps2 ps3 mo) (LWs ct g am xo nv rv' h0 h1 h2 h3 nt0 cv0 nt1 cv1 nt2 cv2 nt3 cv3 ps0 ps1 ps2 ps3 mo') [20, 0, 1, 2, 3, 4, 5, 6, 7, 8, 9, 10, 11, 12, 13, 14, 15, 16, 17, 18, 19] 21 (by decide) rfl rfl rfl rfl) 92 rfl rfl ⟨Nat.le_of_ble_eq_true rfl, Nat.le_of_ble_eq_true rfl⟩ rfl hl.1 rfl (Nat.le_of_ble_eq_true rfl) dL_law_305 ⟨Nat.le_of_ble_eq_true rfl, Nat.le_of_ble_eq_true rfl⟩ (fun r9 w9 H locs hB hP hD hS => ?_)
  obtain ⟨rfl, rfl⟩ := hB
  refine W.widen (k := 107) (n := 2324) (Nat.le_of_ble_eq_true rfl) (Nat.le_of_ble_eq_true rfl) ?_
  refine W.eq (g2 := F0 m 308 ls [.int r, .int r]) rfl ?_
  refine lv_icmp_eq (tgt := 1095) hx hb dL_law_308 (by decide) (fun c1 => ?_) (fun c1 => absurd rfl c1)
  exact K xo nv rv' h0 h1 h2 h3 nt0 cv0 nt1 cv1 nt2 cv2 nt3 cv3 ps0 ps1 ps2 ps3 mo' hI _ _ ls hP hD hS hl
set_option maxHeartbeats 4000000 in
set_option maxRecDepth 100000 in
theorem law_read {p : Program} {l : Launch} {e : Env} {s : State} {m : MethodId} {below : List Frame} {meth : Method} {c : Code} {b L : Nat} {xs : Nat → Int32} {G : va_G} {ct : Nat → ClassId} {sk sv : Nat → Nat} {g am : Nat → Nat} {n : Nat} {INV : INVT} (C : LAWC l G ct sk sv p s m meth c b L xs) (S : SIM_read n INV) {i : Nat} (hi : i + 4 ≤ L) (K : LAt p l e s m below meth c b G ct g am INV i 1095) : LAt p l e s m below meth c b G ct g am INV i 313 := by
  obtain ⟨hx, hb, hr, hml, hown, hts, hK, hZ, hX, hbl, hlocks, hL2⟩ := C
  have hA : ∀ q : Nat, s.heap.size ≤ q → (fun q : Nat => s.heap.size ≤ q) q := fun _ h => h
  have hbA : ¬ (fun q : Nat => s.heap.size ≤ q) b := Nat.not_le.mpr hbl
  intro xo nv rv h0 h1 h2 h3 nt0 cv0 nt1 cv1 nt2 cv2 nt3 cv3 ps0 ps1 ps2 ps3 mo hI H locs ls hP hD hS hl
  refine lv_aload_n hx hb dL_law_313 rfl (lv_at hl 1 rfl) ?_
  obtain ⟨r, rv', h0', h1', nt0', cv0', nt1', cv1', ps0', ps1', mo', eq1, eq2, hI⟩ := S xo nv rv h0 h1 h2 h3 nt0 cv0 nt1 cv1 nt2 cv2 nt3 cv3 ps0 ps1 ps2 ps3 mo  hI
  refine call_V (As := []) (rest := []) hx hb hml hown hts hK hP hD hS hA hZ lkL_37 (Ctr.upL (c_X11_read l G ct sk sv g n xo rv h0 h1 nt0 cv0 nt1 cv1 ps0 ps1  eq1) [lfN ct (fun j => g (10 + j)) nv, lfH ct (hsA g 2) g h2, lfH ct (hsA g 3) g h3, lfS ct (fun j => (hsA g 2) (12 + j)) nt2, lfS ct (fun j => (hsA g 2) (8 + j)) cv2, lfS ct (fun j => (hsA g 3) (12 + j)) nt3, lfS ct (fun j => (hsA g 3) (8 + j)) cv3, lfP ct (fun j => (hsA g 2) (16 + j)) ps2, lfP ct (fun j => (hsA g 3) (16 + j)) ps3, lfM ct am mo] (LWs ct g am xo nv rv h0 h1 h2 h3 nt0 cv0 nt1 cv1 nt2 cv2 nt3 cv3 ps0 ps1 ps2 ps3 mo) (LWs ct g am xo nv rv' h0' h1' h2 h3 nt0' cv0' nt1' cv1' nt2 cv2 nt3 cv3 ps0' ps1' ps2 ps3 mo) [0, 2, 3, 4, 7, 8, 9, 10, 15, 16, 19, 1, 5, 6, 11, 12, 13, 14, 17, 18, 20] 21 (by decide) rfl rfl rfl rfl) 0 rfl rfl ⟨Nat.le_of_ble_eq_true rfl, Nat.le_of_ble_eq_true rfl⟩ rfl hl.1 rfl (Nat.le_of_ble_eq_true rfl) dL_law_314 ⟨Nat.le_of_ble_eq_true rfl, Nat.le_of_ble_eq_true rfl⟩ (fun r9 w9 H locs hB hP hD hS => ?_)
  obtain ⟨rfl, rfl⟩ := hB
  refine W.widen (k := 107) (n := 2324) (Nat.le_of_ble_eq_true rfl) (Nat.le_of_ble_eq_true rfl) ?_
  refine W.eq (g2 := F0 m 317 ls [.int r]) rfl ?_
  refine lv_aload_n hx hb dL_law_317 rfl (lv_at hl 2 rfl) ?_
  refine call_V (As := []) (rest := [.int r]) hx hb hml hown hts hK hP hD hS hA hZ lkL_40 (Ctr.upL (c_X12_read l G ct sk sv am n mo  eq2) [lfX ct g xo, lfN ct (fun j => g (10 + j)) nv, lfR ct (fun j => g (18 + j)) rv', lfH ct (hsA g 0) g h0', lfH ct (hsA g 1) g h1', lfH ct (hsA g 2) g h2, lfH ct (hsA g 3) g h3, lfS ct (fun j => (hsA g 0) (12 + j)) nt0', lfS ct (fun j => (hsA g 0) (8 + j)) cv0', lfS ct (fun j => (hsA g 1) (12 + j)) nt1', lfS ct (fun j => (hsA g 1) (8 + j)) cv1', lfS ct (fun j => (hsA g 2) (12 + j)) nt2, lfS ct (fun j => (hsA g 2) (8 + j)) cv2, lfS ct (fun j => (hsA g 3) (12 + j)) nt3, lfS ct (fun j => (hsA g 3) (8 + j)) cv3, lfP ct (fun j => (hsA g 0) (16 + j)) ps0', lfP ct (fun j => (hsA g 1) (16 + j)) ps1', lfP ct (fun j => (hsA g 2) (16 + j)) ps2, lfP ct (fun j => (hsA g 3) (16 + j)) ps3, lfK ct g] (LWs ct g am xo nv rv' h0' h1' h2 h3 nt0' cv0' nt1' cv1' nt2 cv2 nt3 cv3 ps0' ps1' ps2 ps3 mo) (LWs ct g am xo nv rv' h0' h1' h2 h3 nt0' cv0' nt1' cv1' nt2 cv2 nt3 cv3 ps0' ps1' ps2 ps3 mo') [20, 0, 1, 2, 3, 4, 5, 6, 7, 8, 9, 10, 11, 12, 13, 14, 15, 16, 17, 18, 19] 21 (by decide) rfl rfl rfl rfl) 92 rfl rfl ⟨Nat.le_of_ble_eq_true rfl, Nat.le_of_ble_eq_true rfl⟩ rfl hl.1 rfl (Nat.le_of_ble_eq_true rfl) dL_law_318 ⟨Nat.le_of_ble_eq_true rfl, Nat.le_of_ble_eq_true rfl⟩ (fun r9 w9 H locs hB hP hD hS => ?_)
  obtain ⟨rfl, rfl⟩ := hB
  refine W.widen (k := 107) (n := 2324) (Nat.le_of_ble_eq_true rfl) (Nat.le_of_ble_eq_true rfl) ?_
  refine W.eq (g2 := F0 m 321 ls [.int r, .int r]) rfl ?_
  refine lv_icmp_eq (tgt := 1095) hx hb dL_law_321 (by decide) (fun c1 => ?_) (fun c1 => absurd rfl c1)
  exact K xo nv rv' h0' h1' h2 h3 nt0' cv0' nt1' cv1' nt2 cv2 nt3 cv3 ps0' ps1' ps2 ps3 mo' hI _ _ ls hP hD hS hl
set_option maxHeartbeats 4000000 in
set_option maxRecDepth 100000 in
theorem law_frank {p : Program} {l : Launch} {e : Env} {s : State} {m : MethodId} {below : List Frame} {meth : Method} {c : Code} {b L : Nat} {xs : Nat → Int32} {G : va_G} {ct : Nat → ClassId} {sk sv : Nat → Nat} {g am : Nat → Nat} {n : Nat} {INV : INVT} (C : LAWC l G ct sk sv p s m meth c b L xs) (S : SIM_frank n INV) {i : Nat} (hi : i + 4 ≤ L) (K : LAt p l e s m below meth c b G ct g am INV i 1095) : LAt p l e s m below meth c b G ct g am INV i 326 := by
  obtain ⟨hx, hb, hr, hml, hown, hts, hK, hZ, hX, hbl, hlocks, hL2⟩ := C
  have hA : ∀ q : Nat, s.heap.size ≤ q → (fun q : Nat => s.heap.size ≤ q) q := fun _ h => h
  have hbA : ¬ (fun q : Nat => s.heap.size ≤ q) b := Nat.not_le.mpr hbl
  intro xo nv rv h0 h1 h2 h3 nt0 cv0 nt1 cv1 nt2 cv2 nt3 cv3 ps0 ps1 ps2 ps3 mo hI H locs ls hP hD hS hl
  refine lv_aload_n hx hb dL_law_326 rfl (lv_at hl 1 rfl) ?_
  refine lv_aload_n hx hb dL_law_327 rfl (lv_at hl 0 rfl) ?_
  refine lv_iload_n hx hb dL_law_328 rfl (lv_at hl 3 rfl) ?_
  refine lv_iconst (v := 1) hx hb dL_law_329 (by decide) ?_
  refine lv_iadd hx hb dL_law_330 ?_
  refine va_sld hx hb hX hbl hbA hS (scr_in hi hL2 (k := 1) (by decide) (by decide)) dL_law_331 ?_
  refine lv_aload_n hx hb dL_law_332 rfl (lv_at hl 0 rfl) ?_
  refine lv_iload_n hx hb dL_law_333 rfl (lv_at hl 3 rfl) ?_
  refine lv_iconst (v := 2) hx hb dL_law_334 (by decide) ?_
  refine lv_iadd hx hb dL_law_335 ?_
  refine va_sld hx hb hX hbl hbA hS (scr_in hi hL2 (k := 2) (by decide) (by decide)) dL_law_336 ?_
  obtain ⟨r, xo', h0', ps0', mo', eq1, eq2, hI⟩ := S xo nv rv h0 h1 h2 h3 nt0 cv0 nt1 cv1 nt2 cv2 nt3 cv3 ps0 ps1 ps2 ps3 mo (xs (nI i + 1).toNatClampNeg) (xs (nI i + 2).toNatClampNeg) hI
  refine call_V (As := [.int (xs (nI i + 1).toNatClampNeg), .int (xs (nI i + 2).toNatClampNeg)]) (rest := []) hx hb hml hown hts hK hP hD hS hA hZ lkL_41 (Ctr.upL (c_X11_frank l G ct sk sv g n xo h0 ps0 (xs (nI i + 1).toNatClampNeg) (xs (nI i + 2).toNatClampNeg) eq1) [lfN ct (fun j => g (10 + j)) nv, lfR ct (fun j => g (18 + j)) rv, lfH ct (hsA g 1) g h1, lfH ct (hsA g 2) g h2, lfH ct (hsA g 3) g h3, lfS ct (fun j => (hsA g 0) (12 + j)) nt0, lfS ct (fun j => (hsA g 0) (8 + j)) cv0, lfS ct (fun j => (hsA g 1) (12 + j)) nt1, lfS ct (fun j => (hsA g 1) (8 + j)) cv1, lfS ct (fun j => (hsA g 2) (12 + j)) nt2, lfS ct (fun j => (hsA g 2) (8 + j)) cv2, lfS ct (fun j => (hsA g 3) (12 + j)) nt3, lfS ct (fun j => (hsA g 3) (8 + j)) cv3, lfP ct (fun j => (hsA g 1) (16 + j)) ps1, lfP ct (fun j => (hsA g 2) (16 + j)) ps2, lfP ct (fun j => (hsA g 3) (16 + j)) ps3, lfM ct am mo] (LWs ct g am xo nv rv h0 h1 h2 h3 nt0 cv0 nt1 cv1 nt2 cv2 nt3 cv3 ps0 ps1 ps2 ps3 mo) (LWs ct g am xo' nv rv h0' h1 h2 h3 nt0 cv0 nt1 cv1 nt2 cv2 nt3 cv3 ps0' ps1 ps2 ps3 mo) [0, 3, 15, 19, 1, 2, 4, 5, 6, 7, 8, 9, 10, 11, 12, 13, 14, 16, 17, 18, 20] 21 (by decide) rfl rfl rfl rfl) 0 rfl rfl ⟨Nat.le_of_ble_eq_true rfl, Nat.le_of_ble_eq_true rfl⟩ rfl hl.1 rfl (Nat.le_of_ble_eq_true rfl) dL_law_337 ⟨Nat.le_of_ble_eq_true rfl, Nat.le_of_ble_eq_true rfl⟩ (fun r9 w9 H locs hB hP hD hS => ?_)
  obtain ⟨rfl, rfl⟩ := hB
  refine W.widen (k := 107) (n := 2324) (Nat.le_of_ble_eq_true rfl) (Nat.le_of_ble_eq_true rfl) ?_
  refine W.eq (g2 := F0 m 340 ls [.int r]) rfl ?_
  refine lv_aload_n hx hb dL_law_340 rfl (lv_at hl 2 rfl) ?_
  refine lv_aload_n hx hb dL_law_341 rfl (lv_at hl 0 rfl) ?_
  refine lv_iload_n hx hb dL_law_342 rfl (lv_at hl 3 rfl) ?_
  refine lv_iconst (v := 1) hx hb dL_law_343 (by decide) ?_
  refine lv_iadd hx hb dL_law_344 ?_
  refine va_sld hx hb hX hbl hbA hS (scr_in hi hL2 (k := 1) (by decide) (by decide)) dL_law_345 ?_
  refine lv_aload_n hx hb dL_law_346 rfl (lv_at hl 0 rfl) ?_
  refine lv_iload_n hx hb dL_law_347 rfl (lv_at hl 3 rfl) ?_
  refine lv_iconst (v := 2) hx hb dL_law_348 (by decide) ?_
  refine lv_iadd hx hb dL_law_349 ?_
  refine va_sld hx hb hX hbl hbA hS (scr_in hi hL2 (k := 2) (by decide) (by decide)) dL_law_350 ?_
  refine call_V (As := [.int (xs (nI i + 1).toNatClampNeg), .int (xs (nI i + 2).toNatClampNeg)]) (rest := [.int r]) hx hb hml hown hts hK hP hD hS hA hZ lkL_44 (Ctr.upL (c_X12_frank l G ct sk sv am n mo (xs (nI i + 1).toNatClampNeg) (xs (nI i + 2).toNatClampNeg) eq2) [lfX ct g xo', lfN ct (fun j => g (10 + j)) nv, lfR ct (fun j => g (18 + j)) rv, lfH ct (hsA g 0) g h0', lfH ct (hsA g 1) g h1, lfH ct (hsA g 2) g h2, lfH ct (hsA g 3) g h3, lfS ct (fun j => (hsA g 0) (12 + j)) nt0, lfS ct (fun j => (hsA g 0) (8 + j)) cv0, lfS ct (fun j => (hsA g 1) (12 + j)) nt1, lfS ct (fun j => (hsA g 1) (8 + j)) cv1, lfS ct (fun j => (hsA g 2) (12 + j)) nt2, lfS ct (fun j => (hsA g 2) (8 + j)) cv2, lfS ct (fun j => (hsA g 3) (12 + j)) nt3, lfS ct (fun j => (hsA g 3) (8 + j)) cv3, lfP ct (fun j => (hsA g 0) (16 + j)) ps0', lfP ct (fun j => (hsA g 1) (16 + j)) ps1, lfP ct (fun j => (hsA g 2) (16 + j)) ps2, lfP ct (fun j => (hsA g 3) (16 + j)) ps3, lfK ct g] (LWs ct g am xo' nv rv h0' h1 h2 h3 nt0 cv0 nt1 cv1 nt2 cv2 nt3 cv3 ps0' ps1 ps2 ps3 mo) (LWs ct g am xo' nv rv h0' h1 h2 h3 nt0 cv0 nt1 cv1 nt2 cv2 nt3 cv3 ps0' ps1 ps2 ps3 mo') [20, 0, 1, 2, 3, 4, 5, 6, 7, 8, 9, 10, 11, 12, 13, 14, 15, 16, 17, 18, 19] 21 (by decide) rfl rfl rfl rfl) 92 rfl rfl ⟨Nat.le_of_ble_eq_true rfl, Nat.le_of_ble_eq_true rfl⟩ rfl hl.1 rfl (Nat.le_of_ble_eq_true rfl) dL_law_351 ⟨Nat.le_of_ble_eq_true rfl, Nat.le_of_ble_eq_true rfl⟩ (fun r9 w9 H locs hB hP hD hS => ?_)
  obtain ⟨rfl, rfl⟩ := hB
  refine W.widen (k := 107) (n := 2324) (Nat.le_of_ble_eq_true rfl) (Nat.le_of_ble_eq_true rfl) ?_
  refine W.eq (g2 := F0 m 354 ls [.int r, .int r]) rfl ?_
  refine lv_icmp_eq (tgt := 1095) hx hb dL_law_354 (by decide) (fun c1 => ?_) (fun c1 => absurd rfl c1)
  exact K xo' nv rv h0' h1 h2 h3 nt0 cv0 nt1 cv1 nt2 cv2 nt3 cv3 ps0' ps1 ps2 ps3 mo' hI _ _ ls hP hD hS hl
set_option maxHeartbeats 4000000 in
set_option maxRecDepth 100000 in
theorem law_pay {p : Program} {l : Launch} {e : Env} {s : State} {m : MethodId} {below : List Frame} {meth : Method} {c : Code} {b L : Nat} {xs : Nat → Int32} {G : va_G} {ct : Nat → ClassId} {sk sv : Nat → Nat} {g am : Nat → Nat} {n : Nat} {INV : INVT} (C : LAWC l G ct sk sv p s m meth c b L xs) (S : SIM_pay n INV) {i : Nat} (hi : i + 4 ≤ L) (K : LAt p l e s m below meth c b G ct g am INV i 1095) : LAt p l e s m below meth c b G ct g am INV i 359 := by
  obtain ⟨hx, hb, hr, hml, hown, hts, hK, hZ, hX, hbl, hlocks, hL2⟩ := C
  have hA : ∀ q : Nat, s.heap.size ≤ q → (fun q : Nat => s.heap.size ≤ q) q := fun _ h => h
  have hbA : ¬ (fun q : Nat => s.heap.size ≤ q) b := Nat.not_le.mpr hbl
  intro xo nv rv h0 h1 h2 h3 nt0 cv0 nt1 cv1 nt2 cv2 nt3 cv3 ps0 ps1 ps2 ps3 mo hI H locs ls hP hD hS hl
  refine lv_aload_n hx hb dL_law_359 rfl (lv_at hl 1 rfl) ?_
  refine lv_aload_n hx hb dL_law_360 rfl (lv_at hl 0 rfl) ?_
  refine lv_iload_n hx hb dL_law_361 rfl (lv_at hl 3 rfl) ?_
  refine lv_iconst (v := 1) hx hb dL_law_362 (by decide) ?_
  refine lv_iadd hx hb dL_law_363 ?_
  refine va_sld hx hb hX hbl hbA hS (scr_in hi hL2 (k := 1) (by decide) (by decide)) dL_law_364 ?_
  obtain ⟨r, xo', h0', ps0', mo', eq1, eq2, hI⟩ := S xo nv rv h0 h1 h2 h3 nt0 cv0 nt1 cv1 nt2 cv2 nt3 cv3 ps0 ps1 ps2 ps3 mo (xs (nI i + 1).toNatClampNeg) hI
  refine call_V (As := [.int (xs (nI i + 1).toNatClampNeg)]) (rest := []) hx hb hml hown hts hK hP hD hS hA hZ lkL_45 (Ctr.upL (c_X11_pay l G ct sk sv g n xo h0 ps0 (xs (nI i + 1).toNatClampNeg) eq1) [lfN ct (fun j => g (10 + j)) nv, lfR ct (fun j => g (18 + j)) rv, lfH ct (hsA g 1) g h1, lfH ct (hsA g 2) g h2, lfH ct (hsA g 3) g h3, lfS ct (fun j => (hsA g 0) (12 + j)) nt0, lfS ct (fun j => (hsA g 0) (8 + j)) cv0, lfS ct (fun j => (hsA g 1) (12 + j)) nt1, lfS ct (fun j => (hsA g 1) (8 + j)) cv1, lfS ct (fun j => (hsA g 2) (12 + j)) nt2, lfS ct (fun j => (hsA g 2) (8 + j)) cv2, lfS ct (fun j => (hsA g 3) (12 + j)) nt3, lfS ct (fun j => (hsA g 3) (8 + j)) cv3, lfP ct (fun j => (hsA g 1) (16 + j)) ps1, lfP ct (fun j => (hsA g 2) (16 + j)) ps2, lfP ct (fun j => (hsA g 3) (16 + j)) ps3, lfK ct g, lfM ct am mo] (LWs ct g am xo nv rv h0 h1 h2 h3 nt0 cv0 nt1 cv1 nt2 cv2 nt3 cv3 ps0 ps1 ps2 ps3 mo) (LWs ct g am xo' nv rv h0' h1 h2 h3 nt0 cv0 nt1 cv1 nt2 cv2 nt3 cv3 ps0' ps1 ps2 ps3 mo) [0, 3, 15, 1, 2, 4, 5, 6, 7, 8, 9, 10, 11, 12, 13, 14, 16, 17, 18, 19, 20] 21 (by decide) rfl rfl rfl rfl) 0 rfl rfl ⟨Nat.le_of_ble_eq_true rfl, Nat.le_of_ble_eq_true rfl⟩ rfl hl.1 rfl (Nat.le_of_ble_eq_true rfl) dL_law_365 ⟨Nat.le_of_ble_eq_true rfl, Nat.le_of_ble_eq_true rfl⟩ (fun r9 w9 H locs hB hP hD hS => ?_)
  obtain ⟨rfl, rfl⟩ := hB
  refine W.widen (k := 107) (n := 2324) (Nat.le_of_ble_eq_true rfl) (Nat.le_of_ble_eq_true rfl) ?_
  refine W.eq (g2 := F0 m 368 ls [.int r]) rfl ?_
  refine lv_aload_n hx hb dL_law_368 rfl (lv_at hl 2 rfl) ?_
  refine lv_aload_n hx hb dL_law_369 rfl (lv_at hl 0 rfl) ?_
  refine lv_iload_n hx hb dL_law_370 rfl (lv_at hl 3 rfl) ?_
  refine lv_iconst (v := 1) hx hb dL_law_371 (by decide) ?_
  refine lv_iadd hx hb dL_law_372 ?_
  refine va_sld hx hb hX hbl hbA hS (scr_in hi hL2 (k := 1) (by decide) (by decide)) dL_law_373 ?_
  refine call_V (As := [.int (xs (nI i + 1).toNatClampNeg)]) (rest := [.int r]) hx hb hml hown hts hK hP hD hS hA hZ lkL_48 (Ctr.upL (c_X12_pay l G ct sk sv am n mo (xs (nI i + 1).toNatClampNeg) eq2) [lfX ct g xo', lfN ct (fun j => g (10 + j)) nv, lfR ct (fun j => g (18 + j)) rv, lfH ct (hsA g 0) g h0', lfH ct (hsA g 1) g h1, lfH ct (hsA g 2) g h2, lfH ct (hsA g 3) g h3, lfS ct (fun j => (hsA g 0) (12 + j)) nt0, lfS ct (fun j => (hsA g 0) (8 + j)) cv0, lfS ct (fun j => (hsA g 1) (12 + j)) nt1, lfS ct (fun j => (hsA g 1) (8 + j)) cv1, lfS ct (fun j => (hsA g 2) (12 + j)) nt2, lfS ct (fun j => (hsA g 2) (8 + j)) cv2, lfS ct (fun j => (hsA g 3) (12 + j)) nt3, lfS ct (fun j => (hsA g 3) (8 + j)) cv3, lfP ct (fun j => (hsA g 0) (16 + j)) ps0', lfP ct (fun j => (hsA g 1) (16 + j)) ps1, lfP ct (fun j => (hsA g 2) (16 + j)) ps2, lfP ct (fun j => (hsA g 3) (16 + j)) ps3, lfK ct g] (LWs ct g am xo' nv rv h0' h1 h2 h3 nt0 cv0 nt1 cv1 nt2 cv2 nt3 cv3 ps0' ps1 ps2 ps3 mo) (LWs ct g am xo' nv rv h0' h1 h2 h3 nt0 cv0 nt1 cv1 nt2 cv2 nt3 cv3 ps0' ps1 ps2 ps3 mo') [20, 0, 1, 2, 3, 4, 5, 6, 7, 8, 9, 10, 11, 12, 13, 14, 15, 16, 17, 18, 19] 21 (by decide) rfl rfl rfl rfl) 92 rfl rfl ⟨Nat.le_of_ble_eq_true rfl, Nat.le_of_ble_eq_true rfl⟩ rfl hl.1 rfl (Nat.le_of_ble_eq_true rfl) dL_law_374 ⟨Nat.le_of_ble_eq_true rfl, Nat.le_of_ble_eq_true rfl⟩ (fun r9 w9 H locs hB hP hD hS => ?_)
  obtain ⟨rfl, rfl⟩ := hB
  refine W.widen (k := 107) (n := 2324) (Nat.le_of_ble_eq_true rfl) (Nat.le_of_ble_eq_true rfl) ?_
  refine W.eq (g2 := F0 m 377 ls [.int r, .int r]) rfl ?_
  refine lv_icmp_eq (tgt := 1095) hx hb dL_law_377 (by decide) (fun c1 => ?_) (fun c1 => absurd rfl c1)
  exact K xo' nv rv h0' h1 h2 h3 nt0 cv0 nt1 cv1 nt2 cv2 nt3 cv3 ps0' ps1 ps2 ps3 mo' hI _ _ ls hP hD hS hl
set_option maxHeartbeats 4000000 in
set_option maxRecDepth 100000 in
theorem law_moves {p : Program} {l : Launch} {e : Env} {s : State} {m : MethodId} {below : List Frame} {meth : Method} {c : Code} {b L : Nat} {xs : Nat → Int32} {G : va_G} {ct : Nat → ClassId} {sk sv : Nat → Nat} {g am : Nat → Nat} {n : Nat} {INV : INVT} (C : LAWC l G ct sk sv p s m meth c b L xs) (S : SIM_moves n INV) {i : Nat} (hi : i + 4 ≤ L) (K : LAt p l e s m below meth c b G ct g am INV i 1095) : LAt p l e s m below meth c b G ct g am INV i 382 := by
  obtain ⟨hx, hb, hr, hml, hown, hts, hK, hZ, hX, hbl, hlocks, hL2⟩ := C
  have hA : ∀ q : Nat, s.heap.size ≤ q → (fun q : Nat => s.heap.size ≤ q) q := fun _ h => h
  have hbA : ¬ (fun q : Nat => s.heap.size ≤ q) b := Nat.not_le.mpr hbl
  intro xo nv rv h0 h1 h2 h3 nt0 cv0 nt1 cv1 nt2 cv2 nt3 cv3 ps0 ps1 ps2 ps3 mo hI H locs ls hP hD hS hl
  refine lv_aload_n hx hb dL_law_382 rfl (lv_at hl 1 rfl) ?_
  refine lv_aload_n hx hb dL_law_383 rfl (lv_at hl 0 rfl) ?_
  refine lv_iload_n hx hb dL_law_384 rfl (lv_at hl 3 rfl) ?_
  refine lv_iconst (v := 1) hx hb dL_law_385 (by decide) ?_
  refine lv_iadd hx hb dL_law_386 ?_
  refine va_sld hx hb hX hbl hbA hS (scr_in hi hL2 (k := 1) (by decide) (by decide)) dL_law_387 ?_
  refine lv_aload_n hx hb dL_law_388 rfl (lv_at hl 0 rfl) ?_
  refine lv_iload_n hx hb dL_law_389 rfl (lv_at hl 3 rfl) ?_
  refine lv_iconst (v := 2) hx hb dL_law_390 (by decide) ?_
  refine lv_iadd hx hb dL_law_391 ?_
  refine va_sld hx hb hX hbl hbA hS (scr_in hi hL2 (k := 2) (by decide) (by decide)) dL_law_392 ?_
  obtain ⟨r, xo', h0', ps0', mo', eq1, eq2, hI⟩ := S xo nv rv h0 h1 h2 h3 nt0 cv0 nt1 cv1 nt2 cv2 nt3 cv3 ps0 ps1 ps2 ps3 mo (xs (nI i + 1).toNatClampNeg) (xs (nI i + 2).toNatClampNeg) hI
  refine call_V (As := [.int (xs (nI i + 1).toNatClampNeg), .int (xs (nI i + 2).toNatClampNeg)]) (rest := []) hx hb hml hown hts hK hP hD hS hA hZ lkL_49 (Ctr.upL (c_X11_moves l G ct sk sv g n xo h0 ps0 (xs (nI i + 1).toNatClampNeg) (xs (nI i + 2).toNatClampNeg) eq1) [lfN ct (fun j => g (10 + j)) nv, lfR ct (fun j => g (18 + j)) rv, lfH ct (hsA g 1) g h1, lfH ct (hsA g 2) g h2, lfH ct (hsA g 3) g h3, lfS ct (fun j => (hsA g 0) (12 + j)) nt0, lfS ct (fun j => (hsA g 0) (8 + j)) cv0, lfS ct (fun j => (hsA g 1) (12 + j)) nt1, lfS ct (fun j => (hsA g 1) (8 + j)) cv1, lfS ct (fun j => (hsA g 2) (12 + j)) nt2, lfS ct (fun j => (hsA g 2) (8 + j)) cv2, lfS ct (fun j => (hsA g 3) (12 + j)) nt3, lfS ct (fun j => (hsA g 3) (8 + j)) cv3, lfP ct (fun j => (hsA g 1) (16 + j)) ps1, lfP ct (fun j => (hsA g 2) (16 + j)) ps2, lfP ct (fun j => (hsA g 3) (16 + j)) ps3, lfK ct g, lfM ct am mo] (LWs ct g am xo nv rv h0 h1 h2 h3 nt0 cv0 nt1 cv1 nt2 cv2 nt3 cv3 ps0 ps1 ps2 ps3 mo) (LWs ct g am xo' nv rv h0' h1 h2 h3 nt0 cv0 nt1 cv1 nt2 cv2 nt3 cv3 ps0' ps1 ps2 ps3 mo) [0, 3, 15, 1, 2, 4, 5, 6, 7, 8, 9, 10, 11, 12, 13, 14, 16, 17, 18, 19, 20] 21 (by decide) rfl rfl rfl rfl) 0 rfl rfl ⟨Nat.le_of_ble_eq_true rfl, Nat.le_of_ble_eq_true rfl⟩ rfl hl.1 rfl (Nat.le_of_ble_eq_true rfl) dL_law_393 ⟨Nat.le_of_ble_eq_true rfl, Nat.le_of_ble_eq_true rfl⟩ (fun r9 w9 H locs hB hP hD hS => ?_)
  obtain ⟨rfl, rfl⟩ := hB
  refine W.widen (k := 107) (n := 2324) (Nat.le_of_ble_eq_true rfl) (Nat.le_of_ble_eq_true rfl) ?_
  refine W.eq (g2 := F0 m 396 ls [.int r]) rfl ?_
  refine lv_aload_n hx hb dL_law_396 rfl (lv_at hl 2 rfl) ?_
  refine lv_aload_n hx hb dL_law_397 rfl (lv_at hl 0 rfl) ?_
  refine lv_iload_n hx hb dL_law_398 rfl (lv_at hl 3 rfl) ?_
  refine lv_iconst (v := 1) hx hb dL_law_399 (by decide) ?_
  refine lv_iadd hx hb dL_law_400 ?_
  refine va_sld hx hb hX hbl hbA hS (scr_in hi hL2 (k := 1) (by decide) (by decide)) dL_law_401 ?_
  refine lv_aload_n hx hb dL_law_402 rfl (lv_at hl 0 rfl) ?_
  refine lv_iload_n hx hb dL_law_403 rfl (lv_at hl 3 rfl) ?_
  refine lv_iconst (v := 2) hx hb dL_law_404 (by decide) ?_
  refine lv_iadd hx hb dL_law_405 ?_
  refine va_sld hx hb hX hbl hbA hS (scr_in hi hL2 (k := 2) (by decide) (by decide)) dL_law_406 ?_
  refine call_V (As := [.int (xs (nI i + 1).toNatClampNeg), .int (xs (nI i + 2).toNatClampNeg)]) (rest := [.int r]) hx hb hml hown hts hK hP hD hS hA hZ lkL_52 (Ctr.upL (c_X12_moves l G ct sk sv am n mo (xs (nI i + 1).toNatClampNeg) (xs (nI i + 2).toNatClampNeg) eq2) [lfX ct g xo', lfN ct (fun j => g (10 + j)) nv, lfR ct (fun j => g (18 + j)) rv, lfH ct (hsA g 0) g h0', lfH ct (hsA g 1) g h1, lfH ct (hsA g 2) g h2, lfH ct (hsA g 3) g h3, lfS ct (fun j => (hsA g 0) (12 + j)) nt0, lfS ct (fun j => (hsA g 0) (8 + j)) cv0, lfS ct (fun j => (hsA g 1) (12 + j)) nt1, lfS ct (fun j => (hsA g 1) (8 + j)) cv1, lfS ct (fun j => (hsA g 2) (12 + j)) nt2, lfS ct (fun j => (hsA g 2) (8 + j)) cv2, lfS ct (fun j => (hsA g 3) (12 + j)) nt3, lfS ct (fun j => (hsA g 3) (8 + j)) cv3, lfP ct (fun j => (hsA g 0) (16 + j)) ps0', lfP ct (fun j => (hsA g 1) (16 + j)) ps1, lfP ct (fun j => (hsA g 2) (16 + j)) ps2, lfP ct (fun j => (hsA g 3) (16 + j)) ps3, lfK ct g] (LWs ct g am xo' nv rv h0' h1 h2 h3 nt0 cv0 nt1 cv1 nt2 cv2 nt3 cv3 ps0' ps1 ps2 ps3 mo) (LWs ct g am xo' nv rv h0' h1 h2 h3 nt0 cv0 nt1 cv1 nt2 cv2 nt3 cv3 ps0' ps1 ps2 ps3 mo') [20, 0, 1, 2, 3, 4, 5, 6, 7, 8, 9, 10, 11, 12, 13, 14, 15, 16, 17, 18, 19] 21 (by decide) rfl rfl rfl rfl) 92 rfl rfl ⟨Nat.le_of_ble_eq_true rfl, Nat.le_of_ble_eq_true rfl⟩ rfl hl.1 rfl (Nat.le_of_ble_eq_true rfl) dL_law_407 ⟨Nat.le_of_ble_eq_true rfl, Nat.le_of_ble_eq_true rfl⟩ (fun r9 w9 H locs hB hP hD hS => ?_)
  obtain ⟨rfl, rfl⟩ := hB
  refine W.widen (k := 107) (n := 2324) (Nat.le_of_ble_eq_true rfl) (Nat.le_of_ble_eq_true rfl) ?_
  refine W.eq (g2 := F0 m 410 ls [.int r, .int r]) rfl ?_
  refine lv_icmp_eq (tgt := 1095) hx hb dL_law_410 (by decide) (fun c1 => ?_) (fun c1 => absurd rfl c1)
  exact K xo' nv rv h0' h1 h2 h3 nt0 cv0 nt1 cv1 nt2 cv2 nt3 cv3 ps0' ps1 ps2 ps3 mo' hI _ _ ls hP hD hS hl
set_option maxHeartbeats 4000000 in
set_option maxRecDepth 100000 in
theorem law_day {p : Program} {l : Launch} {e : Env} {s : State} {m : MethodId} {below : List Frame} {meth : Method} {c : Code} {b L : Nat} {xs : Nat → Int32} {G : va_G} {ct : Nat → ClassId} {sk sv : Nat → Nat} {g am : Nat → Nat} {n : Nat} {INV : INVT} (C : LAWC l G ct sk sv p s m meth c b L xs) (S : SIM_day n INV) {i : Nat} (hi : i + 4 ≤ L) (K : LAt p l e s m below meth c b G ct g am INV i 1095) : LAt p l e s m below meth c b G ct g am INV i 415 := by
  obtain ⟨hx, hb, hr, hml, hown, hts, hK, hZ, hX, hbl, hlocks, hL2⟩ := C
  have hA : ∀ q : Nat, s.heap.size ≤ q → (fun q : Nat => s.heap.size ≤ q) q := fun _ h => h
  have hbA : ¬ (fun q : Nat => s.heap.size ≤ q) b := Nat.not_le.mpr hbl
  intro xo nv rv h0 h1 h2 h3 nt0 cv0 nt1 cv1 nt2 cv2 nt3 cv3 ps0 ps1 ps2 ps3 mo hI H locs ls hP hD hS hl
  refine lv_aload_n hx hb dL_law_415 rfl (lv_at hl 1 rfl) ?_
  obtain ⟨r, h0', ps0', mo', eq1, eq2, hI⟩ := S xo nv rv h0 h1 h2 h3 nt0 cv0 nt1 cv1 nt2 cv2 nt3 cv3 ps0 ps1 ps2 ps3 mo  hI
  refine call_V (As := []) (rest := []) hx hb hml hown hts hK hP hD hS hA hZ lkL_53 (Ctr.upL (c_X11_day l G ct sk sv g n xo h0 ps0  eq1) [lfN ct (fun j => g (10 + j)) nv, lfR ct (fun j => g (18 + j)) rv, lfH ct (hsA g 1) g h1, lfH ct (hsA g 2) g h2, lfH ct (hsA g 3) g h3, lfS ct (fun j => (hsA g 0) (12 + j)) nt0, lfS ct (fun j => (hsA g 0) (8 + j)) cv0, lfS ct (fun j => (hsA g 1) (12 + j)) nt1, lfS ct (fun j => (hsA g 1) (8 + j)) cv1, lfS ct (fun j => (hsA g 2) (12 + j)) nt2, lfS ct (fun j => (hsA g 2) (8 + j)) cv2, lfS ct (fun j => (hsA g 3) (12 + j)) nt3, lfS ct (fun j => (hsA g 3) (8 + j)) cv3, lfP ct (fun j => (hsA g 1) (16 + j)) ps1, lfP ct (fun j => (hsA g 2) (16 + j)) ps2, lfP ct (fun j => (hsA g 3) (16 + j)) ps3, lfK ct g, lfM ct am mo] (LWs ct g am xo nv rv h0 h1 h2 h3 nt0 cv0 nt1 cv1 nt2 cv2 nt3 cv3 ps0 ps1 ps2 ps3 mo) (LWs ct g am xo nv rv h0' h1 h2 h3 nt0 cv0 nt1 cv1 nt2 cv2 nt3 cv3 ps0' ps1 ps2 ps3 mo) [0, 3, 15, 1, 2, 4, 5, 6, 7, 8, 9, 10, 11, 12, 13, 14, 16, 17, 18, 19, 20] 21 (by decide) rfl rfl rfl rfl) 0 rfl rfl ⟨Nat.le_of_ble_eq_true rfl, Nat.le_of_ble_eq_true rfl⟩ rfl hl.1 rfl (Nat.le_of_ble_eq_true rfl) dL_law_416 ⟨Nat.le_of_ble_eq_true rfl, Nat.le_of_ble_eq_true rfl⟩ (fun r9 w9 H locs hB hP hD hS => ?_)
  obtain ⟨rfl, rfl⟩ := hB
  refine W.widen (k := 107) (n := 2324) (Nat.le_of_ble_eq_true rfl) (Nat.le_of_ble_eq_true rfl) ?_
  refine W.eq (g2 := F0 m 419 ls [.int r]) rfl ?_
  refine lv_aload_n hx hb dL_law_419 rfl (lv_at hl 2 rfl) ?_
  refine call_V (As := []) (rest := [.int r]) hx hb hml hown hts hK hP hD hS hA hZ lkL_56 (Ctr.upL (c_X12_day l G ct sk sv am n mo  eq2) [lfX ct g xo, lfN ct (fun j => g (10 + j)) nv, lfR ct (fun j => g (18 + j)) rv, lfH ct (hsA g 0) g h0', lfH ct (hsA g 1) g h1, lfH ct (hsA g 2) g h2, lfH ct (hsA g 3) g h3, lfS ct (fun j => (hsA g 0) (12 + j)) nt0, lfS ct (fun j => (hsA g 0) (8 + j)) cv0, lfS ct (fun j => (hsA g 1) (12 + j)) nt1, lfS ct (fun j => (hsA g 1) (8 + j)) cv1, lfS ct (fun j => (hsA g 2) (12 + j)) nt2, lfS ct (fun j => (hsA g 2) (8 + j)) cv2, lfS ct (fun j => (hsA g 3) (12 + j)) nt3, lfS ct (fun j => (hsA g 3) (8 + j)) cv3, lfP ct (fun j => (hsA g 0) (16 + j)) ps0', lfP ct (fun j => (hsA g 1) (16 + j)) ps1, lfP ct (fun j => (hsA g 2) (16 + j)) ps2, lfP ct (fun j => (hsA g 3) (16 + j)) ps3, lfK ct g] (LWs ct g am xo nv rv h0' h1 h2 h3 nt0 cv0 nt1 cv1 nt2 cv2 nt3 cv3 ps0' ps1 ps2 ps3 mo) (LWs ct g am xo nv rv h0' h1 h2 h3 nt0 cv0 nt1 cv1 nt2 cv2 nt3 cv3 ps0' ps1 ps2 ps3 mo') [20, 0, 1, 2, 3, 4, 5, 6, 7, 8, 9, 10, 11, 12, 13, 14, 15, 16, 17, 18, 19] 21 (by decide) rfl rfl rfl rfl) 92 rfl rfl ⟨Nat.le_of_ble_eq_true rfl, Nat.le_of_ble_eq_true rfl⟩ rfl hl.1 rfl (Nat.le_of_ble_eq_true rfl) dL_law_420 ⟨Nat.le_of_ble_eq_true rfl, Nat.le_of_ble_eq_true rfl⟩ (fun r9 w9 H locs hB hP hD hS => ?_)
  obtain ⟨rfl, rfl⟩ := hB
  refine W.widen (k := 107) (n := 2324) (Nat.le_of_ble_eq_true rfl) (Nat.le_of_ble_eq_true rfl) ?_
  refine W.eq (g2 := F0 m 423 ls [.int r, .int r]) rfl ?_
  refine lv_icmp_eq (tgt := 1095) hx hb dL_law_423 (by decide) (fun c1 => ?_) (fun c1 => absurd rfl c1)
  exact K xo nv rv h0' h1 h2 h3 nt0 cv0 nt1 cv1 nt2 cv2 nt3 cv3 ps0' ps1 ps2 ps3 mo' hI _ _ ls hP hD hS hl
set_option maxHeartbeats 4000000 in
set_option maxRecDepth 100000 in
theorem law_undo {p : Program} {l : Launch} {e : Env} {s : State} {m : MethodId} {below : List Frame} {meth : Method} {c : Code} {b L : Nat} {xs : Nat → Int32} {G : va_G} {ct : Nat → ClassId} {sk sv : Nat → Nat} {g am : Nat → Nat} {n : Nat} {INV : INVT} (C : LAWC l G ct sk sv p s m meth c b L xs) (S : SIM_undo n INV) {i : Nat} (hi : i + 4 ≤ L) (K : LAt p l e s m below meth c b G ct g am INV i 1095) : LAt p l e s m below meth c b G ct g am INV i 428 := by
  obtain ⟨hx, hb, hr, hml, hown, hts, hK, hZ, hX, hbl, hlocks, hL2⟩ := C
  have hA : ∀ q : Nat, s.heap.size ≤ q → (fun q : Nat => s.heap.size ≤ q) q := fun _ h => h
  have hbA : ¬ (fun q : Nat => s.heap.size ≤ q) b := Nat.not_le.mpr hbl
  intro xo nv rv h0 h1 h2 h3 nt0 cv0 nt1 cv1 nt2 cv2 nt3 cv3 ps0 ps1 ps2 ps3 mo hI H locs ls hP hD hS hl
  refine lv_aload_n hx hb dL_law_428 rfl (lv_at hl 1 rfl) ?_
  obtain ⟨r, xo', h0', ps0', mo', eq1, eq2, hI⟩ := S xo nv rv h0 h1 h2 h3 nt0 cv0 nt1 cv1 nt2 cv2 nt3 cv3 ps0 ps1 ps2 ps3 mo  hI
  refine call_V (As := []) (rest := []) hx hb hml hown hts hK hP hD hS hA hZ lkL_57 (Ctr.upL (c_X11_undo l G ct sk sv g n xo h0 ps0  eq1) [lfN ct (fun j => g (10 + j)) nv, lfR ct (fun j => g (18 + j)) rv, lfH ct (hsA g 1) g h1, lfH ct (hsA g 2) g h2, lfH ct (hsA g 3) g h3, lfS ct (fun j => (hsA g 0) (12 + j)) nt0, lfS ct (fun j => (hsA g 0) (8 + j)) cv0, lfS ct (fun j => (hsA g 1) (12 + j)) nt1, lfS ct (fun j => (hsA g 1) (8 + j)) cv1, lfS ct (fun j => (hsA g 2) (12 + j)) nt2, lfS ct (fun j => (hsA g 2) (8 + j)) cv2, lfS ct (fun j => (hsA g 3) (12 + j)) nt3, lfS ct (fun j => (hsA g 3) (8 + j)) cv3, lfP ct (fun j => (hsA g 1) (16 + j)) ps1, lfP ct (fun j => (hsA g 2) (16 + j)) ps2, lfP ct (fun j => (hsA g 3) (16 + j)) ps3, lfK ct g, lfM ct am mo] (LWs ct g am xo nv rv h0 h1 h2 h3 nt0 cv0 nt1 cv1 nt2 cv2 nt3 cv3 ps0 ps1 ps2 ps3 mo) (LWs ct g am xo' nv rv h0' h1 h2 h3 nt0 cv0 nt1 cv1 nt2 cv2 nt3 cv3 ps0' ps1 ps2 ps3 mo) [0, 3, 15, 1, 2, 4, 5, 6, 7, 8, 9, 10, 11, 12, 13, 14, 16, 17, 18, 19, 20] 21 (by decide) rfl rfl rfl rfl) 0 rfl rfl ⟨Nat.le_of_ble_eq_true rfl, Nat.le_of_ble_eq_true rfl⟩ rfl hl.1 rfl (Nat.le_of_ble_eq_true rfl) dL_law_429 ⟨Nat.le_of_ble_eq_true rfl, Nat.le_of_ble_eq_true rfl⟩ (fun r9 w9 H locs hB hP hD hS => ?_)
  obtain ⟨rfl, rfl⟩ := hB
  refine W.widen (k := 107) (n := 2324) (Nat.le_of_ble_eq_true rfl) (Nat.le_of_ble_eq_true rfl) ?_
  refine W.eq (g2 := F0 m 432 ls [.int r]) rfl ?_
  refine lv_aload_n hx hb dL_law_432 rfl (lv_at hl 2 rfl) ?_
  refine call_V (As := []) (rest := [.int r]) hx hb hml hown hts hK hP hD hS hA hZ lkL_60 (Ctr.upL (c_X12_undo l G ct sk sv am n mo  eq2) [lfX ct g xo', lfN ct (fun j => g (10 + j)) nv, lfR ct (fun j => g (18 + j)) rv, lfH ct (hsA g 0) g h0', lfH ct (hsA g 1) g h1, lfH ct (hsA g 2) g h2, lfH ct (hsA g 3) g h3, lfS ct (fun j => (hsA g 0) (12 + j)) nt0, lfS ct (fun j => (hsA g 0) (8 + j)) cv0, lfS ct (fun j => (hsA g 1) (12 + j)) nt1, lfS ct (fun j => (hsA g 1) (8 + j)) cv1, lfS ct (fun j => (hsA g 2) (12 + j)) nt2, lfS ct (fun j => (hsA g 2) (8 + j)) cv2, lfS ct (fun j => (hsA g 3) (12 + j)) nt3, lfS ct (fun j => (hsA g 3) (8 + j)) cv3, lfP ct (fun j => (hsA g 0) (16 + j)) ps0', lfP ct (fun j => (hsA g 1) (16 + j)) ps1, lfP ct (fun j => (hsA g 2) (16 + j)) ps2, lfP ct (fun j => (hsA g 3) (16 + j)) ps3, lfK ct g] (LWs ct g am xo' nv rv h0' h1 h2 h3 nt0 cv0 nt1 cv1 nt2 cv2 nt3 cv3 ps0' ps1 ps2 ps3 mo) (LWs ct g am xo' nv rv h0' h1 h2 h3 nt0 cv0 nt1 cv1 nt2 cv2 nt3 cv3 ps0' ps1 ps2 ps3 mo') [20, 0, 1, 2, 3, 4, 5, 6, 7, 8, 9, 10, 11, 12, 13, 14, 15, 16, 17, 18, 19] 21 (by decide) rfl rfl rfl rfl) 92 rfl rfl ⟨Nat.le_of_ble_eq_true rfl, Nat.le_of_ble_eq_true rfl⟩ rfl hl.1 rfl (Nat.le_of_ble_eq_true rfl) dL_law_433 ⟨Nat.le_of_ble_eq_true rfl, Nat.le_of_ble_eq_true rfl⟩ (fun r9 w9 H locs hB hP hD hS => ?_)
  obtain ⟨rfl, rfl⟩ := hB
  refine W.widen (k := 107) (n := 2324) (Nat.le_of_ble_eq_true rfl) (Nat.le_of_ble_eq_true rfl) ?_
  refine W.eq (g2 := F0 m 436 ls [.int r, .int r]) rfl ?_
  refine lv_icmp_eq (tgt := 1095) hx hb dL_law_436 (by decide) (fun c1 => ?_) (fun c1 => absurd rfl c1)
  exact K xo' nv rv h0' h1 h2 h3 nt0 cv0 nt1 cv1 nt2 cv2 nt3 cv3 ps0' ps1 ps2 ps3 mo' hI _ _ ls hP hD hS hl
set_option maxHeartbeats 4000000 in
set_option maxRecDepth 100000 in
theorem law_of {p : Program} {l : Launch} {e : Env} {s : State} {m : MethodId} {below : List Frame} {meth : Method} {c : Code} {b L : Nat} {xs : Nat → Int32} {G : va_G} {ct : Nat → ClassId} {sk sv : Nat → Nat} {g am : Nat → Nat} {n : Nat} {INV : INVT} (C : LAWC l G ct sk sv p s m meth c b L xs) (S : SIM_of n INV) {i : Nat} (hi : i + 4 ≤ L) (K : LAt p l e s m below meth c b G ct g am INV i 1095) : LAt p l e s m below meth c b G ct g am INV i 441 := by
  obtain ⟨hx, hb, hr, hml, hown, hts, hK, hZ, hX, hbl, hlocks, hL2⟩ := C
  have hA : ∀ q : Nat, s.heap.size ≤ q → (fun q : Nat => s.heap.size ≤ q) q := fun _ h => h
  have hbA : ¬ (fun q : Nat => s.heap.size ≤ q) b := Nat.not_le.mpr hbl
  intro xo nv rv h0 h1 h2 h3 nt0 cv0 nt1 cv1 nt2 cv2 nt3 cv3 ps0 ps1 ps2 ps3 mo hI H locs ls hP hD hS hl
  refine lv_aload_n hx hb dL_law_441 rfl (lv_at hl 1 rfl) ?_
  refine lv_aload_n hx hb dL_law_442 rfl (lv_at hl 0 rfl) ?_
  refine lv_iload_n hx hb dL_law_443 rfl (lv_at hl 3 rfl) ?_
  refine lv_iconst (v := 1) hx hb dL_law_444 (by decide) ?_
  refine lv_iadd hx hb dL_law_445 ?_
  refine va_sld hx hb hX hbl hbA hS (scr_in hi hL2 (k := 1) (by decide) (by decide)) dL_law_446 ?_
  refine lv_aload_n hx hb dL_law_447 rfl (lv_at hl 0 rfl) ?_
  refine lv_iload_n hx hb dL_law_448 rfl (lv_at hl 3 rfl) ?_
  refine lv_iconst (v := 2) hx hb dL_law_449 (by decide) ?_
  refine lv_iadd hx hb dL_law_450 ?_
  refine va_sld hx hb hX hbl hbA hS (scr_in hi hL2 (k := 2) (by decide) (by decide)) dL_law_451 ?_
  obtain ⟨r, xo', mo', eq1, eq2, hI⟩ := S xo nv rv h0 h1 h2 h3 nt0 cv0 nt1 cv1 nt2 cv2 nt3 cv3 ps0 ps1 ps2 ps3 mo (xs (nI i + 1).toNatClampNeg) (xs (nI i + 2).toNatClampNeg) hI
  refine call_V (As := [.int (xs (nI i + 1).toNatClampNeg), .int (xs (nI i + 2).toNatClampNeg)]) (rest := []) hx hb hml hown hts hK hP hD hS hA hZ lkL_61 (Ctr.upL (c_X11_of l G ct sk sv g n xo h0 (xs (nI i + 1).toNatClampNeg) (xs (nI i + 2).toNatClampNeg) eq1) [lfN ct (fun j => g (10 + j)) nv, lfR ct (fun j => g (18 + j)) rv, lfH ct (hsA g 1) g h1, lfH ct (hsA g 2) g h2, lfH ct (hsA g 3) g h3, lfS ct (fun j => (hsA g 0) (12 + j)) nt0, lfS ct (fun j => (hsA g 0) (8 + j)) cv0, lfS ct (fun j => (hsA g 1) (12 + j)) nt1, lfS ct (fun j => (hsA g 1) (8 + j)) cv1, lfS ct (fun j => (hsA g 2) (12 + j)) nt2, lfS ct (fun j => (hsA g 2) (8 + j)) cv2, lfS ct (fun j => (hsA g 3) (12 + j)) nt3, lfS ct (fun j => (hsA g 3) (8 + j)) cv3, lfP ct (fun j => (hsA g 0) (16 + j)) ps0, lfP ct (fun j => (hsA g 1) (16 + j)) ps1, lfP ct (fun j => (hsA g 2) (16 + j)) ps2, lfP ct (fun j => (hsA g 3) (16 + j)) ps3, lfM ct am mo] (LWs ct g am xo nv rv h0 h1 h2 h3 nt0 cv0 nt1 cv1 nt2 cv2 nt3 cv3 ps0 ps1 ps2 ps3 mo) (LWs ct g am xo' nv rv h0 h1 h2 h3 nt0 cv0 nt1 cv1 nt2 cv2 nt3 cv3 ps0 ps1 ps2 ps3 mo) [0, 3, 19, 1, 2, 4, 5, 6, 7, 8, 9, 10, 11, 12, 13, 14, 15, 16, 17, 18, 20] 21 (by decide) rfl rfl rfl rfl) 0 rfl rfl ⟨Nat.le_of_ble_eq_true rfl, Nat.le_of_ble_eq_true rfl⟩ rfl hl.1 rfl (Nat.le_of_ble_eq_true rfl) dL_law_452 ⟨Nat.le_of_ble_eq_true rfl, Nat.le_of_ble_eq_true rfl⟩ (fun r9 w9 H locs hB hP hD hS => ?_)
  obtain ⟨rfl, rfl⟩ := hB
  refine W.widen (k := 107) (n := 2324) (Nat.le_of_ble_eq_true rfl) (Nat.le_of_ble_eq_true rfl) ?_
  refine W.eq (g2 := F0 m 455 ls [.int r]) rfl ?_
  refine lv_aload_n hx hb dL_law_455 rfl (lv_at hl 2 rfl) ?_
  refine lv_aload_n hx hb dL_law_456 rfl (lv_at hl 0 rfl) ?_
  refine lv_iload_n hx hb dL_law_457 rfl (lv_at hl 3 rfl) ?_
  refine lv_iconst (v := 1) hx hb dL_law_458 (by decide) ?_
  refine lv_iadd hx hb dL_law_459 ?_
  refine va_sld hx hb hX hbl hbA hS (scr_in hi hL2 (k := 1) (by decide) (by decide)) dL_law_460 ?_
  refine lv_aload_n hx hb dL_law_461 rfl (lv_at hl 0 rfl) ?_
  refine lv_iload_n hx hb dL_law_462 rfl (lv_at hl 3 rfl) ?_
  refine lv_iconst (v := 2) hx hb dL_law_463 (by decide) ?_
  refine lv_iadd hx hb dL_law_464 ?_
  refine va_sld hx hb hX hbl hbA hS (scr_in hi hL2 (k := 2) (by decide) (by decide)) dL_law_465 ?_
  refine call_V (As := [.int (xs (nI i + 1).toNatClampNeg), .int (xs (nI i + 2).toNatClampNeg)]) (rest := [.int r]) hx hb hml hown hts hK hP hD hS hA hZ lkL_64 (Ctr.upL (c_X12_of l G ct sk sv am n mo (xs (nI i + 1).toNatClampNeg) (xs (nI i + 2).toNatClampNeg) eq2) [lfX ct g xo', lfN ct (fun j => g (10 + j)) nv, lfR ct (fun j => g (18 + j)) rv, lfH ct (hsA g 0) g h0, lfH ct (hsA g 1) g h1, lfH ct (hsA g 2) g h2, lfH ct (hsA g 3) g h3, lfS ct (fun j => (hsA g 0) (12 + j)) nt0, lfS ct (fun j => (hsA g 0) (8 + j)) cv0, lfS ct (fun j => (hsA g 1) (12 + j)) nt1, lfS ct (fun j => (hsA g 1) (8 + j)) cv1, lfS ct (fun j => (hsA g 2) (12 + j)) nt2, lfS ct (fun j => (hsA g 2) (8 + j)) cv2, lfS ct (fun j => (hsA g 3) (12 + j)) nt3, lfS ct (fun j => (hsA g 3) (8 + j)) cv3, lfP ct (fun j => (hsA g 0) (16 + j)) ps0, lfP ct (fun j => (hsA g 1) (16 + j)) ps1, lfP ct (fun j => (hsA g 2) (16 + j)) ps2, lfP ct (fun j => (hsA g 3) (16 + j)) ps3, lfK ct g] (LWs ct g am xo' nv rv h0 h1 h2 h3 nt0 cv0 nt1 cv1 nt2 cv2 nt3 cv3 ps0 ps1 ps2 ps3 mo) (LWs ct g am xo' nv rv h0 h1 h2 h3 nt0 cv0 nt1 cv1 nt2 cv2 nt3 cv3 ps0 ps1 ps2 ps3 mo') [20, 0, 1, 2, 3, 4, 5, 6, 7, 8, 9, 10, 11, 12, 13, 14, 15, 16, 17, 18, 19] 21 (by decide) rfl rfl rfl rfl) 92 rfl rfl ⟨Nat.le_of_ble_eq_true rfl, Nat.le_of_ble_eq_true rfl⟩ rfl hl.1 rfl (Nat.le_of_ble_eq_true rfl) dL_law_466 ⟨Nat.le_of_ble_eq_true rfl, Nat.le_of_ble_eq_true rfl⟩ (fun r9 w9 H locs hB hP hD hS => ?_)
  obtain ⟨rfl, rfl⟩ := hB
  refine W.widen (k := 107) (n := 2324) (Nat.le_of_ble_eq_true rfl) (Nat.le_of_ble_eq_true rfl) ?_
  refine W.eq (g2 := F0 m 469 ls [.int r, .int r]) rfl ?_
  refine lv_icmp_eq (tgt := 1095) hx hb dL_law_469 (by decide) (fun c1 => ?_) (fun c1 => absurd rfl c1)
  exact K xo' nv rv h0 h1 h2 h3 nt0 cv0 nt1 cv1 nt2 cv2 nt3 cv3 ps0 ps1 ps2 ps3 mo' hI _ _ ls hP hD hS hl
set_option maxHeartbeats 4000000 in
set_option maxRecDepth 100000 in
theorem law_about {p : Program} {l : Launch} {e : Env} {s : State} {m : MethodId} {below : List Frame} {meth : Method} {c : Code} {b L : Nat} {xs : Nat → Int32} {G : va_G} {ct : Nat → ClassId} {sk sv : Nat → Nat} {g am : Nat → Nat} {n : Nat} {INV : INVT} (C : LAWC l G ct sk sv p s m meth c b L xs) (S : SIM_about n INV) {i : Nat} (hi : i + 4 ≤ L) (K : LAt p l e s m below meth c b G ct g am INV i 1095) : LAt p l e s m below meth c b G ct g am INV i 474 := by
  obtain ⟨hx, hb, hr, hml, hown, hts, hK, hZ, hX, hbl, hlocks, hL2⟩ := C
  have hA : ∀ q : Nat, s.heap.size ≤ q → (fun q : Nat => s.heap.size ≤ q) q := fun _ h => h
  have hbA : ¬ (fun q : Nat => s.heap.size ≤ q) b := Nat.not_le.mpr hbl
  intro xo nv rv h0 h1 h2 h3 nt0 cv0 nt1 cv1 nt2 cv2 nt3 cv3 ps0 ps1 ps2 ps3 mo hI H locs ls hP hD hS hl
  refine lv_aload_n hx hb dL_law_474 rfl (lv_at hl 1 rfl) ?_
  refine lv_aload_n hx hb dL_law_475 rfl (lv_at hl 0 rfl) ?_
  refine lv_iload_n hx hb dL_law_476 rfl (lv_at hl 3 rfl) ?_
  refine lv_iconst (v := 1) hx hb dL_law_477 (by decide) ?_
  refine lv_iadd hx hb dL_law_478 ?_
  refine va_sld hx hb hX hbl hbA hS (scr_in hi hL2 (k := 1) (by decide) (by decide)) dL_law_479 ?_
  refine lv_aload_n hx hb dL_law_480 rfl (lv_at hl 0 rfl) ?_
  refine lv_iload_n hx hb dL_law_481 rfl (lv_at hl 3 rfl) ?_
  refine lv_iconst (v := 2) hx hb dL_law_482 (by decide) ?_
  refine lv_iadd hx hb dL_law_483 ?_
  refine va_sld hx hb hX hbl hbA hS (scr_in hi hL2 (k := 2) (by decide) (by decide)) dL_law_484 ?_
  obtain ⟨r, xo', mo', eq1, eq2, hI⟩ := S xo nv rv h0 h1 h2 h3 nt0 cv0 nt1 cv1 nt2 cv2 nt3 cv3 ps0 ps1 ps2 ps3 mo (xs (nI i + 1).toNatClampNeg) (xs (nI i + 2).toNatClampNeg) hI
  refine call_V (As := [.int (xs (nI i + 1).toNatClampNeg), .int (xs (nI i + 2).toNatClampNeg)]) (rest := []) hx hb hml hown hts hK hP hD hS hA hZ lkL_65 (Ctr.upL (c_X11_about l G ct sk sv g n xo h0 (xs (nI i + 1).toNatClampNeg) (xs (nI i + 2).toNatClampNeg) eq1) [lfN ct (fun j => g (10 + j)) nv, lfR ct (fun j => g (18 + j)) rv, lfH ct (hsA g 1) g h1, lfH ct (hsA g 2) g h2, lfH ct (hsA g 3) g h3, lfS ct (fun j => (hsA g 0) (12 + j)) nt0, lfS ct (fun j => (hsA g 0) (8 + j)) cv0, lfS ct (fun j => (hsA g 1) (12 + j)) nt1, lfS ct (fun j => (hsA g 1) (8 + j)) cv1, lfS ct (fun j => (hsA g 2) (12 + j)) nt2, lfS ct (fun j => (hsA g 2) (8 + j)) cv2, lfS ct (fun j => (hsA g 3) (12 + j)) nt3, lfS ct (fun j => (hsA g 3) (8 + j)) cv3, lfP ct (fun j => (hsA g 0) (16 + j)) ps0, lfP ct (fun j => (hsA g 1) (16 + j)) ps1, lfP ct (fun j => (hsA g 2) (16 + j)) ps2, lfP ct (fun j => (hsA g 3) (16 + j)) ps3, lfK ct g, lfM ct am mo] (LWs ct g am xo nv rv h0 h1 h2 h3 nt0 cv0 nt1 cv1 nt2 cv2 nt3 cv3 ps0 ps1 ps2 ps3 mo) (LWs ct g am xo' nv rv h0 h1 h2 h3 nt0 cv0 nt1 cv1 nt2 cv2 nt3 cv3 ps0 ps1 ps2 ps3 mo) [0, 3, 1, 2, 4, 5, 6, 7, 8, 9, 10, 11, 12, 13, 14, 15, 16, 17, 18, 19, 20] 21 (by decide) rfl rfl rfl rfl) 0 rfl rfl ⟨Nat.le_of_ble_eq_true rfl, Nat.le_of_ble_eq_true rfl⟩ rfl hl.1 rfl (Nat.le_of_ble_eq_true rfl) dL_law_485 ⟨Nat.le_of_ble_eq_true rfl, Nat.le_of_ble_eq_true rfl⟩ (fun r9 w9 H locs hB hP hD hS => ?_)
  obtain ⟨rfl, rfl⟩ := hB
  refine W.widen (k := 107) (n := 2324) (Nat.le_of_ble_eq_true rfl) (Nat.le_of_ble_eq_true rfl) ?_
  refine W.eq (g2 := F0 m 488 ls [.int r]) rfl ?_
  refine lv_aload_n hx hb dL_law_488 rfl (lv_at hl 2 rfl) ?_
  refine lv_aload_n hx hb dL_law_489 rfl (lv_at hl 0 rfl) ?_
  refine lv_iload_n hx hb dL_law_490 rfl (lv_at hl 3 rfl) ?_
  refine lv_iconst (v := 1) hx hb dL_law_491 (by decide) ?_
  refine lv_iadd hx hb dL_law_492 ?_
  refine va_sld hx hb hX hbl hbA hS (scr_in hi hL2 (k := 1) (by decide) (by decide)) dL_law_493 ?_
  refine lv_aload_n hx hb dL_law_494 rfl (lv_at hl 0 rfl) ?_
  refine lv_iload_n hx hb dL_law_495 rfl (lv_at hl 3 rfl) ?_
  refine lv_iconst (v := 2) hx hb dL_law_496 (by decide) ?_
  refine lv_iadd hx hb dL_law_497 ?_
  refine va_sld hx hb hX hbl hbA hS (scr_in hi hL2 (k := 2) (by decide) (by decide)) dL_law_498 ?_
  refine call_V (As := [.int (xs (nI i + 1).toNatClampNeg), .int (xs (nI i + 2).toNatClampNeg)]) (rest := [.int r]) hx hb hml hown hts hK hP hD hS hA hZ lkL_68 (Ctr.upL (c_X12_about l G ct sk sv am n mo (xs (nI i + 1).toNatClampNeg) (xs (nI i + 2).toNatClampNeg) eq2) [lfX ct g xo', lfN ct (fun j => g (10 + j)) nv, lfR ct (fun j => g (18 + j)) rv, lfH ct (hsA g 0) g h0, lfH ct (hsA g 1) g h1, lfH ct (hsA g 2) g h2, lfH ct (hsA g 3) g h3, lfS ct (fun j => (hsA g 0) (12 + j)) nt0, lfS ct (fun j => (hsA g 0) (8 + j)) cv0, lfS ct (fun j => (hsA g 1) (12 + j)) nt1, lfS ct (fun j => (hsA g 1) (8 + j)) cv1, lfS ct (fun j => (hsA g 2) (12 + j)) nt2, lfS ct (fun j => (hsA g 2) (8 + j)) cv2, lfS ct (fun j => (hsA g 3) (12 + j)) nt3, lfS ct (fun j => (hsA g 3) (8 + j)) cv3, lfP ct (fun j => (hsA g 0) (16 + j)) ps0, lfP ct (fun j => (hsA g 1) (16 + j)) ps1, lfP ct (fun j => (hsA g 2) (16 + j)) ps2, lfP ct (fun j => (hsA g 3) (16 + j)) ps3, lfK ct g] (LWs ct g am xo' nv rv h0 h1 h2 h3 nt0 cv0 nt1 cv1 nt2 cv2 nt3 cv3 ps0 ps1 ps2 ps3 mo) (LWs ct g am xo' nv rv h0 h1 h2 h3 nt0 cv0 nt1 cv1 nt2 cv2 nt3 cv3 ps0 ps1 ps2 ps3 mo') [20, 0, 1, 2, 3, 4, 5, 6, 7, 8, 9, 10, 11, 12, 13, 14, 15, 16, 17, 18, 19] 21 (by decide) rfl rfl rfl rfl) 92 rfl rfl ⟨Nat.le_of_ble_eq_true rfl, Nat.le_of_ble_eq_true rfl⟩ rfl hl.1 rfl (Nat.le_of_ble_eq_true rfl) dL_law_499 ⟨Nat.le_of_ble_eq_true rfl, Nat.le_of_ble_eq_true rfl⟩ (fun r9 w9 H locs hB hP hD hS => ?_)
  obtain ⟨rfl, rfl⟩ := hB
  refine W.widen (k := 107) (n := 2324) (Nat.le_of_ble_eq_true rfl) (Nat.le_of_ble_eq_true rfl) ?_
  refine W.eq (g2 := F0 m 502 ls [.int r, .int r]) rfl ?_
  refine lv_icmp_eq (tgt := 1095) hx hb dL_law_502 (by decide) (fun c1 => ?_) (fun c1 => absurd rfl c1)
  exact K xo' nv rv h0 h1 h2 h3 nt0 cv0 nt1 cv1 nt2 cv2 nt3 cv3 ps0 ps1 ps2 ps3 mo' hI _ _ ls hP hD hS hl
set_option maxHeartbeats 4000000 in
set_option maxRecDepth 100000 in
theorem law_now {p : Program} {l : Launch} {e : Env} {s : State} {m : MethodId} {below : List Frame} {meth : Method} {c : Code} {b L : Nat} {xs : Nat → Int32} {G : va_G} {ct : Nat → ClassId} {sk sv : Nat → Nat} {g am : Nat → Nat} {n : Nat} {INV : INVT} (C : LAWC l G ct sk sv p s m meth c b L xs) (S : SIM_now n INV) {i : Nat} (hi : i + 4 ≤ L) (K : LAt p l e s m below meth c b G ct g am INV i 1095) : LAt p l e s m below meth c b G ct g am INV i 507 := by
  obtain ⟨hx, hb, hr, hml, hown, hts, hK, hZ, hX, hbl, hlocks, hL2⟩ := C
  have hA : ∀ q : Nat, s.heap.size ≤ q → (fun q : Nat => s.heap.size ≤ q) q := fun _ h => h
  have hbA : ¬ (fun q : Nat => s.heap.size ≤ q) b := Nat.not_le.mpr hbl
  intro xo nv rv h0 h1 h2 h3 nt0 cv0 nt1 cv1 nt2 cv2 nt3 cv3 ps0 ps1 ps2 ps3 mo hI H locs ls hP hD hS hl
  refine lv_aload_n hx hb dL_law_507 rfl (lv_at hl 1 rfl) ?_
  refine lv_aload_n hx hb dL_law_508 rfl (lv_at hl 0 rfl) ?_
  refine lv_iload_n hx hb dL_law_509 rfl (lv_at hl 3 rfl) ?_
  refine lv_iconst (v := 1) hx hb dL_law_510 (by decide) ?_
  refine lv_iadd hx hb dL_law_511 ?_
  refine va_sld hx hb hX hbl hbA hS (scr_in hi hL2 (k := 1) (by decide) (by decide)) dL_law_512 ?_
  obtain ⟨r, xo', mo', eq1, eq2, hI⟩ := S xo nv rv h0 h1 h2 h3 nt0 cv0 nt1 cv1 nt2 cv2 nt3 cv3 ps0 ps1 ps2 ps3 mo (xs (nI i + 1).toNatClampNeg) hI
  refine call_V (As := [.int (xs (nI i + 1).toNatClampNeg)]) (rest := []) hx hb hml hown hts hK hP hD hS hA hZ lkL_69 (Ctr.upL (c_X11_now l G ct sk sv g n xo h0 (xs (nI i + 1).toNatClampNeg) eq1) [lfN ct (fun j => g (10 + j)) nv, lfR ct (fun j => g (18 + j)) rv, lfH ct (hsA g 1) g h1, lfH ct (hsA g 2) g h2, lfH ct (hsA g 3) g h3, lfS ct (fun j => (hsA g 0) (12 + j)) nt0, lfS ct (fun j => (hsA g 0) (8 + j)) cv0, lfS ct (fun j => (hsA g 1) (12 + j)) nt1, lfS ct (fun j => (hsA g 1) (8 + j)) cv1, lfS ct (fun j => (hsA g 2) (12 + j)) nt2, lfS ct (fun j => (hsA g 2) (8 + j)) cv2, lfS ct (fun j => (hsA g 3) (12 + j)) nt3, lfS ct (fun j => (hsA g 3) (8 + j)) cv3, lfP ct (fun j => (hsA g 0) (16 + j)) ps0, lfP ct (fun j => (hsA g 1) (16 + j)) ps1, lfP ct (fun j => (hsA g 2) (16 + j)) ps2, lfP ct (fun j => (hsA g 3) (16 + j)) ps3, lfK ct g, lfM ct am mo] (LWs ct g am xo nv rv h0 h1 h2 h3 nt0 cv0 nt1 cv1 nt2 cv2 nt3 cv3 ps0 ps1 ps2 ps3 mo) (LWs ct g am xo' nv rv h0 h1 h2 h3 nt0 cv0 nt1 cv1 nt2 cv2 nt3 cv3 ps0 ps1 ps2 ps3 mo) [0, 3, 1, 2, 4, 5, 6, 7, 8, 9, 10, 11, 12, 13, 14, 15, 16, 17, 18, 19, 20] 21 (by decide) rfl rfl rfl rfl) 0 rfl rfl ⟨Nat.le_of_ble_eq_true rfl, Nat.le_of_ble_eq_true rfl⟩ rfl hl.1 rfl (Nat.le_of_ble_eq_true rfl) dL_law_513 ⟨Nat.le_of_ble_eq_true rfl, Nat.le_of_ble_eq_true rfl⟩ (fun r9 w9 H locs hB hP hD hS => ?_)
  obtain ⟨rfl, rfl⟩ := hB
  refine W.widen (k := 107) (n := 2324) (Nat.le_of_ble_eq_true rfl) (Nat.le_of_ble_eq_true rfl) ?_
  refine W.eq (g2 := F0 m 516 ls [.int r]) rfl ?_
  refine lv_aload_n hx hb dL_law_516 rfl (lv_at hl 2 rfl) ?_
  refine lv_aload_n hx hb dL_law_517 rfl (lv_at hl 0 rfl) ?_
  refine lv_iload_n hx hb dL_law_518 rfl (lv_at hl 3 rfl) ?_
  refine lv_iconst (v := 1) hx hb dL_law_519 (by decide) ?_
  refine lv_iadd hx hb dL_law_520 ?_
  refine va_sld hx hb hX hbl hbA hS (scr_in hi hL2 (k := 1) (by decide) (by decide)) dL_law_521 ?_
  refine call_V (As := [.int (xs (nI i + 1).toNatClampNeg)]) (rest := [.int r]) hx hb hml hown hts hK hP hD hS hA hZ lkL_72 (Ctr.upL (c_X12_now l G ct sk sv am n mo (xs (nI i + 1).toNatClampNeg) eq2) [lfX ct g xo', lfN ct (fun j => g (10 + j)) nv, lfR ct (fun j => g (18 + j)) rv, lfH ct (hsA g 0) g h0, lfH ct (hsA g 1) g h1, lfH ct (hsA g 2) g h2, lfH ct (hsA g 3) g h3, lfS ct (fun j => (hsA g 0) (12 + j)) nt0, lfS ct (fun j => (hsA g 0) (8 + j)) cv0, lfS ct (fun j => (hsA g 1) (12 + j)) nt1, lfS ct (fun j => (hsA g 1) (8 + j)) cv1, lfS ct (fun j => (hsA g 2) (12 + j)) nt2, lfS ct (fun j => (hsA g 2) (8 + j)) cv2, lfS ct (fun j => (hsA g 3) (12 + j)) nt3, lfS ct (fun j => (hsA g 3) (8 + j)) cv3, lfP ct (fun j => (hsA g 0) (16 + j)) ps0, lfP ct (fun j => (hsA g 1) (16 + j)) ps1, lfP ct (fun j => (hsA g 2) (16 + j)) ps2, lfP ct (fun j => (hsA g 3) (16 + j)) ps3, lfK ct g] (LWs ct g am xo' nv rv h0 h1 h2 h3 nt0 cv0 nt1 cv1 nt2 cv2 nt3 cv3 ps0 ps1 ps2 ps3 mo) (LWs ct g am xo' nv rv h0 h1 h2 h3 nt0 cv0 nt1 cv1 nt2 cv2 nt3 cv3 ps0 ps1 ps2 ps3 mo') [20, 0, 1, 2, 3, 4, 5, 6, 7, 8, 9, 10, 11, 12, 13, 14, 15, 16, 17, 18, 19] 21 (by decide) rfl rfl rfl rfl) 92 rfl rfl ⟨Nat.le_of_ble_eq_true rfl, Nat.le_of_ble_eq_true rfl⟩ rfl hl.1 rfl (Nat.le_of_ble_eq_true rfl) dL_law_522 ⟨Nat.le_of_ble_eq_true rfl, Nat.le_of_ble_eq_true rfl⟩ (fun r9 w9 H locs hB hP hD hS => ?_)
  obtain ⟨rfl, rfl⟩ := hB
  refine W.widen (k := 107) (n := 2324) (Nat.le_of_ble_eq_true rfl) (Nat.le_of_ble_eq_true rfl) ?_
  refine W.eq (g2 := F0 m 525 ls [.int r, .int r]) rfl ?_
  refine lv_icmp_eq (tgt := 1095) hx hb dL_law_525 (by decide) (fun c1 => ?_) (fun c1 => absurd rfl c1)
  exact K xo' nv rv h0 h1 h2 h3 nt0 cv0 nt1 cv1 nt2 cv2 nt3 cv3 ps0 ps1 ps2 ps3 mo' hI _ _ ls hP hD hS hl
set_option maxHeartbeats 4000000 in
set_option maxRecDepth 100000 in
theorem law_may {p : Program} {l : Launch} {e : Env} {s : State} {m : MethodId} {below : List Frame} {meth : Method} {c : Code} {b L : Nat} {xs : Nat → Int32} {G : va_G} {ct : Nat → ClassId} {sk sv : Nat → Nat} {g am : Nat → Nat} {n : Nat} {INV : INVT} (C : LAWC l G ct sk sv p s m meth c b L xs) (S : SIM_may n INV) {i : Nat} (hi : i + 4 ≤ L) (K : LAt p l e s m below meth c b G ct g am INV i 1095) : LAt p l e s m below meth c b G ct g am INV i 530 := by
  obtain ⟨hx, hb, hr, hml, hown, hts, hK, hZ, hX, hbl, hlocks, hL2⟩ := C
  have hA : ∀ q : Nat, s.heap.size ≤ q → (fun q : Nat => s.heap.size ≤ q) q := fun _ h => h
  have hbA : ¬ (fun q : Nat => s.heap.size ≤ q) b := Nat.not_le.mpr hbl
  intro xo nv rv h0 h1 h2 h3 nt0 cv0 nt1 cv1 nt2 cv2 nt3 cv3 ps0 ps1 ps2 ps3 mo hI H locs ls hP hD hS hl
  refine lv_aload_n hx hb dL_law_530 rfl (lv_at hl 1 rfl) ?_
  refine lv_aload_n hx hb dL_law_531 rfl (lv_at hl 0 rfl) ?_
  refine lv_iload_n hx hb dL_law_532 rfl (lv_at hl 3 rfl) ?_
  refine lv_iconst (v := 1) hx hb dL_law_533 (by decide) ?_
  refine lv_iadd hx hb dL_law_534 ?_
  refine va_sld hx hb hX hbl hbA hS (scr_in hi hL2 (k := 1) (by decide) (by decide)) dL_law_535 ?_
  obtain ⟨r, xo', mo', eq1, eq2, hI⟩ := S xo nv rv h0 h1 h2 h3 nt0 cv0 nt1 cv1 nt2 cv2 nt3 cv3 ps0 ps1 ps2 ps3 mo (xs (nI i + 1).toNatClampNeg) hI
  refine call_V (As := [.int (xs (nI i + 1).toNatClampNeg)]) (rest := []) hx hb hml hown hts hK hP hD hS hA hZ lkL_73 (Ctr.upL (c_X11_may l G ct sk sv g n xo h0 (xs (nI i + 1).toNatClampNeg) eq1) [lfN ct (fun j => g (10 + j)) nv, lfR ct (fun j => g (18 + j)) rv, lfH ct (hsA g 1) g h1, lfH ct (hsA g 2) g h2, lfH ct (hsA g 3) g h3, lfS ct (fun j => (hsA g 0) (12 + j)) nt0, lfS ct (fun j => (hsA g 0) (8 + j)) cv0, lfS ct (fun j => (hsA g 1) (12 + j)) nt1, lfS ct (fun j => (hsA g 1) (8 + j)) cv1, lfS ct (fun j => (hsA g 2) (12 + j)) nt2, lfS ct (fun j => (hsA g 2) (8 + j)) cv2, lfS ct (fun j => (hsA g 3) (12 + j)) nt3, lfS ct (fun j => (hsA g 3) (8 + j)) cv3, lfP ct (fun j => (hsA g 0) (16 + j)) ps0, lfP ct (fun j => (hsA g 1) (16 + j)) ps1, lfP ct (fun j => (hsA g 2) (16 + j)) ps2, lfP ct (fun j => (hsA g 3) (16 + j)) ps3, lfM ct am mo] (LWs ct g am xo nv rv h0 h1 h2 h3 nt0 cv0 nt1 cv1 nt2 cv2 nt3 cv3 ps0 ps1 ps2 ps3 mo) (LWs ct g am xo' nv rv h0 h1 h2 h3 nt0 cv0 nt1 cv1 nt2 cv2 nt3 cv3 ps0 ps1 ps2 ps3 mo) [0, 3, 19, 1, 2, 4, 5, 6, 7, 8, 9, 10, 11, 12, 13, 14, 15, 16, 17, 18, 20] 21 (by decide) rfl rfl rfl rfl) 0 rfl rfl ⟨Nat.le_of_ble_eq_true rfl, Nat.le_of_ble_eq_true rfl⟩ rfl hl.1 rfl (Nat.le_of_ble_eq_true rfl) dL_law_536 ⟨Nat.le_of_ble_eq_true rfl, Nat.le_of_ble_eq_true rfl⟩ (fun r9 w9 H locs hB hP hD hS => ?_)
  obtain ⟨rfl, rfl⟩ := hB
  refine W.widen (k := 107) (n := 2324) (Nat.le_of_ble_eq_true rfl) (Nat.le_of_ble_eq_true rfl) ?_
  refine W.eq (g2 := F0 m 539 ls [.int r]) rfl ?_
  refine lv_aload_n hx hb dL_law_539 rfl (lv_at hl 2 rfl) ?_
  refine lv_aload_n hx hb dL_law_540 rfl (lv_at hl 0 rfl) ?_
  refine lv_iload_n hx hb dL_law_541 rfl (lv_at hl 3 rfl) ?_
  refine lv_iconst (v := 1) hx hb dL_law_542 (by decide) ?_
  refine lv_iadd hx hb dL_law_543 ?_
  refine va_sld hx hb hX hbl hbA hS (scr_in hi hL2 (k := 1) (by decide) (by decide)) dL_law_544 ?_
  refine call_V (As := [.int (xs (nI i + 1).toNatClampNeg)]) (rest := [.int r]) hx hb hml hown hts hK hP hD hS hA hZ lkL_76 (Ctr.upL (c_X12_may l G ct sk sv am n mo (xs (nI i + 1).toNatClampNeg) eq2) [lfX ct g xo', lfN ct (fun j => g (10 + j)) nv, lfR ct (fun j => g (18 + j)) rv, lfH ct (hsA g 0) g h0, lfH ct (hsA g 1) g h1, lfH ct (hsA g 2) g h2, lfH ct (hsA g 3) g h3, lfS ct (fun j => (hsA g 0) (12 + j)) nt0, lfS ct (fun j => (hsA g 0) (8 + j)) cv0, lfS ct (fun j => (hsA g 1) (12 + j)) nt1, lfS ct (fun j => (hsA g 1) (8 + j)) cv1, lfS ct (fun j => (hsA g 2) (12 + j)) nt2, lfS ct (fun j => (hsA g 2) (8 + j)) cv2, lfS ct (fun j => (hsA g 3) (12 + j)) nt3, lfS ct (fun j => (hsA g 3) (8 + j)) cv3, lfP ct (fun j => (hsA g 0) (16 + j)) ps0, lfP ct (fun j => (hsA g 1) (16 + j)) ps1, lfP ct (fun j => (hsA g 2) (16 + j)) ps2, lfP ct (fun j => (hsA g 3) (16 + j)) ps3, lfK ct g] (LWs ct g am xo' nv rv h0 h1 h2 h3 nt0 cv0 nt1 cv1 nt2 cv2 nt3 cv3 ps0 ps1 ps2 ps3 mo) (LWs ct g am xo' nv rv h0 h1 h2 h3 nt0 cv0 nt1 cv1 nt2 cv2 nt3 cv3 ps0 ps1 ps2 ps3 mo') [20, 0, 1, 2, 3, 4, 5, 6, 7, 8, 9, 10, 11, 12, 13, 14, 15, 16, 17, 18, 19] 21 (by decide) rfl rfl rfl rfl) 92 rfl rfl ⟨Nat.le_of_ble_eq_true rfl, Nat.le_of_ble_eq_true rfl⟩ rfl hl.1 rfl (Nat.le_of_ble_eq_true rfl) dL_law_545 ⟨Nat.le_of_ble_eq_true rfl, Nat.le_of_ble_eq_true rfl⟩ (fun r9 w9 H locs hB hP hD hS => ?_)
  obtain ⟨rfl, rfl⟩ := hB
  refine W.widen (k := 107) (n := 2324) (Nat.le_of_ble_eq_true rfl) (Nat.le_of_ble_eq_true rfl) ?_
  refine W.eq (g2 := F0 m 548 ls [.int r, .int r]) rfl ?_
  refine lv_icmp_eq (tgt := 1095) hx hb dL_law_548 (by decide) (fun c1 => ?_) (fun c1 => absurd rfl c1)
  exact K xo' nv rv h0 h1 h2 h3 nt0 cv0 nt1 cv1 nt2 cv2 nt3 cv3 ps0 ps1 ps2 ps3 mo' hI _ _ ls hP hD hS hl
set_option maxHeartbeats 4000000 in
set_option maxRecDepth 100000 in
theorem law_all {p : Program} {l : Launch} {e : Env} {s : State} {m : MethodId} {below : List Frame} {meth : Method} {c : Code} {b L : Nat} {xs : Nat → Int32} {G : va_G} {ct : Nat → ClassId} {sk sv : Nat → Nat} {g am : Nat → Nat} {n : Nat} {INV : INVT} (C : LAWC l G ct sk sv p s m meth c b L xs) (S : SIM_all n INV) {i : Nat} (hi : i + 4 ≤ L) (K : LAt p l e s m below meth c b G ct g am INV i 1095) : LAt p l e s m below meth c b G ct g am INV i 553 := by
  obtain ⟨hx, hb, hr, hml, hown, hts, hK, hZ, hX, hbl, hlocks, hL2⟩ := C
  have hA : ∀ q : Nat, s.heap.size ≤ q → (fun q : Nat => s.heap.size ≤ q) q := fun _ h => h
  have hbA : ¬ (fun q : Nat => s.heap.size ≤ q) b := Nat.not_le.mpr hbl
  intro xo nv rv h0 h1 h2 h3 nt0 cv0 nt1 cv1 nt2 cv2 nt3 cv3 ps0 ps1 ps2 ps3 mo hI H locs ls hP hD hS hl
  refine lv_aload_n hx hb dL_law_553 rfl (lv_at hl 1 rfl) ?_
  refine lv_aload_n hx hb dL_law_554 rfl (lv_at hl 0 rfl) ?_
  refine lv_iload_n hx hb dL_law_555 rfl (lv_at hl 3 rfl) ?_
  refine lv_iconst (v := 1) hx hb dL_law_556 (by decide) ?_
  refine lv_iadd hx hb dL_law_557 ?_
  refine va_sld hx hb hX hbl hbA hS (scr_in hi hL2 (k := 1) (by decide) (by decide)) dL_law_558 ?_
  obtain ⟨r, xo', nv', mo', eq1, eq2, hI⟩ := S xo nv rv h0 h1 h2 h3 nt0 cv0 nt1 cv1 nt2 cv2 nt3 cv3 ps0 ps1 ps2 ps3 mo (xs (nI i + 1).toNatClampNeg) hI
  refine call_V (As := [.int (xs (nI i + 1).toNatClampNeg)]) (rest := []) hx hb hml hown hts hK hP hD hS hA hZ lkL_77 (Ctr.upL (c_X11_all l G ct sk sv g n xo nv h0 (xs (nI i + 1).toNatClampNeg) eq1) [lfR ct (fun j => g (18 + j)) rv, lfH ct (hsA g 1) g h1, lfH ct (hsA g 2) g h2, lfH ct (hsA g 3) g h3, lfS ct (fun j => (hsA g 0) (12 + j)) nt0, lfS ct (fun j => (hsA g 0) (8 + j)) cv0, lfS ct (fun j => (hsA g 1) (12 + j)) nt1, lfS ct (fun j => (hsA g 1) (8 + j)) cv1, lfS ct (fun j => (hsA g 2) (12 + j)) nt2, lfS ct (fun j => (hsA g 2) (8 + j)) cv2, lfS ct (fun j => (hsA g 3) (12 + j)) nt3, lfS ct (fun j => (hsA g 3) (8 + j)) cv3, lfP ct (fun j => (hsA g 0) (16 + j)) ps0, lfP ct (fun j => (hsA g 1) (16 + j)) ps1, lfP ct (fun j => (hsA g 2) (16 + j)) ps2, lfP ct (fun j => (hsA g 3) (16 + j)) ps3, lfM ct am mo] (LWs ct g am xo nv rv h0 h1 h2 h3 nt0 cv0 nt1 cv1 nt2 cv2 nt3 cv3 ps0 ps1 ps2 ps3 mo) (LWs ct g am xo' nv' rv h0 h1 h2 h3 nt0 cv0 nt1 cv1 nt2 cv2 nt3 cv3 ps0 ps1 ps2 ps3 mo) [0, 1, 3, 19, 2, 4, 5, 6, 7, 8, 9, 10, 11, 12, 13, 14, 15, 16, 17, 18, 20] 21 (by decide) rfl rfl rfl rfl) 0 rfl rfl ⟨Nat.le_of_ble_eq_true rfl, Nat.le_of_ble_eq_true rfl⟩ rfl hl.1 rfl (Nat.le_of_ble_eq_true rfl) dL_law_559 ⟨Nat.le_of_ble_eq_true rfl, Nat.le_of_ble_eq_true rfl⟩ (fun r9 w9 H locs hB hP hD hS => ?_)
  obtain ⟨rfl, rfl⟩ := hB
  refine W.widen (k := 107) (n := 2324) (Nat.le_of_ble_eq_true rfl) (Nat.le_of_ble_eq_true rfl) ?_
  refine W.eq (g2 := F0 m 562 ls [.int r]) rfl ?_
  refine lv_aload_n hx hb dL_law_562 rfl (lv_at hl 2 rfl) ?_
  refine lv_aload_n hx hb dL_law_563 rfl (lv_at hl 0 rfl) ?_
  refine lv_iload_n hx hb dL_law_564 rfl (lv_at hl 3 rfl) ?_
  refine lv_iconst (v := 1) hx hb dL_law_565 (by decide) ?_
  refine lv_iadd hx hb dL_law_566 ?_
  refine va_sld hx hb hX hbl hbA hS (scr_in hi hL2 (k := 1) (by decide) (by decide)) dL_law_567 ?_
  refine call_V (As := [.int (xs (nI i + 1).toNatClampNeg)]) (rest := [.int r]) hx hb hml hown hts hK hP hD hS hA hZ lkL_80 (Ctr.upL (c_X12_all l G ct sk sv am n mo (xs (nI i + 1).toNatClampNeg) eq2) [lfX ct g xo', lfN ct (fun j => g (10 + j)) nv', lfR ct (fun j => g (18 + j)) rv, lfH ct (hsA g 0) g h0, lfH ct (hsA g 1) g h1, lfH ct (hsA g 2) g h2, lfH ct (hsA g 3) g h3, lfS ct (fun j => (hsA g 0) (12 + j)) nt0, lfS ct (fun j => (hsA g 0) (8 + j)) cv0, lfS ct (fun j => (hsA g 1) (12 + j)) nt1, lfS ct (fun j => (hsA g 1) (8 + j)) cv1, lfS ct (fun j => (hsA g 2) (12 + j)) nt2, lfS ct (fun j => (hsA g 2) (8 + j)) cv2, lfS ct (fun j => (hsA g 3) (12 + j)) nt3, lfS ct (fun j => (hsA g 3) (8 + j)) cv3, lfP ct (fun j => (hsA g 0) (16 + j)) ps0, lfP ct (fun j => (hsA g 1) (16 + j)) ps1, lfP ct (fun j => (hsA g 2) (16 + j)) ps2, lfP ct (fun j => (hsA g 3) (16 + j)) ps3, lfK ct g] (LWs ct g am xo' nv' rv h0 h1 h2 h3 nt0 cv0 nt1 cv1 nt2 cv2 nt3 cv3 ps0 ps1 ps2 ps3 mo) (LWs ct g am xo' nv' rv h0 h1 h2 h3 nt0 cv0 nt1 cv1 nt2 cv2 nt3 cv3 ps0 ps1 ps2 ps3 mo') [20, 0, 1, 2, 3, 4, 5, 6, 7, 8, 9, 10, 11, 12, 13, 14, 15, 16, 17, 18, 19] 21 (by decide) rfl rfl rfl rfl) 92 rfl rfl ⟨Nat.le_of_ble_eq_true rfl, Nat.le_of_ble_eq_true rfl⟩ rfl hl.1 rfl (Nat.le_of_ble_eq_true rfl) dL_law_568 ⟨Nat.le_of_ble_eq_true rfl, Nat.le_of_ble_eq_true rfl⟩ (fun r9 w9 H locs hB hP hD hS => ?_)
  obtain ⟨rfl, rfl⟩ := hB
  refine W.widen (k := 107) (n := 2324) (Nat.le_of_ble_eq_true rfl) (Nat.le_of_ble_eq_true rfl) ?_
  refine W.eq (g2 := F0 m 571 ls [.int r, .int r]) rfl ?_
  refine lv_icmp_eq (tgt := 1095) hx hb dL_law_571 (by decide) (fun c1 => ?_) (fun c1 => absurd rfl c1)
  exact K xo' nv' rv h0 h1 h2 h3 nt0 cv0 nt1 cv1 nt2 cv2 nt3 cv3 ps0 ps1 ps2 ps3 mo' hI _ _ ls hP hD hS hl
set_option maxHeartbeats 4000000 in
set_option maxRecDepth 100000 in
theorem law_fewest {p : Program} {l : Launch} {e : Env} {s : State} {m : MethodId} {below : List Frame} {meth : Method} {c : Code} {b L : Nat} {xs : Nat → Int32} {G : va_G} {ct : Nat → ClassId} {sk sv : Nat → Nat} {g am : Nat → Nat} {n : Nat} {INV : INVT} (C : LAWC l G ct sk sv p s m meth c b L xs) (S : SIM_fewest n INV) {i : Nat} (hi : i + 4 ≤ L) (K : LAt p l e s m below meth c b G ct g am INV i 1095) : LAt p l e s m below meth c b G ct g am INV i 576 := by
  obtain ⟨hx, hb, hr, hml, hown, hts, hK, hZ, hX, hbl, hlocks, hL2⟩ := C
  have hA : ∀ q : Nat, s.heap.size ≤ q → (fun q : Nat => s.heap.size ≤ q) q := fun _ h => h
  have hbA : ¬ (fun q : Nat => s.heap.size ≤ q) b := Nat.not_le.mpr hbl
  intro xo nv rv h0 h1 h2 h3 nt0 cv0 nt1 cv1 nt2 cv2 nt3 cv3 ps0 ps1 ps2 ps3 mo hI H locs ls hP hD hS hl
  refine lv_aload_n hx hb dL_law_576 rfl (lv_at hl 1 rfl) ?_
  obtain ⟨r, nv', mo', eq1, eq2, hI⟩ := S xo nv rv h0 h1 h2 h3 nt0 cv0 nt1 cv1 nt2 cv2 nt3 cv3 ps0 ps1 ps2 ps3 mo  hI
  refine call_V (As := []) (rest := []) hx hb hml hown hts hK hP hD hS hA hZ lkL_81 (Ctr.upL (c_X11_fewest l G ct sk sv g n xo nv h0  eq1) [lfR ct (fun j => g (18 + j)) rv, lfH ct (hsA g 1) g h1, lfH ct (hsA g 2) g h2, lfH ct (hsA g 3) g h3, lfS ct (fun j => (hsA g 0) (12 + j)) nt0, lfS ct (fun j => (hsA g 0) (8 + j)) cv0, lfS ct (fun j => (hsA g 1) (12 + j)) nt1, lfS ct (fun j => (hsA g 1) (8 + j)) cv1, lfS ct (fun j => (hsA g 2) (12 + j)) nt2, lfS ct (fun j => (hsA g 2) (8 + j)) cv2, lfS ct (fun j => (hsA g 3) (12 + j)) nt3, lfS ct (fun j => (hsA g 3) (8 + j)) cv3, lfP ct (fun j => (hsA g 0) (16 + j)) ps0, lfP ct (fun j => (hsA g 1) (16 + j)) ps1, lfP ct (fun j => (hsA g 2) (16 + j)) ps2, lfP ct (fun j => (hsA g 3) (16 + j)) ps3, lfM ct am mo] (LWs ct g am xo nv rv h0 h1 h2 h3 nt0 cv0 nt1 cv1 nt2 cv2 nt3 cv3 ps0 ps1 ps2 ps3 mo) (LWs ct g am xo nv' rv h0 h1 h2 h3 nt0 cv0 nt1 cv1 nt2 cv2 nt3 cv3 ps0 ps1 ps2 ps3 mo) [0, 1, 3, 19, 2, 4, 5, 6, 7, 8, 9, 10, 11, 12, 13, 14, 15, 16, 17, 18, 20] 21 (by decide) rfl rfl rfl rfl) 0 rfl rfl ⟨Nat.le_of_ble_eq_true rfl, Nat.le_of_ble_eq_true rfl⟩ rfl hl.1 rfl (Nat.le_of_ble_eq_true rfl) dL_law_577 ⟨Nat.le_of_ble_eq_true rfl, Nat.le_of_ble_eq_true rfl⟩ (fun r9 w9 H locs hB hP hD hS => ?_)
  obtain ⟨rfl, rfl⟩ := hB
  refine W.widen (k := 107) (n := 2324) (Nat.le_of_ble_eq_true rfl) (Nat.le_of_ble_eq_true rfl) ?_
  refine W.eq (g2 := F0 m 580 ls [.int r]) rfl ?_
  refine lv_aload_n hx hb dL_law_580 rfl (lv_at hl 2 rfl) ?_
  refine call_V (As := []) (rest := [.int r]) hx hb hml hown hts hK hP hD hS hA hZ lkL_84 (Ctr.upL (c_X12_fewest l G ct sk sv am n mo  eq2) [lfX ct g xo, lfN ct (fun j => g (10 + j)) nv', lfR ct (fun j => g (18 + j)) rv, lfH ct (hsA g 0) g h0, lfH ct (hsA g 1) g h1, lfH ct (hsA g 2) g h2, lfH ct (hsA g 3) g h3, lfS ct (fun j => (hsA g 0) (12 + j)) nt0, lfS ct (fun j => (hsA g 0) (8 + j)) cv0, lfS ct (fun j => (hsA g 1) (12 + j)) nt1, lfS ct (fun j => (hsA g 1) (8 + j)) cv1, lfS ct (fun j => (hsA g 2) (12 + j)) nt2, lfS ct (fun j => (hsA g 2) (8 + j)) cv2, lfS ct (fun j => (hsA g 3) (12 + j)) nt3, lfS ct (fun j => (hsA g 3) (8 + j)) cv3, lfP ct (fun j => (hsA g 0) (16 + j)) ps0, lfP ct (fun j => (hsA g 1) (16 + j)) ps1, lfP ct (fun j => (hsA g 2) (16 + j)) ps2, lfP ct (fun j => (hsA g 3) (16 + j)) ps3, lfK ct g] (LWs ct g am xo nv' rv h0 h1 h2 h3 nt0 cv0 nt1 cv1 nt2 cv2 nt3 cv3 ps0 ps1 ps2 ps3 mo) (LWs ct g am xo nv' rv h0 h1 h2 h3 nt0 cv0 nt1 cv1 nt2 cv2 nt3 cv3 ps0 ps1 ps2 ps3 mo') [20, 0, 1, 2, 3, 4, 5, 6, 7, 8, 9, 10, 11, 12, 13, 14, 15, 16, 17, 18, 19] 21 (by decide) rfl rfl rfl rfl) 92 rfl rfl ⟨Nat.le_of_ble_eq_true rfl, Nat.le_of_ble_eq_true rfl⟩ rfl hl.1 rfl (Nat.le_of_ble_eq_true rfl) dL_law_581 ⟨Nat.le_of_ble_eq_true rfl, Nat.le_of_ble_eq_true rfl⟩ (fun r9 w9 H locs hB hP hD hS => ?_)
  obtain ⟨rfl, rfl⟩ := hB
  refine W.widen (k := 107) (n := 2324) (Nat.le_of_ble_eq_true rfl) (Nat.le_of_ble_eq_true rfl) ?_
  refine W.eq (g2 := F0 m 584 ls [.int r, .int r]) rfl ?_
  refine lv_icmp_eq (tgt := 1095) hx hb dL_law_584 (by decide) (fun c1 => ?_) (fun c1 => absurd rfl c1)
  exact K xo nv' rv h0 h1 h2 h3 nt0 cv0 nt1 cv1 nt2 cv2 nt3 cv3 ps0 ps1 ps2 ps3 mo' hI _ _ ls hP hD hS hl
set_option maxHeartbeats 4000000 in
set_option maxRecDepth 100000 in
theorem law_stand {p : Program} {l : Launch} {e : Env} {s : State} {m : MethodId} {below : List Frame} {meth : Method} {c : Code} {b L : Nat} {xs : Nat → Int32} {G : va_G} {ct : Nat → ClassId} {sk sv : Nat → Nat} {g am : Nat → Nat} {n : Nat} {INV : INVT} (C : LAWC l G ct sk sv p s m meth c b L xs) (S : SIM_stand n INV) {i : Nat} (hi : i + 4 ≤ L) (K : LAt p l e s m below meth c b G ct g am INV i 1095) : LAt p l e s m below meth c b G ct g am INV i 589 := by
  obtain ⟨hx, hb, hr, hml, hown, hts, hK, hZ, hX, hbl, hlocks, hL2⟩ := C
  have hA : ∀ q : Nat, s.heap.size ≤ q → (fun q : Nat => s.heap.size ≤ q) q := fun _ h => h
  have hbA : ¬ (fun q : Nat => s.heap.size ≤ q) b := Nat.not_le.mpr hbl
  intro xo nv rv h0 h1 h2 h3 nt0 cv0 nt1 cv1 nt2 cv2 nt3 cv3 ps0 ps1 ps2 ps3 mo hI H locs ls hP hD hS hl
  refine lv_aload_n hx hb dL_law_589 rfl (lv_at hl 1 rfl) ?_
  refine lv_aload_n hx hb dL_law_590 rfl (lv_at hl 0 rfl) ?_
  refine lv_iload_n hx hb dL_law_591 rfl (lv_at hl 3 rfl) ?_
  refine lv_iconst (v := 1) hx hb dL_law_592 (by decide) ?_
  refine lv_iadd hx hb dL_law_593 ?_
  refine va_sld hx hb hX hbl hbA hS (scr_in hi hL2 (k := 1) (by decide) (by decide)) dL_law_594 ?_
  refine lv_aload_n hx hb dL_law_595 rfl (lv_at hl 0 rfl) ?_
  refine lv_iload_n hx hb dL_law_596 rfl (lv_at hl 3 rfl) ?_
  refine lv_iconst (v := 2) hx hb dL_law_597 (by decide) ?_
  refine lv_iadd hx hb dL_law_598 ?_
  refine va_sld hx hb hX hbl hbA hS (scr_in hi hL2 (k := 2) (by decide) (by decide)) dL_law_599 ?_
  obtain ⟨r, xo', nv', mo', eq1, eq2, hI⟩ := S xo nv rv h0 h1 h2 h3 nt0 cv0 nt1 cv1 nt2 cv2 nt3 cv3 ps0 ps1 ps2 ps3 mo (xs (nI i + 1).toNatClampNeg) (xs (nI i + 2).toNatClampNeg) hI
  refine call_V (As := [.int (xs (nI i + 1).toNatClampNeg), .int (xs (nI i + 2).toNatClampNeg)]) (rest := []) hx hb hml hown hts hK hP hD hS hA hZ lkL_85 (Ctr.upL (c_X11_stand l G ct sk sv g n xo nv h0 (xs (nI i + 1).toNatClampNeg) (xs (nI i + 2).toNatClampNeg) eq1) [lfR ct (fun j => g (18 + j)) rv, lfH ct (hsA g 1) g h1, lfH ct (hsA g 2) g h2, lfH ct (hsA g 3) g h3, lfS ct (fun j => (hsA g 0) (12 + j)) nt0, lfS ct (fun j => (hsA g 0) (8 + j)) cv0, lfS ct (fun j => (hsA g 1) (12 + j)) nt1, lfS ct (fun j => (hsA g 1) (8 + j)) cv1, lfS ct (fun j => (hsA g 2) (12 + j)) nt2, lfS ct (fun j => (hsA g 2) (8 + j)) cv2, lfS ct (fun j => (hsA g 3) (12 + j)) nt3, lfS ct (fun j => (hsA g 3) (8 + j)) cv3, lfP ct (fun j => (hsA g 0) (16 + j)) ps0, lfP ct (fun j => (hsA g 1) (16 + j)) ps1, lfP ct (fun j => (hsA g 2) (16 + j)) ps2, lfP ct (fun j => (hsA g 3) (16 + j)) ps3, lfM ct am mo] (LWs ct g am xo nv rv h0 h1 h2 h3 nt0 cv0 nt1 cv1 nt2 cv2 nt3 cv3 ps0 ps1 ps2 ps3 mo) (LWs ct g am xo' nv' rv h0 h1 h2 h3 nt0 cv0 nt1 cv1 nt2 cv2 nt3 cv3 ps0 ps1 ps2 ps3 mo) [0, 1, 3, 19, 2, 4, 5, 6, 7, 8, 9, 10, 11, 12, 13, 14, 15, 16, 17, 18, 20] 21 (by decide) rfl rfl rfl rfl) 0 rfl rfl ⟨Nat.le_of_ble_eq_true rfl, Nat.le_of_ble_eq_true rfl⟩ rfl hl.1 rfl (Nat.le_of_ble_eq_true rfl) dL_law_600 ⟨Nat.le_of_ble_eq_true rfl, Nat.le_of_ble_eq_true rfl⟩ (fun r9 w9 H locs hB hP hD hS => ?_)
  obtain ⟨rfl, rfl⟩ := hB
  refine W.widen (k := 107) (n := 2324) (Nat.le_of_ble_eq_true rfl) (Nat.le_of_ble_eq_true rfl) ?_
  refine W.eq (g2 := F0 m 603 ls [.int r]) rfl ?_
  refine lv_aload_n hx hb dL_law_603 rfl (lv_at hl 2 rfl) ?_
  refine lv_aload_n hx hb dL_law_604 rfl (lv_at hl 0 rfl) ?_
  refine lv_iload_n hx hb dL_law_605 rfl (lv_at hl 3 rfl) ?_
  refine lv_iconst (v := 1) hx hb dL_law_606 (by decide) ?_
  refine lv_iadd hx hb dL_law_607 ?_
  refine va_sld hx hb hX hbl hbA hS (scr_in hi hL2 (k := 1) (by decide) (by decide)) dL_law_608 ?_
  refine lv_aload_n hx hb dL_law_609 rfl (lv_at hl 0 rfl) ?_
  refine lv_iload_n hx hb dL_law_610 rfl (lv_at hl 3 rfl) ?_
  refine lv_iconst (v := 2) hx hb dL_law_611 (by decide) ?_
  refine lv_iadd hx hb dL_law_612 ?_
  refine va_sld hx hb hX hbl hbA hS (scr_in hi hL2 (k := 2) (by decide) (by decide)) dL_law_613 ?_
  refine call_V (As := [.int (xs (nI i + 1).toNatClampNeg), .int (xs (nI i + 2).toNatClampNeg)]) (rest := [.int r]) hx hb hml hown hts hK hP hD hS hA hZ lkL_88 (Ctr.upL (c_X12_stand l G ct sk sv am n mo (xs (nI i + 1).toNatClampNeg) (xs (nI i + 2).toNatClampNeg) eq2) [lfX ct g xo', lfN ct (fun j => g (10 + j)) nv', lfR ct (fun j => g (18 + j)) rv, lfH ct (hsA g 0) g h0, lfH ct (hsA g 1) g h1, lfH ct (hsA g 2) g h2, lfH ct (hsA g 3) g h3, lfS ct (fun j => (hsA g 0) (12 + j)) nt0, lfS ct (fun j => (hsA g 0) (8 + j)) cv0, lfS ct (fun j => (hsA g 1) (12 + j)) nt1, lfS ct (fun j => (hsA g 1) (8 + j)) cv1, lfS ct (fun j => (hsA g 2) (12 + j)) nt2, lfS ct (fun j => (hsA g 2) (8 + j)) cv2, lfS ct (fun j => (hsA g 3) (12 + j)) nt3, lfS ct (fun j => (hsA g 3) (8 + j)) cv3, lfP ct (fun j => (hsA g 0) (16 + j)) ps0, lfP ct (fun j => (hsA g 1) (16 + j)) ps1, lfP ct (fun j => (hsA g 2) (16 + j)) ps2, lfP ct (fun j => (hsA g 3) (16 + j)) ps3, lfK ct g] (LWs ct g am xo' nv' rv h0 h1 h2 h3 nt0 cv0 nt1 cv1 nt2 cv2 nt3 cv3 ps0 ps1 ps2 ps3 mo) (LWs ct g am xo' nv' rv h0 h1 h2 h3 nt0 cv0 nt1 cv1 nt2 cv2 nt3 cv3 ps0 ps1 ps2 ps3 mo') [20, 0, 1, 2, 3, 4, 5, 6, 7, 8, 9, 10, 11, 12, 13, 14, 15, 16, 17, 18, 19] 21 (by decide) rfl rfl rfl rfl) 92 rfl rfl ⟨Nat.le_of_ble_eq_true rfl, Nat.le_of_ble_eq_true rfl⟩ rfl hl.1 rfl (Nat.le_of_ble_eq_true rfl) dL_law_614 ⟨Nat.le_of_ble_eq_true rfl, Nat.le_of_ble_eq_true rfl⟩ (fun r9 w9 H locs hB hP hD hS => ?_)
  obtain ⟨rfl, rfl⟩ := hB
  refine W.widen (k := 107) (n := 2324) (Nat.le_of_ble_eq_true rfl) (Nat.le_of_ble_eq_true rfl) ?_
  refine W.eq (g2 := F0 m 617 ls [.int r, .int r]) rfl ?_
  refine lv_icmp_eq (tgt := 1095) hx hb dL_law_617 (by decide) (fun c1 => ?_) (fun c1 => absurd rfl c1)
  exact K xo' nv' rv h0 h1 h2 h3 nt0 cv0 nt1 cv1 nt2 cv2 nt3 cv3 ps0 ps1 ps2 ps3 mo' hI _ _ ls hP hD hS hl
set_option maxHeartbeats 4000000 in
set_option maxRecDepth 100000 in
theorem law_penny {p : Program} {l : Launch} {e : Env} {s : State} {m : MethodId} {below : List Frame} {meth : Method} {c : Code} {b L : Nat} {xs : Nat → Int32} {G : va_G} {ct : Nat → ClassId} {sk sv : Nat → Nat} {g am : Nat → Nat} {n : Nat} {INV : INVT} (C : LAWC l G ct sk sv p s m meth c b L xs) (S : SIM_penny n INV) {i : Nat} (hi : i + 4 ≤ L) (K : LAt p l e s m below meth c b G ct g am INV i 1095) : LAt p l e s m below meth c b G ct g am INV i 622 := by
  obtain ⟨hx, hb, hr, hml, hown, hts, hK, hZ, hX, hbl, hlocks, hL2⟩ := C
  have hA : ∀ q : Nat, s.heap.size ≤ q → (fun q : Nat => s.heap.size ≤ q) q := fun _ h => h
  have hbA : ¬ (fun q : Nat => s.heap.size ≤ q) b := Nat.not_le.mpr hbl
  intro xo nv rv h0 h1 h2 h3 nt0 cv0 nt1 cv1 nt2 cv2 nt3 cv3 ps0 ps1 ps2 ps3 mo hI H locs ls hP hD hS hl
  refine lv_aload_n hx hb dL_law_622 rfl (lv_at hl 1 rfl) ?_
  obtain ⟨r, xo', mo', eq1, eq2, hI⟩ := S xo nv rv h0 h1 h2 h3 nt0 cv0 nt1 cv1 nt2 cv2 nt3 cv3 ps0 ps1 ps2 ps3 mo  hI
  refine call_V (As := []) (rest := []) hx hb hml hown hts hK hP hD hS hA hZ lkL_89 (Ctr.upL (c_X11_penny l G ct sk sv g n xo h0  eq1) [lfN ct (fun j => g (10 + j)) nv, lfR ct (fun j => g (18 + j)) rv, lfH ct (hsA g 1) g h1, lfH ct (hsA g 2) g h2, lfH ct (hsA g 3) g h3, lfS ct (fun j => (hsA g 0) (12 + j)) nt0, lfS ct (fun j => (hsA g 0) (8 + j)) cv0, lfS ct (fun j => (hsA g 1) (12 + j)) nt1, lfS ct (fun j => (hsA g 1) (8 + j)) cv1, lfS ct (fun j => (hsA g 2) (12 + j)) nt2, lfS ct (fun j => (hsA g 2) (8 + j)) cv2, lfS ct (fun j => (hsA g 3) (12 + j)) nt3, lfS ct (fun j => (hsA g 3) (8 + j)) cv3, lfP ct (fun j => (hsA g 0) (16 + j)) ps0, lfP ct (fun j => (hsA g 1) (16 + j)) ps1, lfP ct (fun j => (hsA g 2) (16 + j)) ps2, lfP ct (fun j => (hsA g 3) (16 + j)) ps3, lfK ct g, lfM ct am mo] (LWs ct g am xo nv rv h0 h1 h2 h3 nt0 cv0 nt1 cv1 nt2 cv2 nt3 cv3 ps0 ps1 ps2 ps3 mo) (LWs ct g am xo' nv rv h0 h1 h2 h3 nt0 cv0 nt1 cv1 nt2 cv2 nt3 cv3 ps0 ps1 ps2 ps3 mo) [0, 3, 1, 2, 4, 5, 6, 7, 8, 9, 10, 11, 12, 13, 14, 15, 16, 17, 18, 19, 20] 21 (by decide) rfl rfl rfl rfl) 0 rfl rfl ⟨Nat.le_of_ble_eq_true rfl, Nat.le_of_ble_eq_true rfl⟩ rfl hl.1 rfl (Nat.le_of_ble_eq_true rfl) dL_law_623 ⟨Nat.le_of_ble_eq_true rfl, Nat.le_of_ble_eq_true rfl⟩ (fun r9 w9 H locs hB hP hD hS => ?_)
  obtain ⟨rfl, rfl⟩ := hB
  refine W.widen (k := 107) (n := 2324) (Nat.le_of_ble_eq_true rfl) (Nat.le_of_ble_eq_true rfl) ?_
  refine W.eq (g2 := F0 m 626 ls [.int r]) rfl ?_
  refine lv_aload_n hx hb dL_law_626 rfl (lv_at hl 2 rfl) ?_
  refine call_V (As := []) (rest := [.int r]) hx hb hml hown hts hK hP hD hS hA hZ lkL_92 (Ctr.upL (c_X12_penny l G ct sk sv am n mo  eq2) [lfX ct g xo', lfN ct (fun j => g (10 + j)) nv, lfR ct (fun j => g (18 + j)) rv, lfH ct (hsA g 0) g h0, lfH ct (hsA g 1) g h1, lfH ct (hsA g 2) g h2, lfH ct (hsA g 3) g h3, lfS ct (fun j => (hsA g 0) (12 + j)) nt0, lfS ct (fun j => (hsA g 0) (8 + j)) cv0, lfS ct (fun j => (hsA g 1) (12 + j)) nt1, lfS ct (fun j => (hsA g 1) (8 + j)) cv1, lfS ct (fun j => (hsA g 2) (12 + j)) nt2, lfS ct (fun j => (hsA g 2) (8 + j)) cv2, lfS ct (fun j => (hsA g 3) (12 + j)) nt3, lfS ct (fun j => (hsA g 3) (8 + j)) cv3, lfP ct (fun j => (hsA g 0) (16 + j)) ps0, lfP ct (fun j => (hsA g 1) (16 + j)) ps1, lfP ct (fun j => (hsA g 2) (16 + j)) ps2, lfP ct (fun j => (hsA g 3) (16 + j)) ps3, lfK ct g] (LWs ct g am xo' nv rv h0 h1 h2 h3 nt0 cv0 nt1 cv1 nt2 cv2 nt3 cv3 ps0 ps1 ps2 ps3 mo) (LWs ct g am xo' nv rv h0 h1 h2 h3 nt0 cv0 nt1 cv1 nt2 cv2 nt3 cv3 ps0 ps1 ps2 ps3 mo') [20, 0, 1, 2, 3, 4, 5, 6, 7, 8, 9, 10, 11, 12, 13, 14, 15, 16, 17, 18, 19] 21 (by decide) rfl rfl rfl rfl) 92 rfl rfl ⟨Nat.le_of_ble_eq_true rfl, Nat.le_of_ble_eq_true rfl⟩ rfl hl.1 rfl (Nat.le_of_ble_eq_true rfl) dL_law_627 ⟨Nat.le_of_ble_eq_true rfl, Nat.le_of_ble_eq_true rfl⟩ (fun r9 w9 H locs hB hP hD hS => ?_)
  obtain ⟨rfl, rfl⟩ := hB
  refine W.widen (k := 107) (n := 2324) (Nat.le_of_ble_eq_true rfl) (Nat.le_of_ble_eq_true rfl) ?_
  refine W.eq (g2 := F0 m 630 ls [.int r, .int r]) rfl ?_
  refine lv_icmp_eq (tgt := 1095) hx hb dL_law_630 (by decide) (fun c1 => ?_) (fun c1 => absurd rfl c1)
  exact K xo' nv rv h0 h1 h2 h3 nt0 cv0 nt1 cv1 nt2 cv2 nt3 cv3 ps0 ps1 ps2 ps3 mo' hI _ _ ls hP hD hS hl
set_option maxHeartbeats 4000000 in
set_option maxRecDepth 100000 in
theorem law_cover {p : Program} {l : Launch} {e : Env} {s : State} {m : MethodId} {below : List Frame} {meth : Method} {c : Code} {b L : Nat} {xs : Nat → Int32} {G : va_G} {ct : Nat → ClassId} {sk sv : Nat → Nat} {g am : Nat → Nat} {n : Nat} {INV : INVT} (C : LAWC l G ct sk sv p s m meth c b L xs) (S : SIM_cover n INV) {i : Nat} (hi : i + 4 ≤ L) (K : LAt p l e s m below meth c b G ct g am INV i 1095) : LAt p l e s m below meth c b G ct g am INV i 635 := by
  obtain ⟨hx, hb, hr, hml, hown, hts, hK, hZ, hX, hbl, hlocks, hL2⟩ := C
  have hA : ∀ q : Nat, s.heap.size ≤ q → (fun q : Nat => s.heap.size ≤ q) q := fun _ h => h
  have hbA : ¬ (fun q : Nat => s.heap.size ≤ q) b := Nat.not_le.mpr hbl
  intro xo nv rv h0 h1 h2 h3 nt0 cv0 nt1 cv1 nt2 cv2 nt3 cv3 ps0 ps1 ps2 ps3 mo hI H locs ls hP hD hS hl
  refine lv_aload_n hx hb dL_law_635 rfl (lv_at hl 1 rfl) ?_
  refine lv_aload_n hx hb dL_law_636 rfl (lv_at hl 0 rfl) ?_
  refine lv_iload_n hx hb dL_law_637 rfl (lv_at hl 3 rfl) ?_
  refine lv_iconst (v := 1) hx hb dL_law_638 (by decide) ?_
  refine lv_iadd hx hb dL_law_639 ?_
  refine va_sld hx hb hX hbl hbA hS (scr_in hi hL2 (k := 1) (by decide) (by decide)) dL_law_640 ?_
  refine lv_aload_n hx hb dL_law_641 rfl (lv_at hl 0 rfl) ?_
  refine lv_iload_n hx hb dL_law_642 rfl (lv_at hl 3 rfl) ?_
  refine lv_iconst (v := 2) hx hb dL_law_643 (by decide) ?_
  refine lv_iadd hx hb dL_law_644 ?_
  refine va_sld hx hb hX hbl hbA hS (scr_in hi hL2 (k := 2) (by decide) (by decide)) dL_law_645 ?_
  refine lv_aload_n hx hb dL_law_646 rfl (lv_at hl 0 rfl) ?_
  refine lv_iload_n hx hb dL_law_647 rfl (lv_at hl 3 rfl) ?_
  refine lv_iconst (v := 3) hx hb dL_law_648 (by decide) ?_
  refine lv_iadd hx hb dL_law_649 ?_
  refine va_sld hx hb hX hbl hbA hS (scr_in hi hL2 (k := 3) (by decide) (by decide)) dL_law_650 ?_
  obtain ⟨r, xo', cv0', mo', eq1, eq2, hI⟩ := S xo nv rv h0 h1 h2 h3 nt0 cv0 nt1 cv1 nt2 cv2 nt3 cv3 ps0 ps1 ps2 ps3 mo (xs (nI i + 1).toNatClampNeg) (xs (nI i + 2).toNatClampNeg) (xs (nI i + 3).toNatClampNeg) hI
  refine call_V (As := [.int (xs (nI i + 1).toNatClampNeg), .int (xs (nI i + 2).toNatClampNeg), .int (xs (nI i + 3).toNatClampNeg)]) (rest := []) hx hb hml hown hts hK hP hD hS hA hZ lkL_93 (Ctr.upL (c_X11_cover l G ct sk sv g n xo h0 cv0 (xs (nI i + 1).toNatClampNeg) (xs (nI i + 2).toNatClampNeg) (xs (nI i + 3).toNatClampNeg) eq1) [lfN ct (fun j => g (10 + j)) nv, lfR ct (fun j => g (18 + j)) rv, lfH ct (hsA g 1) g h1, lfH ct (hsA g 2) g h2, lfH ct (hsA g 3) g h3, lfS ct (fun j => (hsA g 0) (12 + j)) nt0, lfS ct (fun j => (hsA g 1) (12 + j)) nt1, lfS ct (fun j => (hsA g 1) (8 + j)) cv1, lfS ct (fun j => (hsA g 2) (12 + j)) nt2, lfS ct (fun j => (hsA g 2) (8 + j)) cv2, lfS ct (fun j => (hsA g 3) (12 + j)) nt3, lfS ct (fun j => (hsA g 3) (8 + j)) cv3, lfP ct (fun j => (hsA g 0) (16 + j)) ps0, lfP ct (fun j => (hsA g 1) (16 + j)) ps1, lfP ct (fun j => (hsA g 2) (16 + j)) ps2, lfP ct (fun j => (hsA g 3) (16 + j)) ps3, lfK ct g, lfM ct am mo] (LWs ct g am xo nv rv h0 h1 h2 h3 nt0 cv0 nt1 cv1 nt2 cv2 nt3 cv3 ps0 ps1 ps2 ps3 mo) (LWs ct g am xo' nv rv h0 h1 h2 h3 nt0 cv0' nt1 cv1 nt2 cv2 nt3 cv3 ps0 ps1 ps2 ps3 mo) [0, 3, 8, 1, 2, 4, 5, 6, 7, 9, 10, 11, 12, 13, 14, 15, 16, 17, 18, 19, 20] 21 (by decide) rfl rfl rfl rfl) 0 rfl rfl ⟨Nat.le_of_ble_eq_true rfl, Nat.le_of_ble_eq_true rfl⟩ rfl hl.1 rfl (Nat.le_of_ble_eq_true rfl) dL_law_651 ⟨Nat.le_of_ble_eq_true rfl, Nat.le_of_ble_eq_true rfl⟩ (fun r9 w9 H locs hB hP hD hS => ?_)
  obtain ⟨rfl, rfl⟩ := hB
  refine W.widen (k := 107) (n := 2324) (Nat.le_of_ble_eq_true rfl) (Nat.le_of_ble_eq_true rfl) ?_
  refine W.eq (g2 := F0 m 654 ls [.int r]) rfl ?_
  refine lv_aload_n hx hb dL_law_654 rfl (lv_at hl 2 rfl) ?_
  refine lv_aload_n hx hb dL_law_655 rfl (lv_at hl 0 rfl) ?_
  refine lv_iload_n hx hb dL_law_656 rfl (lv_at hl 3 rfl) ?_
  refine lv_iconst (v := 1) hx hb dL_law_657 (by decide) ?_
  refine lv_iadd hx hb dL_law_658 ?_
  refine va_sld hx hb hX hbl hbA hS (scr_in hi hL2 (k := 1) (by decide) (by decide)) dL_law_659 ?_
  refine lv_aload_n hx hb dL_law_660 rfl (lv_at hl 0 rfl) ?_
  refine lv_iload_n hx hb dL_law_661 rfl (lv_at hl 3 rfl) ?_
  refine lv_iconst (v := 2) hx hb dL_law_662 (by decide) ?_
  refine lv_iadd hx hb dL_law_663 ?_
  refine va_sld hx hb hX hbl hbA hS (scr_in hi hL2 (k := 2) (by decide) (by decide)) dL_law_664 ?_
  refine lv_aload_n hx hb dL_law_665 rfl (lv_at hl 0 rfl) ?_
  refine lv_iload_n hx hb dL_law_666 rfl (lv_at hl 3 rfl) ?_
  refine lv_iconst (v := 3) hx hb dL_law_667 (by decide) ?_
  refine lv_iadd hx hb dL_law_668 ?_
  refine va_sld hx hb hX hbl hbA hS (scr_in hi hL2 (k := 3) (by decide) (by decide)) dL_law_669 ?_
  refine call_V (As := [.int (xs (nI i + 1).toNatClampNeg), .int (xs (nI i + 2).toNatClampNeg), .int (xs (nI i + 3).toNatClampNeg)]) (rest := [.int r]) hx hb hml hown hts hK hP hD hS hA hZ lkL_96 (Ctr.upL (c_X12_cover l G ct sk sv am n mo (xs (nI i + 1).toNatClampNeg) (xs (nI i + 2).toNatClampNeg) (xs (nI i + 3).toNatClampNeg) eq2) [lfX ct g xo', lfN ct (fun j => g (10 + j)) nv, lfR ct (fun j => g (18 + j)) rv, lfH ct (hsA g 0) g h0, lfH ct (hsA g 1) g h1, lfH ct (hsA g 2) g h2, lfH ct (hsA g 3) g h3, lfS ct (fun j => (hsA g 0) (12 + j)) nt0, lfS ct (fun j => (hsA g 0) (8 + j)) cv0', lfS ct (fun j => (hsA g 1) (12 + j)) nt1, lfS ct (fun j => (hsA g 1) (8 + j)) cv1, lfS ct (fun j => (hsA g 2) (12 + j)) nt2, lfS ct (fun j => (hsA g 2) (8 + j)) cv2, lfS ct (fun j => (hsA g 3) (12 + j)) nt3, lfS ct (fun j => (hsA g 3) (8 + j)) cv3, lfP ct (fun j => (hsA g 0) (16 + j)) ps0, lfP ct (fun j => (hsA g 1) (16 + j)) ps1, lfP ct (fun j => (hsA g 2) (16 + j)) ps2, lfP ct (fun j => (hsA g 3) (16 + j)) ps3, lfK ct g] (LWs ct g am xo' nv rv h0 h1 h2 h3 nt0 cv0' nt1 cv1 nt2 cv2 nt3 cv3 ps0 ps1 ps2 ps3 mo) (LWs ct g am xo' nv rv h0 h1 h2 h3 nt0 cv0' nt1 cv1 nt2 cv2 nt3 cv3 ps0 ps1 ps2 ps3 mo') [20, 0, 1, 2, 3, 4, 5, 6, 7, 8, 9, 10, 11, 12, 13, 14, 15, 16, 17, 18, 19] 21 (by decide) rfl rfl rfl rfl) 92 rfl rfl ⟨Nat.le_of_ble_eq_true rfl, Nat.le_of_ble_eq_true rfl⟩ rfl hl.1 rfl (Nat.le_of_ble_eq_true rfl) dL_law_670 ⟨Nat.le_of_ble_eq_true rfl, Nat.le_of_ble_eq_true rfl⟩ (fun r9 w9 H locs hB hP hD hS => ?_)
  obtain ⟨rfl, rfl⟩ := hB
  refine W.widen (k := 107) (n := 2324) (Nat.le_of_ble_eq_true rfl) (Nat.le_of_ble_eq_true rfl) ?_
  refine W.eq (g2 := F0 m 673 ls [.int r, .int r]) rfl ?_
  refine lv_icmp_eq (tgt := 1095) hx hb dL_law_673 (by decide) (fun c1 => ?_) (fun c1 => absurd rfl c1)
  exact K xo' nv rv h0 h1 h2 h3 nt0 cv0' nt1 cv1 nt2 cv2 nt3 cv3 ps0 ps1 ps2 ps3 mo' hI _ _ ls hP hD hS hl
set_option maxHeartbeats 4000000 in
set_option maxRecDepth 100000 in
theorem law_note {p : Program} {l : Launch} {e : Env} {s : State} {m : MethodId} {below : List Frame} {meth : Method} {c : Code} {b L : Nat} {xs : Nat → Int32} {G : va_G} {ct : Nat → ClassId} {sk sv : Nat → Nat} {g am : Nat → Nat} {n : Nat} {INV : INVT} (C : LAWC l G ct sk sv p s m meth c b L xs) (S : SIM_note n INV) {i : Nat} (hi : i + 4 ≤ L) (K : LAt p l e s m below meth c b G ct g am INV i 1095) : LAt p l e s m below meth c b G ct g am INV i 678 := by
  obtain ⟨hx, hb, hr, hml, hown, hts, hK, hZ, hX, hbl, hlocks, hL2⟩ := C
  have hA : ∀ q : Nat, s.heap.size ≤ q → (fun q : Nat => s.heap.size ≤ q) q := fun _ h => h
  have hbA : ¬ (fun q : Nat => s.heap.size ≤ q) b := Nat.not_le.mpr hbl
  intro xo nv rv h0 h1 h2 h3 nt0 cv0 nt1 cv1 nt2 cv2 nt3 cv3 ps0 ps1 ps2 ps3 mo hI H locs ls hP hD hS hl
  refine lv_aload_n hx hb dL_law_678 rfl (lv_at hl 1 rfl) ?_
  refine lv_aload_n hx hb dL_law_679 rfl (lv_at hl 0 rfl) ?_
  refine lv_iload_n hx hb dL_law_680 rfl (lv_at hl 3 rfl) ?_
  refine lv_iconst (v := 1) hx hb dL_law_681 (by decide) ?_
  refine lv_iadd hx hb dL_law_682 ?_
  refine va_sld hx hb hX hbl hbA hS (scr_in hi hL2 (k := 1) (by decide) (by decide)) dL_law_683 ?_
  refine lv_aload_n hx hb dL_law_684 rfl (lv_at hl 0 rfl) ?_
  refine lv_iload_n hx hb dL_law_685 rfl (lv_at hl 3 rfl) ?_
  refine lv_iconst (v := 2) hx hb dL_law_686 (by decide) ?_
  refine lv_iadd hx hb dL_law_687 ?_
  refine va_sld hx hb hX hbl hbA hS (scr_in hi hL2 (k := 2) (by decide) (by decide)) dL_law_688 ?_
  refine lv_aload_n hx hb dL_law_689 rfl (lv_at hl 0 rfl) ?_
  refine lv_iload_n hx hb dL_law_690 rfl (lv_at hl 3 rfl) ?_
  refine lv_iconst (v := 3) hx hb dL_law_691 (by decide) ?_
  refine lv_iadd hx hb dL_law_692 ?_
  refine va_sld hx hb hX hbl hbA hS (scr_in hi hL2 (k := 3) (by decide) (by decide)) dL_law_693 ?_
  obtain ⟨r, xo', nt0', mo', eq1, eq2, hI⟩ := S xo nv rv h0 h1 h2 h3 nt0 cv0 nt1 cv1 nt2 cv2 nt3 cv3 ps0 ps1 ps2 ps3 mo (xs (nI i + 1).toNatClampNeg) (xs (nI i + 2).toNatClampNeg) (xs (nI i + 3).toNatClampNeg) hI
  refine call_V (As := [.int (xs (nI i + 1).toNatClampNeg), .int (xs (nI i + 2).toNatClampNeg), .int (xs (nI i + 3).toNatClampNeg)]) (rest := []) hx hb hml hown hts hK hP hD hS hA hZ lkL_97 (Ctr.upL (c_X11_note l G ct sk sv g n xo h0 nt0 (xs (nI i + 1).toNatClampNeg) (xs (nI i + 2).toNatClampNeg) (xs (nI i + 3).toNatClampNeg) eq1) [lfN ct (fun j => g (10 + j)) nv, lfR ct (fun j => g (18 + j)) rv, lfH ct (hsA g 1) g h1, lfH ct (hsA g 2) g h2, lfH ct (hsA g 3) g h3, lfS ct (fun j => (hsA g 0) (8 + j)) cv0, lfS ct (fun j => (hsA g 1) (12 + j)) nt1, lfS ct (fun j => (hsA g 1) (8 + j)) cv1, lfS ct (fun j => (hsA g 2) (12 + j)) nt2, lfS ct (fun j => (hsA g 2) (8 + j)) cv2, lfS ct (fun j => (hsA g 3) (12 + j)) nt3, lfS ct (fun j => (hsA g 3) (8 + j)) cv3, lfP ct (fun j => (hsA g 0) (16 + j)) ps0, lfP ct (fun j => (hsA g 1) (16 + j)) ps1, lfP ct (fun j => (hsA g 2) (16 + j)) ps2, lfP ct (fun j => (hsA g 3) (16 + j)) ps3, lfK ct g, lfM ct am mo] (LWs ct g am xo nv rv h0 h1 h2 h3 nt0 cv0 nt1 cv1 nt2 cv2 nt3 cv3 ps0 ps1 ps2 ps3 mo) (LWs ct g am xo' nv rv h0 h1 h2 h3 nt0' cv0 nt1 cv1 nt2 cv2 nt3 cv3 ps0 ps1 ps2 ps3 mo) [0, 3, 7, 1, 2, 4, 5, 6, 8, 9, 10, 11, 12, 13, 14, 15, 16, 17, 18, 19, 20] 21 (by decide) rfl rfl rfl rfl) 0 rfl rfl ⟨Nat.le_of_ble_eq_true rfl, Nat.le_of_ble_eq_true rfl⟩ rfl hl.1 rfl (Nat.le_of_ble_eq_true rfl) dL_law_694 ⟨Nat.le_of_ble_eq_true rfl, Nat.le_of_ble_eq_true rfl⟩ (fun r9 w9 H locs hB hP hD hS => ?_)
  obtain ⟨rfl, rfl⟩ := hB
  refine W.widen (k := 107) (n := 2324) (Nat.le_of_ble_eq_true rfl) (Nat.le_of_ble_eq_true rfl) ?_
  refine W.eq (g2 := F0 m 697 ls [.int r]) rfl ?_
  refine lv_aload_n hx hb dL_law_697 rfl (lv_at hl 2 rfl) ?_
  refine lv_aload_n hx hb dL_law_698 rfl (lv_at hl 0 rfl) ?_
  refine lv_iload_n hx hb dL_law_699 rfl (lv_at hl 3 rfl) ?_
  refine lv_iconst (v := 1) hx hb dL_law_700 (by decide) ?_
  refine lv_iadd hx hb dL_law_701 ?_
  refine va_sld hx hb hX hbl hbA hS (scr_in hi hL2 (k := 1) (by decide) (by decide)) dL_law_702 ?_
  refine lv_aload_n hx hb dL_law_703 rfl (lv_at hl 0 rfl) ?_
  refine lv_iload_n hx hb dL_law_704 rfl (lv_at hl 3 rfl) ?_
  refine lv_iconst (v := 2) hx hb dL_law_705 (by decide) ?_
  refine lv_iadd hx hb dL_law_706 ?_
  refine va_sld hx hb hX hbl hbA hS (scr_in hi hL2 (k := 2) (by decide) (by decide)) dL_law_707 ?_
  refine lv_aload_n hx hb dL_law_708 rfl (lv_at hl 0 rfl) ?_
  refine lv_iload_n hx hb dL_law_709 rfl (lv_at hl 3 rfl) ?_
  refine lv_iconst (v := 3) hx hb dL_law_710 (by decide) ?_
  refine lv_iadd hx hb dL_law_711 ?_
  refine va_sld hx hb hX hbl hbA hS (scr_in hi hL2 (k := 3) (by decide) (by decide)) dL_law_712 ?_
  refine call_V (As := [.int (xs (nI i + 1).toNatClampNeg), .int (xs (nI i + 2).toNatClampNeg), .int (xs (nI i + 3).toNatClampNeg)]) (rest := [.int r]) hx hb hml hown hts hK hP hD hS hA hZ lkL_100 (Ctr.upL (c_X12_note l G ct sk sv am n mo (xs (nI i + 1).toNatClampNeg) (xs (nI i + 2).toNatClampNeg) (xs (nI i + 3).toNatClampNeg) eq2) [lfX ct g xo', lfN ct (fun j => g (10 + j)) nv, lfR ct (fun j => g (18 + j)) rv, lfH ct (hsA g 0) g h0, lfH ct (hsA g 1) g h1, lfH ct (hsA g 2) g h2, lfH ct (hsA g 3) g h3, lfS ct (fun j => (hsA g 0) (12 + j)) nt0', lfS ct (fun j => (hsA g 0) (8 + j)) cv0, lfS ct (fun j => (hsA g 1) (12 + j)) nt1, lfS ct (fun j => (hsA g 1) (8 + j)) cv1, lfS ct (fun j => (hsA g 2) (12 + j)) nt2, lfS ct (fun j => (hsA g 2) (8 + j)) cv2, lfS ct (fun j => (hsA g 3) (12 + j)) nt3, lfS ct (fun j => (hsA g 3) (8 + j)) cv3, lfP ct (fun j => (hsA g 0) (16 + j)) ps0, lfP ct (fun j => (hsA g 1) (16 + j)) ps1, lfP ct (fun j => (hsA g 2) (16 + j)) ps2, lfP ct (fun j => (hsA g 3) (16 + j)) ps3, lfK ct g] (LWs ct g am xo' nv rv h0 h1 h2 h3 nt0' cv0 nt1 cv1 nt2 cv2 nt3 cv3 ps0 ps1 ps2 ps3 mo) (LWs ct g am xo' nv rv h0 h1 h2 h3 nt0' cv0 nt1 cv1 nt2 cv2 nt3 cv3 ps0 ps1 ps2 ps3 mo') [20, 0, 1, 2, 3, 4, 5, 6, 7, 8, 9, 10, 11, 12, 13, 14, 15, 16, 17, 18, 19] 21 (by decide) rfl rfl rfl rfl) 92 rfl rfl ⟨Nat.le_of_ble_eq_true rfl, Nat.le_of_ble_eq_true rfl⟩ rfl hl.1 rfl (Nat.le_of_ble_eq_true rfl) dL_law_713 ⟨Nat.le_of_ble_eq_true rfl, Nat.le_of_ble_eq_true rfl⟩ (fun r9 w9 H locs hB hP hD hS => ?_)
  obtain ⟨rfl, rfl⟩ := hB
  refine W.widen (k := 107) (n := 2324) (Nat.le_of_ble_eq_true rfl) (Nat.le_of_ble_eq_true rfl) ?_
  refine W.eq (g2 := F0 m 716 ls [.int r, .int r]) rfl ?_
  refine lv_icmp_eq (tgt := 1095) hx hb dL_law_716 (by decide) (fun c1 => ?_) (fun c1 => absurd rfl c1)
  exact K xo' nv rv h0 h1 h2 h3 nt0' cv0 nt1 cv1 nt2 cv2 nt3 cv3 ps0 ps1 ps2 ps3 mo' hI _ _ ls hP hD hS hl
set_option maxHeartbeats 4000000 in
set_option maxRecDepth 100000 in
theorem law_forget {p : Program} {l : Launch} {e : Env} {s : State} {m : MethodId} {below : List Frame} {meth : Method} {c : Code} {b L : Nat} {xs : Nat → Int32} {G : va_G} {ct : Nat → ClassId} {sk sv : Nat → Nat} {g am : Nat → Nat} {n : Nat} {INV : INVT} (C : LAWC l G ct sk sv p s m meth c b L xs) (S : SIM_forget n INV) {i : Nat} (hi : i + 4 ≤ L) (K : LAt p l e s m below meth c b G ct g am INV i 1095) : LAt p l e s m below meth c b G ct g am INV i 721 := by
  obtain ⟨hx, hb, hr, hml, hown, hts, hK, hZ, hX, hbl, hlocks, hL2⟩ := C
  have hA : ∀ q : Nat, s.heap.size ≤ q → (fun q : Nat => s.heap.size ≤ q) q := fun _ h => h
  have hbA : ¬ (fun q : Nat => s.heap.size ≤ q) b := Nat.not_le.mpr hbl
  intro xo nv rv h0 h1 h2 h3 nt0 cv0 nt1 cv1 nt2 cv2 nt3 cv3 ps0 ps1 ps2 ps3 mo hI H locs ls hP hD hS hl
  refine lv_aload_n hx hb dL_law_721 rfl (lv_at hl 1 rfl) ?_
  refine lv_aload_n hx hb dL_law_722 rfl (lv_at hl 0 rfl) ?_
  refine lv_iload_n hx hb dL_law_723 rfl (lv_at hl 3 rfl) ?_
  refine lv_iconst (v := 1) hx hb dL_law_724 (by decide) ?_
  refine lv_iadd hx hb dL_law_725 ?_
  refine va_sld hx hb hX hbl hbA hS (scr_in hi hL2 (k := 1) (by decide) (by decide)) dL_law_726 ?_
  obtain ⟨r, xo', nt0', cv0', mo', eq1, eq2, hI⟩ := S xo nv rv h0 h1 h2 h3 nt0 cv0 nt1 cv1 nt2 cv2 nt3 cv3 ps0 ps1 ps2 ps3 mo (xs (nI i + 1).toNatClampNeg) hI
  refine call_V (As := [.int (xs (nI i + 1).toNatClampNeg)]) (rest := []) hx hb hml hown hts hK hP hD hS hA hZ lkL_101 (Ctr.upL (c_X11_forget l G ct sk sv g n xo h0 nt0 cv0 (xs (nI i + 1).toNatClampNeg) eq1) [lfN ct (fun j => g (10 + j)) nv, lfR ct (fun j => g (18 + j)) rv, lfH ct (hsA g 1) g h1, lfH ct (hsA g 2) g h2, lfH ct (hsA g 3) g h3, lfS ct (fun j => (hsA g 1) (12 + j)) nt1, lfS ct (fun j => (hsA g 1) (8 + j)) cv1, lfS ct (fun j => (hsA g 2) (12 + j)) nt2, lfS ct (fun j => (hsA g 2) (8 + j)) cv2, lfS ct (fun j => (hsA g 3) (12 + j)) nt3, lfS ct (fun j => (hsA g 3) (8 + j)) cv3, lfP ct (fun j => (hsA g 0) (16 + j)) ps0, lfP ct (fun j => (hsA g 1) (16 + j)) ps1, lfP ct (fun j => (hsA g 2) (16 + j)) ps2, lfP ct (fun j => (hsA g 3) (16 + j)) ps3, lfK ct g, lfM ct am mo] (LWs ct g am xo nv rv h0 h1 h2 h3 nt0 cv0 nt1 cv1 nt2 cv2 nt3 cv3 ps0 ps1 ps2 ps3 mo) (LWs ct g am xo' nv rv h0 h1 h2 h3 nt0' cv0' nt1 cv1 nt2 cv2 nt3 cv3 ps0 ps1 ps2 ps3 mo) [0, 3, 7, 8, 1, 2, 4, 5, 6, 9, 10, 11, 12, 13, 14, 15, 16, 17, 18, 19, 20] 21 (by decide) rfl rfl rfl rfl) 0 rfl rfl ⟨Nat.le_of_ble_eq_true rfl, Nat.le_of_ble_eq_true rfl⟩ rfl hl.1 rfl (Nat.le_of_ble_eq_true rfl) dL_law_727 ⟨Nat.le_of_ble_eq_true rfl, Nat.le_of_ble_eq_true rfl⟩ (fun r9 w9 H locs hB hP hD hS => ?_)
  obtain ⟨rfl, rfl⟩ := hB
  refine W.widen (k := 107) (n := 2324) (Nat.le_of_ble_eq_true rfl) (Nat.le_of_ble_eq_true rfl) ?_
  refine W.eq (g2 := F0 m 730 ls [.int r]) rfl ?_
  refine lv_aload_n hx hb dL_law_730 rfl (lv_at hl 2 rfl) ?_
  refine lv_aload_n hx hb dL_law_731 rfl (lv_at hl 0 rfl) ?_
  refine lv_iload_n hx hb dL_law_732 rfl (lv_at hl 3 rfl) ?_
  refine lv_iconst (v := 1) hx hb dL_law_733 (by decide) ?_
  refine lv_iadd hx hb dL_law_734 ?_
  refine va_sld hx hb hX hbl hbA hS (scr_in hi hL2 (k := 1) (by decide) (by decide)) dL_law_735 ?_
  refine call_V (As := [.int (xs (nI i + 1).toNatClampNeg)]) (rest := [.int r]) hx hb hml hown hts hK hP hD hS hA hZ lkL_104 (Ctr.upL (c_X12_forget l G ct sk sv am n mo (xs (nI i + 1).toNatClampNeg) eq2) [lfX ct g xo', lfN ct (fun j => g (10 + j)) nv, lfR ct (fun j => g (18 + j)) rv, lfH ct (hsA g 0) g h0, lfH ct (hsA g 1) g h1, lfH ct (hsA g 2) g h2, lfH ct (hsA g 3) g h3, lfS ct (fun j => (hsA g 0) (12 + j)) nt0', lfS ct (fun j => (hsA g 0) (8 + j)) cv0', lfS ct (fun j => (hsA g 1) (12 + j)) nt1, lfS ct (fun j => (hsA g 1) (8 + j)) cv1, lfS ct (fun j => (hsA g 2) (12 + j)) nt2, lfS ct (fun j => (hsA g 2) (8 + j)) cv2, lfS ct (fun j => (hsA g 3) (12 + j)) nt3, lfS ct (fun j => (hsA g 3) (8 + j)) cv3, lfP ct (fun j => (hsA g 0) (16 + j)) ps0, lfP ct (fun j => (hsA g 1) (16 + j)) ps1, lfP ct (fun j => (hsA g 2) (16 + j)) ps2, lfP ct (fun j => (hsA g 3) (16 + j)) ps3, lfK ct g] (LWs ct g am xo' nv rv h0 h1 h2 h3 nt0' cv0' nt1 cv1 nt2 cv2 nt3 cv3 ps0 ps1 ps2 ps3 mo) (LWs ct g am xo' nv rv h0 h1 h2 h3 nt0' cv0' nt1 cv1 nt2 cv2 nt3 cv3 ps0 ps1 ps2 ps3 mo') [20, 0, 1, 2, 3, 4, 5, 6, 7, 8, 9, 10, 11, 12, 13, 14, 15, 16, 17, 18, 19] 21 (by decide) rfl rfl rfl rfl) 92 rfl rfl ⟨Nat.le_of_ble_eq_true rfl, Nat.le_of_ble_eq_true rfl⟩ rfl hl.1 rfl (Nat.le_of_ble_eq_true rfl) dL_law_736 ⟨Nat.le_of_ble_eq_true rfl, Nat.le_of_ble_eq_true rfl⟩ (fun r9 w9 H locs hB hP hD hS => ?_)
  obtain ⟨rfl, rfl⟩ := hB
  refine W.widen (k := 107) (n := 2324) (Nat.le_of_ble_eq_true rfl) (Nat.le_of_ble_eq_true rfl) ?_
  refine W.eq (g2 := F0 m 739 ls [.int r, .int r]) rfl ?_
  refine lv_icmp_eq (tgt := 1095) hx hb dL_law_739 (by decide) (fun c1 => ?_) (fun c1 => absurd rfl c1)
  exact K xo' nv rv h0 h1 h2 h3 nt0' cv0' nt1 cv1 nt2 cv2 nt3 cv3 ps0 ps1 ps2 ps3 mo' hI _ _ ls hP hD hS hl
set_option maxHeartbeats 4000000 in
set_option maxRecDepth 100000 in
theorem law_where {p : Program} {l : Launch} {e : Env} {s : State} {m : MethodId} {below : List Frame} {meth : Method} {c : Code} {b L : Nat} {xs : Nat → Int32} {G : va_G} {ct : Nat → ClassId} {sk sv : Nat → Nat} {g am : Nat → Nat} {n : Nat} {INV : INVT} (C : LAWC l G ct sk sv p s m meth c b L xs) (S : SIM_where n INV) {i : Nat} (hi : i + 4 ≤ L) (K : LAt p l e s m below meth c b G ct g am INV i 1095) : LAt p l e s m below meth c b G ct g am INV i 744 := by
  obtain ⟨hx, hb, hr, hml, hown, hts, hK, hZ, hX, hbl, hlocks, hL2⟩ := C
  have hA : ∀ q : Nat, s.heap.size ≤ q → (fun q : Nat => s.heap.size ≤ q) q := fun _ h => h
  have hbA : ¬ (fun q : Nat => s.heap.size ≤ q) b := Nat.not_le.mpr hbl
  intro xo nv rv h0 h1 h2 h3 nt0 cv0 nt1 cv1 nt2 cv2 nt3 cv3 ps0 ps1 ps2 ps3 mo hI H locs ls hP hD hS hl
  refine lv_aload_n hx hb dL_law_744 rfl (lv_at hl 1 rfl) ?_
  refine lv_aload_n hx hb dL_law_745 rfl (lv_at hl 0 rfl) ?_
  refine lv_iload_n hx hb dL_law_746 rfl (lv_at hl 3 rfl) ?_
  refine lv_iconst (v := 1) hx hb dL_law_747 (by decide) ?_
  refine lv_iadd hx hb dL_law_748 ?_
  refine va_sld hx hb hX hbl hbA hS (scr_in hi hL2 (k := 1) (by decide) (by decide)) dL_law_749 ?_
  refine lv_aload_n hx hb dL_law_750 rfl (lv_at hl 0 rfl) ?_
  refine lv_iload_n hx hb dL_law_751 rfl (lv_at hl 3 rfl) ?_
  refine lv_iconst (v := 2) hx hb dL_law_752 (by decide) ?_
  refine lv_iadd hx hb dL_law_753 ?_
  refine va_sld hx hb hX hbl hbA hS (scr_in hi hL2 (k := 2) (by decide) (by decide)) dL_law_754 ?_
  refine lv_aload_n hx hb dL_law_755 rfl (lv_at hl 0 rfl) ?_
  refine lv_iload_n hx hb dL_law_756 rfl (lv_at hl 3 rfl) ?_
  refine lv_iconst (v := 3) hx hb dL_law_757 (by decide) ?_
  refine lv_iadd hx hb dL_law_758 ?_
  refine va_sld hx hb hX hbl hbA hS (scr_in hi hL2 (k := 3) (by decide) (by decide)) dL_law_759 ?_
  obtain ⟨r, xo', mo', eq1, eq2, hI⟩ := S xo nv rv h0 h1 h2 h3 nt0 cv0 nt1 cv1 nt2 cv2 nt3 cv3 ps0 ps1 ps2 ps3 mo (xs (nI i + 1).toNatClampNeg) (xs (nI i + 2).toNatClampNeg) (xs (nI i + 3).toNatClampNeg) hI
  refine call_V (As := [.int (xs (nI i + 1).toNatClampNeg), .int (xs (nI i + 2).toNatClampNeg), .int (xs (nI i + 3).toNatClampNeg)]) (rest := []) hx hb hml hown hts hK hP hD hS hA hZ lkL_105 (Ctr.upL (c_X11_where l G ct sk sv g n xo h0 cv0 (xs (nI i + 1).toNatClampNeg) (xs (nI i + 2).toNatClampNeg) (xs (nI i + 3).toNatClampNeg) eq1) [lfN ct (fun j => g (10 + j)) nv, lfR ct (fun j => g (18 + j)) rv, lfH ct (hsA g 1) g h1, lfH ct (hsA g 2) g h2, lfH ct (hsA g 3) g h3, lfS ct (fun j => (hsA g 0) (12 + j)) nt0, lfS ct (fun j => (hsA g 1) (12 + j)) nt1, lfS ct (fun j => (hsA g 1) (8 + j)) cv1, lfS ct (fun j => (hsA g 2) (12 + j)) nt2, lfS ct (fun j => (hsA g 2) (8 + j)) cv2, lfS ct (fun j => (hsA g 3) (12 + j)) nt3, lfS ct (fun j => (hsA g 3) (8 + j)) cv3, lfP ct (fun j => (hsA g 0) (16 + j)) ps0, lfP ct (fun j => (hsA g 1) (16 + j)) ps1, lfP ct (fun j => (hsA g 2) (16 + j)) ps2, lfP ct (fun j => (hsA g 3) (16 + j)) ps3, lfM ct am mo] (LWs ct g am xo nv rv h0 h1 h2 h3 nt0 cv0 nt1 cv1 nt2 cv2 nt3 cv3 ps0 ps1 ps2 ps3 mo) (LWs ct g am xo' nv rv h0 h1 h2 h3 nt0 cv0 nt1 cv1 nt2 cv2 nt3 cv3 ps0 ps1 ps2 ps3 mo) [0, 3, 8, 19, 1, 2, 4, 5, 6, 7, 9, 10, 11, 12, 13, 14, 15, 16, 17, 18, 20] 21 (by decide) rfl rfl rfl rfl) 0 rfl rfl ⟨Nat.le_of_ble_eq_true rfl, Nat.le_of_ble_eq_true rfl⟩ rfl hl.1 rfl (Nat.le_of_ble_eq_true rfl) dL_law_760 ⟨Nat.le_of_ble_eq_true rfl, Nat.le_of_ble_eq_true rfl⟩ (fun r9 w9 H locs hB hP hD hS => ?_)
  obtain ⟨rfl, rfl⟩ := hB
  refine W.widen (k := 107) (n := 2324) (Nat.le_of_ble_eq_true rfl) (Nat.le_of_ble_eq_true rfl) ?_
  refine W.eq (g2 := F0 m 763 ls [.int r]) rfl ?_
  refine lv_aload_n hx hb dL_law_763 rfl (lv_at hl 2 rfl) ?_
  refine lv_aload_n hx hb dL_law_764 rfl (lv_at hl 0 rfl) ?_
  refine lv_iload_n hx hb dL_law_765 rfl (lv_at hl 3 rfl) ?_
  refine lv_iconst (v := 1) hx hb dL_law_766 (by decide) ?_
  refine lv_iadd hx hb dL_law_767 ?_
  refine va_sld hx hb hX hbl hbA hS (scr_in hi hL2 (k := 1) (by decide) (by decide)) dL_law_768 ?_
  refine lv_aload_n hx hb dL_law_769 rfl (lv_at hl 0 rfl) ?_
  refine lv_iload_n hx hb dL_law_770 rfl (lv_at hl 3 rfl) ?_
  refine lv_iconst (v := 2) hx hb dL_law_771 (by decide) ?_
  refine lv_iadd hx hb dL_law_772 ?_
  refine va_sld hx hb hX hbl hbA hS (scr_in hi hL2 (k := 2) (by decide) (by decide)) dL_law_773 ?_
  refine lv_aload_n hx hb dL_law_774 rfl (lv_at hl 0 rfl) ?_
  refine lv_iload_n hx hb dL_law_775 rfl (lv_at hl 3 rfl) ?_
  refine lv_iconst (v := 3) hx hb dL_law_776 (by decide) ?_
  refine lv_iadd hx hb dL_law_777 ?_
  refine va_sld hx hb hX hbl hbA hS (scr_in hi hL2 (k := 3) (by decide) (by decide)) dL_law_778 ?_
  refine call_V (As := [.int (xs (nI i + 1).toNatClampNeg), .int (xs (nI i + 2).toNatClampNeg), .int (xs (nI i + 3).toNatClampNeg)]) (rest := [.int r]) hx hb hml hown hts hK hP hD hS hA hZ lkL_108 (Ctr.upL (c_X12_where l G ct sk sv am n mo (xs (nI i + 1).toNatClampNeg) (xs (nI i + 2).toNatClampNeg) (xs (nI i + 3).toNatClampNeg) eq2) [lfX ct g xo', lfN ct (fun j => g (10 + j)) nv, lfR ct (fun j => g (18 + j)) rv, lfH ct (hsA g 0) g h0, lfH ct (hsA g 1) g h1, lfH ct (hsA g 2) g h2, lfH ct (hsA g 3) g h3, lfS ct (fun j => (hsA g 0) (12 + j)) nt0, lfS ct (fun j => (hsA g 0) (8 + j)) cv0, lfS ct (fun j => (hsA g 1) (12 + j)) nt1, lfS ct (fun j => (hsA g 1) (8 + j)) cv1, lfS ct (fun j => (hsA g 2) (12 + j)) nt2, lfS ct (fun j => (hsA g 2) (8 + j)) cv2, lfS ct (fun j => (hsA g 3) (12 + j)) nt3, lfS ct (fun j => (hsA g 3) (8 + j)) cv3, lfP ct (fun j => (hsA g 0) (16 + j)) ps0, lfP ct (fun j => (hsA g 1) (16 + j)) ps1, lfP ct (fun j => (hsA g 2) (16 + j)) ps2, lfP ct (fun j => (hsA g 3) (16 + j)) ps3, lfK ct g] (LWs ct g am xo' nv rv h0 h1 h2 h3 nt0 cv0 nt1 cv1 nt2 cv2 nt3 cv3 ps0 ps1 ps2 ps3 mo) (LWs ct g am xo' nv rv h0 h1 h2 h3 nt0 cv0 nt1 cv1 nt2 cv2 nt3 cv3 ps0 ps1 ps2 ps3 mo') [20, 0, 1, 2, 3, 4, 5, 6, 7, 8, 9, 10, 11, 12, 13, 14, 15, 16, 17, 18, 19] 21 (by decide) rfl rfl rfl rfl) 92 rfl rfl ⟨Nat.le_of_ble_eq_true rfl, Nat.le_of_ble_eq_true rfl⟩ rfl hl.1 rfl (Nat.le_of_ble_eq_true rfl) dL_law_779 ⟨Nat.le_of_ble_eq_true rfl, Nat.le_of_ble_eq_true rfl⟩ (fun r9 w9 H locs hB hP hD hS => ?_)
  obtain ⟨rfl, rfl⟩ := hB
  refine W.widen (k := 107) (n := 2324) (Nat.le_of_ble_eq_true rfl) (Nat.le_of_ble_eq_true rfl) ?_
  refine W.eq (g2 := F0 m 782 ls [.int r, .int r]) rfl ?_
  refine lv_icmp_eq (tgt := 1095) hx hb dL_law_782 (by decide) (fun c1 => ?_) (fun c1 => absurd rfl c1)
  exact K xo' nv rv h0 h1 h2 h3 nt0 cv0 nt1 cv1 nt2 cv2 nt3 cv3 ps0 ps1 ps2 ps3 mo' hI _ _ ls hP hD hS hl
set_option maxHeartbeats 4000000 in
set_option maxRecDepth 100000 in
theorem law_look {p : Program} {l : Launch} {e : Env} {s : State} {m : MethodId} {below : List Frame} {meth : Method} {c : Code} {b L : Nat} {xs : Nat → Int32} {G : va_G} {ct : Nat → ClassId} {sk sv : Nat → Nat} {g am : Nat → Nat} {n : Nat} {INV : INVT} (C : LAWC l G ct sk sv p s m meth c b L xs) (S : SIM_look n INV) {i : Nat} (hi : i + 4 ≤ L) (K : LAt p l e s m below meth c b G ct g am INV i 1095) : LAt p l e s m below meth c b G ct g am INV i 787 := by
  obtain ⟨hx, hb, hr, hml, hown, hts, hK, hZ, hX, hbl, hlocks, hL2⟩ := C
  have hA : ∀ q : Nat, s.heap.size ≤ q → (fun q : Nat => s.heap.size ≤ q) q := fun _ h => h
  have hbA : ¬ (fun q : Nat => s.heap.size ≤ q) b := Nat.not_le.mpr hbl
  intro xo nv rv h0 h1 h2 h3 nt0 cv0 nt1 cv1 nt2 cv2 nt3 cv3 ps0 ps1 ps2 ps3 mo hI H locs ls hP hD hS hl
  refine lv_aload_n hx hb dL_law_787 rfl (lv_at hl 1 rfl) ?_
  refine lv_aload_n hx hb dL_law_788 rfl (lv_at hl 0 rfl) ?_
  refine lv_iload_n hx hb dL_law_789 rfl (lv_at hl 3 rfl) ?_
  refine lv_iconst (v := 1) hx hb dL_law_790 (by decide) ?_
  refine lv_iadd hx hb dL_law_791 ?_
  refine va_sld hx hb hX hbl hbA hS (scr_in hi hL2 (k := 1) (by decide) (by decide)) dL_law_792 ?_
  refine lv_aload_n hx hb dL_law_793 rfl (lv_at hl 0 rfl) ?_
  refine lv_iload_n hx hb dL_law_794 rfl (lv_at hl 3 rfl) ?_
  refine lv_iconst (v := 2) hx hb dL_law_795 (by decide) ?_
  refine lv_iadd hx hb dL_law_796 ?_
  refine va_sld hx hb hX hbl hbA hS (scr_in hi hL2 (k := 2) (by decide) (by decide)) dL_law_797 ?_
  obtain ⟨r, xo', mo', eq1, eq2, hI⟩ := S xo nv rv h0 h1 h2 h3 nt0 cv0 nt1 cv1 nt2 cv2 nt3 cv3 ps0 ps1 ps2 ps3 mo (xs (nI i + 1).toNatClampNeg) (xs (nI i + 2).toNatClampNeg) hI
  refine call_V (As := [.int (xs (nI i + 1).toNatClampNeg), .int (xs (nI i + 2).toNatClampNeg)]) (rest := []) hx hb hml hown hts hK hP hD hS hA hZ lkL_109 (Ctr.upL (c_X11_look l G ct sk sv g n xo h0 cv0 (xs (nI i + 1).toNatClampNeg) (xs (nI i + 2).toNatClampNeg) eq1) [lfN ct (fun j => g (10 + j)) nv, lfR ct (fun j => g (18 + j)) rv, lfH ct (hsA g 1) g h1, lfH ct (hsA g 2) g h2, lfH ct (hsA g 3) g h3, lfS ct (fun j => (hsA g 0) (12 + j)) nt0, lfS ct (fun j => (hsA g 1) (12 + j)) nt1, lfS ct (fun j => (hsA g 1) (8 + j)) cv1, lfS ct (fun j => (hsA g 2) (12 + j)) nt2, lfS ct (fun j => (hsA g 2) (8 + j)) cv2, lfS ct (fun j => (hsA g 3) (12 + j)) nt3, lfS ct (fun j => (hsA g 3) (8 + j)) cv3, lfP ct (fun j => (hsA g 0) (16 + j)) ps0, lfP ct (fun j => (hsA g 1) (16 + j)) ps1, lfP ct (fun j => (hsA g 2) (16 + j)) ps2, lfP ct (fun j => (hsA g 3) (16 + j)) ps3, lfM ct am mo] (LWs ct g am xo nv rv h0 h1 h2 h3 nt0 cv0 nt1 cv1 nt2 cv2 nt3 cv3 ps0 ps1 ps2 ps3 mo) (LWs ct g am xo' nv rv h0 h1 h2 h3 nt0 cv0 nt1 cv1 nt2 cv2 nt3 cv3 ps0 ps1 ps2 ps3 mo) [0, 3, 8, 19, 1, 2, 4, 5, 6, 7, 9, 10, 11, 12, 13, 14, 15, 16, 17, 18, 20] 21 (by decide) rfl rfl rfl rfl) 0 rfl rfl ⟨Nat.le_of_ble_eq_true rfl, Nat.le_of_ble_eq_true rfl⟩ rfl hl.1 rfl (Nat.le_of_ble_eq_true rfl) dL_law_798 ⟨Nat.le_of_ble_eq_true rfl, Nat.le_of_ble_eq_true rfl⟩ (fun r9 w9 H locs hB hP hD hS => ?_)
  obtain ⟨rfl, rfl⟩ := hB
  refine W.widen (k := 107) (n := 2324) (Nat.le_of_ble_eq_true rfl) (Nat.le_of_ble_eq_true rfl) ?_
  refine W.eq (g2 := F0 m 801 ls [.int r]) rfl ?_
  refine lv_aload_n hx hb dL_law_801 rfl (lv_at hl 2 rfl) ?_
  refine lv_aload_n hx hb dL_law_802 rfl (lv_at hl 0 rfl) ?_
  refine lv_iload_n hx hb dL_law_803 rfl (lv_at hl 3 rfl) ?_
  refine lv_iconst (v := 1) hx hb dL_law_804 (by decide) ?_
  refine lv_iadd hx hb dL_law_805 ?_
  refine va_sld hx hb hX hbl hbA hS (scr_in hi hL2 (k := 1) (by decide) (by decide)) dL_law_806 ?_
  refine lv_aload_n hx hb dL_law_807 rfl (lv_at hl 0 rfl) ?_
  refine lv_iload_n hx hb dL_law_808 rfl (lv_at hl 3 rfl) ?_
  refine lv_iconst (v := 2) hx hb dL_law_809 (by decide) ?_
  refine lv_iadd hx hb dL_law_810 ?_
  refine va_sld hx hb hX hbl hbA hS (scr_in hi hL2 (k := 2) (by decide) (by decide)) dL_law_811 ?_
  refine call_V (As := [.int (xs (nI i + 1).toNatClampNeg), .int (xs (nI i + 2).toNatClampNeg)]) (rest := [.int r]) hx hb hml hown hts hK hP hD hS hA hZ lkL_112 (Ctr.upL (c_X12_look l G ct sk sv am n mo (xs (nI i + 1).toNatClampNeg) (xs (nI i + 2).toNatClampNeg) eq2) [lfX ct g xo', lfN ct (fun j => g (10 + j)) nv, lfR ct (fun j => g (18 + j)) rv, lfH ct (hsA g 0) g h0, lfH ct (hsA g 1) g h1, lfH ct (hsA g 2) g h2, lfH ct (hsA g 3) g h3, lfS ct (fun j => (hsA g 0) (12 + j)) nt0, lfS ct (fun j => (hsA g 0) (8 + j)) cv0, lfS ct (fun j => (hsA g 1) (12 + j)) nt1, lfS ct (fun j => (hsA g 1) (8 + j)) cv1, lfS ct (fun j => (hsA g 2) (12 + j)) nt2, lfS ct (fun j => (hsA g 2) (8 + j)) cv2, lfS ct (fun j => (hsA g 3) (12 + j)) nt3, lfS ct (fun j => (hsA g 3) (8 + j)) cv3, lfP ct (fun j => (hsA g 0) (16 + j)) ps0, lfP ct (fun j => (hsA g 1) (16 + j)) ps1, lfP ct (fun j => (hsA g 2) (16 + j)) ps2, lfP ct (fun j => (hsA g 3) (16 + j)) ps3, lfK ct g] (LWs ct g am xo' nv rv h0 h1 h2 h3 nt0 cv0 nt1 cv1 nt2 cv2 nt3 cv3 ps0 ps1 ps2 ps3 mo) (LWs ct g am xo' nv rv h0 h1 h2 h3 nt0 cv0 nt1 cv1 nt2 cv2 nt3 cv3 ps0 ps1 ps2 ps3 mo') [20, 0, 1, 2, 3, 4, 5, 6, 7, 8, 9, 10, 11, 12, 13, 14, 15, 16, 17, 18, 19] 21 (by decide) rfl rfl rfl rfl) 92 rfl rfl ⟨Nat.le_of_ble_eq_true rfl, Nat.le_of_ble_eq_true rfl⟩ rfl hl.1 rfl (Nat.le_of_ble_eq_true rfl) dL_law_812 ⟨Nat.le_of_ble_eq_true rfl, Nat.le_of_ble_eq_true rfl⟩ (fun r9 w9 H locs hB hP hD hS => ?_)
  obtain ⟨rfl, rfl⟩ := hB
  refine W.widen (k := 107) (n := 2324) (Nat.le_of_ble_eq_true rfl) (Nat.le_of_ble_eq_true rfl) ?_
  refine W.eq (g2 := F0 m 815 ls [.int r, .int r]) rfl ?_
  refine lv_icmp_eq (tgt := 1095) hx hb dL_law_815 (by decide) (fun c1 => ?_) (fun c1 => absurd rfl c1)
  exact K xo' nv rv h0 h1 h2 h3 nt0 cv0 nt1 cv1 nt2 cv2 nt3 cv3 ps0 ps1 ps2 ps3 mo' hI _ _ ls hP hD hS hl
set_option maxHeartbeats 4000000 in
set_option maxRecDepth 100000 in
theorem law_forged {p : Program} {l : Launch} {e : Env} {s : State} {m : MethodId} {below : List Frame} {meth : Method} {c : Code} {b L : Nat} {xs : Nat → Int32} {G : va_G} {ct : Nat → ClassId} {sk sv : Nat → Nat} {g am : Nat → Nat} {n : Nat} {INV : INVT} (C : LAWC l G ct sk sv p s m meth c b L xs) (S : SIM_forged n INV) {i : Nat} (hi : i + 4 ≤ L) (K : LAt p l e s m below meth c b G ct g am INV i 1095) : LAt p l e s m below meth c b G ct g am INV i 820 := by
  obtain ⟨hx, hb, hr, hml, hown, hts, hK, hZ, hX, hbl, hlocks, hL2⟩ := C
  have hA : ∀ q : Nat, s.heap.size ≤ q → (fun q : Nat => s.heap.size ≤ q) q := fun _ h => h
  have hbA : ¬ (fun q : Nat => s.heap.size ≤ q) b := Nat.not_le.mpr hbl
  intro xo nv rv h0 h1 h2 h3 nt0 cv0 nt1 cv1 nt2 cv2 nt3 cv3 ps0 ps1 ps2 ps3 mo hI H locs ls hP hD hS hl
  refine lv_aload_n hx hb dL_law_820 rfl (lv_at hl 1 rfl) ?_
  refine lv_aload_n hx hb dL_law_821 rfl (lv_at hl 0 rfl) ?_
  refine lv_iload_n hx hb dL_law_822 rfl (lv_at hl 3 rfl) ?_
  refine lv_iconst (v := 1) hx hb dL_law_823 (by decide) ?_
  refine lv_iadd hx hb dL_law_824 ?_
  refine va_sld hx hb hX hbl hbA hS (scr_in hi hL2 (k := 1) (by decide) (by decide)) dL_law_825 ?_
  obtain ⟨r, xo', mo', eq1, eq2, hI⟩ := S xo nv rv h0 h1 h2 h3 nt0 cv0 nt1 cv1 nt2 cv2 nt3 cv3 ps0 ps1 ps2 ps3 mo (xs (nI i + 1).toNatClampNeg) hI
  refine call_V (As := [.int (xs (nI i + 1).toNatClampNeg)]) (rest := []) hx hb hml hown hts hK hP hD hS hA hZ lkL_113 (Ctr.upL (c_X11_forged l G ct sk sv g n xo h0 cv0 (xs (nI i + 1).toNatClampNeg) eq1) [lfN ct (fun j => g (10 + j)) nv, lfR ct (fun j => g (18 + j)) rv, lfH ct (hsA g 1) g h1, lfH ct (hsA g 2) g h2, lfH ct (hsA g 3) g h3, lfS ct (fun j => (hsA g 0) (12 + j)) nt0, lfS ct (fun j => (hsA g 1) (12 + j)) nt1, lfS ct (fun j => (hsA g 1) (8 + j)) cv1, lfS ct (fun j => (hsA g 2) (12 + j)) nt2, lfS ct (fun j => (hsA g 2) (8 + j)) cv2, lfS ct (fun j => (hsA g 3) (12 + j)) nt3, lfS ct (fun j => (hsA g 3) (8 + j)) cv3, lfP ct (fun j => (hsA g 0) (16 + j)) ps0, lfP ct (fun j => (hsA g 1) (16 + j)) ps1, lfP ct (fun j => (hsA g 2) (16 + j)) ps2, lfP ct (fun j => (hsA g 3) (16 + j)) ps3, lfM ct am mo] (LWs ct g am xo nv rv h0 h1 h2 h3 nt0 cv0 nt1 cv1 nt2 cv2 nt3 cv3 ps0 ps1 ps2 ps3 mo) (LWs ct g am xo' nv rv h0 h1 h2 h3 nt0 cv0 nt1 cv1 nt2 cv2 nt3 cv3 ps0 ps1 ps2 ps3 mo) [0, 3, 8, 19, 1, 2, 4, 5, 6, 7, 9, 10, 11, 12, 13, 14, 15, 16, 17, 18, 20] 21 (by decide) rfl rfl rfl rfl) 0 rfl rfl ⟨Nat.le_of_ble_eq_true rfl, Nat.le_of_ble_eq_true rfl⟩ rfl hl.1 rfl (Nat.le_of_ble_eq_true rfl) dL_law_826 ⟨Nat.le_of_ble_eq_true rfl, Nat.le_of_ble_eq_true rfl⟩ (fun r9 w9 H locs hB hP hD hS => ?_)
  obtain ⟨rfl, rfl⟩ := hB
  refine W.widen (k := 107) (n := 2324) (Nat.le_of_ble_eq_true rfl) (Nat.le_of_ble_eq_true rfl) ?_
  refine W.eq (g2 := F0 m 829 ls [.int r]) rfl ?_
  refine lv_aload_n hx hb dL_law_829 rfl (lv_at hl 2 rfl) ?_
  refine lv_aload_n hx hb dL_law_830 rfl (lv_at hl 0 rfl) ?_
  refine lv_iload_n hx hb dL_law_831 rfl (lv_at hl 3 rfl) ?_
  refine lv_iconst (v := 1) hx hb dL_law_832 (by decide) ?_
  refine lv_iadd hx hb dL_law_833 ?_
  refine va_sld hx hb hX hbl hbA hS (scr_in hi hL2 (k := 1) (by decide) (by decide)) dL_law_834 ?_
  refine call_V (As := [.int (xs (nI i + 1).toNatClampNeg)]) (rest := [.int r]) hx hb hml hown hts hK hP hD hS hA hZ lkL_116 (Ctr.upL (c_X12_forged l G ct sk sv am n mo (xs (nI i + 1).toNatClampNeg) eq2) [lfX ct g xo', lfN ct (fun j => g (10 + j)) nv, lfR ct (fun j => g (18 + j)) rv, lfH ct (hsA g 0) g h0, lfH ct (hsA g 1) g h1, lfH ct (hsA g 2) g h2, lfH ct (hsA g 3) g h3, lfS ct (fun j => (hsA g 0) (12 + j)) nt0, lfS ct (fun j => (hsA g 0) (8 + j)) cv0, lfS ct (fun j => (hsA g 1) (12 + j)) nt1, lfS ct (fun j => (hsA g 1) (8 + j)) cv1, lfS ct (fun j => (hsA g 2) (12 + j)) nt2, lfS ct (fun j => (hsA g 2) (8 + j)) cv2, lfS ct (fun j => (hsA g 3) (12 + j)) nt3, lfS ct (fun j => (hsA g 3) (8 + j)) cv3, lfP ct (fun j => (hsA g 0) (16 + j)) ps0, lfP ct (fun j => (hsA g 1) (16 + j)) ps1, lfP ct (fun j => (hsA g 2) (16 + j)) ps2, lfP ct (fun j => (hsA g 3) (16 + j)) ps3, lfK ct g] (LWs ct g am xo' nv rv h0 h1 h2 h3 nt0 cv0 nt1 cv1 nt2 cv2 nt3 cv3 ps0 ps1 ps2 ps3 mo) (LWs ct g am xo' nv rv h0 h1 h2 h3 nt0 cv0 nt1 cv1 nt2 cv2 nt3 cv3 ps0 ps1 ps2 ps3 mo') [20, 0, 1, 2, 3, 4, 5, 6, 7, 8, 9, 10, 11, 12, 13, 14, 15, 16, 17, 18, 19] 21 (by decide) rfl rfl rfl rfl) 92 rfl rfl ⟨Nat.le_of_ble_eq_true rfl, Nat.le_of_ble_eq_true rfl⟩ rfl hl.1 rfl (Nat.le_of_ble_eq_true rfl) dL_law_835 ⟨Nat.le_of_ble_eq_true rfl, Nat.le_of_ble_eq_true rfl⟩ (fun r9 w9 H locs hB hP hD hS => ?_)
  obtain ⟨rfl, rfl⟩ := hB
  refine W.widen (k := 107) (n := 2324) (Nat.le_of_ble_eq_true rfl) (Nat.le_of_ble_eq_true rfl) ?_
  refine W.eq (g2 := F0 m 838 ls [.int r, .int r]) rfl ?_
  refine lv_icmp_eq (tgt := 1095) hx hb dL_law_838 (by decide) (fun c1 => ?_) (fun c1 => absurd rfl c1)
  exact K xo' nv rv h0 h1 h2 h3 nt0 cv0 nt1 cv1 nt2 cv2 nt3 cv3 ps0 ps1 ps2 ps3 mo' hI _ _ ls hP hD hS hl
set_option maxHeartbeats 4000000 in
set_option maxRecDepth 100000 in
theorem law_is {p : Program} {l : Launch} {e : Env} {s : State} {m : MethodId} {below : List Frame} {meth : Method} {c : Code} {b L : Nat} {xs : Nat → Int32} {G : va_G} {ct : Nat → ClassId} {sk sv : Nat → Nat} {g am : Nat → Nat} {n : Nat} {INV : INVT} (C : LAWC l G ct sk sv p s m meth c b L xs) (S : SIM_is n INV) {i : Nat} (hi : i + 4 ≤ L) (K : LAt p l e s m below meth c b G ct g am INV i 1095) : LAt p l e s m below meth c b G ct g am INV i 843 := by
  obtain ⟨hx, hb, hr, hml, hown, hts, hK, hZ, hX, hbl, hlocks, hL2⟩ := C
  have hA : ∀ q : Nat, s.heap.size ≤ q → (fun q : Nat => s.heap.size ≤ q) q := fun _ h => h
  have hbA : ¬ (fun q : Nat => s.heap.size ≤ q) b := Nat.not_le.mpr hbl
  intro xo nv rv h0 h1 h2 h3 nt0 cv0 nt1 cv1 nt2 cv2 nt3 cv3 ps0 ps1 ps2 ps3 mo hI H locs ls hP hD hS hl
  refine lv_aload_n hx hb dL_law_843 rfl (lv_at hl 1 rfl) ?_
  refine lv_aload_n hx hb dL_law_844 rfl (lv_at hl 0 rfl) ?_
  refine lv_iload_n hx hb dL_law_845 rfl (lv_at hl 3 rfl) ?_
  refine lv_iconst (v := 1) hx hb dL_law_846 (by decide) ?_
  refine lv_iadd hx hb dL_law_847 ?_
  refine va_sld hx hb hX hbl hbA hS (scr_in hi hL2 (k := 1) (by decide) (by decide)) dL_law_848 ?_
  obtain ⟨r, xo', mo', eq1, eq2, hI⟩ := S xo nv rv h0 h1 h2 h3 nt0 cv0 nt1 cv1 nt2 cv2 nt3 cv3 ps0 ps1 ps2 ps3 mo (xs (nI i + 1).toNatClampNeg) hI
  refine call_V (As := [.int (xs (nI i + 1).toNatClampNeg)]) (rest := []) hx hb hml hown hts hK hP hD hS hA hZ lkL_117 (Ctr.upL (c_X11_is l G ct sk sv g n xo h0 nt0 (xs (nI i + 1).toNatClampNeg) eq1) [lfN ct (fun j => g (10 + j)) nv, lfR ct (fun j => g (18 + j)) rv, lfH ct (hsA g 1) g h1, lfH ct (hsA g 2) g h2, lfH ct (hsA g 3) g h3, lfS ct (fun j => (hsA g 0) (8 + j)) cv0, lfS ct (fun j => (hsA g 1) (12 + j)) nt1, lfS ct (fun j => (hsA g 1) (8 + j)) cv1, lfS ct (fun j => (hsA g 2) (12 + j)) nt2, lfS ct (fun j => (hsA g 2) (8 + j)) cv2, lfS ct (fun j => (hsA g 3) (12 + j)) nt3, lfS ct (fun j => (hsA g 3) (8 + j)) cv3, lfP ct (fun j => (hsA g 0) (16 + j)) ps0, lfP ct (fun j => (hsA g 1) (16 + j)) ps1, lfP ct (fun j => (hsA g 2) (16 + j)) ps2, lfP ct (fun j => (hsA g 3) (16 + j)) ps3, lfM ct am mo] (LWs ct g am xo nv rv h0 h1 h2 h3 nt0 cv0 nt1 cv1 nt2 cv2 nt3 cv3 ps0 ps1 ps2 ps3 mo) (LWs ct g am xo' nv rv h0 h1 h2 h3 nt0 cv0 nt1 cv1 nt2 cv2 nt3 cv3 ps0 ps1 ps2 ps3 mo) [0, 3, 7, 19, 1, 2, 4, 5, 6, 8, 9, 10, 11, 12, 13, 14, 15, 16, 17, 18, 20] 21 (by decide) rfl rfl rfl rfl) 0 rfl rfl ⟨Nat.le_of_ble_eq_true rfl, Nat.le_of_ble_eq_true rfl⟩ rfl hl.1 rfl (Nat.le_of_ble_eq_true rfl) dL_law_849 ⟨Nat.le_of_ble_eq_true rfl, Nat.le_of_ble_eq_true rfl⟩ (fun r9 w9 H locs hB hP hD hS => ?_)
  obtain ⟨rfl, rfl⟩ := hB
  refine W.widen (k := 107) (n := 2324) (Nat.le_of_ble_eq_true rfl) (Nat.le_of_ble_eq_true rfl) ?_
  refine W.eq (g2 := F0 m 852 ls [.int r]) rfl ?_
  refine lv_aload_n hx hb dL_law_852 rfl (lv_at hl 2 rfl) ?_
  refine lv_aload_n hx hb dL_law_853 rfl (lv_at hl 0 rfl) ?_
  refine lv_iload_n hx hb dL_law_854 rfl (lv_at hl 3 rfl) ?_
  refine lv_iconst (v := 1) hx hb dL_law_855 (by decide) ?_
  refine lv_iadd hx hb dL_law_856 ?_
  refine va_sld hx hb hX hbl hbA hS (scr_in hi hL2 (k := 1) (by decide) (by decide)) dL_law_857 ?_
  refine call_V (As := [.int (xs (nI i + 1).toNatClampNeg)]) (rest := [.int r]) hx hb hml hown hts hK hP hD hS hA hZ lkL_120 (Ctr.upL (c_X12_is l G ct sk sv am n mo (xs (nI i + 1).toNatClampNeg) eq2) [lfX ct g xo', lfN ct (fun j => g (10 + j)) nv, lfR ct (fun j => g (18 + j)) rv, lfH ct (hsA g 0) g h0, lfH ct (hsA g 1) g h1, lfH ct (hsA g 2) g h2, lfH ct (hsA g 3) g h3, lfS ct (fun j => (hsA g 0) (12 + j)) nt0, lfS ct (fun j => (hsA g 0) (8 + j)) cv0, lfS ct (fun j => (hsA g 1) (12 + j)) nt1, lfS ct (fun j => (hsA g 1) (8 + j)) cv1, lfS ct (fun j => (hsA g 2) (12 + j)) nt2, lfS ct (fun j => (hsA g 2) (8 + j)) cv2, lfS ct (fun j => (hsA g 3) (12 + j)) nt3, lfS ct (fun j => (hsA g 3) (8 + j)) cv3, lfP ct (fun j => (hsA g 0) (16 + j)) ps0, lfP ct (fun j => (hsA g 1) (16 + j)) ps1, lfP ct (fun j => (hsA g 2) (16 + j)) ps2, lfP ct (fun j => (hsA g 3) (16 + j)) ps3, lfK ct g] (LWs ct g am xo' nv rv h0 h1 h2 h3 nt0 cv0 nt1 cv1 nt2 cv2 nt3 cv3 ps0 ps1 ps2 ps3 mo) (LWs ct g am xo' nv rv h0 h1 h2 h3 nt0 cv0 nt1 cv1 nt2 cv2 nt3 cv3 ps0 ps1 ps2 ps3 mo') [20, 0, 1, 2, 3, 4, 5, 6, 7, 8, 9, 10, 11, 12, 13, 14, 15, 16, 17, 18, 19] 21 (by decide) rfl rfl rfl rfl) 92 rfl rfl ⟨Nat.le_of_ble_eq_true rfl, Nat.le_of_ble_eq_true rfl⟩ rfl hl.1 rfl (Nat.le_of_ble_eq_true rfl) dL_law_858 ⟨Nat.le_of_ble_eq_true rfl, Nat.le_of_ble_eq_true rfl⟩ (fun r9 w9 H locs hB hP hD hS => ?_)
  obtain ⟨rfl, rfl⟩ := hB
  refine W.widen (k := 107) (n := 2324) (Nat.le_of_ble_eq_true rfl) (Nat.le_of_ble_eq_true rfl) ?_
  refine W.eq (g2 := F0 m 861 ls [.int r, .int r]) rfl ?_
  refine lv_icmp_eq (tgt := 1095) hx hb dL_law_861 (by decide) (fun c1 => ?_) (fun c1 => absurd rfl c1)
  exact K xo' nv rv h0 h1 h2 h3 nt0 cv0 nt1 cv1 nt2 cv2 nt3 cv3 ps0 ps1 ps2 ps3 mo' hI _ _ ls hP hD hS hl
set_option maxHeartbeats 4000000 in
set_option maxRecDepth 100000 in
theorem law_sell {p : Program} {l : Launch} {e : Env} {s : State} {m : MethodId} {below : List Frame} {meth : Method} {c : Code} {b L : Nat} {xs : Nat → Int32} {G : va_G} {ct : Nat → ClassId} {sk sv : Nat → Nat} {g am : Nat → Nat} {n : Nat} {INV : INVT} (C : LAWC l G ct sk sv p s m meth c b L xs) (S : SIM_sell n INV) {i : Nat} (hi : i + 4 ≤ L) (K : LAt p l e s m below meth c b G ct g am INV i 1095) : LAt p l e s m below meth c b G ct g am INV i 866 := by
  obtain ⟨hx, hb, hr, hml, hown, hts, hK, hZ, hX, hbl, hlocks, hL2⟩ := C
  have hA : ∀ q : Nat, s.heap.size ≤ q → (fun q : Nat => s.heap.size ≤ q) q := fun _ h => h
  have hbA : ¬ (fun q : Nat => s.heap.size ≤ q) b := Nat.not_le.mpr hbl
  intro xo nv rv h0 h1 h2 h3 nt0 cv0 nt1 cv1 nt2 cv2 nt3 cv3 ps0 ps1 ps2 ps3 mo hI H locs ls hP hD hS hl
  refine lv_aload_n hx hb dL_law_866 rfl (lv_at hl 1 rfl) ?_
  refine lv_aload_n hx hb dL_law_867 rfl (lv_at hl 0 rfl) ?_
  refine lv_iload_n hx hb dL_law_868 rfl (lv_at hl 3 rfl) ?_
  refine lv_iconst (v := 1) hx hb dL_law_869 (by decide) ?_
  refine lv_iadd hx hb dL_law_870 ?_
  refine va_sld hx hb hX hbl hbA hS (scr_in hi hL2 (k := 1) (by decide) (by decide)) dL_law_871 ?_
  refine lv_aload_n hx hb dL_law_872 rfl (lv_at hl 0 rfl) ?_
  refine lv_iload_n hx hb dL_law_873 rfl (lv_at hl 3 rfl) ?_
  refine lv_iconst (v := 2) hx hb dL_law_874 (by decide) ?_
  refine lv_iadd hx hb dL_law_875 ?_
  refine va_sld hx hb hX hbl hbA hS (scr_in hi hL2 (k := 2) (by decide) (by decide)) dL_law_876 ?_
  refine lv_aload_n hx hb dL_law_877 rfl (lv_at hl 0 rfl) ?_
  refine lv_iload_n hx hb dL_law_878 rfl (lv_at hl 3 rfl) ?_
  refine lv_iconst (v := 3) hx hb dL_law_879 (by decide) ?_
  refine lv_iadd hx hb dL_law_880 ?_
  refine va_sld hx hb hX hbl hbA hS (scr_in hi hL2 (k := 3) (by decide) (by decide)) dL_law_881 ?_
  obtain ⟨r, xo', mo', eq1, eq2, hI⟩ := S xo nv rv h0 h1 h2 h3 nt0 cv0 nt1 cv1 nt2 cv2 nt3 cv3 ps0 ps1 ps2 ps3 mo (xs (nI i + 1).toNatClampNeg) (xs (nI i + 2).toNatClampNeg) (xs (nI i + 3).toNatClampNeg) hI
  refine call_V (As := [.int (xs (nI i + 1).toNatClampNeg), .int (xs (nI i + 2).toNatClampNeg), .int (xs (nI i + 3).toNatClampNeg)]) (rest := []) hx hb hml hown hts hK hP hD hS hA hZ lkL_121 (Ctr.upL (c_X11_sell l G ct sk sv g n xo nv h0 (xs (nI i + 1).toNatClampNeg) (xs (nI i + 2).toNatClampNeg) (xs (nI i + 3).toNatClampNeg) eq1) [lfR ct (fun j => g (18 + j)) rv, lfH ct (hsA g 1) g h1, lfH ct (hsA g 2) g h2, lfH ct (hsA g 3) g h3, lfS ct (fun j => (hsA g 0) (12 + j)) nt0, lfS ct (fun j => (hsA g 0) (8 + j)) cv0, lfS ct (fun j => (hsA g 1) (12 + j)) nt1, lfS ct (fun j => (hsA g 1) (8 + j)) cv1, lfS ct (fun j => (hsA g 2) (12 + j)) nt2, lfS ct (fun j => (hsA g 2) (8 + j)) cv2, lfS ct (fun j => (hsA g 3) (12 + j)) nt3, lfS ct (fun j => (hsA g 3) (8 + j)) cv3, lfP ct (fun j => (hsA g 0) (16 + j)) ps0, lfP ct (fun j => (hsA g 1) (16 + j)) ps1, lfP ct (fun j => (hsA g 2) (16 + j)) ps2, lfP ct (fun j => (hsA g 3) (16 + j)) ps3, lfM ct am mo] (LWs ct g am xo nv rv h0 h1 h2 h3 nt0 cv0 nt1 cv1 nt2 cv2 nt3 cv3 ps0 ps1 ps2 ps3 mo) (LWs ct g am xo' nv rv h0 h1 h2 h3 nt0 cv0 nt1 cv1 nt2 cv2 nt3 cv3 ps0 ps1 ps2 ps3 mo) [0, 1, 3, 19, 2, 4, 5, 6, 7, 8, 9, 10, 11, 12, 13, 14, 15, 16, 17, 18, 20] 21 (by decide) rfl rfl rfl rfl) 0 rfl rfl ⟨Nat.le_of_ble_eq_true rfl, Nat.le_of_ble_eq_true rfl⟩ rfl hl.1 rfl (Nat.le_of_ble_eq_true rfl) dL_law_882 ⟨Nat.le_of_ble_eq_true rfl, Nat.le_of_ble_eq_true rfl⟩ (fun r9 w9 H locs hB hP hD hS => ?_)
  obtain ⟨rfl, rfl⟩ := hB
  refine W.widen (k := 107) (n := 2324) (Nat.le_of_ble_eq_true rfl) (Nat.le_of_ble_eq_true rfl) ?_
  refine W.eq (g2 := F0 m 885 ls [.int r]) rfl ?_
  refine lv_aload_n hx hb dL_law_885 rfl (lv_at hl 2 rfl) ?_
  refine lv_aload_n hx hb dL_law_886 rfl (lv_at hl 0 rfl) ?_
  refine lv_iload_n hx hb dL_law_887 rfl (lv_at hl 3 rfl) ?_
  refine lv_iconst (v := 1) hx hb dL_law_888 (by decide) ?_
  refine lv_iadd hx hb dL_law_889 ?_
  refine va_sld hx hb hX hbl hbA hS (scr_in hi hL2 (k := 1) (by decide) (by decide)) dL_law_890 ?_
  refine lv_aload_n hx hb dL_law_891 rfl (lv_at hl 0 rfl) ?_
  refine lv_iload_n hx hb dL_law_892 rfl (lv_at hl 3 rfl) ?_
  refine lv_iconst (v := 2) hx hb dL_law_893 (by decide) ?_
  refine lv_iadd hx hb dL_law_894 ?_
  refine va_sld hx hb hX hbl hbA hS (scr_in hi hL2 (k := 2) (by decide) (by decide)) dL_law_895 ?_
  refine lv_aload_n hx hb dL_law_896 rfl (lv_at hl 0 rfl) ?_
  refine lv_iload_n hx hb dL_law_897 rfl (lv_at hl 3 rfl) ?_
  refine lv_iconst (v := 3) hx hb dL_law_898 (by decide) ?_
  refine lv_iadd hx hb dL_law_899 ?_
  refine va_sld hx hb hX hbl hbA hS (scr_in hi hL2 (k := 3) (by decide) (by decide)) dL_law_900 ?_
  refine call_V (As := [.int (xs (nI i + 1).toNatClampNeg), .int (xs (nI i + 2).toNatClampNeg), .int (xs (nI i + 3).toNatClampNeg)]) (rest := [.int r]) hx hb hml hown hts hK hP hD hS hA hZ lkL_124 (Ctr.upL (c_X12_sell l G ct sk sv am n mo (xs (nI i + 1).toNatClampNeg) (xs (nI i + 2).toNatClampNeg) (xs (nI i + 3).toNatClampNeg) eq2) [lfX ct g xo', lfN ct (fun j => g (10 + j)) nv, lfR ct (fun j => g (18 + j)) rv, lfH ct (hsA g 0) g h0, lfH ct (hsA g 1) g h1, lfH ct (hsA g 2) g h2, lfH ct (hsA g 3) g h3, lfS ct (fun j => (hsA g 0) (12 + j)) nt0, lfS ct (fun j => (hsA g 0) (8 + j)) cv0, lfS ct (fun j => (hsA g 1) (12 + j)) nt1, lfS ct (fun j => (hsA g 1) (8 + j)) cv1, lfS ct (fun j => (hsA g 2) (12 + j)) nt2, lfS ct (fun j => (hsA g 2) (8 + j)) cv2, lfS ct (fun j => (hsA g 3) (12 + j)) nt3, lfS ct (fun j => (hsA g 3) (8 + j)) cv3, lfP ct (fun j => (hsA g 0) (16 + j)) ps0, lfP ct (fun j => (hsA g 1) (16 + j)) ps1, lfP ct (fun j => (hsA g 2) (16 + j)) ps2, lfP ct (fun j => (hsA g 3) (16 + j)) ps3, lfK ct g] (LWs ct g am xo' nv rv h0 h1 h2 h3 nt0 cv0 nt1 cv1 nt2 cv2 nt3 cv3 ps0 ps1 ps2 ps3 mo) (LWs ct g am xo' nv rv h0 h1 h2 h3 nt0 cv0 nt1 cv1 nt2 cv2 nt3 cv3 ps0 ps1 ps2 ps3 mo') [20, 0, 1, 2, 3, 4, 5, 6, 7, 8, 9, 10, 11, 12, 13, 14, 15, 16, 17, 18, 19] 21 (by decide) rfl rfl rfl rfl) 92 rfl rfl ⟨Nat.le_of_ble_eq_true rfl, Nat.le_of_ble_eq_true rfl⟩ rfl hl.1 rfl (Nat.le_of_ble_eq_true rfl) dL_law_901 ⟨Nat.le_of_ble_eq_true rfl, Nat.le_of_ble_eq_true rfl⟩ (fun r9 w9 H locs hB hP hD hS => ?_)
  obtain ⟨rfl, rfl⟩ := hB
  refine W.widen (k := 107) (n := 2324) (Nat.le_of_ble_eq_true rfl) (Nat.le_of_ble_eq_true rfl) ?_
  refine W.eq (g2 := F0 m 904 ls [.int r, .int r]) rfl ?_
  refine lv_icmp_eq (tgt := 1095) hx hb dL_law_904 (by decide) (fun c1 => ?_) (fun c1 => absurd rfl c1)
  exact K xo' nv rv h0 h1 h2 h3 nt0 cv0 nt1 cv1 nt2 cv2 nt3 cv3 ps0 ps1 ps2 ps3 mo' hI _ _ ls hP hD hS hl
set_option maxHeartbeats 4000000 in
set_option maxRecDepth 100000 in
theorem law_found {p : Program} {l : Launch} {e : Env} {s : State} {m : MethodId} {below : List Frame} {meth : Method} {c : Code} {b L : Nat} {xs : Nat → Int32} {G : va_G} {ct : Nat → ClassId} {sk sv : Nat → Nat} {g am : Nat → Nat} {n : Nat} {INV : INVT} (C : LAWC l G ct sk sv p s m meth c b L xs) (S : SIM_found n INV) {i : Nat} (hi : i + 4 ≤ L) (K : LAt p l e s m below meth c b G ct g am INV i 1095) : LAt p l e s m below meth c b G ct g am INV i 909 := by
  obtain ⟨hx, hb, hr, hml, hown, hts, hK, hZ, hX, hbl, hlocks, hL2⟩ := C
  have hA : ∀ q : Nat, s.heap.size ≤ q → (fun q : Nat => s.heap.size ≤ q) q := fun _ h => h
  have hbA : ¬ (fun q : Nat => s.heap.size ≤ q) b := Nat.not_le.mpr hbl
  intro xo nv rv h0 h1 h2 h3 nt0 cv0 nt1 cv1 nt2 cv2 nt3 cv3 ps0 ps1 ps2 ps3 mo hI H locs ls hP hD hS hl
  refine lv_aload_n hx hb dL_law_909 rfl (lv_at hl 1 rfl) ?_
  refine lv_aload_n hx hb dL_law_910 rfl (lv_at hl 0 rfl) ?_
  refine lv_iload_n hx hb dL_law_911 rfl (lv_at hl 3 rfl) ?_
  refine lv_iconst (v := 1) hx hb dL_law_912 (by decide) ?_
  refine lv_iadd hx hb dL_law_913 ?_
  refine va_sld hx hb hX hbl hbA hS (scr_in hi hL2 (k := 1) (by decide) (by decide)) dL_law_914 ?_
  obtain ⟨r, xo', mo', eq1, eq2, hI⟩ := S xo nv rv h0 h1 h2 h3 nt0 cv0 nt1 cv1 nt2 cv2 nt3 cv3 ps0 ps1 ps2 ps3 mo (xs (nI i + 1).toNatClampNeg) hI
  refine call_V (As := [.int (xs (nI i + 1).toNatClampNeg)]) (rest := []) hx hb hml hown hts hK hP hD hS hA hZ lkL_125 (Ctr.upL (c_X11_found l G ct sk sv g n xo h0 (xs (nI i + 1).toNatClampNeg) eq1) [lfN ct (fun j => g (10 + j)) nv, lfR ct (fun j => g (18 + j)) rv, lfH ct (hsA g 1) g h1, lfH ct (hsA g 2) g h2, lfH ct (hsA g 3) g h3, lfS ct (fun j => (hsA g 0) (12 + j)) nt0, lfS ct (fun j => (hsA g 0) (8 + j)) cv0, lfS ct (fun j => (hsA g 1) (12 + j)) nt1, lfS ct (fun j => (hsA g 1) (8 + j)) cv1, lfS ct (fun j => (hsA g 2) (12 + j)) nt2, lfS ct (fun j => (hsA g 2) (8 + j)) cv2, lfS ct (fun j => (hsA g 3) (12 + j)) nt3, lfS ct (fun j => (hsA g 3) (8 + j)) cv3, lfP ct (fun j => (hsA g 0) (16 + j)) ps0, lfP ct (fun j => (hsA g 1) (16 + j)) ps1, lfP ct (fun j => (hsA g 2) (16 + j)) ps2, lfP ct (fun j => (hsA g 3) (16 + j)) ps3, lfK ct g, lfM ct am mo] (LWs ct g am xo nv rv h0 h1 h2 h3 nt0 cv0 nt1 cv1 nt2 cv2 nt3 cv3 ps0 ps1 ps2 ps3 mo) (LWs ct g am xo' nv rv h0 h1 h2 h3 nt0 cv0 nt1 cv1 nt2 cv2 nt3 cv3 ps0 ps1 ps2 ps3 mo) [0, 3, 1, 2, 4, 5, 6, 7, 8, 9, 10, 11, 12, 13, 14, 15, 16, 17, 18, 19, 20] 21 (by decide) rfl rfl rfl rfl) 0 rfl rfl ⟨Nat.le_of_ble_eq_true rfl, Nat.le_of_ble_eq_true rfl⟩ rfl hl.1 rfl (Nat.le_of_ble_eq_true rfl) dL_law_915 ⟨Nat.le_of_ble_eq_true rfl, Nat.le_of_ble_eq_true rfl⟩ (fun r9 w9 H locs hB hP hD hS => ?_)
  obtain ⟨rfl, rfl⟩ := hB
  refine W.widen (k := 107) (n := 2324) (Nat.le_of_ble_eq_true rfl) (Nat.le_of_ble_eq_true rfl) ?_
  refine W.eq (g2 := F0 m 918 ls [.int r]) rfl ?_
  refine lv_aload_n hx hb dL_law_918 rfl (lv_at hl 2 rfl) ?_
  refine lv_aload_n hx hb dL_law_919 rfl (lv_at hl 0 rfl) ?_
  refine lv_iload_n hx hb dL_law_920 rfl (lv_at hl 3 rfl) ?_
  refine lv_iconst (v := 1) hx hb dL_law_921 (by decide) ?_
  refine lv_iadd hx hb dL_law_922 ?_
  refine va_sld hx hb hX hbl hbA hS (scr_in hi hL2 (k := 1) (by decide) (by decide)) dL_law_923 ?_
  refine call_V (As := [.int (xs (nI i + 1).toNatClampNeg)]) (rest := [.int r]) hx hb hml hown hts hK hP hD hS hA hZ lkL_128 (Ctr.upL (c_X12_found l G ct sk sv am n mo (xs (nI i + 1).toNatClampNeg) eq2) [lfX ct g xo', lfN ct (fun j => g (10 + j)) nv, lfR ct (fun j => g (18 + j)) rv, lfH ct (hsA g 0) g h0, lfH ct (hsA g 1) g h1, lfH ct (hsA g 2) g h2, lfH ct (hsA g 3) g h3, lfS ct (fun j => (hsA g 0) (12 + j)) nt0, lfS ct (fun j => (hsA g 0) (8 + j)) cv0, lfS ct (fun j => (hsA g 1) (12 + j)) nt1, lfS ct (fun j => (hsA g 1) (8 + j)) cv1, lfS ct (fun j => (hsA g 2) (12 + j)) nt2, lfS ct (fun j => (hsA g 2) (8 + j)) cv2, lfS ct (fun j => (hsA g 3) (12 + j)) nt3, lfS ct (fun j => (hsA g 3) (8 + j)) cv3, lfP ct (fun j => (hsA g 0) (16 + j)) ps0, lfP ct (fun j => (hsA g 1) (16 + j)) ps1, lfP ct (fun j => (hsA g 2) (16 + j)) ps2, lfP ct (fun j => (hsA g 3) (16 + j)) ps3, lfK ct g] (LWs ct g am xo' nv rv h0 h1 h2 h3 nt0 cv0 nt1 cv1 nt2 cv2 nt3 cv3 ps0 ps1 ps2 ps3 mo) (LWs ct g am xo' nv rv h0 h1 h2 h3 nt0 cv0 nt1 cv1 nt2 cv2 nt3 cv3 ps0 ps1 ps2 ps3 mo') [20, 0, 1, 2, 3, 4, 5, 6, 7, 8, 9, 10, 11, 12, 13, 14, 15, 16, 17, 18, 19] 21 (by decide) rfl rfl rfl rfl) 92 rfl rfl ⟨Nat.le_of_ble_eq_true rfl, Nat.le_of_ble_eq_true rfl⟩ rfl hl.1 rfl (Nat.le_of_ble_eq_true rfl) dL_law_924 ⟨Nat.le_of_ble_eq_true rfl, Nat.le_of_ble_eq_true rfl⟩ (fun r9 w9 H locs hB hP hD hS => ?_)
  obtain ⟨rfl, rfl⟩ := hB
  refine W.widen (k := 107) (n := 2324) (Nat.le_of_ble_eq_true rfl) (Nat.le_of_ble_eq_true rfl) ?_
  refine W.eq (g2 := F0 m 927 ls [.int r, .int r]) rfl ?_
  refine lv_icmp_eq (tgt := 1095) hx hb dL_law_927 (by decide) (fun c1 => ?_) (fun c1 => absurd rfl c1)
  exact K xo' nv rv h0 h1 h2 h3 nt0 cv0 nt1 cv1 nt2 cv2 nt3 cv3 ps0 ps1 ps2 ps3 mo' hI _ _ ls hP hD hS hl
set_option maxHeartbeats 4000000 in
set_option maxRecDepth 100000 in
theorem law_sessions {p : Program} {l : Launch} {e : Env} {s : State} {m : MethodId} {below : List Frame} {meth : Method} {c : Code} {b L : Nat} {xs : Nat → Int32} {G : va_G} {ct : Nat → ClassId} {sk sv : Nat → Nat} {g am : Nat → Nat} {n : Nat} {INV : INVT} (C : LAWC l G ct sk sv p s m meth c b L xs) (S : SIM_sessions n INV) {i : Nat} (hi : i + 4 ≤ L) (K : LAt p l e s m below meth c b G ct g am INV i 1095) : LAt p l e s m below meth c b G ct g am INV i 932 := by
  obtain ⟨hx, hb, hr, hml, hown, hts, hK, hZ, hX, hbl, hlocks, hL2⟩ := C
  have hA : ∀ q : Nat, s.heap.size ≤ q → (fun q : Nat => s.heap.size ≤ q) q := fun _ h => h
  have hbA : ¬ (fun q : Nat => s.heap.size ≤ q) b := Nat.not_le.mpr hbl
  intro xo nv rv h0 h1 h2 h3 nt0 cv0 nt1 cv1 nt2 cv2 nt3 cv3 ps0 ps1 ps2 ps3 mo hI H locs ls hP hD hS hl
  refine lv_aload_n hx hb dL_law_932 rfl (lv_at hl 1 rfl) ?_
  refine lv_aload_n hx hb dL_law_933 rfl (lv_at hl 0 rfl) ?_
  refine lv_iload_n hx hb dL_law_934 rfl (lv_at hl 3 rfl) ?_
  refine lv_iconst (v := 1) hx hb dL_law_935 (by decide) ?_
  refine lv_iadd hx hb dL_law_936 ?_
  refine va_sld hx hb hX hbl hbA hS (scr_in hi hL2 (k := 1) (by decide) (by decide)) dL_law_937 ?_
  refine lv_aload_n hx hb dL_law_938 rfl (lv_at hl 0 rfl) ?_
  refine lv_iload_n hx hb dL_law_939 rfl (lv_at hl 3 rfl) ?_
  refine lv_iconst (v := 2) hx hb dL_law_940 (by decide) ?_
  refine lv_iadd hx hb dL_law_941 ?_
  refine va_sld hx hb hX hbl hbA hS (scr_in hi hL2 (k := 2) (by decide) (by decide)) dL_law_942 ?_
  obtain ⟨r, xo', h1', nt1', cv1', ps1', mo', eq1, eq2, hI⟩ := S xo nv rv h0 h1 h2 h3 nt0 cv0 nt1 cv1 nt2 cv2 nt3 cv3 ps0 ps1 ps2 ps3 mo (xs (nI i + 1).toNatClampNeg) (xs (nI i + 2).toNatClampNeg) hI
  refine call_V (As := [.int (xs (nI i + 1).toNatClampNeg), .int (xs (nI i + 2).toNatClampNeg)]) (rest := []) hx hb hml hown hts hK hP hD hS hA hZ lkL_129 (Ctr.upL (c_X11_sessions l G ct sk sv g n xo h0 h1 nt0 cv0 nt1 cv1 ps0 ps1 (xs (nI i + 1).toNatClampNeg) (xs (nI i + 2).toNatClampNeg) eq1) [lfN ct (fun j => g (10 + j)) nv, lfR ct (fun j => g (18 + j)) rv, lfH ct (hsA g 2) g h2, lfH ct (hsA g 3) g h3, lfS ct (fun j => (hsA g 2) (12 + j)) nt2, lfS ct (fun j => (hsA g 2) (8 + j)) cv2, lfS ct (fun j => (hsA g 3) (12 + j)) nt3, lfS ct (fun j => (hsA g 3) (8 + j)) cv3, lfP ct (fun j => (hsA g 2) (16 + j)) ps2, lfP ct (fun j => (hsA g 3) (16 + j)) ps3, lfM ct am mo] (LWs ct g am xo nv rv h0 h1 h2 h3 nt0 cv0 nt1 cv1 nt2 cv2 nt3 cv3 ps0 ps1 ps2 ps3 mo) (LWs ct g am xo' nv rv h0 h1' h2 h3 nt0 cv0 nt1' cv1' nt2 cv2 nt3 cv3 ps0 ps1' ps2 ps3 mo) [0, 3, 4, 7, 8, 9, 10, 15, 16, 19, 1, 2, 5, 6, 11, 12, 13, 14, 17, 18, 20] 21 (by decide) rfl rfl rfl rfl) 0 rfl rfl ⟨Nat.le_of_ble_eq_true rfl, Nat.le_of_ble_eq_true rfl⟩ rfl hl.1 rfl (Nat.le_of_ble_eq_true rfl) dL_law_943 ⟨Nat.le_of_ble_eq_true rfl, Nat.le_of_ble_eq_true rfl⟩ (fun r9 w9 H locs hB hP hD hS => ?_)
  obtain ⟨rfl, rfl⟩ := hB
  refine W.widen (k := 107) (n := 2324) (Nat.le_of_ble_eq_true rfl) (Nat.le_of_ble_eq_true rfl) ?_
  refine W.eq (g2 := F0 m 946 ls [.int r]) rfl ?_
  refine lv_aload_n hx hb dL_law_946 rfl (lv_at hl 2 rfl) ?_
  refine lv_aload_n hx hb dL_law_947 rfl (lv_at hl 0 rfl) ?_
  refine lv_iload_n hx hb dL_law_948 rfl (lv_at hl 3 rfl) ?_
  refine lv_iconst (v := 1) hx hb dL_law_949 (by decide) ?_
  refine lv_iadd hx hb dL_law_950 ?_
  refine va_sld hx hb hX hbl hbA hS (scr_in hi hL2 (k := 1) (by decide) (by decide)) dL_law_951 ?_
  refine lv_aload_n hx hb dL_law_952 rfl (lv_at hl 0 rfl) ?_
  refine lv_iload_n hx hb dL_law_953 rfl (lv_at hl 3 rfl) ?_
  refine lv_iconst (v := 2) hx hb dL_law_954 (by decide) ?_
  refine lv_iadd hx hb dL_law_955 ?_
  refine va_sld hx hb hX hbl hbA hS (scr_in hi hL2 (k := 2) (by decide) (by decide)) dL_law_956 ?_
  refine call_V (As := [.int (xs (nI i + 1).toNatClampNeg), .int (xs (nI i + 2).toNatClampNeg)]) (rest := [.int r]) hx hb hml hown hts hK hP hD hS hA hZ lkL_132 (Ctr.upL (c_X12_sessions l G ct sk sv am n mo (xs (nI i + 1).toNatClampNeg) (xs (nI i + 2).toNatClampNeg) eq2) [lfX ct g xo', lfN ct (fun j => g (10 + j)) nv, lfR ct (fun j => g (18 + j)) rv, lfH ct (hsA g 0) g h0, lfH ct (hsA g 1) g h1', lfH ct (hsA g 2) g h2, lfH ct (hsA g 3) g h3, lfS ct (fun j => (hsA g 0) (12 + j)) nt0, lfS ct (fun j => (hsA g 0) (8 + j)) cv0, lfS ct (fun j => (hsA g 1) (12 + j)) nt1', lfS ct (fun j => (hsA g 1) (8 + j)) cv1', lfS ct (fun j => (hsA g 2) (12 + j)) nt2, lfS ct (fun j => (hsA g 2) (8 + j)) cv2, lfS ct (fun j => (hsA g 3) (12 + j)) nt3, lfS ct (fun j => (hsA g 3) (8 + j)) cv3, lfP ct (fun j => (hsA g 0) (16 + j)) ps0, lfP ct (fun j => (hsA g 1) (16 + j)) ps1', lfP ct (fun j => (hsA g 2) (16 + j)) ps2, lfP ct (fun j => (hsA g 3) (16 + j)) ps3, lfK ct g] (LWs ct g am xo' nv rv h0 h1' h2 h3 nt0 cv0 nt1' cv1' nt2 cv2 nt3 cv3 ps0 ps1' ps2 ps3 mo) (LWs ct g am xo' nv rv h0 h1' h2 h3 nt0 cv0 nt1' cv1' nt2 cv2 nt3 cv3 ps0 ps1' ps2 ps3 mo') [20, 0, 1, 2, 3, 4, 5, 6, 7, 8, 9, 10, 11, 12, 13, 14, 15, 16, 17, 18, 19] 21 (by decide) rfl rfl rfl rfl) 92 rfl rfl ⟨Nat.le_of_ble_eq_true rfl, Nat.le_of_ble_eq_true rfl⟩ rfl hl.1 rfl (Nat.le_of_ble_eq_true rfl) dL_law_957 ⟨Nat.le_of_ble_eq_true rfl, Nat.le_of_ble_eq_true rfl⟩ (fun r9 w9 H locs hB hP hD hS => ?_)
  obtain ⟨rfl, rfl⟩ := hB
  refine W.widen (k := 107) (n := 2324) (Nat.le_of_ble_eq_true rfl) (Nat.le_of_ble_eq_true rfl) ?_
  refine W.eq (g2 := F0 m 960 ls [.int r, .int r]) rfl ?_
  refine lv_icmp_eq (tgt := 1095) hx hb dL_law_960 (by decide) (fun c1 => ?_) (fun c1 => absurd rfl c1)
  exact K xo' nv rv h0 h1' h2 h3 nt0 cv0 nt1' cv1' nt2 cv2 nt3 cv3 ps0 ps1' ps2 ps3 mo' hI _ _ ls hP hD hS hl
set_option maxHeartbeats 4000000 in
set_option maxRecDepth 100000 in
theorem law_part {p : Program} {l : Launch} {e : Env} {s : State} {m : MethodId} {below : List Frame} {meth : Method} {c : Code} {b L : Nat} {xs : Nat → Int32} {G : va_G} {ct : Nat → ClassId} {sk sv : Nat → Nat} {g am : Nat → Nat} {n : Nat} {INV : INVT} (C : LAWC l G ct sk sv p s m meth c b L xs) (S : SIM_part n INV) {i : Nat} (hi : i + 4 ≤ L) (K : LAt p l e s m below meth c b G ct g am INV i 1095) : LAt p l e s m below meth c b G ct g am INV i 965 := by
  obtain ⟨hx, hb, hr, hml, hown, hts, hK, hZ, hX, hbl, hlocks, hL2⟩ := C
  have hA : ∀ q : Nat, s.heap.size ≤ q → (fun q : Nat => s.heap.size ≤ q) q := fun _ h => h
  have hbA : ¬ (fun q : Nat => s.heap.size ≤ q) b := Nat.not_le.mpr hbl
  intro xo nv rv h0 h1 h2 h3 nt0 cv0 nt1 cv1 nt2 cv2 nt3 cv3 ps0 ps1 ps2 ps3 mo hI H locs ls hP hD hS hl
  refine lv_aload_n hx hb dL_law_965 rfl (lv_at hl 1 rfl) ?_
  refine lv_aload_n hx hb dL_law_966 rfl (lv_at hl 0 rfl) ?_
  refine lv_iload_n hx hb dL_law_967 rfl (lv_at hl 3 rfl) ?_
  refine lv_iconst (v := 1) hx hb dL_law_968 (by decide) ?_
  refine lv_iadd hx hb dL_law_969 ?_
  refine va_sld hx hb hX hbl hbA hS (scr_in hi hL2 (k := 1) (by decide) (by decide)) dL_law_970 ?_
  obtain ⟨r, xo', mo', eq1, eq2, hI⟩ := S xo nv rv h0 h1 h2 h3 nt0 cv0 nt1 cv1 nt2 cv2 nt3 cv3 ps0 ps1 ps2 ps3 mo (xs (nI i + 1).toNatClampNeg) hI
  refine call_V (As := [.int (xs (nI i + 1).toNatClampNeg)]) (rest := []) hx hb hml hown hts hK hP hD hS hA hZ lkL_133 (Ctr.upL (c_X11_part l G ct sk sv g n xo (xs (nI i + 1).toNatClampNeg) eq1) [lfN ct (fun j => g (10 + j)) nv, lfR ct (fun j => g (18 + j)) rv, lfH ct (hsA g 0) g h0, lfH ct (hsA g 1) g h1, lfH ct (hsA g 2) g h2, lfH ct (hsA g 3) g h3, lfS ct (fun j => (hsA g 0) (12 + j)) nt0, lfS ct (fun j => (hsA g 0) (8 + j)) cv0, lfS ct (fun j => (hsA g 1) (12 + j)) nt1, lfS ct (fun j => (hsA g 1) (8 + j)) cv1, lfS ct (fun j => (hsA g 2) (12 + j)) nt2, lfS ct (fun j => (hsA g 2) (8 + j)) cv2, lfS ct (fun j => (hsA g 3) (12 + j)) nt3, lfS ct (fun j => (hsA g 3) (8 + j)) cv3, lfP ct (fun j => (hsA g 0) (16 + j)) ps0, lfP ct (fun j => (hsA g 1) (16 + j)) ps1, lfP ct (fun j => (hsA g 2) (16 + j)) ps2, lfP ct (fun j => (hsA g 3) (16 + j)) ps3, lfK ct g, lfM ct am mo] (LWs ct g am xo nv rv h0 h1 h2 h3 nt0 cv0 nt1 cv1 nt2 cv2 nt3 cv3 ps0 ps1 ps2 ps3 mo) (LWs ct g am xo' nv rv h0 h1 h2 h3 nt0 cv0 nt1 cv1 nt2 cv2 nt3 cv3 ps0 ps1 ps2 ps3 mo) [0, 1, 2, 3, 4, 5, 6, 7, 8, 9, 10, 11, 12, 13, 14, 15, 16, 17, 18, 19, 20] 21 (by decide) rfl rfl rfl rfl) 0 rfl rfl ⟨Nat.le_of_ble_eq_true rfl, Nat.le_of_ble_eq_true rfl⟩ rfl hl.1 rfl (Nat.le_of_ble_eq_true rfl) dL_law_971 ⟨Nat.le_of_ble_eq_true rfl, Nat.le_of_ble_eq_true rfl⟩ (fun r9 w9 H locs hB hP hD hS => ?_)
  obtain ⟨rfl, rfl⟩ := hB
  refine W.widen (k := 107) (n := 2324) (Nat.le_of_ble_eq_true rfl) (Nat.le_of_ble_eq_true rfl) ?_
  refine W.eq (g2 := F0 m 974 ls [.long r]) rfl ?_
  refine lv_aload_n hx hb dL_law_974 rfl (lv_at hl 2 rfl) ?_
  refine lv_aload_n hx hb dL_law_975 rfl (lv_at hl 0 rfl) ?_
  refine lv_iload_n hx hb dL_law_976 rfl (lv_at hl 3 rfl) ?_
  refine lv_iconst (v := 1) hx hb dL_law_977 (by decide) ?_
  refine lv_iadd hx hb dL_law_978 ?_
  refine va_sld hx hb hX hbl hbA hS (scr_in hi hL2 (k := 1) (by decide) (by decide)) dL_law_979 ?_
  refine call_V (As := [.int (xs (nI i + 1).toNatClampNeg)]) (rest := [.long r]) hx hb hml hown hts hK hP hD hS hA hZ lkL_137 (Ctr.upL (c_X12_part l G ct sk sv am n mo (xs (nI i + 1).toNatClampNeg) eq2) [lfX ct g xo', lfN ct (fun j => g (10 + j)) nv, lfR ct (fun j => g (18 + j)) rv, lfH ct (hsA g 0) g h0, lfH ct (hsA g 1) g h1, lfH ct (hsA g 2) g h2, lfH ct (hsA g 3) g h3, lfS ct (fun j => (hsA g 0) (12 + j)) nt0, lfS ct (fun j => (hsA g 0) (8 + j)) cv0, lfS ct (fun j => (hsA g 1) (12 + j)) nt1, lfS ct (fun j => (hsA g 1) (8 + j)) cv1, lfS ct (fun j => (hsA g 2) (12 + j)) nt2, lfS ct (fun j => (hsA g 2) (8 + j)) cv2, lfS ct (fun j => (hsA g 3) (12 + j)) nt3, lfS ct (fun j => (hsA g 3) (8 + j)) cv3, lfP ct (fun j => (hsA g 0) (16 + j)) ps0, lfP ct (fun j => (hsA g 1) (16 + j)) ps1, lfP ct (fun j => (hsA g 2) (16 + j)) ps2, lfP ct (fun j => (hsA g 3) (16 + j)) ps3, lfK ct g] (LWs ct g am xo' nv rv h0 h1 h2 h3 nt0 cv0 nt1 cv1 nt2 cv2 nt3 cv3 ps0 ps1 ps2 ps3 mo) (LWs ct g am xo' nv rv h0 h1 h2 h3 nt0 cv0 nt1 cv1 nt2 cv2 nt3 cv3 ps0 ps1 ps2 ps3 mo') [20, 0, 1, 2, 3, 4, 5, 6, 7, 8, 9, 10, 11, 12, 13, 14, 15, 16, 17, 18, 19] 21 (by decide) rfl rfl rfl rfl) 92 rfl rfl ⟨Nat.le_of_ble_eq_true rfl, Nat.le_of_ble_eq_true rfl⟩ rfl hl.1 rfl (Nat.le_of_ble_eq_true rfl) dL_law_980 ⟨Nat.le_of_ble_eq_true rfl, Nat.le_of_ble_eq_true rfl⟩ (fun r9 w9 H locs hB hP hD hS => ?_)
  obtain ⟨rfl, rfl⟩ := hB
  refine W.widen (k := 107) (n := 2324) (Nat.le_of_ble_eq_true rfl) (Nat.le_of_ble_eq_true rfl) ?_
  refine W.eq (g2 := F0 m 983 ls [.long r, .long r]) rfl ?_
  refine W.lcmp hx hb dL_law_983 ?_
  rw [lg_self]
  refine lv_if_eq (tgt := 1095) hx hb dL_law_984 (by decide) (fun c1 => ?_) (fun c1 => absurd rfl c1)
  exact K xo' nv rv h0 h1 h2 h3 nt0 cv0 nt1 cv1 nt2 cv2 nt3 cv3 ps0 ps1 ps2 ps3 mo' hI _ _ ls hP hD hS hl
set_option maxHeartbeats 4000000 in
set_option maxRecDepth 100000 in
theorem law_image {p : Program} {l : Launch} {e : Env} {s : State} {m : MethodId} {below : List Frame} {meth : Method} {c : Code} {b L : Nat} {xs : Nat → Int32} {G : va_G} {ct : Nat → ClassId} {sk sv : Nat → Nat} {g am : Nat → Nat} {n : Nat} {INV : INVT} (C : LAWC l G ct sk sv p s m meth c b L xs) (S : SIM_image n INV) {i : Nat} (hi : i + 4 ≤ L) (K : LAt p l e s m below meth c b G ct g am INV i 1095) : LAt p l e s m below meth c b G ct g am INV i 989 := by
  obtain ⟨hx, hb, hr, hml, hown, hts, hK, hZ, hX, hbl, hlocks, hL2⟩ := C
  have hA : ∀ q : Nat, s.heap.size ≤ q → (fun q : Nat => s.heap.size ≤ q) q := fun _ h => h
  have hbA : ¬ (fun q : Nat => s.heap.size ≤ q) b := Nat.not_le.mpr hbl
  intro xo nv rv h0 h1 h2 h3 nt0 cv0 nt1 cv1 nt2 cv2 nt3 cv3 ps0 ps1 ps2 ps3 mo hI H locs ls hP hD hS hl
  refine lv_aload_n hx hb dL_law_989 rfl (lv_at hl 1 rfl) ?_
  refine lv_aload_n hx hb dL_law_990 rfl (lv_at hl 0 rfl) ?_
  refine lv_iload_n hx hb dL_law_991 rfl (lv_at hl 3 rfl) ?_
  refine lv_iconst (v := 1) hx hb dL_law_992 (by decide) ?_
  refine lv_iadd hx hb dL_law_993 ?_
  refine va_sld hx hb hX hbl hbA hS (scr_in hi hL2 (k := 1) (by decide) (by decide)) dL_law_994 ?_
  obtain ⟨r, xo', h2', h3', nt2', cv2', nt3', cv3', ps2', ps3', mo', eq1, eq2, hI⟩ := S xo nv rv h0 h1 h2 h3 nt0 cv0 nt1 cv1 nt2 cv2 nt3 cv3 ps0 ps1 ps2 ps3 mo (xs (nI i + 1).toNatClampNeg) hI
  refine call_V (As := [.int (xs (nI i + 1).toNatClampNeg)]) (rest := []) hx hb hml hown hts hK hP hD hS hA hZ lkL_138 (Ctr.upL (c_X11_image l G ct sk sv g n xo h0 h2 h3 nt0 cv0 nt2 cv2 nt3 cv3 ps0 ps2 ps3 (xs (nI i + 1).toNatClampNeg) eq1) [lfN ct (fun j => g (10 + j)) nv, lfR ct (fun j => g (18 + j)) rv, lfH ct (hsA g 1) g h1, lfS ct (fun j => (hsA g 1) (12 + j)) nt1, lfS ct (fun j => (hsA g 1) (8 + j)) cv1, lfP ct (fun j => (hsA g 1) (16 + j)) ps1, lfK ct g, lfM ct am mo] (LWs ct g am xo nv rv h0 h1 h2 h3 nt0 cv0 nt1 cv1 nt2 cv2 nt3 cv3 ps0 ps1 ps2 ps3 mo) (LWs ct g am xo' nv rv h0 h1 h2' h3' nt0 cv0 nt1 cv1 nt2' cv2' nt3' cv3' ps0 ps1 ps2' ps3' mo) [0, 3, 5, 6, 7, 8, 11, 12, 13, 14, 15, 17, 18, 1, 2, 4, 9, 10, 16, 19, 20] 21 (by decide) rfl rfl rfl rfl) 0 rfl rfl ⟨Nat.le_of_ble_eq_true rfl, Nat.le_of_ble_eq_true rfl⟩ rfl hl.1 rfl (Nat.le_of_ble_eq_true rfl) dL_law_995 ⟨Nat.le_of_ble_eq_true rfl, Nat.le_of_ble_eq_true rfl⟩ (fun r9 w9 H locs hB hP hD hS => ?_)
  obtain ⟨rfl, rfl⟩ := hB
  refine W.widen (k := 107) (n := 2324) (Nat.le_of_ble_eq_true rfl) (Nat.le_of_ble_eq_true rfl) ?_
  refine W.eq (g2 := F0 m 998 ls [.int r]) rfl ?_
  refine lv_aload_n hx hb dL_law_998 rfl (lv_at hl 2 rfl) ?_
  refine lv_aload_n hx hb dL_law_999 rfl (lv_at hl 0 rfl) ?_
  refine lv_iload_n hx hb dL_law_1000 rfl (lv_at hl 3 rfl) ?_
  refine lv_iconst (v := 1) hx hb dL_law_1001 (by decide) ?_
  refine lv_iadd hx hb dL_law_1002 ?_
  refine va_sld hx hb hX hbl hbA hS (scr_in hi hL2 (k := 1) (by decide) (by decide)) dL_law_1003 ?_
  refine call_V (As := [.int (xs (nI i + 1).toNatClampNeg)]) (rest := [.int r]) hx hb hml hown hts hK hP hD hS hA hZ lkL_141 (Ctr.upL (c_X12_image l G ct sk sv am n mo (xs (nI i + 1).toNatClampNeg) eq2) [lfX ct g xo', lfN ct (fun j => g (10 + j)) nv, lfR ct (fun j => g (18 + j)) rv, lfH ct (hsA g 0) g h0, lfH ct (hsA g 1) g h1, lfH ct (hsA g 2) g h2', lfH ct (hsA g 3) g h3', lfS ct (fun j => (hsA g 0) (12 + j)) nt0, lfS ct (fun j => (hsA g 0) (8 + j)) cv0, lfS ct (fun j => (hsA g 1) (12 + j)) nt1, lfS ct (fun j => (hsA g 1) (8 + j)) cv1, lfS ct (fun j => (hsA g 2) (12 + j)) nt2', lfS ct (fun j => (hsA g 2) (8 + j)) cv2', lfS ct (fun j => (hsA g 3) (12 + j)) nt3', lfS ct (fun j => (hsA g 3) (8 + j)) cv3', lfP ct (fun j => (hsA g 0) (16 + j)) ps0, lfP ct (fun j => (hsA g 1) (16 + j)) ps1, lfP ct (fun j => (hsA g 2) (16 + j)) ps2', lfP ct (fun j => (hsA g 3) (16 + j)) ps3', lfK ct g] (LWs ct g am xo' nv rv h0 h1 h2' h3' nt0 cv0 nt1 cv1 nt2' cv2' nt3' cv3' ps0 ps1 ps2' ps3' mo) (LWs ct g am xo' nv rv h0 h1 h2' h3' nt0 cv0 nt1 cv1 nt2' cv2' nt3' cv3' ps0 ps1 ps2' ps3' mo') [20, 0, 1, 2, 3, 4, 5, 6, 7, 8, 9, 10, 11, 12, 13, 14, 15, 16, 17, 18, 19] 21 (by decide) rfl rfl rfl rfl) 92 rfl rfl ⟨Nat.le_of_ble_eq_true rfl, Nat.le_of_ble_eq_true rfl⟩ rfl hl.1 rfl (Nat.le_of_ble_eq_true rfl) dL_law_1004 ⟨Nat.le_of_ble_eq_true rfl, Nat.le_of_ble_eq_true rfl⟩ (fun r9 w9 H locs hB hP hD hS => ?_)
  obtain ⟨rfl, rfl⟩ := hB
  refine W.widen (k := 107) (n := 2324) (Nat.le_of_ble_eq_true rfl) (Nat.le_of_ble_eq_true rfl) ?_
  refine W.eq (g2 := F0 m 1007 ls [.int r, .int r]) rfl ?_
  refine lv_icmp_eq (tgt := 1095) hx hb dL_law_1007 (by decide) (fun c1 => ?_) (fun c1 => absurd rfl c1)
  exact K xo' nv rv h0 h1 h2' h3' nt0 cv0 nt1 cv1 nt2' cv2' nt3' cv3' ps0 ps1 ps2' ps3' mo' hI _ _ ls hP hD hS hl
set_option maxHeartbeats 4000000 in
set_option maxRecDepth 100000 in
theorem law_from {p : Program} {l : Launch} {e : Env} {s : State} {m : MethodId} {below : List Frame} {meth : Method} {c : Code} {b L : Nat} {xs : Nat → Int32} {G : va_G} {ct : Nat → ClassId} {sk sv : Nat → Nat} {g am : Nat → Nat} {n : Nat} {INV : INVT} (C : LAWC l G ct sk sv p s m meth c b L xs) (S : SIM_from n INV) {i : Nat} (hi : i + 4 ≤ L) (K : LAt p l e s m below meth c b G ct g am INV i 1095) : LAt p l e s m below meth c b G ct g am INV i 1012 := by
  obtain ⟨hx, hb, hr, hml, hown, hts, hK, hZ, hX, hbl, hlocks, hL2⟩ := C
  have hA : ∀ q : Nat, s.heap.size ≤ q → (fun q : Nat => s.heap.size ≤ q) q := fun _ h => h
  have hbA : ¬ (fun q : Nat => s.heap.size ≤ q) b := Nat.not_le.mpr hbl
  intro xo nv rv h0 h1 h2 h3 nt0 cv0 nt1 cv1 nt2 cv2 nt3 cv3 ps0 ps1 ps2 ps3 mo hI H locs ls hP hD hS hl
  refine lv_aload_n hx hb dL_law_1012 rfl (lv_at hl 1 rfl) ?_
  refine lv_aload_n hx hb dL_law_1013 rfl (lv_at hl 0 rfl) ?_
  refine lv_iload_n hx hb dL_law_1014 rfl (lv_at hl 3 rfl) ?_
  refine lv_iconst (v := 1) hx hb dL_law_1015 (by decide) ?_
  refine lv_iadd hx hb dL_law_1016 ?_
  refine va_sld hx hb hX hbl hbA hS (scr_in hi hL2 (k := 1) (by decide) (by decide)) dL_law_1017 ?_
  obtain ⟨r, xo', h0', nt0', cv0', ps0', mo', eq1, eq2, hI⟩ := S xo nv rv h0 h1 h2 h3 nt0 cv0 nt1 cv1 nt2 cv2 nt3 cv3 ps0 ps1 ps2 ps3 mo (xs (nI i + 1).toNatClampNeg) hI
  refine call_V (As := [.int (xs (nI i + 1).toNatClampNeg)]) (rest := []) hx hb hml hown hts hK hP hD hS hA hZ lkL_142 (Ctr.upL (c_X11_from l G ct sk sv g n xo h0 h2 h3 nt0 cv0 nt2 cv2 nt3 cv3 ps0 ps2 ps3 (xs (nI i + 1).toNatClampNeg) eq1) [lfN ct (fun j => g (10 + j)) nv, lfR ct (fun j => g (18 + j)) rv, lfH ct (hsA g 1) g h1, lfS ct (fun j => (hsA g 1) (12 + j)) nt1, lfS ct (fun j => (hsA g 1) (8 + j)) cv1, lfP ct (fun j => (hsA g 1) (16 + j)) ps1, lfK ct g, lfM ct am mo] (LWs ct g am xo nv rv h0 h1 h2 h3 nt0 cv0 nt1 cv1 nt2 cv2 nt3 cv3 ps0 ps1 ps2 ps3 mo) (LWs ct g am xo' nv rv h0' h1 h2 h3 nt0' cv0' nt1 cv1 nt2 cv2 nt3 cv3 ps0' ps1 ps2 ps3 mo) [0, 3, 5, 6, 7, 8, 11, 12, 13, 14, 15, 17, 18, 1, 2, 4, 9, 10, 16, 19, 20] 21 (by decide) rfl rfl rfl rfl) 0 rfl rfl ⟨Nat.le_of_ble_eq_true rfl, Nat.le_of_ble_eq_true rfl⟩ rfl hl.1 rfl (Nat.le_of_ble_eq_true rfl) dL_law_1018 ⟨Nat.le_of_ble_eq_true rfl, Nat.le_of_ble_eq_true rfl⟩ (fun r9 w9 H locs hB hP hD hS => ?_)
  obtain ⟨rfl, rfl⟩ := hB
  refine W.widen (k := 107) (n := 2324) (Nat.le_of_ble_eq_true rfl) (Nat.le_of_ble_eq_true rfl) ?_
  refine W.eq (g2 := F0 m 1021 ls [.int r]) rfl ?_
  refine lv_aload_n hx hb dL_law_1021 rfl (lv_at hl 2 rfl) ?_
  refine lv_aload_n hx hb dL_law_1022 rfl (lv_at hl 0 rfl) ?_
  refine lv_iload_n hx hb dL_law_1023 rfl (lv_at hl 3 rfl) ?_
  refine lv_iconst (v := 1) hx hb dL_law_1024 (by decide) ?_
  refine lv_iadd hx hb dL_law_1025 ?_
  refine va_sld hx hb hX hbl hbA hS (scr_in hi hL2 (k := 1) (by decide) (by decide)) dL_law_1026 ?_
  refine call_V (As := [.int (xs (nI i + 1).toNatClampNeg)]) (rest := [.int r]) hx hb hml hown hts hK hP hD hS hA hZ lkL_145 (Ctr.upL (c_X12_from l G ct sk sv am n mo (xs (nI i + 1).toNatClampNeg) eq2) [lfX ct g xo', lfN ct (fun j => g (10 + j)) nv, lfR ct (fun j => g (18 + j)) rv, lfH ct (hsA g 0) g h0', lfH ct (hsA g 1) g h1, lfH ct (hsA g 2) g h2, lfH ct (hsA g 3) g h3, lfS ct (fun j => (hsA g 0) (12 + j)) nt0', lfS ct (fun j => (hsA g 0) (8 + j)) cv0', lfS ct (fun j => (hsA g 1) (12 + j)) nt1, lfS ct (fun j => (hsA g 1) (8 + j)) cv1, lfS ct (fun j => (hsA g 2) (12 + j)) nt2, lfS ct (fun j => (hsA g 2) (8 + j)) cv2, lfS ct (fun j => (hsA g 3) (12 + j)) nt3, lfS ct (fun j => (hsA g 3) (8 + j)) cv3, lfP ct (fun j => (hsA g 0) (16 + j)) ps0', lfP ct (fun j => (hsA g 1) (16 + j)) ps1, lfP ct (fun j => (hsA g 2) (16 + j)) ps2, lfP ct (fun j => (hsA g 3) (16 + j)) ps3, lfK ct g] (LWs ct g am xo' nv rv h0' h1 h2 h3 nt0' cv0' nt1 cv1 nt2 cv2 nt3 cv3 ps0' ps1 ps2 ps3 mo) (LWs ct g am xo' nv rv h0' h1 h2 h3 nt0' cv0' nt1 cv1 nt2 cv2 nt3 cv3 ps0' ps1 ps2 ps3 mo') [20, 0, 1, 2, 3, 4, 5, 6, 7, 8, 9, 10, 11, 12, 13, 14, 15, 16, 17, 18, 19] 21 (by decide) rfl rfl rfl rfl) 92 rfl rfl ⟨Nat.le_of_ble_eq_true rfl, Nat.le_of_ble_eq_true rfl⟩ rfl hl.1 rfl (Nat.le_of_ble_eq_true rfl) dL_law_1027 ⟨Nat.le_of_ble_eq_true rfl, Nat.le_of_ble_eq_true rfl⟩ (fun r9 w9 H locs hB hP hD hS => ?_)
  obtain ⟨rfl, rfl⟩ := hB
  refine W.widen (k := 107) (n := 2324) (Nat.le_of_ble_eq_true rfl) (Nat.le_of_ble_eq_true rfl) ?_
  refine W.eq (g2 := F0 m 1030 ls [.int r, .int r]) rfl ?_
  refine lv_icmp_eq (tgt := 1095) hx hb dL_law_1030 (by decide) (fun c1 => ?_) (fun c1 => absurd rfl c1)
  exact K xo' nv rv h0' h1 h2 h3 nt0' cv0' nt1 cv1 nt2 cv2 nt3 cv3 ps0' ps1 ps2 ps3 mo' hI _ _ ls hP hD hS hl
set_option maxHeartbeats 4000000 in
set_option maxRecDepth 100000 in
theorem law_status {p : Program} {l : Launch} {e : Env} {s : State} {m : MethodId} {below : List Frame} {meth : Method} {c : Code} {b L : Nat} {xs : Nat → Int32} {G : va_G} {ct : Nat → ClassId} {sk sv : Nat → Nat} {g am : Nat → Nat} {n : Nat} {INV : INVT} (C : LAWC l G ct sk sv p s m meth c b L xs) (S : SIM_status n INV) {i : Nat} (hi : i + 4 ≤ L) (K : LAt p l e s m below meth c b G ct g am INV i 1095) : LAt p l e s m below meth c b G ct g am INV i 1035 := by
  obtain ⟨hx, hb, hr, hml, hown, hts, hK, hZ, hX, hbl, hlocks, hL2⟩ := C
  have hA : ∀ q : Nat, s.heap.size ≤ q → (fun q : Nat => s.heap.size ≤ q) q := fun _ h => h
  have hbA : ¬ (fun q : Nat => s.heap.size ≤ q) b := Nat.not_le.mpr hbl
  intro xo nv rv h0 h1 h2 h3 nt0 cv0 nt1 cv1 nt2 cv2 nt3 cv3 ps0 ps1 ps2 ps3 mo hI H locs ls hP hD hS hl
  refine lv_aload_n hx hb dL_law_1035 rfl (lv_at hl 1 rfl) ?_
  refine lv_aload_n hx hb dL_law_1036 rfl (lv_at hl 0 rfl) ?_
  refine lv_iload_n hx hb dL_law_1037 rfl (lv_at hl 3 rfl) ?_
  refine lv_iconst (v := 1) hx hb dL_law_1038 (by decide) ?_
  refine lv_iadd hx hb dL_law_1039 ?_
  refine va_sld hx hb hX hbl hbA hS (scr_in hi hL2 (k := 1) (by decide) (by decide)) dL_law_1040 ?_
  obtain ⟨r, xo', mo', eq1, eq2, hI⟩ := S xo nv rv h0 h1 h2 h3 nt0 cv0 nt1 cv1 nt2 cv2 nt3 cv3 ps0 ps1 ps2 ps3 mo (xs (nI i + 1).toNatClampNeg) hI
  refine call_V (As := [.int (xs (nI i + 1).toNatClampNeg)]) (rest := []) hx hb hml hown hts hK hP hD hS hA hZ lkL_146 (Ctr.upL (c_X11_status l G ct sk sv g n xo (xs (nI i + 1).toNatClampNeg) eq1) [lfN ct (fun j => g (10 + j)) nv, lfR ct (fun j => g (18 + j)) rv, lfH ct (hsA g 0) g h0, lfH ct (hsA g 1) g h1, lfH ct (hsA g 2) g h2, lfH ct (hsA g 3) g h3, lfS ct (fun j => (hsA g 0) (12 + j)) nt0, lfS ct (fun j => (hsA g 0) (8 + j)) cv0, lfS ct (fun j => (hsA g 1) (12 + j)) nt1, lfS ct (fun j => (hsA g 1) (8 + j)) cv1, lfS ct (fun j => (hsA g 2) (12 + j)) nt2, lfS ct (fun j => (hsA g 2) (8 + j)) cv2, lfS ct (fun j => (hsA g 3) (12 + j)) nt3, lfS ct (fun j => (hsA g 3) (8 + j)) cv3, lfP ct (fun j => (hsA g 0) (16 + j)) ps0, lfP ct (fun j => (hsA g 1) (16 + j)) ps1, lfP ct (fun j => (hsA g 2) (16 + j)) ps2, lfP ct (fun j => (hsA g 3) (16 + j)) ps3, lfK ct g, lfM ct am mo] (LWs ct g am xo nv rv h0 h1 h2 h3 nt0 cv0 nt1 cv1 nt2 cv2 nt3 cv3 ps0 ps1 ps2 ps3 mo) (LWs ct g am xo' nv rv h0 h1 h2 h3 nt0 cv0 nt1 cv1 nt2 cv2 nt3 cv3 ps0 ps1 ps2 ps3 mo) [0, 1, 2, 3, 4, 5, 6, 7, 8, 9, 10, 11, 12, 13, 14, 15, 16, 17, 18, 19, 20] 21 (by decide) rfl rfl rfl rfl) 0 rfl rfl ⟨Nat.le_of_ble_eq_true rfl, Nat.le_of_ble_eq_true rfl⟩ rfl hl.1 rfl (Nat.le_of_ble_eq_true rfl) dL_law_1041 ⟨Nat.le_of_ble_eq_true rfl, Nat.le_of_ble_eq_true rfl⟩ (fun r9 w9 H locs hB hP hD hS => ?_)
  obtain ⟨rfl, rfl⟩ := hB
  refine W.widen (k := 107) (n := 2324) (Nat.le_of_ble_eq_true rfl) (Nat.le_of_ble_eq_true rfl) ?_
  refine W.eq (g2 := F0 m 1044 ls [.int r]) rfl ?_
  refine lv_aload_n hx hb dL_law_1044 rfl (lv_at hl 2 rfl) ?_
  refine lv_aload_n hx hb dL_law_1045 rfl (lv_at hl 0 rfl) ?_
  refine lv_iload_n hx hb dL_law_1046 rfl (lv_at hl 3 rfl) ?_
  refine lv_iconst (v := 1) hx hb dL_law_1047 (by decide) ?_
  refine lv_iadd hx hb dL_law_1048 ?_
  refine va_sld hx hb hX hbl hbA hS (scr_in hi hL2 (k := 1) (by decide) (by decide)) dL_law_1049 ?_
  refine call_V (As := [.int (xs (nI i + 1).toNatClampNeg)]) (rest := [.int r]) hx hb hml hown hts hK hP hD hS hA hZ lkL_149 (Ctr.upL (c_X12_status l G ct sk sv am n mo (xs (nI i + 1).toNatClampNeg) eq2) [lfX ct g xo', lfN ct (fun j => g (10 + j)) nv, lfR ct (fun j => g (18 + j)) rv, lfH ct (hsA g 0) g h0, lfH ct (hsA g 1) g h1, lfH ct (hsA g 2) g h2, lfH ct (hsA g 3) g h3, lfS ct (fun j => (hsA g 0) (12 + j)) nt0, lfS ct (fun j => (hsA g 0) (8 + j)) cv0, lfS ct (fun j => (hsA g 1) (12 + j)) nt1, lfS ct (fun j => (hsA g 1) (8 + j)) cv1, lfS ct (fun j => (hsA g 2) (12 + j)) nt2, lfS ct (fun j => (hsA g 2) (8 + j)) cv2, lfS ct (fun j => (hsA g 3) (12 + j)) nt3, lfS ct (fun j => (hsA g 3) (8 + j)) cv3, lfP ct (fun j => (hsA g 0) (16 + j)) ps0, lfP ct (fun j => (hsA g 1) (16 + j)) ps1, lfP ct (fun j => (hsA g 2) (16 + j)) ps2, lfP ct (fun j => (hsA g 3) (16 + j)) ps3, lfK ct g] (LWs ct g am xo' nv rv h0 h1 h2 h3 nt0 cv0 nt1 cv1 nt2 cv2 nt3 cv3 ps0 ps1 ps2 ps3 mo) (LWs ct g am xo' nv rv h0 h1 h2 h3 nt0 cv0 nt1 cv1 nt2 cv2 nt3 cv3 ps0 ps1 ps2 ps3 mo') [20, 0, 1, 2, 3, 4, 5, 6, 7, 8, 9, 10, 11, 12, 13, 14, 15, 16, 17, 18, 19] 21 (by decide) rfl rfl rfl rfl) 92 rfl rfl ⟨Nat.le_of_ble_eq_true rfl, Nat.le_of_ble_eq_true rfl⟩ rfl hl.1 rfl (Nat.le_of_ble_eq_true rfl) dL_law_1050 ⟨Nat.le_of_ble_eq_true rfl, Nat.le_of_ble_eq_true rfl⟩ (fun r9 w9 H locs hB hP hD hS => ?_)
  obtain ⟨rfl, rfl⟩ := hB
  refine W.widen (k := 107) (n := 2324) (Nat.le_of_ble_eq_true rfl) (Nat.le_of_ble_eq_true rfl) ?_
  refine W.eq (g2 := F0 m 1053 ls [.int r, .int r]) rfl ?_
  refine lv_icmp_eq (tgt := 1095) hx hb dL_law_1053 (by decide) (fun c1 => ?_) (fun c1 => absurd rfl c1)
  exact K xo' nv rv h0 h1 h2 h3 nt0 cv0 nt1 cv1 nt2 cv2 nt3 cv3 ps0 ps1 ps2 ps3 mo' hI _ _ ls hP hD hS hl
set_option maxHeartbeats 4000000 in
set_option maxRecDepth 100000 in
theorem law_count {p : Program} {l : Launch} {e : Env} {s : State} {m : MethodId} {below : List Frame} {meth : Method} {c : Code} {b L : Nat} {xs : Nat → Int32} {G : va_G} {ct : Nat → ClassId} {sk sv : Nat → Nat} {g am : Nat → Nat} {n : Nat} {INV : INVT} (C : LAWC l G ct sk sv p s m meth c b L xs) (S : SIM_count n INV) {i : Nat} (hi : i + 4 ≤ L) (K : LAt p l e s m below meth c b G ct g am INV i 1095) : LAt p l e s m below meth c b G ct g am INV i 1058 := by
  obtain ⟨hx, hb, hr, hml, hown, hts, hK, hZ, hX, hbl, hlocks, hL2⟩ := C
  have hA : ∀ q : Nat, s.heap.size ≤ q → (fun q : Nat => s.heap.size ≤ q) q := fun _ h => h
  have hbA : ¬ (fun q : Nat => s.heap.size ≤ q) b := Nat.not_le.mpr hbl
  intro xo nv rv h0 h1 h2 h3 nt0 cv0 nt1 cv1 nt2 cv2 nt3 cv3 ps0 ps1 ps2 ps3 mo hI H locs ls hP hD hS hl
  refine lv_aload_n hx hb dL_law_1058 rfl (lv_at hl 1 rfl) ?_
  refine lv_aload_n hx hb dL_law_1059 rfl (lv_at hl 0 rfl) ?_
  refine lv_iload_n hx hb dL_law_1060 rfl (lv_at hl 3 rfl) ?_
  refine lv_iconst (v := 1) hx hb dL_law_1061 (by decide) ?_
  refine lv_iadd hx hb dL_law_1062 ?_
  refine va_sld hx hb hX hbl hbA hS (scr_in hi hL2 (k := 1) (by decide) (by decide)) dL_law_1063 ?_
  obtain ⟨r, xo', mo', eq1, eq2, hI⟩ := S xo nv rv h0 h1 h2 h3 nt0 cv0 nt1 cv1 nt2 cv2 nt3 cv3 ps0 ps1 ps2 ps3 mo (xs (nI i + 1).toNatClampNeg) hI
  refine call_V (As := [.int (xs (nI i + 1).toNatClampNeg)]) (rest := []) hx hb hml hown hts hK hP hD hS hA hZ lkL_150 (Ctr.upL (c_X11_count l G ct sk sv g n xo rv h0 nt0 cv0 ps0 (xs (nI i + 1).toNatClampNeg) eq1) [lfN ct (fun j => g (10 + j)) nv, lfH ct (hsA g 1) g h1, lfH ct (hsA g 2) g h2, lfH ct (hsA g 3) g h3, lfS ct (fun j => (hsA g 1) (12 + j)) nt1, lfS ct (fun j => (hsA g 1) (8 + j)) cv1, lfS ct (fun j => (hsA g 2) (12 + j)) nt2, lfS ct (fun j => (hsA g 2) (8 + j)) cv2, lfS ct (fun j => (hsA g 3) (12 + j)) nt3, lfS ct (fun j => (hsA g 3) (8 + j)) cv3, lfP ct (fun j => (hsA g 1) (16 + j)) ps1, lfP ct (fun j => (hsA g 2) (16 + j)) ps2, lfP ct (fun j => (hsA g 3) (16 + j)) ps3, lfK ct g, lfM ct am mo] (LWs ct g am xo nv rv h0 h1 h2 h3 nt0 cv0 nt1 cv1 nt2 cv2 nt3 cv3 ps0 ps1 ps2 ps3 mo) (LWs ct g am xo' nv rv h0 h1 h2 h3 nt0 cv0 nt1 cv1 nt2 cv2 nt3 cv3 ps0 ps1 ps2 ps3 mo) [0, 2, 3, 7, 8, 15, 1, 4, 5, 6, 9, 10, 11, 12, 13, 14, 16, 17, 18, 19, 20] 21 (by decide) rfl rfl rfl rfl) 0 rfl rfl ⟨Nat.le_of_ble_eq_true rfl, Nat.le_of_ble_eq_true rfl⟩ rfl hl.1 rfl (Nat.le_of_ble_eq_true rfl) dL_law_1064 ⟨Nat.le_of_ble_eq_true rfl, Nat.le_of_ble_eq_true rfl⟩ (fun r9 w9 H locs hB hP hD hS => ?_)
  obtain ⟨rfl, rfl⟩ := hB
  refine W.widen (k := 107) (n := 2324) (Nat.le_of_ble_eq_true rfl) (Nat.le_of_ble_eq_true rfl) ?_
  refine W.eq (g2 := F0 m 1067 ls [.int r]) rfl ?_
  refine lv_aload_n hx hb dL_law_1067 rfl (lv_at hl 2 rfl) ?_
  refine lv_aload_n hx hb dL_law_1068 rfl (lv_at hl 0 rfl) ?_
  refine lv_iload_n hx hb dL_law_1069 rfl (lv_at hl 3 rfl) ?_
  refine lv_iconst (v := 1) hx hb dL_law_1070 (by decide) ?_
  refine lv_iadd hx hb dL_law_1071 ?_
  refine va_sld hx hb hX hbl hbA hS (scr_in hi hL2 (k := 1) (by decide) (by decide)) dL_law_1072 ?_
  refine call_V (As := [.int (xs (nI i + 1).toNatClampNeg)]) (rest := [.int r]) hx hb hml hown hts hK hP hD hS hA hZ lkL_153 (Ctr.upL (c_X12_count l G ct sk sv am n mo (xs (nI i + 1).toNatClampNeg) eq2) [lfX ct g xo', lfN ct (fun j => g (10 + j)) nv, lfR ct (fun j => g (18 + j)) rv, lfH ct (hsA g 0) g h0, lfH ct (hsA g 1) g h1, lfH ct (hsA g 2) g h2, lfH ct (hsA g 3) g h3, lfS ct (fun j => (hsA g 0) (12 + j)) nt0, lfS ct (fun j => (hsA g 0) (8 + j)) cv0, lfS ct (fun j => (hsA g 1) (12 + j)) nt1, lfS ct (fun j => (hsA g 1) (8 + j)) cv1, lfS ct (fun j => (hsA g 2) (12 + j)) nt2, lfS ct (fun j => (hsA g 2) (8 + j)) cv2, lfS ct (fun j => (hsA g 3) (12 + j)) nt3, lfS ct (fun j => (hsA g 3) (8 + j)) cv3, lfP ct (fun j => (hsA g 0) (16 + j)) ps0, lfP ct (fun j => (hsA g 1) (16 + j)) ps1, lfP ct (fun j => (hsA g 2) (16 + j)) ps2, lfP ct (fun j => (hsA g 3) (16 + j)) ps3, lfK ct g] (LWs ct g am xo' nv rv h0 h1 h2 h3 nt0 cv0 nt1 cv1 nt2 cv2 nt3 cv3 ps0 ps1 ps2 ps3 mo) (LWs ct g am xo' nv rv h0 h1 h2 h3 nt0 cv0 nt1 cv1 nt2 cv2 nt3 cv3 ps0 ps1 ps2 ps3 mo') [20, 0, 1, 2, 3, 4, 5, 6, 7, 8, 9, 10, 11, 12, 13, 14, 15, 16, 17, 18, 19] 21 (by decide) rfl rfl rfl rfl) 92 rfl rfl ⟨Nat.le_of_ble_eq_true rfl, Nat.le_of_ble_eq_true rfl⟩ rfl hl.1 rfl (Nat.le_of_ble_eq_true rfl) dL_law_1073 ⟨Nat.le_of_ble_eq_true rfl, Nat.le_of_ble_eq_true rfl⟩ (fun r9 w9 H locs hB hP hD hS => ?_)
  obtain ⟨rfl, rfl⟩ := hB
  refine W.widen (k := 107) (n := 2324) (Nat.le_of_ble_eq_true rfl) (Nat.le_of_ble_eq_true rfl) ?_
  refine W.eq (g2 := F0 m 1076 ls [.int r, .int r]) rfl ?_
  refine lv_icmp_eq (tgt := 1095) hx hb dL_law_1076 (by decide) (fun c1 => ?_) (fun c1 => absurd rfl c1)
  exact K xo' nv rv h0 h1 h2 h3 nt0 cv0 nt1 cv1 nt2 cv2 nt3 cv3 ps0 ps1 ps2 ps3 mo' hI _ _ ls hP hD hS hl
set_option maxHeartbeats 4000000 in
set_option maxRecDepth 100000 in
theorem law_digest {p : Program} {l : Launch} {e : Env} {s : State} {m : MethodId} {below : List Frame} {meth : Method} {c : Code} {b L : Nat} {xs : Nat → Int32} {G : va_G} {ct : Nat → ClassId} {sk sv : Nat → Nat} {g am : Nat → Nat} {n : Nat} {INV : INVT} (C : LAWC l G ct sk sv p s m meth c b L xs) (S : SIM_digest n INV) {i : Nat} (hi : i + 4 ≤ L) (K : LAt p l e s m below meth c b G ct g am INV i 1095) : LAt p l e s m below meth c b G ct g am INV i 1081 := by
  obtain ⟨hx, hb, hr, hml, hown, hts, hK, hZ, hX, hbl, hlocks, hL2⟩ := C
  have hA : ∀ q : Nat, s.heap.size ≤ q → (fun q : Nat => s.heap.size ≤ q) q := fun _ h => h
  have hbA : ¬ (fun q : Nat => s.heap.size ≤ q) b := Nat.not_le.mpr hbl
  intro xo nv rv h0 h1 h2 h3 nt0 cv0 nt1 cv1 nt2 cv2 nt3 cv3 ps0 ps1 ps2 ps3 mo hI H locs ls hP hD hS hl
  refine lv_aload_n hx hb dL_law_1081 rfl (lv_at hl 1 rfl) ?_
  obtain ⟨r, eq1, eq2, hI⟩ := S xo nv rv h0 h1 h2 h3 nt0 cv0 nt1 cv1 nt2 cv2 nt3 cv3 ps0 ps1 ps2 ps3 mo  hI
  refine call_V (As := []) (rest := []) hx hb hml hown hts hK hP hD hS hA hZ lkL_154 (Ctr.upL (c_X11_digest l G ct sk sv g n xo rv h0 nt0 cv0 ps0  eq1) [lfN ct (fun j => g (10 + j)) nv, lfH ct (hsA g 1) g h1, lfH ct (hsA g 2) g h2, lfH ct (hsA g 3) g h3, lfS ct (fun j => (hsA g 1) (12 + j)) nt1, lfS ct (fun j => (hsA g 1) (8 + j)) cv1, lfS ct (fun j => (hsA g 2) (12 + j)) nt2, lfS ct (fun j => (hsA g 2) (8 + j)) cv2, lfS ct (fun j => (hsA g 3) (12 + j)) nt3, lfS ct (fun j => (hsA g 3) (8 + j)) cv3, lfP ct (fun j => (hsA g 1) (16 + j)) ps1, lfP ct (fun j => (hsA g 2) (16 + j)) ps2, lfP ct (fun j => (hsA g 3) (16 + j)) ps3, lfK ct g, lfM ct am mo] (LWs ct g am xo nv rv h0 h1 h2 h3 nt0 cv0 nt1 cv1 nt2 cv2 nt3 cv3 ps0 ps1 ps2 ps3 mo) (LWs ct g am xo nv rv h0 h1 h2 h3 nt0 cv0 nt1 cv1 nt2 cv2 nt3 cv3 ps0 ps1 ps2 ps3 mo) [0, 2, 3, 7, 8, 15, 1, 4, 5, 6, 9, 10, 11, 12, 13, 14, 16, 17, 18, 19, 20] 21 (by decide) rfl rfl rfl rfl) 0 rfl rfl ⟨Nat.le_of_ble_eq_true rfl, Nat.le_of_ble_eq_true rfl⟩ rfl hl.1 rfl (Nat.le_of_ble_eq_true rfl) dL_law_1082 ⟨Nat.le_of_ble_eq_true rfl, Nat.le_of_ble_eq_true rfl⟩ (fun r9 w9 H locs hB hP hD hS => ?_)
  obtain ⟨rfl, rfl⟩ := hB
  refine W.widen (k := 107) (n := 2324) (Nat.le_of_ble_eq_true rfl) (Nat.le_of_ble_eq_true rfl) ?_
  refine W.eq (g2 := F0 m 1085 ls [.long r]) rfl ?_
  refine lv_aload_n hx hb dL_law_1085 rfl (lv_at hl 2 rfl) ?_
  refine call_V (As := []) (rest := [.long r]) hx hb hml hown hts hK hP hD hS hA hZ lkL_158 (Ctr.upL (c_X12_digest l G ct sk sv am n mo  eq2) [lfX ct g xo, lfN ct (fun j => g (10 + j)) nv, lfR ct (fun j => g (18 + j)) rv, lfH ct (hsA g 0) g h0, lfH ct (hsA g 1) g h1, lfH ct (hsA g 2) g h2, lfH ct (hsA g 3) g h3, lfS ct (fun j => (hsA g 0) (12 + j)) nt0, lfS ct (fun j => (hsA g 0) (8 + j)) cv0, lfS ct (fun j => (hsA g 1) (12 + j)) nt1, lfS ct (fun j => (hsA g 1) (8 + j)) cv1, lfS ct (fun j => (hsA g 2) (12 + j)) nt2, lfS ct (fun j => (hsA g 2) (8 + j)) cv2, lfS ct (fun j => (hsA g 3) (12 + j)) nt3, lfS ct (fun j => (hsA g 3) (8 + j)) cv3, lfP ct (fun j => (hsA g 0) (16 + j)) ps0, lfP ct (fun j => (hsA g 1) (16 + j)) ps1, lfP ct (fun j => (hsA g 2) (16 + j)) ps2, lfP ct (fun j => (hsA g 3) (16 + j)) ps3, lfK ct g] (LWs ct g am xo nv rv h0 h1 h2 h3 nt0 cv0 nt1 cv1 nt2 cv2 nt3 cv3 ps0 ps1 ps2 ps3 mo) (LWs ct g am xo nv rv h0 h1 h2 h3 nt0 cv0 nt1 cv1 nt2 cv2 nt3 cv3 ps0 ps1 ps2 ps3 mo) [20, 0, 1, 2, 3, 4, 5, 6, 7, 8, 9, 10, 11, 12, 13, 14, 15, 16, 17, 18, 19] 21 (by decide) rfl rfl rfl rfl) 92 rfl rfl ⟨Nat.le_of_ble_eq_true rfl, Nat.le_of_ble_eq_true rfl⟩ rfl hl.1 rfl (Nat.le_of_ble_eq_true rfl) dL_law_1086 ⟨Nat.le_of_ble_eq_true rfl, Nat.le_of_ble_eq_true rfl⟩ (fun r9 w9 H locs hB hP hD hS => ?_)
  obtain ⟨rfl, rfl⟩ := hB
  refine W.widen (k := 107) (n := 2324) (Nat.le_of_ble_eq_true rfl) (Nat.le_of_ble_eq_true rfl) ?_
  refine W.eq (g2 := F0 m 1089 ls [.long r, .long r]) rfl ?_
  refine W.lcmp hx hb dL_law_1089 ?_
  rw [lg_self]
  refine lv_if_eq (tgt := 1095) hx hb dL_law_1090 (by decide) (fun c1 => ?_) (fun c1 => absurd rfl c1)
  exact K xo nv rv h0 h1 h2 h3 nt0 cv0 nt1 cv1 nt2 cv2 nt3 cv3 ps0 ps1 ps2 ps3 mo hI _ _ ls hP hD hS hl
