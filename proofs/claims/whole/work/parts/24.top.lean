theorem lkX11_75 : lkS "SignedOutside" 75 mX11_within 3 := ⟨kw312, kw313, kw1, kw314, by decide +kernel⟩
theorem lkX11_125 : lkV "SignedOutside" 125 mX11_isLetter 1 := lkV_mk kw560 kw562 kp13 kw1 kw563 (by decide +kernel)
theorem lkX11_145 : lkV "SignedOutside" 145 mX1_postage 1 := lkV_mk kw578 kw536 kw537 kw8 kw538 (by decide +kernel)
theorem lkX11_189 : lkV "SignedOutside" 189 mX11_refuseOtherBad 0 := lkV_mk kw623 kw625 kp16 kw1 kw626 (by decide +kernel)
theorem lkX11_216 : lkV "SignedOutside" 216 mX11_everyMember 0 := lkV_mk kw648 kw650 kp17 kw1 kw651 (by decide +kernel)
theorem lkX11_219 : lkV "SignedOutside" 219 mX3_solve 2 := lkV_mk kw652 kw653 kw654 kw11 kw655 (by decide +kernel)
theorem lkX11_335 : lkV "SignedOutside" 335 mX1_howManyLie 0 := lkV_mk kw862 kw863 kw864 kw8 kw865 (by decide +kernel)
theorem lkX11_322 : lkV "SignedOutside" 322 mX11_howMany 1 := lkV_mk kw858 kw860 kp22 kw1 kw861 (by decide +kernel)
theorem lkX11_83 : lkV "SignedOutside" 83 mX11_refuseBad 0 := lkV_mk kw318 kw320 kp0 kw1 kw321 (by decide +kernel)
theorem lkX11_128 : lkV "SignedOutside" 128 mX11_isMember 1 := lkV_mk kw564 kw566 kp14 kw1 kw567 (by decide +kernel)
theorem lkX11_247 : lkS "SignedOutside" 247 mX11_isSlipDay 1 := ⟨kw721, kw722, kw1, kw723, by decide +kernel⟩
theorem lkX11_79 : lkS "SignedOutside" 79 mX11_isPlace 1 := ⟨kw315, kw316, kw1, kw317, by decide +kernel⟩
theorem lkX11_254 : lkV "SignedOutside" 254 mX8_add 3 := lkV_mk kw724 kw725 kw726 kw9 kw727 (by decide +kernel)
theorem lkX11_87 : lkV "SignedOutside" 87 mX11_refuseFull 0 := lkV_mk kw322 kw324 kp1 kw1 kw325 (by decide +kernel)
theorem lkX11_138 : lkV "SignedOutside" 138 mX4_keep 1 := lkV_mk kw573 kw574 kw575 kw10 kw576 (by decide +kernel)
theorem lkX11_160 : lkV "SignedOutside" 160 mX1_passDay 0 := lkV_mk kw596 kw597 kw598 kw8 kw599 (by decide +kernel)
theorem lkX11_327 : lkS "SignedOutside" 327 mX11_mix 2 := ⟨kw871, kw872, kw1, kw873, by decide +kernel⟩
theorem lkX11_331 : lkS "SignedOutside" 331 mX11_mixSlips 2 := ⟨kw875, kw876, kw1, kw877, by decide +kernel⟩
theorem lkX11_226 : lkS "SignedOutside" 226 mJ6_bitCount_0f7a4 1 := ⟨kw675, kw676, kw21, kw677, by decide +kernel⟩
theorem lkX11_210 : lkV "SignedOutside" 210 mX1_postageDue 0 := lkV_mk kw631 kw632 kw633 kw8 kw634 (by decide +kernel)
theorem lkX11_170 : lkV "SignedOutside" 170 mX1_kindAt 1 := lkV_mk kw615 kw467 kw468 kw8 kw469 (by decide +kernel)
theorem lkX11_277 : lkV "SignedOutside" 277 mX8_fewestFalse 2 := lkV_mk kw778 kw779 kw780 kw9 kw781 (by decide +kernel)
theorem lkX11_356 : lkS "SignedOutside" 356 mX11_commonDivisor 2 := ⟨kw714, kw715, kw1, kw716, by decide +kernel⟩
theorem lkX11_293 : lkV "SignedOutside" 293 mX1_postageFranked 0 := lkV_mk kw817 kw818 kw819 kw8 kw820 (by decide +kernel)
theorem lkX11_243 : lkV "SignedOutside" 243 mX11_setFraction 2 := lkV_mk kw710 kw712 kp21 kw1 kw713 (by decide +kernel)
theorem lkX11_131 : lkV "SignedOutside" 131 mX1_mayFrank 2 := lkV_mk kw568 kw459 kw460 kw8 kw461 (by decide +kernel)
theorem lkX11_141 : lkV "SignedOutside" 141 mX1_sign 2 := lkV_mk kw577 kw532 kw533 kw8 kw534 (by decide +kernel)
theorem lkX11_135 : lkV "SignedOutside" 135 mX11_refuseNo 0 := lkV_mk kw569 kw571 kp15 kw1 kw572 (by decide +kernel)
theorem lkX11_121 : lkV "SignedOutside" 121 mX1_takeOver 1 := lkV_mk kw539 kw540 kw541 kw8 kw542 (by decide +kernel)
theorem lkX11_72 : lkV "SignedOutside" 72 mX1_makeEmpty 0 := lkV_mk kw300 kw301 kw302 kw8 kw303 (by decide +kernel)
theorem lkX11_285 : lkV "SignedOutside" 285 mX8_kindsNoted 2 := lkV_mk kw794 kw795 kw796 kw9 kw797 (by decide +kernel)
theorem lkX11_94 : lkV "SignedOutside" 94 mX4_makeEmpty 0 := lkV_mk kw326 kw305 kw306 kw10 kw307 (by decide +kernel)
theorem lkX11_104 : lkV "SignedOutside" 104 mX1_addLetter 3 := lkV_mk kw335 kw336 kw337 kw8 kw338 (by decide +kernel)
theorem lkX11_265 : lkV "SignedOutside" 265 mX8_onDay 2 := lkV_mk kw740 kw741 kw742 kw9 kw743 (by decide +kernel)
theorem lkX11_274 : lkV "SignedOutside" 274 mX8_nextPlace 2 := lkV_mk kw769 kw770 kw771 kw9 kw772 (by decide +kernel)
theorem lkX11_213 : lkV "SignedOutside" 213 mX1_whoMayFrank 1 := lkV_mk kw639 kw640 kw641 kw8 kw642 (by decide +kernel)
theorem lkX11_97 : lkV "SignedOutside" 97 mX1_addMember 2 := lkV_mk kw327 kw328 kw329 kw8 kw330 (by decide +kernel)
theorem lkX11_149 : lkV "SignedOutside" 149 mX1_lies 1 := lkV_mk kw583 kw463 kw464 kw8 kw465 (by decide +kernel)
theorem lkX11_152 : lkV "SignedOutside" 152 mX1_settle 1 := lkV_mk kw584 kw585 kw586 kw8 kw587 (by decide +kernel)
theorem lkX11_237 : lkV "SignedOutside" 237 mX1_postageOfEvery 0 := lkV_mk kw702 kw703 kw704 kw8 kw705 (by decide +kernel)
theorem lkX11_240 : lkV "SignedOutside" 240 mX1_weightOfEvery 0 := lkV_mk kw706 kw707 kw708 kw8 kw709 (by decide +kernel)
theorem lkX11_289 : lkV "SignedOutside" 289 mX3_pairsThatRest 3 := lkV_mk kw806 kw807 kw808 kw11 kw809 (by decide +kernel)
theorem lkX11_299 : lkS "SignedOutside" 299 mX11_nextX 1 := ⟨kw827, kw828, kw1, kw829, by decide +kernel⟩
theorem lkX11_231 : lkV "SignedOutside" 231 mX3_bestPlace 2 := lkV_mk kw685 kw686 kw687 kw11 kw688 (by decide +kernel)
theorem lkX11_108 : lkV "SignedOutside" 108 mX6_append 1 := lkV_mk kw343 kw344 kw345 kw12 kw346 (by decide +kernel)
theorem lkX11_166 : lkV "SignedOutside" 166 mX4_giveBack 1 := lkV_mk kw607 kw608 kw609 kw10 kw610 (by decide +kernel)
theorem lkX11_268 : lkV "SignedOutside" 268 mX8_placesFor 2 := lkV_mk kw748 kw749 kw750 kw9 kw751 (by decide +kernel)
theorem lkX11_271 : lkV "SignedOutside" 271 mX8_lowest 2 := lkV_mk kw764 kw760 kw761 kw9 kw762 (by decide +kernel)
noncomputable def f_X11_isLetter (n : Nat) (x : MV) (h0 : MV) (v1 : Int32) : Option (Int32) :=
  bd (f_X11_within n v1 0 ((h0.1 1) - 1)) fun r_1 =>
  gd (r_1 = 0 ∨ r_1 = 1) <| some r_1
set_option maxHeartbeats 4000000 in
set_option maxRecDepth 100000 in
theorem c_X11_isLetter (l : Launch) (G : va_G) (ct : Nat → ClassId) (sk sv : Nat → Nat) (g : Nat → Nat) (n : Nat) (x : MV) (h0 : MV) (v1 : Int32) {r : Int32} (hf : f_X11_isLetter n x h0 v1 = some r) : Ctr (l, G, ct, sk, sv) mX11_isLetter 1 22 [.ref (g 7), .int v1] (lfX ct g x ++ (lfH ct (hsA g 0) g h0)) (lfX ct g x ++ (lfH ct (hsA g 0) g h0)) (some (.int r)) := by
  refine ctr_intro (by decide) (Nat.le_of_ble_eq_true rfl) ?_
  intro p e s m args below meth c A C hP hD hS hA ls hl
  obtain ⟨hx, hb, hml, hown, hts, hr, hlocks, hK, hnm, hZ⟩ := C
  have hb : c.code = cX11_isLetter := hb
  have hml : c.maxLocals = 2 := hml
  have hown : s.vm.findClass "SignedOutside" = some m.cls := hown
  have hr : meth.sig.returnType = some .boolean := hr
  have hP : va_P G classes (lfX ct g x ++ (lfH ct (hsA g 0) g h0)) s.heap := hP
  have hD : va_D A (lfX ct g x ++ (lfH ct (hsA g 0) g h0)) := hD
  have hK : va_K G classes (TYS ct) s := hK
  have hl : lv_has ls 2 [(0, .ref (g 7)), (1, .int v1)] := hl
  unfold f_X11_isLetter at hf
  show WG l G ct sk sv p e (RM 1 22 0 0) s m args below meth c A (Eq2 (some (.int r)) (lfX ct g x ++ (lfH ct (hsA g 0) g h0))) s.heap [] (F0 m 0 ls [])
  refine lv_iload_n hx hb dX11_isLetter_0 rfl (lv_at hl 1 rfl) ?_
  refine lv_iconst (v := 0) hx hb dX11_isLetter_1 (by decide) ?_
  refine lv_aload_n hx hb dX11_isLetter_2 rfl (lv_at hl 0 rfl) ?_
  refine va_get (D := G) (C := RX11) (T := TX11) (N := 11) (v := .ref ((hsA g 0) 0)) hx hb hts iu_X11 hown hK hP 0 rfl rfl 0 (by decide) (hts _ kw262) (fun _ h9 => h9) rfl dX11_isLetter_3 ?_
  refine va_get (D := G) (C := RX1) (T := TX1) (N := 16) (v := .int (h0.1 1)) hx hb hts iu_X1 hown hK hP 3 rfl rfl 5 (by decide) (hts _ kw137) (fun _ h9 => h9) rfl dX11_isLetter_6 ?_
  refine lv_iconst (v := 1) hx hb dX11_isLetter_9 (by decide) ?_
  refine lv_isub hx hb dX11_isLetter_10 ?_
  obtain ⟨r_1, hc1, hf⟩ := bd_e hf
  refine call_S (As := [.int v1, .int 0, .int ((h0.1 1) - 1)]) (rest := []) hx hb hml hown hts hK hP hD hS hA hZ lkX11_75 (Ctr.up (W := (lfX ct g x ++ (lfH ct (hsA g 0) g h0))) (W' := (lfX ct g x ++ (lfH ct (hsA g 0) g h0))) (c_X11_within l G ct sk sv  n v1 0 ((h0.1 1) - 1) hc1) [] [0, 1, 2, 3, 4, 5, 6, 7, 8, 9, 10] [0, 1, 2, 3, 4, 5, 6, 7, 8, 9, 10] rfl rfl rfl rfl (by decide) rfl rfl) ⟨Nat.le_of_ble_eq_true rfl, Nat.le_of_ble_eq_true rfl⟩ rfl hl.1 rfl (Nat.le_of_ble_eq_true rfl) dX11_isLetter_11 ⟨Nat.le_of_ble_eq_true rfl, Nat.le_of_ble_eq_true rfl⟩ (fun r9 w9 H locs hB hP hD hS => ?_)
  obtain ⟨rfl, rfl⟩ := hB
  refine WG_eq (g2 := F0 m 14 ls [.int r_1]) rfl ?_
  obtain ⟨g_2, hf⟩ := gd_e hf
  have e1 := Option.some.inj hf
  exact end_z (w' := (lfX ct g x ++ (lfH ct (hsA g 0) g h0))) hx hb hr hlocks hK hP hD hS dX11_isLetter_14 g_2 ⟨by rw [← e1], rfl⟩
noncomputable def f_X11_refuseOtherBad (n : Nat) (x : MV) : Option (Int32 × MV) :=
  bl (setS x 0 ((x.1 0) + 1)) fun x_1 =>
  some ((-10), x_1)
set_option maxHeartbeats 4000000 in
set_option maxRecDepth 100000 in
theorem c_X11_refuseOtherBad (l : Launch) (G : va_G) (ct : Nat → ClassId) (sk sv : Nat → Nat) (g : Nat → Nat) (n : Nat) (x : MV) {r : Int32} {x' : MV} (hf : f_X11_refuseOtherBad n x = some (r, x')) : Ctr (l, G, ct, sk, sv) mX11_refuseOtherBad 0 0 [.ref (g 7)] (lfX ct g x) (lfX ct g x') (some (.int r)) := by
  refine ctr_intro (by decide) (Nat.le_of_ble_eq_true rfl) ?_
  intro p e s m args below meth c A C hP hD hS hA ls hl
  obtain ⟨hx, hb, hml, hown, hts, hr, hlocks, hK, hnm, hZ⟩ := C
  have hb : c.code = cX11_refuseOtherBad := hb
  have hml : c.maxLocals = 1 := hml
  have hown : s.vm.findClass "SignedOutside" = some m.cls := hown
  have hr : meth.sig.returnType = some .int := hr
  have hP : va_P G classes (lfX ct g x) s.heap := hP
  have hD : va_D A (lfX ct g x) := hD
  have hK : va_K G classes (TYS ct) s := hK
  have hl : lv_has ls 1 [(0, .ref (g 7))] := hl
  unfold f_X11_refuseOtherBad at hf
  show WG l G ct sk sv p e (RM 0 0 0 0) s m args below meth c A (Eq2 (some (.int r)) (lfX ct g x')) s.heap [] (F0 m 0 ls [])
  refine lv_aload_n hx hb dX11_refuseOtherBad_0 rfl (lv_at hl 0 rfl) ?_
  refine lv_dup hx hb dX11_refuseOtherBad_1 rfl ?_
  refine va_get (D := G) (C := RX11) (T := TX11) (N := 11) (v := .int (x.1 0)) hx hb hts iu_X11 hown hK hP 0 rfl rfl 8 (by decide) (hts _ kw270) (fun _ h9 => h9) rfl dX11_refuseOtherBad_2 ?_
  refine lv_iconst (v := 1) hx hb dX11_refuseOtherBad_5 (by decide) ?_
  refine lv_iadd hx hb dX11_refuseOtherBad_6 ?_
  obtain ⟨x_1, ex_1, hf⟩ := bl_e hf
  refine va_put (D := G) (C := RX11) (T := TX11) (N := 11) (ty := .int) hx hb hts iu_X11 tyX11 tyX11_ok nmX11 hown hK hP hD hS 0 rfl rfl 8 (by decide) (hts _ kw270) (fun _ h9 => h9) rfl (by decide +kernel) rfl rfl (Nat.le_of_ble_eq_true rfl) dX11_refuseOtherBad_7 (fun H locs hP hD hS => ?_)
  have hP : va_P G classes (lfX ct g x_1) H := by rw [← ex_1]; exact hP
  have hD : va_D A (lfX ct g x_1) := by rw [← ex_1]; exact hD
  refine lv_bipush (v := (-10)) hx hb dX11_refuseOtherBad_10 (by decide) ?_
  obtain ⟨e1, e2⟩ := inj2 (Option.some.inj hf)
  exact end_i (w' := (lfX ct g x_1)) hx hb hr hlocks hK hP hD hS dX11_refuseOtherBad_12  ⟨by rw [← e1], by rw [← e2]⟩
noncomputable def f_X11_about (n : Nat) (x : MV) (h0 : MV) (v1 : Int32) (v2 : Int32) : Option (Int32 × MV) :=
  bd (f_X11_isLetter n x h0 v1) fun r_1 =>
  bc (r_1 = 0) (bd2 (f_X11_refuseOtherBad n x) fun r_15 x_16 =>
  some (r_15, x_16))
  (bc (v2 = 0) (gd (vp_in v1 6) <|
  some (h0.2.1 3 (ix v1), x)) <|
  bc (v2 = 1) (gd (vp_in v1 6) <|
  some (h0.2.1 4 (ix v1), x)) <|
  bc (v2 = 2) (gd (vp_in v1 6) <|
  some (h0.2.1 5 (ix v1), x)) <|
  bc (v2 = 3) (bd (f_X1_postage n h0 v1) fun r_10 =>
  some (r_10, x)) <|
  bc (v2 = 4) (gd (vp_in v1 6) <|
  some (h0.2.1 6 (ix v1), x)) <|
  bd2 (f_X11_refuseOtherBad n x) fun r_13 x_14 =>
  some (r_13, x_14))
set_option maxHeartbeats 4000000 in
set_option maxRecDepth 100000 in
theorem c_X11_about (l : Launch) (G : va_G) (ct : Nat → ClassId) (sk sv : Nat → Nat) (g : Nat → Nat) (n : Nat) (x : MV) (h0 : MV) (v1 : Int32) (v2 : Int32) {r : Int32} {x' : MV} (hf : f_X11_about n x h0 v1 v2 = some (r, x')) : Ctr (l, G, ct, sk, sv) mX11_about 2 85 [.ref (g 7), .int v1, .int v2] (lfX ct g x ++ (lfH ct (hsA g 0) g h0)) (lfX ct g x' ++ (lfH ct (hsA g 0) g h0)) (some (.int r)) := by
  refine ctr_intro (by decide) (Nat.le_of_ble_eq_true rfl) ?_
  intro p e s m args below meth c A C hP hD hS hA ls hl
  obtain ⟨hx, hb, hml, hown, hts, hr, hlocks, hK, hnm, hZ⟩ := C
  have hb : c.code = cX11_about := hb
  have hml : c.maxLocals = 3 := hml
  have hown : s.vm.findClass "SignedOutside" = some m.cls := hown
  have hr : meth.sig.returnType = some .int := hr
  have hP : va_P G classes (lfX ct g x ++ (lfH ct (hsA g 0) g h0)) s.heap := hP
  have hD : va_D A (lfX ct g x ++ (lfH ct (hsA g 0) g h0)) := hD
  have hK : va_K G classes (TYS ct) s := hK
  have hl : lv_has ls 3 [(0, .ref (g 7)), (1, .int v1), (2, .int v2)] := hl
  unfold f_X11_about at hf
  show WG l G ct sk sv p e (RM 2 85 0 0) s m args below meth c A (Eq2 (some (.int r)) (lfX ct g x' ++ (lfH ct (hsA g 0) g h0))) s.heap [] (F0 m 0 ls [])
  refine lv_aload_n hx hb dX11_about_0 rfl (lv_at hl 0 rfl) ?_
  refine lv_iload_n hx hb dX11_about_1 rfl (lv_at hl 1 rfl) ?_
  obtain ⟨r_1, hc1, hf⟩ := bd_e hf
  refine call_V (As := [.int v1]) (rest := []) hx hb hml hown hts hK hP hD hS hA hZ lkX11_125 (c_X11_isLetter l G ct sk sv g n x h0 v1 hc1) 0 rfl rfl ⟨Nat.le_of_ble_eq_true rfl, Nat.le_of_ble_eq_true rfl⟩ rfl hl.1 rfl (Nat.le_of_ble_eq_true rfl) dX11_about_2 ⟨Nat.le_of_ble_eq_true rfl, Nat.le_of_ble_eq_true rfl⟩ (fun r9 w9 H locs hB hP hD hS => ?_)
  obtain ⟨rfl, rfl⟩ := hB
  refine WG_eq (g2 := F0 m 5 ls [.int r_1]) rfl ?_
  refine lv_if_ne (tgt := 13) hx hb dX11_about_5 (by decide) (fun c_2 => ?_) (fun c_2 => ?_)
  · replace hf := bc_f hf c_2
    refine lv_iload_n hx hb dX11_about_13 rfl (lv_at hl 2 rfl) ?_
    rcases Classical.em (v2 = 0) with c_3 | c_3
    · replace hf := bc_t hf c_3
      refine lv_tableIn (tgt := 48) hx hb dX11_about_14 (by rw [c_3]; decide) (by rw [c_3]; decide) (by rw [c_3]; rfl) (by decide) ?_
      refine lv_aload_n hx hb dX11_about_48 rfl (lv_at hl 0 rfl) ?_
      refine va_get (D := G) (C := RX11) (T := TX11) (N := 11) (v := .ref ((hsA g 0) 0)) hx hb hts iu_X11 hown hK hP 0 rfl rfl 0 (by decide) (hts _ kw262) (fun _ h9 => h9) rfl dX11_about_49 ?_
      refine va_get (D := G) (C := RX1) (T := TX1) (N := 16) (v := .ref ((hsA g 0) 4)) hx hb hts iu_X1 hown hK hP 3 rfl rfl 6 (by decide) (hts _ kw140) (fun _ h9 => h9) rfl dX11_about_52 ?_
      refine lv_iload_n hx hb dX11_about_55 rfl (lv_at hl 1 rfl) ?_
      obtain ⟨g_4, hf⟩ := gd_e hf
      refine va_iald (f := h0.2.1 3) hx hb hK hP 7 0 rfl rfl g_4 dX11_about_56 ?_
      obtain ⟨e1, e2⟩ := inj2 (Option.some.inj hf)
      exact end_i (w' := (lfX ct g x ++ (lfH ct (hsA g 0) g h0))) hx hb hr hlocks hK hP hD hS dX11_about_57  ⟨by rw [← e1], by rw [← e2]⟩
    replace hf := bc_f hf c_3
    rcases Classical.em (v2 = 1) with c_5 | c_5
    · replace hf := bc_t hf c_5
      refine lv_tableIn (tgt := 58) hx hb dX11_about_14 (by rw [c_5]; decide) (by rw [c_5]; decide) (by rw [c_5]; rfl) (by decide) ?_
      refine lv_aload_n hx hb dX11_about_58 rfl (lv_at hl 0 rfl) ?_
      refine va_get (D := G) (C := RX11) (T := TX11) (N := 11) (v := .ref ((hsA g 0) 0)) hx hb hts iu_X11 hown hK hP 0 rfl rfl 0 (by decide) (hts _ kw262) (fun _ h9 => h9) rfl dX11_about_59 ?_
      refine va_get (D := G) (C := RX1) (T := TX1) (N := 16) (v := .ref ((hsA g 0) 5)) hx hb hts iu_X1 hown hK hP 3 rfl rfl 7 (by decide) (hts _ kw142) (fun _ h9 => h9) rfl dX11_about_62 ?_
      refine lv_iload_n hx hb dX11_about_65 rfl (lv_at hl 1 rfl) ?_
      obtain ⟨g_6, hf⟩ := gd_e hf
      refine va_iald (f := h0.2.1 4) hx hb hK hP 8 0 rfl rfl g_6 dX11_about_66 ?_
      obtain ⟨e1, e2⟩ := inj2 (Option.some.inj hf)
      exact end_i (w' := (lfX ct g x ++ (lfH ct (hsA g 0) g h0))) hx hb hr hlocks hK hP hD hS dX11_about_67  ⟨by rw [← e1], by rw [← e2]⟩
    replace hf := bc_f hf c_5
    rcases Classical.em (v2 = 2) with c_7 | c_7
    · replace hf := bc_t hf c_7
      refine lv_tableIn (tgt := 68) hx hb dX11_about_14 (by rw [c_7]; decide) (by rw [c_7]; decide) (by rw [c_7]; rfl) (by decide) ?_
      refine lv_aload_n hx hb dX11_about_68 rfl (lv_at hl 0 rfl) ?_
      refine va_get (D := G) (C := RX11) (T := TX11) (N := 11) (v := .ref ((hsA g 0) 0)) hx hb hts iu_X11 hown hK hP 0 rfl rfl 0 (by decide) (hts _ kw262) (fun _ h9 => h9) rfl dX11_about_69 ?_
      refine va_get (D := G) (C := RX1) (T := TX1) (N := 16) (v := .ref ((hsA g 0) 6)) hx hb hts iu_X1 hown hK hP 3 rfl rfl 8 (by decide) (hts _ kw144) (fun _ h9 => h9) rfl dX11_about_72 ?_
      refine lv_iload_n hx hb dX11_about_75 rfl (lv_at hl 1 rfl) ?_
      obtain ⟨g_8, hf⟩ := gd_e hf
      refine va_iald (f := h0.2.1 5) hx hb hK hP 9 0 rfl rfl g_8 dX11_about_76 ?_
      obtain ⟨e1, e2⟩ := inj2 (Option.some.inj hf)
      exact end_i (w' := (lfX ct g x ++ (lfH ct (hsA g 0) g h0))) hx hb hr hlocks hK hP hD hS dX11_about_77  ⟨by rw [← e1], by rw [← e2]⟩
    replace hf := bc_f hf c_7
    rcases Classical.em (v2 = 3) with c_9 | c_9
    · replace hf := bc_t hf c_9
      refine lv_tableIn (tgt := 78) hx hb dX11_about_14 (by rw [c_9]; decide) (by rw [c_9]; decide) (by rw [c_9]; rfl) (by decide) ?_
      refine lv_aload_n hx hb dX11_about_78 rfl (lv_at hl 0 rfl) ?_
      refine va_get (D := G) (C := RX11) (T := TX11) (N := 11) (v := .ref ((hsA g 0) 0)) hx hb hts iu_X11 hown hK hP 0 rfl rfl 0 (by decide) (hts _ kw262) (fun _ h9 => h9) rfl dX11_about_79 ?_
      refine lv_iload_n hx hb dX11_about_82 rfl (lv_at hl 1 rfl) ?_
      obtain ⟨r_10, hc10, hf⟩ := bd_e hf
      refine call_V (As := [.int v1]) (rest := []) hx hb hml hown hts hK hP hD hS hA hZ lkX11_145 (Ctr.up (W := (lfX ct g x ++ (lfH ct (hsA g 0) g h0))) (W' := (lfX ct g x ++ (lfH ct (hsA g 0) g h0))) (c_X1_postage l G ct sk sv (hsA g 0) g n h0 v1 hc10) [3, 4, 5, 6, 7, 8, 9, 10] [0, 1, 2] [0, 1, 2, 3, 4, 5, 6, 7, 8, 9, 10] rfl rfl rfl rfl (by decide) rfl rfl) 3 rfl rfl ⟨Nat.le_of_ble_eq_true rfl, Nat.le_of_ble_eq_true rfl⟩ rfl hl.1 rfl (Nat.le_of_ble_eq_true rfl) dX11_about_83 ⟨Nat.le_of_ble_eq_true rfl, Nat.le_of_ble_eq_true rfl⟩ (fun r9 w9 H locs hB hP hD hS => ?_)
      obtain ⟨rfl, rfl⟩ := hB
      refine WG_eq (g2 := F0 m 86 ls [.int r_10]) rfl ?_
      obtain ⟨e1, e2⟩ := inj2 (Option.some.inj hf)
      exact end_i (w' := (lfX ct g x ++ (lfH ct (hsA g 0) g h0))) hx hb hr hlocks hK hP hD hS dX11_about_86  ⟨by rw [← e1], by rw [← e2]⟩
    replace hf := bc_f hf c_9
    rcases Classical.em (v2 = 4) with c_11 | c_11
    · replace hf := bc_t hf c_11
      refine lv_tableIn (tgt := 87) hx hb dX11_about_14 (by rw [c_11]; decide) (by rw [c_11]; decide) (by rw [c_11]; rfl) (by decide) ?_
      refine lv_aload_n hx hb dX11_about_87 rfl (lv_at hl 0 rfl) ?_
      refine va_get (D := G) (C := RX11) (T := TX11) (N := 11) (v := .ref ((hsA g 0) 0)) hx hb hts iu_X11 hown hK hP 0 rfl rfl 0 (by decide) (hts _ kw262) (fun _ h9 => h9) rfl dX11_about_88 ?_
      refine va_get (D := G) (C := RX1) (T := TX1) (N := 16) (v := .ref ((hsA g 0) 7)) hx hb hts iu_X1 hown hK hP 3 rfl rfl 9 (by decide) (hts _ kw147) (fun _ h9 => h9) rfl dX11_about_91 ?_
      refine lv_iload_n hx hb dX11_about_94 rfl (lv_at hl 1 rfl) ?_
      obtain ⟨g_12, hf⟩ := gd_e hf
      refine va_iald (f := h0.2.1 6) hx hb hK hP 10 0 rfl rfl g_12 dX11_about_95 ?_
      obtain ⟨e1, e2⟩ := inj2 (Option.some.inj hf)
      exact end_i (w' := (lfX ct g x ++ (lfH ct (hsA g 0) g h0))) hx hb hr hlocks hK hP hD hS dX11_about_96  ⟨by rw [← e1], by rw [← e2]⟩
    replace hf := bc_f hf c_11
    have tc_3 := lv_neT (a := 0) c_3 (by decide)
    have tc_5 := lv_neT (a := 1) c_5 (by decide)
    have tc_7 := lv_neT (a := 2) c_7 (by decide)
    have tc_9 := lv_neT (a := 3) c_9 (by decide)
    have tc_11 := lv_neT (a := 4) c_11 (by decide)
    refine lv_tableOut (tgt := 97) hx hb dX11_about_14 (by omega) (by decide) ?_
    refine lv_aload_n hx hb dX11_about_97 rfl (lv_at hl 0 rfl) ?_
    obtain ⟨r_13, x_14, hc14, hf⟩ := bd2_e hf
    refine call_V (As := []) (rest := []) hx hb hml hown hts hK hP hD hS hA hZ lkX11_189 (Ctr.up (W := (lfX ct g x ++ (lfH ct (hsA g 0) g h0))) (W' := (lfX ct g x_14 ++ (lfH ct (hsA g 0) g h0))) (c_X11_refuseOtherBad l G ct sk sv g n x hc14) [0, 1, 2] [3, 4, 5, 6, 7, 8, 9, 10] [8, 9, 10, 0, 1, 2, 3, 4, 5, 6, 7] rfl rfl rfl rfl (by decide) rfl rfl) 0 rfl rfl ⟨Nat.le_of_ble_eq_true rfl, Nat.le_of_ble_eq_true rfl⟩ rfl hl.1 rfl (Nat.le_of_ble_eq_true rfl) dX11_about_98 ⟨Nat.le_of_ble_eq_true rfl, Nat.le_of_ble_eq_true rfl⟩ (fun r9 w9 H locs hB hP hD hS => ?_)
    obtain ⟨rfl, rfl⟩ := hB
    refine WG_eq (g2 := F0 m 101 ls [.int r_13]) rfl ?_
    obtain ⟨e1, e2⟩ := inj2 (Option.some.inj hf)
    exact end_i (w' := (lfX ct g x_14 ++ (lfH ct (hsA g 0) g h0))) hx hb hr hlocks hK hP hD hS dX11_about_101  ⟨by rw [← e1], by rw [← e2]⟩
  · replace hf := bc_t hf c_2
    refine lv_aload_n hx hb dX11_about_8 rfl (lv_at hl 0 rfl) ?_
    obtain ⟨r_15, x_16, hc16, hf⟩ := bd2_e hf
    refine call_V (As := []) (rest := []) hx hb hml hown hts hK hP hD hS hA hZ lkX11_189 (Ctr.up (W := (lfX ct g x ++ (lfH ct (hsA g 0) g h0))) (W' := (lfX ct g x_16 ++ (lfH ct (hsA g 0) g h0))) (c_X11_refuseOtherBad l G ct sk sv g n x hc16) [0, 1, 2] [3, 4, 5, 6, 7, 8, 9, 10] [8, 9, 10, 0, 1, 2, 3, 4, 5, 6, 7] rfl rfl rfl rfl (by decide) rfl rfl) 0 rfl rfl ⟨Nat.le_of_ble_eq_true rfl, Nat.le_of_ble_eq_true rfl⟩ rfl hl.1 rfl (Nat.le_of_ble_eq_true rfl) dX11_about_9 ⟨Nat.le_of_ble_eq_true rfl, Nat.le_of_ble_eq_true rfl⟩ (fun r9 w9 H locs hB hP hD hS => ?_)
    obtain ⟨rfl, rfl⟩ := hB
    refine WG_eq (g2 := F0 m 12 ls [.int r_15]) rfl ?_
    obtain ⟨e1, e2⟩ := inj2 (Option.some.inj hf)
    exact end_i (w' := (lfX ct g x_16 ++ (lfH ct (hsA g 0) g h0))) hx hb hr hlocks hK hP hD hS dX11_about_12  ⟨by rw [← e1], by rw [← e2]⟩
noncomputable def f_X11_everyMember (n : Nat) (x : MV) (h0 : MV) : Option (Int32) :=
  some ((1 <<< ((h0.1 0) &&& 31)) - 1)
set_option maxHeartbeats 4000000 in
set_option maxRecDepth 100000 in
theorem c_X11_everyMember (l : Launch) (G : va_G) (ct : Nat → ClassId) (sk sv : Nat → Nat) (g : Nat → Nat) (n : Nat) (x : MV) (h0 : MV) {r : Int32} (hf : f_X11_everyMember n x h0 = some r) : Ctr (l, G, ct, sk, sv) mX11_everyMember 0 0 [.ref (g 7)] (lfX ct g x ++ (lfH ct (hsA g 0) g h0)) (lfX ct g x ++ (lfH ct (hsA g 0) g h0)) (some (.int r)) := by
  refine ctr_intro (by decide) (Nat.le_of_ble_eq_true rfl) ?_
  intro p e s m args below meth c A C hP hD hS hA ls hl
  obtain ⟨hx, hb, hml, hown, hts, hr, hlocks, hK, hnm, hZ⟩ := C
  have hb : c.code = cX11_everyMember := hb
  have hml : c.maxLocals = 1 := hml
  have hown : s.vm.findClass "SignedOutside" = some m.cls := hown
  have hr : meth.sig.returnType = some .int := hr
  have hP : va_P G classes (lfX ct g x ++ (lfH ct (hsA g 0) g h0)) s.heap := hP
  have hD : va_D A (lfX ct g x ++ (lfH ct (hsA g 0) g h0)) := hD
  have hK : va_K G classes (TYS ct) s := hK
  have hl : lv_has ls 1 [(0, .ref (g 7))] := hl
  unfold f_X11_everyMember at hf
  show WG l G ct sk sv p e (RM 0 0 0 0) s m args below meth c A (Eq2 (some (.int r)) (lfX ct g x ++ (lfH ct (hsA g 0) g h0))) s.heap [] (F0 m 0 ls [])
  refine lv_iconst (v := 1) hx hb dX11_everyMember_0 (by decide) ?_
  refine lv_aload_n hx hb dX11_everyMember_1 rfl (lv_at hl 0 rfl) ?_
  refine va_get (D := G) (C := RX11) (T := TX11) (N := 11) (v := .ref ((hsA g 0) 0)) hx hb hts iu_X11 hown hK hP 0 rfl rfl 0 (by decide) (hts _ kw262) (fun _ h9 => h9) rfl dX11_everyMember_2 ?_
  refine va_get (D := G) (C := RX1) (T := TX1) (N := 16) (v := .int (h0.1 0)) hx hb hts iu_X1 hown hK hP 3 rfl rfl 1 (by decide) (hts _ kw124) (fun _ h9 => h9) rfl dX11_everyMember_5 ?_
  refine lv_ishl hx hb dX11_everyMember_8 ?_
  refine lv_iconst (v := 1) hx hb dX11_everyMember_9 (by decide) ?_
  refine lv_isub hx hb dX11_everyMember_10 ?_
  have e1 := Option.some.inj hf
  exact end_i (w' := (lfX ct g x ++ (lfH ct (hsA g 0) g h0))) hx hb hr hlocks hK hP hD hS dX11_everyMember_11  ⟨by rw [← e1], rfl⟩
noncomputable def f_X11_all_j52 (n : Nat) (x : MV) (nv : MV) (h0 : MV) (s0 : Int32) : Option (Int32 × MV × MV) :=
  some (s0, x, nv)
noncomputable def f_X11_all_j18 (n : Nat) (x : MV) (nv : MV) (h0 : MV) (v1 : Int32) : Option (Int32 × MV × MV) :=
  bd (f_X11_everyMember n x h0) fun r_1 =>
  bd2 (f_X3_solve n nv h0 r_1) fun r_2 nv_3 =>
  bc (v1 = (-1)) (f_X11_all_j52 n x nv_3 h0 r_2)
  (gd (vp_in v1 6) <|
  f_X11_all_j52 n x nv_3 h0 (nv_3.2.1 5 (ix v1)))
noncomputable def f_X11_all (n : Nat) (x : MV) (nv : MV) (h0 : MV) (v1 : Int32) : Option (Int32 × MV × MV) :=
  bc (v1 = (-1)) (f_X11_all_j18 n x nv h0 v1)
  (bd (f_X11_isLetter n x h0 v1) fun r_7 =>
  bc (r_7 = 0) (bd2 (f_X11_refuseOtherBad n x) fun r_9 x_10 =>
  some (r_9, x_10, nv))
  (f_X11_all_j18 n x nv h0 v1))
set_option maxHeartbeats 4000000 in
set_option maxRecDepth 100000 in
theorem c_X11_all (l : Launch) (G : va_G) (ct : Nat → ClassId) (sk sv : Nat → Nat) (g : Nat → Nat) (n : Nat) (x : MV) (nv : MV) (h0 : MV) (v1 : Int32) {r : Int32} {x' : MV} {nv' : MV} (hf : f_X11_all n x nv h0 v1 = some (r, x', nv')) : Ctr (l, G, ct, sk, sv) mX11_all 11 304 [.ref (g 7), .int v1] (lfX ct g x ++ (lfN ct (fun j => g (10 + j)) nv ++ (lfH ct (hsA g 0) g h0 ++ (lfK ct g)))) (lfX ct g x' ++ (lfN ct (fun j => g (10 + j)) nv' ++ (lfH ct (hsA g 0) g h0 ++ (lfK ct g)))) (some (.int r)) := by
  refine ctr_intro (by decide) (Nat.le_of_ble_eq_true rfl) ?_
  intro p e s m args below meth c A C hP hD hS hA ls hl
  obtain ⟨hx, hb, hml, hown, hts, hr, hlocks, hK, hnm, hZ⟩ := C
  have hb : c.code = cX11_all := hb
  have hml : c.maxLocals = 3 := hml
  have hown : s.vm.findClass "SignedOutside" = some m.cls := hown
  have hr : meth.sig.returnType = some .int := hr
  have hP : va_P G classes (lfX ct g x ++ (lfN ct (fun j => g (10 + j)) nv ++ (lfH ct (hsA g 0) g h0 ++ (lfK ct g)))) s.heap := hP
  have hD : va_D A (lfX ct g x ++ (lfN ct (fun j => g (10 + j)) nv ++ (lfH ct (hsA g 0) g h0 ++ (lfK ct g)))) := hD
  have hK : va_K G classes (TYS ct) s := hK
  have hl : lv_has ls 3 [(0, .ref (g 7)), (1, .int v1)] := hl
  have J52 : ∀ (x : MV) (nv : MV) (s0 : Int32) (H : Heap) (locs : List Loc) (ls : Array Slot), va_P G classes (lfX ct g x ++ (lfN ct (fun j => g (10 + j)) nv ++ (lfH ct (hsA g 0) g h0 ++ (lfK ct g)))) H → va_D A (lfX ct g x ++ (lfN ct (fun j => g (10 + j)) nv ++ (lfH ct (hsA g 0) g h0 ++ (lfK ct g)))) → va_S A s.heap H locs → lv_has ls 3 [] → f_X11_all_j52 n x nv h0 s0 = some (r, x', nv') → WG l G ct sk sv p e (RM 11 304 0 0) s m args below meth c A (Eq2 (some (.int r)) (lfX ct g x' ++ (lfN ct (fun j => g (10 + j)) nv' ++ (lfH ct (hsA g 0) g h0 ++ (lfK ct g))))) H locs (F0 m 52 ls [.int s0]) := by
    intro x nv s0 H locs ls hP hD hS hl hf
    unfold f_X11_all_j52 at hf
    obtain ⟨e1, e2, e3⟩ := inj3 (Option.some.inj hf)
    exact end_i (w' := (lfX ct g x ++ (lfN ct (fun j => g (10 + j)) nv ++ (lfH ct (hsA g 0) g h0 ++ (lfK ct g))))) hx hb hr hlocks hK hP hD hS dX11_all_52  ⟨by rw [← e1], by rw [← e2, ← e3]⟩
  have J18 : ∀ (x : MV) (nv : MV) (v1 : Int32) (H : Heap) (locs : List Loc) (ls : Array Slot), va_P G classes (lfX ct g x ++ (lfN ct (fun j => g (10 + j)) nv ++ (lfH ct (hsA g 0) g h0 ++ (lfK ct g)))) H → va_D A (lfX ct g x ++ (lfN ct (fun j => g (10 + j)) nv ++ (lfH ct (hsA g 0) g h0 ++ (lfK ct g)))) → va_S A s.heap H locs → lv_has ls 3 [(0, .ref (g 7)), (1, .int v1)] → f_X11_all_j18 n x nv h0 v1 = some (r, x', nv') → WG l G ct sk sv p e (RM 11 304 0 0) s m args below meth c A (Eq2 (some (.int r)) (lfX ct g x' ++ (lfN ct (fun j => g (10 + j)) nv' ++ (lfH ct (hsA g 0) g h0 ++ (lfK ct g))))) H locs (F0 m 18 ls []) := by
    intro x nv v1 H locs ls hP hD hS hl hf
    unfold f_X11_all_j18 at hf
    refine lv_aload_n hx hb dX11_all_18 rfl (lv_at hl 0 rfl) ?_
    refine va_get (D := G) (C := RX11) (T := TX11) (N := 11) (v := .ref (g 10)) hx hb hts iu_X11 hown hK hP 0 rfl rfl 4 (by decide) (hts _ kw266) (fun _ h9 => h9) rfl dX11_all_19 ?_
    refine lv_aload_n hx hb dX11_all_22 rfl (lv_at hl 0 rfl) ?_
    refine va_get (D := G) (C := RX11) (T := TX11) (N := 11) (v := .ref ((hsA g 0) 0)) hx hb hts iu_X11 hown hK hP 0 rfl rfl 0 (by decide) (hts _ kw262) (fun _ h9 => h9) rfl dX11_all_23 ?_
    refine lv_aload_n hx hb dX11_all_26 rfl (lv_at hl 0 rfl) ?_
    obtain ⟨r_1, hc1, hf⟩ := bd_e hf
    refine call_V (As := []) (rest := [.ref ((hsA g 0) 0), .ref (g 10)]) hx hb hml hown hts hK hP hD hS hA hZ lkX11_216 (Ctr.up (W := (lfX ct g x ++ (lfN ct (fun j => g (10 + j)) nv ++ (lfH ct (hsA g 0) g h0 ++ (lfK ct g))))) (W' := (lfX ct g x ++ (lfN ct (fun j => g (10 + j)) nv ++ (lfH ct (hsA g 0) g h0 ++ (lfK ct g))))) (c_X11_everyMember l G ct sk sv g n x h0 hc1) [0, 1, 2, 11, 12, 13, 14, 15, 16, 17, 18] [3, 4, 5, 6, 7, 8, 9, 10, 19, 20, 21, 22, 23, 24, 25] [15, 16, 17, 0, 1, 2, 3, 4, 5, 6, 7, 18, 19, 20, 21, 22, 23, 24, 25, 8, 9, 10, 11, 12, 13, 14] rfl rfl rfl rfl (by decide) rfl rfl) 0 rfl rfl ⟨Nat.le_of_ble_eq_true rfl, Nat.le_of_ble_eq_true rfl⟩ rfl hl.1 rfl (Nat.le_of_ble_eq_true rfl) dX11_all_27 ⟨Nat.le_of_ble_eq_true rfl, Nat.le_of_ble_eq_true rfl⟩ (fun r9 w9 H locs hB hP hD hS => ?_)
    obtain ⟨rfl, rfl⟩ := hB
    refine WG_eq (g2 := F0 m 30 ls [.int r_1, .ref ((hsA g 0) 0), .ref (g 10)]) rfl ?_
    obtain ⟨r_2, nv_3, hc3, hf⟩ := bd2_e hf
    refine call_V (As := [.ref ((hsA g 0) 0), .int r_1]) (rest := []) hx hb hml hown hts hK hP hD hS hA hZ lkX11_219 (Ctr.up (W := (lfX ct g x ++ (lfN ct (fun j => g (10 + j)) nv ++ (lfH ct (hsA g 0) g h0 ++ (lfK ct g))))) (W' := (lfX ct g x ++ (lfN ct (fun j => g (10 + j)) nv_3 ++ (lfH ct (hsA g 0) g h0 ++ (lfK ct g))))) (c_X3_solve l G ct sk sv (fun j => g (10 + j)) (hsA g 0) g n nv h0 r_1 hc3) [3, 4, 5, 6, 7, 8, 9, 10, 11, 12, 13, 14, 15, 16, 17, 18, 19, 20, 21, 22, 23, 24, 25] [0, 1, 2] [0, 1, 2, 3, 4, 5, 6, 7, 8, 9, 10, 11, 12, 13, 14, 15, 16, 17, 18, 19, 20, 21, 22, 23, 24, 25] rfl rfl rfl rfl (by decide) rfl rfl) 3 rfl rfl ⟨Nat.le_of_ble_eq_true rfl, Nat.le_of_ble_eq_true rfl⟩ rfl hl.1 rfl (Nat.le_of_ble_eq_true rfl) dX11_all_30 ⟨Nat.le_of_ble_eq_true rfl, Nat.le_of_ble_eq_true rfl⟩ (fun r9 w9 H locs hB hP hD hS => ?_)
    obtain ⟨rfl, rfl⟩ := hB
    refine WG_eq (g2 := F0 m 33 ls [.int r_2]) rfl ?_
    refine lv_istore_n (lv' := [(2, .int r_2), (0, .ref (g 7)), (1, .int v1)]) hx hb dX11_all_33 rfl hl (by decide) rfl (fun ls hl => ?_)
    refine lv_iload_n hx hb dX11_all_34 rfl (lv_at hl 2 rfl) ?_
    refine lv_iconst (v := (-1)) hx hb dX11_all_35 (by decide) ?_
    refine lv_icmp_ne (tgt := 43) hx hb dX11_all_36 (by decide) (fun c_4 => ?_) (fun c_4 => ?_)
    · replace hf := bc_f hf c_4
      refine lv_aload_n hx hb dX11_all_43 rfl (lv_at hl 1 rfl) ?_
      refine va_get (D := G) (C := RX11) (T := TX11) (N := 11) (v := .ref (g 10)) hx hb hts iu_X11 hown hK hP 0 rfl rfl 4 (by decide) (hts _ kw266) (fun _ h9 => h9) rfl dX11_all_44 ?_
      refine va_get (D := G) (C := RX3) (T := TX3) (N := 9) (v := .ref (g 16)) hx hb hts iu_X3 hown hK hP 3 rfl rfl 6 (by decide) (hts _ kw210) (fun _ h9 => h9) rfl dX11_all_47 ?_
      refine lv_iload_n hx hb dX11_all_50 rfl (lv_at hl 2 rfl) ?_
      obtain ⟨g_5, hf⟩ := gd_e hf
      refine va_iald (f := nv_3.2.1 5) hx hb hK hP 9 0 rfl rfl g_5 dX11_all_51 ?_
      exact J52 x nv_3 (nv_3.2.1 5 (ix v1)) _ _ _ hP hD hS (lv_sub hl [] rfl) hf
    · replace hf := bc_t hf c_4
      refine lv_iload_n hx hb dX11_all_39 rfl (lv_at hl 0 rfl) ?_
      refine lv_goto (tgt := 52) hx hb dX11_all_40 (by decide) ?_
      exact J52 x nv_3 r_2 _ _ _ hP hD hS (lv_sub hl [] rfl) hf
  unfold f_X11_all at hf
  show WG l G ct sk sv p e (RM 11 304 0 0) s m args below meth c A (Eq2 (some (.int r)) (lfX ct g x' ++ (lfN ct (fun j => g (10 + j)) nv' ++ (lfH ct (hsA g 0) g h0 ++ (lfK ct g))))) s.heap [] (F0 m 0 ls [])
  refine lv_iload_n hx hb dX11_all_0 rfl (lv_at hl 1 rfl) ?_
  refine lv_iconst (v := (-1)) hx hb dX11_all_1 (by decide) ?_
  refine lv_icmp_eq (tgt := 18) hx hb dX11_all_2 (by decide) (fun c_6 => ?_) (fun c_6 => ?_)
  · replace hf := bc_t hf c_6
    exact J18 x nv v1 _ _ _ hP hD hS hl hf
  · replace hf := bc_f hf c_6
    refine lv_aload_n hx hb dX11_all_5 rfl (lv_at hl 0 rfl) ?_
    refine lv_iload_n hx hb dX11_all_6 rfl (lv_at hl 1 rfl) ?_
    obtain ⟨r_7, hc7, hf⟩ := bd_e hf
    refine call_V (As := [.int v1]) (rest := []) hx hb hml hown hts hK hP hD hS hA hZ lkX11_125 (Ctr.up (W := (lfX ct g x ++ (lfN ct (fun j => g (10 + j)) nv ++ (lfH ct (hsA g 0) g h0 ++ (lfK ct g))))) (W' := (lfX ct g x ++ (lfN ct (fun j => g (10 + j)) nv ++ (lfH ct (hsA g 0) g h0 ++ (lfK ct g))))) (c_X11_isLetter l G ct sk sv g n x h0 v1 hc7) [0, 1, 2, 11, 12, 13, 14, 15, 16, 17, 18] [3, 4, 5, 6, 7, 8, 9, 10, 19, 20, 21, 22, 23, 24, 25] [15, 16, 17, 0, 1, 2, 3, 4, 5, 6, 7, 18, 19, 20, 21, 22, 23, 24, 25, 8, 9, 10, 11, 12, 13, 14] rfl rfl rfl rfl (by decide) rfl rfl) 0 rfl rfl ⟨Nat.le_of_ble_eq_true rfl, Nat.le_of_ble_eq_true rfl⟩ rfl hl.1 rfl (Nat.le_of_ble_eq_true rfl) dX11_all_7 ⟨Nat.le_of_ble_eq_true rfl, Nat.le_of_ble_eq_true rfl⟩ (fun r9 w9 H locs hB hP hD hS => ?_)
    obtain ⟨rfl, rfl⟩ := hB
    refine WG_eq (g2 := F0 m 10 ls [.int r_7]) rfl ?_
    refine lv_if_ne (tgt := 18) hx hb dX11_all_10 (by decide) (fun c_8 => ?_) (fun c_8 => ?_)
    · replace hf := bc_f hf c_8
      exact J18 x nv v1 _ _ _ hP hD hS hl hf
    · replace hf := bc_t hf c_8
      refine lv_aload_n hx hb dX11_all_13 rfl (lv_at hl 0 rfl) ?_
      obtain ⟨r_9, x_10, hc10, hf⟩ := bd2_e hf
      refine call_V (As := []) (rest := []) hx hb hml hown hts hK hP hD hS hA hZ lkX11_189 (Ctr.up (W := (lfX ct g x ++ (lfN ct (fun j => g (10 + j)) nv ++ (lfH ct (hsA g 0) g h0 ++ (lfK ct g))))) (W' := (lfX ct g x_10 ++ (lfN ct (fun j => g (10 + j)) nv ++ (lfH ct (hsA g 0) g h0 ++ (lfK ct g))))) (c_X11_refuseOtherBad l G ct sk sv g n x hc10) [0, 1, 2] [3, 4, 5, 6, 7, 8, 9, 10, 11, 12, 13, 14, 15, 16, 17, 18, 19, 20, 21, 22, 23, 24, 25] [23, 24, 25, 0, 1, 2, 3, 4, 5, 6, 7, 8, 9, 10, 11, 12, 13, 14, 15, 16, 17, 18, 19, 20, 21, 22] rfl rfl rfl rfl (by decide) rfl rfl) 0 rfl rfl ⟨Nat.le_of_ble_eq_true rfl, Nat.le_of_ble_eq_true rfl⟩ rfl hl.1 rfl (Nat.le_of_ble_eq_true rfl) dX11_all_14 ⟨Nat.le_of_ble_eq_true rfl, Nat.le_of_ble_eq_true rfl⟩ (fun r9 w9 H locs hB hP hD hS => ?_)
      obtain ⟨rfl, rfl⟩ := hB
      refine WG_eq (g2 := F0 m 17 ls [.int r_9]) rfl ?_
      obtain ⟨e1, e2, e3⟩ := inj3 (Option.some.inj hf)
      exact end_i (w' := (lfX ct g x_10 ++ (lfN ct (fun j => g (10 + j)) nv ++ (lfH ct (hsA g 0) g h0 ++ (lfK ct g))))) hx hb hr hlocks hK hP hD hS dX11_all_17  ⟨by rw [← e1], by rw [← e2, ← e3]⟩
noncomputable def f_X11_clear (n : Nat) (x : MV) (rv : MV) : Option (Int32 × MV) :=
  bl (rv.1 0) fun v1_1 =>
  bl (setS rv 0 0) fun rv_2 =>
  some (v1_1, rv_2)
set_option maxHeartbeats 4000000 in
set_option maxRecDepth 100000 in
theorem c_X11_clear (l : Launch) (G : va_G) (ct : Nat → ClassId) (sk sv : Nat → Nat) (g : Nat → Nat) (n : Nat) (x : MV) (rv : MV) {r : Int32} {rv' : MV} (hf : f_X11_clear n x rv = some (r, rv')) : Ctr (l, G, ct, sk, sv) mX11_clear 0 0 [.ref (g 7)] (lfX ct g x ++ (lfR ct (fun j => g (18 + j)) rv)) (lfX ct g x ++ (lfR ct (fun j => g (18 + j)) rv')) (some (.int r)) := by
  refine ctr_intro (by decide) (Nat.le_of_ble_eq_true rfl) ?_
  intro p e s m args below meth c A C hP hD hS hA ls hl
  obtain ⟨hx, hb, hml, hown, hts, hr, hlocks, hK, hnm, hZ⟩ := C
  have hb : c.code = cX11_clear := hb
  have hml : c.maxLocals = 2 := hml
  have hown : s.vm.findClass "SignedOutside" = some m.cls := hown
  have hr : meth.sig.returnType = some .int := hr
  have hP : va_P G classes (lfX ct g x ++ (lfR ct (fun j => g (18 + j)) rv)) s.heap := hP
  have hD : va_D A (lfX ct g x ++ (lfR ct (fun j => g (18 + j)) rv)) := hD
  have hK : va_K G classes (TYS ct) s := hK
  have hl : lv_has ls 2 [(0, .ref (g 7))] := hl
  unfold f_X11_clear at hf
  show WG l G ct sk sv p e (RM 0 0 0 0) s m args below meth c A (Eq2 (some (.int r)) (lfX ct g x ++ (lfR ct (fun j => g (18 + j)) rv'))) s.heap [] (F0 m 0 ls [])
  refine lv_aload_n hx hb dX11_clear_0 rfl (lv_at hl 0 rfl) ?_
  refine va_get (D := G) (C := RX11) (T := TX11) (N := 11) (v := .ref (g 18)) hx hb hts iu_X11 hown hK hP 0 rfl rfl 5 (by decide) (hts _ kw267) (fun _ h9 => h9) rfl dX11_clear_1 ?_
  refine va_get (D := G) (C := RX6) (T := TX6) (N := 6) (v := .int (rv.1 0)) hx hb hts iu_X6 hown hK hP 3 rfl rfl 1 (by decide) (hts _ kw242) (fun _ h9 => h9) rfl dX11_clear_4 ?_
  refine lv_topi (fun v1_1 ev1_1 => ?_)
  replace hf := bl_i hf ev1_1
  refine lv_istore_n (lv' := [(1, .int v1_1), (0, .ref (g 7))]) hx hb dX11_clear_7 rfl hl (by decide) rfl (fun ls hl => ?_)
  refine lv_aload_n hx hb dX11_clear_8 rfl (lv_at hl 1 rfl) ?_
  refine va_get (D := G) (C := RX11) (T := TX11) (N := 11) (v := .ref (g 18)) hx hb hts iu_X11 hown hK hP 0 rfl rfl 5 (by decide) (hts _ kw267) (fun _ h9 => h9) rfl dX11_clear_9 ?_
  refine lv_iconst (v := 0) hx hb dX11_clear_12 (by decide) ?_
  obtain ⟨rv_2, erv_2, hf⟩ := bl_e hf
  refine va_put (D := G) (C := RX6) (T := TX6) (N := 6) (ty := .int) hx hb hts iu_X6 tyX6 tyX6_ok nmX6 hown hK hP hD hS 3 rfl rfl 1 (by decide) (hts _ kw242) (fun _ h9 => h9) rfl (by decide +kernel) rfl rfl (Nat.le_of_ble_eq_true rfl) dX11_clear_13 (fun H locs hP hD hS => ?_)
  have hP : va_P G classes (lfX ct g x ++ (lfR ct (fun j => g (18 + j)) rv_2)) H := by rw [← erv_2]; exact hP
  have hD : va_D A (lfX ct g x ++ (lfR ct (fun j => g (18 + j)) rv_2)) := by rw [← erv_2]; exact hD
  refine lv_iload_n hx hb dX11_clear_16 rfl (lv_at hl 0 rfl) ?_
  obtain ⟨e1, e2⟩ := inj2 (Option.some.inj hf)
  exact end_i (w' := (lfX ct g x ++ (lfR ct (fun j => g (18 + j)) rv_2))) hx hb hr hlocks hK hP hD hS dX11_clear_17  ⟨by rw [← e1], by rw [← e2]⟩
noncomputable def f_X11_commonDivisor_b9 (n : Nat) (v8 : Int32) (v6 : Int64) (v4 : Int64) : Option ((Int32 × Int64 × Int64) ⊕ (Int64)) :=
  bc (100 ≤ v8) (some (.inr v4))
  (bc ((lg_cmp v6 0) = 0) (some (.inr v4))
  (gd (¬ v6 = 0) <|
  bl (v4 - v4 / v6 * v6) fun v9_4 =>
  bl (v8 + 1) fun v8_5 =>
  some (.inl (v8_5, v9_4, v6))))
noncomputable def f_X11_commonDivisor_l9 (fu : Nat) (n : Nat) (v8 : Int32) (v6 : Int64) (v4 : Int64) : Option (Int64) :=
  lp (fun q => f_X11_commonDivisor_b9 n q.1 q.2.1 q.2.2) fu (v8, v6, v4)
noncomputable def f_X11_commonDivisor_j44 (n : Nat) (v4 : Int64) : Option (Int64) :=
  some v4
noncomputable def f_X11_commonDivisor (n : Nat) (v0 : Int64) (v2 : Int64) : Option (Int64) :=
  bd (f_X11_commonDivisor_l9 n n 0 v2 v0) fun v4_6 =>
  f_X11_commonDivisor_j44 n v4_6
set_option maxHeartbeats 4000000 in
set_option maxRecDepth 100000 in
theorem c_X11_commonDivisor (l : Launch) (G : va_G) (ct : Nat → ClassId) (sk sv : Nat → Nat)  (n : Nat) (v0 : Int64) (v2 : Int64) {r : Int64} (hf : f_X11_commonDivisor n v0 v2 = some r) : Ctr (l, G, ct, sk, sv) mX11_commonDivisor 0 0 [.long v0, .long v2] ([] : va_W) ([] : va_W) (some (.long r)) := by
  refine ctr_intro (by decide) (Nat.le_of_ble_eq_true rfl) ?_
  intro p e s m args below meth c A C hP hD hS hA ls hl
  obtain ⟨hx, hb, hml, hown, hts, hr, hlocks, hK, hnm, hZ⟩ := C
  have hb : c.code = cX11_commonDivisor := hb
  have hml : c.maxLocals = 11 := hml
  have hown : s.vm.findClass "SignedOutside" = some m.cls := hown
  have hr : meth.sig.returnType = some .long := hr
  have hP : va_P G classes ([] : va_W) s.heap := hP
  have hD : va_D A ([] : va_W) := hD
  have hK : va_K G classes (TYS ct) s := hK
  have hl : lv_has ls 11 [(0, .long v0), (2, .long v2)] := hl
  have L9 : ∀ (fu : Nat) (v8 : Int32) (v6 : Int64) (v4 : Int64) (ex : Int64) (H : Heap) (locs : List Loc) (ls : Array Slot), va_P G classes ([] : va_W) H → va_D A ([] : va_W) → va_S A s.heap H locs → lv_has ls 11 [(8, .int v8), (6, .long v6), (4, .long v4)] → f_X11_commonDivisor_l9 fu n v8 v6 v4 = some ex → (∀ (x : Int64), ex = x → ∀ (H : Heap) (locs : List Loc) (ls : Array Slot), va_P G classes ([] : va_W) H → va_D A ([] : va_W) → va_S A s.heap H locs → lv_has ls 11 [(4, .long x)] → WG l G ct sk sv p e (RM 0 0 0 0) s m args below meth c A (Eq2 (some (.long r)) ([] : va_W)) H locs (F0 m 44 ls [])) → WG l G ct sk sv p e (RM 0 0 0 0) s m args below meth c A (Eq2 (some (.long r)) ([] : va_W)) H locs (F0 m 9 ls []) := by
    intro fu
    induction fu with
    | zero =>
      intro v8 v6 v4 ex H locs ls hP hD hS hl hf
      exact absurd hf (by unfold f_X11_commonDivisor_l9 lp; exact fun h => by cases h)
    | succ fu ih =>
      intro v8 v6 v4 ex H locs ls hP hD hS hl hf hE
      unfold f_X11_commonDivisor_l9 at hf
      obtain ⟨q, hf, hor⟩ := lp_e hf
      replace hf : f_X11_commonDivisor_b9 n v8 v6 v4 = some q := hf
      unfold f_X11_commonDivisor_b9 at hf
      refine lv_iload hx hb dX11_commonDivisor_9 (lv_at hl 0 rfl) ?_
      refine lv_bipush (v := 100) hx hb dX11_commonDivisor_11 (by decide) ?_
      refine lv_icmp_ge (tgt := 44) hx hb dX11_commonDivisor_13 (by decide) (fun c_1 => ?_) (fun c_1 => ?_)
      · replace hf := bc_t hf c_1
        exact hE v4 (lp_inr hor hf).symm _ _ _ hP hD hS (lv_sub hl [2] rfl)
      · replace hf := bc_f hf c_1
        refine lv_lload hx hb dX11_commonDivisor_16 (lv_at hl 1 rfl) ?_
        refine lv_lconst (v := 0) hx hb dX11_commonDivisor_18 (by decide) ?_
        refine W.lcmp hx hb dX11_commonDivisor_19 ?_
        refine lv_if_eq (tgt := 44) hx hb dX11_commonDivisor_20 (by decide) (fun c_2 => ?_) (fun c_2 => ?_)
        · replace hf := bc_t hf c_2
          exact hE v4 (lp_inr hor hf).symm _ _ _ hP hD hS (lv_sub hl [2] rfl)
        · replace hf := bc_f hf c_2
          refine lv_lload hx hb dX11_commonDivisor_23 (lv_at hl 2 rfl) ?_
          refine lv_lload hx hb dX11_commonDivisor_25 (lv_at hl 1 rfl) ?_
          obtain ⟨g_3, hf⟩ := gd_e hf
          refine lv_lrem hx hb dX11_commonDivisor_27 g_3 ?_
          refine lv_topl (fun v9_4 ev9_4 => ?_)
          replace hf := bl_i hf ev9_4
          refine lv_lstore (lv' := [(9, .long v9_4), (8, .int v8), (6, .long v6), (4, .long v4)]) hx hb dX11_commonDivisor_28 hl (by decide) rfl (fun ls hl => ?_)
          refine lv_lload hx hb dX11_commonDivisor_30 (lv_at hl 2 rfl) ?_
          refine lv_lstore (lv' := [(4, .long v6), (9, .long v9_4), (8, .int v8), (6, .long v6)]) hx hb dX11_commonDivisor_32 hl (by decide) rfl (fun ls hl => ?_)
          refine lv_lload hx hb dX11_commonDivisor_34 (lv_at hl 1 rfl) ?_
          refine lv_lstore (lv' := [(6, .long v9_4), (4, .long v6), (9, .long v9_4), (8, .int v8)]) hx hb dX11_commonDivisor_36 hl (by decide) rfl (fun ls hl => ?_)
          obtain ⟨v8_5, ev8_5, hf⟩ := bl_e hf
          refine lv_iinc (v := v8_5) (lv' := [(8, .int v8_5), (6, .long v9_4), (4, .long v6), (9, .long v9_4)]) hx hb dX11_commonDivisor_38 hl (k := 3) rfl ev8_5 (by decide) rfl (fun ls hl => ?_)
          refine lv_goto (tgt := 9) hx hb dX11_commonDivisor_41 (by decide) ?_
          exact ih v8_5 v9_4 v6 ex _ _ _ hP hD hS (lv_sub hl [0, 1, 2] rfl) (lp_inl hor hf) hE
  have J44 : ∀ (v4 : Int64) (H : Heap) (locs : List Loc) (ls : Array Slot), va_P G classes ([] : va_W) H → va_D A ([] : va_W) → va_S A s.heap H locs → lv_has ls 11 [(4, .long v4)] → f_X11_commonDivisor_j44 n v4 = some r → WG l G ct sk sv p e (RM 0 0 0 0) s m args below meth c A (Eq2 (some (.long r)) ([] : va_W)) H locs (F0 m 44 ls []) := by
    intro v4 H locs ls hP hD hS hl hf
    unfold f_X11_commonDivisor_j44 at hf
    refine lv_lload hx hb dX11_commonDivisor_44 (lv_at hl 0 rfl) ?_
    have e1 := Option.some.inj hf
    exact end_l (w' := ([] : va_W)) hx hb hr hlocks hK hP hD hS dX11_commonDivisor_46  ⟨by rw [← e1], rfl⟩
  unfold f_X11_commonDivisor at hf
  show WG l G ct sk sv p e (RM 0 0 0 0) s m args below meth c A (Eq2 (some (.long r)) ([] : va_W)) s.heap [] (F0 m 0 ls [])
  refine lv_lload_n hx hb dX11_commonDivisor_0 rfl (lv_at hl 0 rfl) ?_
  refine lv_lstore (lv' := [(4, .long v0), (0, .long v0), (2, .long v2)]) hx hb dX11_commonDivisor_1 hl (by decide) rfl (fun ls hl => ?_)
  refine lv_lload_n hx hb dX11_commonDivisor_3 rfl (lv_at hl 2 rfl) ?_
  refine lv_lstore (lv' := [(6, .long v2), (4, .long v0), (0, .long v0), (2, .long v2)]) hx hb dX11_commonDivisor_4 hl (by decide) rfl (fun ls hl => ?_)
  refine lv_iconst (v := 0) hx hb dX11_commonDivisor_6 (by decide) ?_
  refine lv_istore (lv' := [(8, .int 0), (6, .long v2), (4, .long v0), (0, .long v0), (2, .long v2)]) hx hb dX11_commonDivisor_7 hl (by decide) rfl (fun ls hl => ?_)
  obtain ⟨v4_6, hx_7, hf⟩ := bd_e hf
  refine L9 n 0 v2 v0 v4_6 _ _ _ hP hD hS (lv_sub hl [0, 1, 2] rfl) hx_7 ?_
  intro x9 e9 H locs ls hP hD hS hl
  subst e9
  have hP : va_P G classes ([] : va_W) H := hP
  have hD : va_D A ([] : va_W) := hD
  have hl : lv_has ls 11 [(4, .long v4_6)] := hl
  exact J44 v4_6 _ _ _ hP hD hS hl hf
noncomputable def f_X11_howMany (n : Nat) (x : MV) (rv : MV) (h0 : MV) (nt0 : MV) (cv0 : MV) (ps0 : MV) (v1 : Int32) : Option (Int32) :=
  bc (v1 = 0) (some (h0.1 0)) <|
  bc (v1 = 1) (some (h0.1 1)) <|
  bc (v1 = 2) (some (h0.1 2)) <|
  bc (v1 = 3) (bd (f_X1_howManyLie n h0) fun r_5 =>
  some r_5) <|
  bc (v1 = 4) (some (cv0.1 0)) <|
  bc (v1 = 5) (some (nt0.1 0)) <|
  bc (v1 = 6) (some (ps0.1 1)) <|
  some (rv.1 0)
set_option maxHeartbeats 4000000 in
set_option maxRecDepth 100000 in
theorem c_X11_howMany (l : Launch) (G : va_G) (ct : Nat → ClassId) (sk sv : Nat → Nat) (g : Nat → Nat) (n : Nat) (x : MV) (rv : MV) (h0 : MV) (nt0 : MV) (cv0 : MV) (ps0 : MV) (v1 : Int32) {r : Int32} (hf : f_X11_howMany n x rv h0 nt0 cv0 ps0 v1 = some r) : Ctr (l, G, ct, sk, sv) mX11_howMany 2 43 [.ref (g 7), .int v1] (lfX ct g x ++ (lfR ct (fun j => g (18 + j)) rv ++ (lfH ct (hsA g 0) g h0 ++ (lfS ct (fun j => (hsA g 0) (12 + j)) nt0 ++ (lfS ct (fun j => (hsA g 0) (8 + j)) cv0 ++ (lfP ct (fun j => (hsA g 0) (16 + j)) ps0)))))) (lfX ct g x ++ (lfR ct (fun j => g (18 + j)) rv ++ (lfH ct (hsA g 0) g h0 ++ (lfS ct (fun j => (hsA g 0) (12 + j)) nt0 ++ (lfS ct (fun j => (hsA g 0) (8 + j)) cv0 ++ (lfP ct (fun j => (hsA g 0) (16 + j)) ps0)))))) (some (.int r)) := by
  refine ctr_intro (by decide) (Nat.le_of_ble_eq_true rfl) ?_
  intro p e s m args below meth c A C hP hD hS hA ls hl
  obtain ⟨hx, hb, hml, hown, hts, hr, hlocks, hK, hnm, hZ⟩ := C
  have hb : c.code = cX11_howMany := hb
  have hml : c.maxLocals = 2 := hml
  have hown : s.vm.findClass "SignedOutside" = some m.cls := hown
  have hr : meth.sig.returnType = some .int := hr
  have hP : va_P G classes (lfX ct g x ++ (lfR ct (fun j => g (18 + j)) rv ++ (lfH ct (hsA g 0) g h0 ++ (lfS ct (fun j => (hsA g 0) (12 + j)) nt0 ++ (lfS ct (fun j => (hsA g 0) (8 + j)) cv0 ++ (lfP ct (fun j => (hsA g 0) (16 + j)) ps0)))))) s.heap := hP
  have hD : va_D A (lfX ct g x ++ (lfR ct (fun j => g (18 + j)) rv ++ (lfH ct (hsA g 0) g h0 ++ (lfS ct (fun j => (hsA g 0) (12 + j)) nt0 ++ (lfS ct (fun j => (hsA g 0) (8 + j)) cv0 ++ (lfP ct (fun j => (hsA g 0) (16 + j)) ps0)))))) := hD
  have hK : va_K G classes (TYS ct) s := hK
  have hl : lv_has ls 2 [(0, .ref (g 7)), (1, .int v1)] := hl
  unfold f_X11_howMany at hf
  show WG l G ct sk sv p e (RM 2 43 0 0) s m args below meth c A (Eq2 (some (.int r)) (lfX ct g x ++ (lfR ct (fun j => g (18 + j)) rv ++ (lfH ct (hsA g 0) g h0 ++ (lfS ct (fun j => (hsA g 0) (12 + j)) nt0 ++ (lfS ct (fun j => (hsA g 0) (8 + j)) cv0 ++ (lfP ct (fun j => (hsA g 0) (16 + j)) ps0))))))) s.heap [] (F0 m 0 ls [])
  refine lv_iload_n hx hb dX11_howMany_0 rfl (lv_at hl 1 rfl) ?_
  rcases Classical.em (v1 = 0) with c_1 | c_1
  · replace hf := bc_t hf c_1
    refine lv_tableIn (tgt := 44) hx hb dX11_howMany_1 (by rw [c_1]; decide) (by rw [c_1]; decide) (by rw [c_1]; rfl) (by decide) ?_
    refine lv_aload_n hx hb dX11_howMany_44 rfl (lv_at hl 0 rfl) ?_
    refine va_get (D := G) (C := RX11) (T := TX11) (N := 11) (v := .ref ((hsA g 0) 0)) hx hb hts iu_X11 hown hK hP 0 rfl rfl 0 (by decide) (hts _ kw262) (fun _ h9 => h9) rfl dX11_howMany_45 ?_
    refine va_get (D := G) (C := RX1) (T := TX1) (N := 16) (v := .int (h0.1 0)) hx hb hts iu_X1 hown hK hP 5 rfl rfl 1 (by decide) (hts _ kw124) (fun _ h9 => h9) rfl dX11_howMany_48 ?_
    have e1 := Option.some.inj hf
    exact end_i (w' := (lfX ct g x ++ (lfR ct (fun j => g (18 + j)) rv ++ (lfH ct (hsA g 0) g h0 ++ (lfS ct (fun j => (hsA g 0) (12 + j)) nt0 ++ (lfS ct (fun j => (hsA g 0) (8 + j)) cv0 ++ (lfP ct (fun j => (hsA g 0) (16 + j)) ps0))))))) hx hb hr hlocks hK hP hD hS dX11_howMany_51  ⟨by rw [← e1], rfl⟩
  replace hf := bc_f hf c_1
  rcases Classical.em (v1 = 1) with c_2 | c_2
  · replace hf := bc_t hf c_2
    refine lv_tableIn (tgt := 52) hx hb dX11_howMany_1 (by rw [c_2]; decide) (by rw [c_2]; decide) (by rw [c_2]; rfl) (by decide) ?_
    refine lv_aload_n hx hb dX11_howMany_52 rfl (lv_at hl 0 rfl) ?_
    refine va_get (D := G) (C := RX11) (T := TX11) (N := 11) (v := .ref ((hsA g 0) 0)) hx hb hts iu_X11 hown hK hP 0 rfl rfl 0 (by decide) (hts _ kw262) (fun _ h9 => h9) rfl dX11_howMany_53 ?_
    refine va_get (D := G) (C := RX1) (T := TX1) (N := 16) (v := .int (h0.1 1)) hx hb hts iu_X1 hown hK hP 5 rfl rfl 5 (by decide) (hts _ kw137) (fun _ h9 => h9) rfl dX11_howMany_56 ?_
    have e1 := Option.some.inj hf
    exact end_i (w' := (lfX ct g x ++ (lfR ct (fun j => g (18 + j)) rv ++ (lfH ct (hsA g 0) g h0 ++ (lfS ct (fun j => (hsA g 0) (12 + j)) nt0 ++ (lfS ct (fun j => (hsA g 0) (8 + j)) cv0 ++ (lfP ct (fun j => (hsA g 0) (16 + j)) ps0))))))) hx hb hr hlocks hK hP hD hS dX11_howMany_59  ⟨by rw [← e1], rfl⟩
  replace hf := bc_f hf c_2
  rcases Classical.em (v1 = 2) with c_3 | c_3
  · replace hf := bc_t hf c_3
    refine lv_tableIn (tgt := 60) hx hb dX11_howMany_1 (by rw [c_3]; decide) (by rw [c_3]; decide) (by rw [c_3]; rfl) (by decide) ?_
    refine lv_aload_n hx hb dX11_howMany_60 rfl (lv_at hl 0 rfl) ?_
    refine va_get (D := G) (C := RX11) (T := TX11) (N := 11) (v := .ref ((hsA g 0) 0)) hx hb hts iu_X11 hown hK hP 0 rfl rfl 0 (by decide) (hts _ kw262) (fun _ h9 => h9) rfl dX11_howMany_61 ?_
    refine va_get (D := G) (C := RX1) (T := TX1) (N := 16) (v := .int (h0.1 2)) hx hb hts iu_X1 hown hK hP 5 rfl rfl 10 (by decide) (hts _ kw150) (fun _ h9 => h9) rfl dX11_howMany_64 ?_
    have e1 := Option.some.inj hf
    exact end_i (w' := (lfX ct g x ++ (lfR ct (fun j => g (18 + j)) rv ++ (lfH ct (hsA g 0) g h0 ++ (lfS ct (fun j => (hsA g 0) (12 + j)) nt0 ++ (lfS ct (fun j => (hsA g 0) (8 + j)) cv0 ++ (lfP ct (fun j => (hsA g 0) (16 + j)) ps0))))))) hx hb hr hlocks hK hP hD hS dX11_howMany_67  ⟨by rw [← e1], rfl⟩
  replace hf := bc_f hf c_3
  rcases Classical.em (v1 = 3) with c_4 | c_4
  · replace hf := bc_t hf c_4
    refine lv_tableIn (tgt := 68) hx hb dX11_howMany_1 (by rw [c_4]; decide) (by rw [c_4]; decide) (by rw [c_4]; rfl) (by decide) ?_
    refine lv_aload_n hx hb dX11_howMany_68 rfl (lv_at hl 0 rfl) ?_
    refine va_get (D := G) (C := RX11) (T := TX11) (N := 11) (v := .ref ((hsA g 0) 0)) hx hb hts iu_X11 hown hK hP 0 rfl rfl 0 (by decide) (hts _ kw262) (fun _ h9 => h9) rfl dX11_howMany_69 ?_
    obtain ⟨r_5, hc5, hf⟩ := bd_e hf
    refine call_V (As := []) (rest := []) hx hb hml hown hts hK hP hD hS hA hZ lkX11_335 (Ctr.up (W := (lfX ct g x ++ (lfR ct (fun j => g (18 + j)) rv ++ (lfH ct (hsA g 0) g h0 ++ (lfS ct (fun j => (hsA g 0) (12 + j)) nt0 ++ (lfS ct (fun j => (hsA g 0) (8 + j)) cv0 ++ (lfP ct (fun j => (hsA g 0) (16 + j)) ps0))))))) (W' := (lfX ct g x ++ (lfR ct (fun j => g (18 + j)) rv ++ (lfH ct (hsA g 0) g h0 ++ (lfS ct (fun j => (hsA g 0) (12 + j)) nt0 ++ (lfS ct (fun j => (hsA g 0) (8 + j)) cv0 ++ (lfP ct (fun j => (hsA g 0) (16 + j)) ps0))))))) (c_X1_howManyLie l G ct sk sv (hsA g 0) g n h0 hc5) [5, 6, 7, 8, 9, 10, 11, 12] [0, 1, 2, 3, 4, 13, 14, 15, 16, 17, 18, 19, 20, 21, 22] [0, 1, 2, 3, 4, 15, 16, 17, 18, 19, 20, 21, 22, 5, 6, 7, 8, 9, 10, 11, 12, 13, 14] rfl rfl rfl rfl (by decide) rfl rfl) 5 rfl rfl ⟨Nat.le_of_ble_eq_true rfl, Nat.le_of_ble_eq_true rfl⟩ rfl hl.1 rfl (Nat.le_of_ble_eq_true rfl) dX11_howMany_72 ⟨Nat.le_of_ble_eq_true rfl, Nat.le_of_ble_eq_true rfl⟩ (fun r9 w9 H locs hB hP hD hS => ?_)
    obtain ⟨rfl, rfl⟩ := hB
    refine WG_eq (g2 := F0 m 75 ls [.int r_5]) rfl ?_
    have e1 := Option.some.inj hf
    exact end_i (w' := (lfX ct g x ++ (lfR ct (fun j => g (18 + j)) rv ++ (lfH ct (hsA g 0) g h0 ++ (lfS ct (fun j => (hsA g 0) (12 + j)) nt0 ++ (lfS ct (fun j => (hsA g 0) (8 + j)) cv0 ++ (lfP ct (fun j => (hsA g 0) (16 + j)) ps0))))))) hx hb hr hlocks hK hP hD hS dX11_howMany_75  ⟨by rw [← e1], rfl⟩
  replace hf := bc_f hf c_4
  rcases Classical.em (v1 = 4) with c_6 | c_6
  · replace hf := bc_t hf c_6
    refine lv_tableIn (tgt := 76) hx hb dX11_howMany_1 (by rw [c_6]; decide) (by rw [c_6]; decide) (by rw [c_6]; rfl) (by decide) ?_
    refine lv_aload_n hx hb dX11_howMany_76 rfl (lv_at hl 0 rfl) ?_
    refine va_get (D := G) (C := RX11) (T := TX11) (N := 11) (v := .ref ((hsA g 0) 0)) hx hb hts iu_X11 hown hK hP 0 rfl rfl 0 (by decide) (hts _ kw262) (fun _ h9 => h9) rfl dX11_howMany_77 ?_
    refine va_get (D := G) (C := RX1) (T := TX1) (N := 16) (v := .ref ((hsA g 0) 8)) hx hb hts iu_X1 hown hK hP 5 rfl rfl 13 (by decide) (hts _ kw158) (fun _ h9 => h9) rfl dX11_howMany_80 ?_
    refine va_get (D := G) (C := RX8) (T := TX8) (N := 4) (v := .int (cv0.1 0)) hx hb hts iu_X8 hown hK hP 17 rfl rfl 0 (by decide) (hts _ kw87) (fun _ h9 => h9) rfl dX11_howMany_83 ?_
    have e1 := Option.some.inj hf
    exact end_i (w' := (lfX ct g x ++ (lfR ct (fun j => g (18 + j)) rv ++ (lfH ct (hsA g 0) g h0 ++ (lfS ct (fun j => (hsA g 0) (12 + j)) nt0 ++ (lfS ct (fun j => (hsA g 0) (8 + j)) cv0 ++ (lfP ct (fun j => (hsA g 0) (16 + j)) ps0))))))) hx hb hr hlocks hK hP hD hS dX11_howMany_86  ⟨by rw [← e1], rfl⟩
  replace hf := bc_f hf c_6
  rcases Classical.em (v1 = 5) with c_7 | c_7
  · replace hf := bc_t hf c_7
    refine lv_tableIn (tgt := 87) hx hb dX11_howMany_1 (by rw [c_7]; decide) (by rw [c_7]; decide) (by rw [c_7]; rfl) (by decide) ?_
    refine lv_aload_n hx hb dX11_howMany_87 rfl (lv_at hl 0 rfl) ?_
    refine va_get (D := G) (C := RX11) (T := TX11) (N := 11) (v := .ref ((hsA g 0) 0)) hx hb hts iu_X11 hown hK hP 0 rfl rfl 0 (by decide) (hts _ kw262) (fun _ h9 => h9) rfl dX11_howMany_88 ?_
    refine va_get (D := G) (C := RX1) (T := TX1) (N := 16) (v := .ref ((hsA g 0) 12)) hx hb hts iu_X1 hown hK hP 5 rfl rfl 14 (by decide) (hts _ kw160) (fun _ h9 => h9) rfl dX11_howMany_91 ?_
    refine va_get (D := G) (C := RX8) (T := TX8) (N := 4) (v := .int (nt0.1 0)) hx hb hts iu_X8 hown hK hP 13 rfl rfl 0 (by decide) (hts _ kw87) (fun _ h9 => h9) rfl dX11_howMany_94 ?_
    have e1 := Option.some.inj hf
    exact end_i (w' := (lfX ct g x ++ (lfR ct (fun j => g (18 + j)) rv ++ (lfH ct (hsA g 0) g h0 ++ (lfS ct (fun j => (hsA g 0) (12 + j)) nt0 ++ (lfS ct (fun j => (hsA g 0) (8 + j)) cv0 ++ (lfP ct (fun j => (hsA g 0) (16 + j)) ps0))))))) hx hb hr hlocks hK hP hD hS dX11_howMany_97  ⟨by rw [← e1], rfl⟩
  replace hf := bc_f hf c_7
  rcases Classical.em (v1 = 6) with c_8 | c_8
  · replace hf := bc_t hf c_8
    refine lv_tableIn (tgt := 98) hx hb dX11_howMany_1 (by rw [c_8]; decide) (by rw [c_8]; decide) (by rw [c_8]; rfl) (by decide) ?_
    refine lv_aload_n hx hb dX11_howMany_98 rfl (lv_at hl 0 rfl) ?_
    refine va_get (D := G) (C := RX11) (T := TX11) (N := 11) (v := .ref ((hsA g 0) 0)) hx hb hts iu_X11 hown hK hP 0 rfl rfl 0 (by decide) (hts _ kw262) (fun _ h9 => h9) rfl dX11_howMany_99 ?_
    refine va_get (D := G) (C := RX1) (T := TX1) (N := 16) (v := .ref ((hsA g 0) 16)) hx hb hts iu_X1 hown hK hP 5 rfl rfl 15 (by decide) (hts _ kw162) (fun _ h9 => h9) rfl dX11_howMany_102 ?_
    refine va_get (D := G) (C := RX4) (T := TX4) (N := 3) (v := .int (ps0.1 1)) hx hb hts iu_X4 hown hK hP 21 rfl rfl 2 (by decide) (hts _ kw113) (fun _ h9 => h9) rfl dX11_howMany_105 ?_
    have e1 := Option.some.inj hf
    exact end_i (w' := (lfX ct g x ++ (lfR ct (fun j => g (18 + j)) rv ++ (lfH ct (hsA g 0) g h0 ++ (lfS ct (fun j => (hsA g 0) (12 + j)) nt0 ++ (lfS ct (fun j => (hsA g 0) (8 + j)) cv0 ++ (lfP ct (fun j => (hsA g 0) (16 + j)) ps0))))))) hx hb hr hlocks hK hP hD hS dX11_howMany_108  ⟨by rw [← e1], rfl⟩
  replace hf := bc_f hf c_8
  have tc_1 := lv_neT (a := 0) c_1 (by decide)
  have tc_2 := lv_neT (a := 1) c_2 (by decide)
  have tc_3 := lv_neT (a := 2) c_3 (by decide)
  have tc_4 := lv_neT (a := 3) c_4 (by decide)
  have tc_6 := lv_neT (a := 4) c_6 (by decide)
  have tc_7 := lv_neT (a := 5) c_7 (by decide)
  have tc_8 := lv_neT (a := 6) c_8 (by decide)
  refine lv_tableOut (tgt := 109) hx hb dX11_howMany_1 (by omega) (by decide) ?_
  refine lv_aload_n hx hb dX11_howMany_109 rfl (lv_at hl 0 rfl) ?_
  refine va_get (D := G) (C := RX11) (T := TX11) (N := 11) (v := .ref (g 18)) hx hb hts iu_X11 hown hK hP 0 rfl rfl 5 (by decide) (hts _ kw267) (fun _ h9 => h9) rfl dX11_howMany_110 ?_
  refine va_get (D := G) (C := RX6) (T := TX6) (N := 6) (v := .int (rv.1 0)) hx hb hts iu_X6 hown hK hP 3 rfl rfl 1 (by decide) (hts _ kw242) (fun _ h9 => h9) rfl dX11_howMany_113 ?_
  have e1 := Option.some.inj hf
  exact end_i (w' := (lfX ct g x ++ (lfR ct (fun j => g (18 + j)) rv ++ (lfH ct (hsA g 0) g h0 ++ (lfS ct (fun j => (hsA g 0) (12 + j)) nt0 ++ (lfS ct (fun j => (hsA g 0) (8 + j)) cv0 ++ (lfP ct (fun j => (hsA g 0) (16 + j)) ps0))))))) hx hb hr hlocks hK hP hD hS dX11_howMany_116  ⟨by rw [← e1], rfl⟩
noncomputable def f_X11_refuseBad (n : Nat) (x : MV) : Option (Int32 × MV) :=
  bl (setS x 0 ((x.1 0) + 1)) fun x_1 =>
  some ((-2), x_1)
set_option maxHeartbeats 4000000 in
set_option maxRecDepth 100000 in
theorem c_X11_refuseBad (l : Launch) (G : va_G) (ct : Nat → ClassId) (sk sv : Nat → Nat) (g : Nat → Nat) (n : Nat) (x : MV) {r : Int32} {x' : MV} (hf : f_X11_refuseBad n x = some (r, x')) : Ctr (l, G, ct, sk, sv) mX11_refuseBad 0 0 [.ref (g 7)] (lfX ct g x) (lfX ct g x') (some (.int r)) := by
  refine ctr_intro (by decide) (Nat.le_of_ble_eq_true rfl) ?_
  intro p e s m args below meth c A C hP hD hS hA ls hl
  obtain ⟨hx, hb, hml, hown, hts, hr, hlocks, hK, hnm, hZ⟩ := C
  have hb : c.code = cX11_refuseBad := hb
  have hml : c.maxLocals = 1 := hml
  have hown : s.vm.findClass "SignedOutside" = some m.cls := hown
  have hr : meth.sig.returnType = some .int := hr
  have hP : va_P G classes (lfX ct g x) s.heap := hP
  have hD : va_D A (lfX ct g x) := hD
  have hK : va_K G classes (TYS ct) s := hK
  have hl : lv_has ls 1 [(0, .ref (g 7))] := hl
  unfold f_X11_refuseBad at hf
  show WG l G ct sk sv p e (RM 0 0 0 0) s m args below meth c A (Eq2 (some (.int r)) (lfX ct g x')) s.heap [] (F0 m 0 ls [])
  refine lv_aload_n hx hb dX11_refuseBad_0 rfl (lv_at hl 0 rfl) ?_
  refine lv_dup hx hb dX11_refuseBad_1 rfl ?_
  refine va_get (D := G) (C := RX11) (T := TX11) (N := 11) (v := .int (x.1 0)) hx hb hts iu_X11 hown hK hP 0 rfl rfl 8 (by decide) (hts _ kw270) (fun _ h9 => h9) rfl dX11_refuseBad_2 ?_
  refine lv_iconst (v := 1) hx hb dX11_refuseBad_5 (by decide) ?_
  refine lv_iadd hx hb dX11_refuseBad_6 ?_
  obtain ⟨x_1, ex_1, hf⟩ := bl_e hf
  refine va_put (D := G) (C := RX11) (T := TX11) (N := 11) (ty := .int) hx hb hts iu_X11 tyX11 tyX11_ok nmX11 hown hK hP hD hS 0 rfl rfl 8 (by decide) (hts _ kw270) (fun _ h9 => h9) rfl (by decide +kernel) rfl rfl (Nat.le_of_ble_eq_true rfl) dX11_refuseBad_7 (fun H locs hP hD hS => ?_)
  have hP : va_P G classes (lfX ct g x_1) H := by rw [← ex_1]; exact hP
  have hD : va_D A (lfX ct g x_1) := by rw [← ex_1]; exact hD
  refine lv_bipush (v := (-2)) hx hb dX11_refuseBad_10 (by decide) ?_
  obtain ⟨e1, e2⟩ := inj2 (Option.some.inj hf)
  exact end_i (w' := (lfX ct g x_1)) hx hb hr hlocks hK hP hD hS dX11_refuseBad_12  ⟨by rw [← e1], by rw [← e2]⟩
noncomputable def f_X11_count (n : Nat) (x : MV) (rv : MV) (h0 : MV) (nt0 : MV) (cv0 : MV) (ps0 : MV) (v1 : Int32) : Option (Int32 × MV) :=
  bd (f_X11_within n v1 0 7) fun r_1 =>
  bc (r_1 = 0) (bd2 (f_X11_refuseBad n x) fun r_4 x_5 =>
  some (r_4, x_5))
  (bd (f_X11_howMany n x rv h0 nt0 cv0 ps0 v1) fun r_3 =>
  some (r_3, x))
set_option maxHeartbeats 4000000 in
set_option maxRecDepth 100000 in
theorem c_X11_count (l : Launch) (G : va_G) (ct : Nat → ClassId) (sk sv : Nat → Nat) (g : Nat → Nat) (n : Nat) (x : MV) (rv : MV) (h0 : MV) (nt0 : MV) (cv0 : MV) (ps0 : MV) (v1 : Int32) {r : Int32} {x' : MV} (hf : f_X11_count n x rv h0 nt0 cv0 ps0 v1 = some (r, x')) : Ctr (l, G, ct, sk, sv) mX11_count 3 64 [.ref (g 7), .int v1] (lfX ct g x ++ (lfR ct (fun j => g (18 + j)) rv ++ (lfH ct (hsA g 0) g h0 ++ (lfS ct (fun j => (hsA g 0) (12 + j)) nt0 ++ (lfS ct (fun j => (hsA g 0) (8 + j)) cv0 ++ (lfP ct (fun j => (hsA g 0) (16 + j)) ps0)))))) (lfX ct g x' ++ (lfR ct (fun j => g (18 + j)) rv ++ (lfH ct (hsA g 0) g h0 ++ (lfS ct (fun j => (hsA g 0) (12 + j)) nt0 ++ (lfS ct (fun j => (hsA g 0) (8 + j)) cv0 ++ (lfP ct (fun j => (hsA g 0) (16 + j)) ps0)))))) (some (.int r)) := by
  refine ctr_intro (by decide) (Nat.le_of_ble_eq_true rfl) ?_
  intro p e s m args below meth c A C hP hD hS hA ls hl
  obtain ⟨hx, hb, hml, hown, hts, hr, hlocks, hK, hnm, hZ⟩ := C
  have hb : c.code = cX11_count := hb
  have hml : c.maxLocals = 2 := hml
  have hown : s.vm.findClass "SignedOutside" = some m.cls := hown
  have hr : meth.sig.returnType = some .int := hr
  have hP : va_P G classes (lfX ct g x ++ (lfR ct (fun j => g (18 + j)) rv ++ (lfH ct (hsA g 0) g h0 ++ (lfS ct (fun j => (hsA g 0) (12 + j)) nt0 ++ (lfS ct (fun j => (hsA g 0) (8 + j)) cv0 ++ (lfP ct (fun j => (hsA g 0) (16 + j)) ps0)))))) s.heap := hP
  have hD : va_D A (lfX ct g x ++ (lfR ct (fun j => g (18 + j)) rv ++ (lfH ct (hsA g 0) g h0 ++ (lfS ct (fun j => (hsA g 0) (12 + j)) nt0 ++ (lfS ct (fun j => (hsA g 0) (8 + j)) cv0 ++ (lfP ct (fun j => (hsA g 0) (16 + j)) ps0)))))) := hD
  have hK : va_K G classes (TYS ct) s := hK
  have hl : lv_has ls 2 [(0, .ref (g 7)), (1, .int v1)] := hl
  unfold f_X11_count at hf
  show WG l G ct sk sv p e (RM 3 64 0 0) s m args below meth c A (Eq2 (some (.int r)) (lfX ct g x' ++ (lfR ct (fun j => g (18 + j)) rv ++ (lfH ct (hsA g 0) g h0 ++ (lfS ct (fun j => (hsA g 0) (12 + j)) nt0 ++ (lfS ct (fun j => (hsA g 0) (8 + j)) cv0 ++ (lfP ct (fun j => (hsA g 0) (16 + j)) ps0))))))) s.heap [] (F0 m 0 ls [])
  refine lv_iload_n hx hb dX11_count_0 rfl (lv_at hl 1 rfl) ?_
  refine lv_iconst (v := 0) hx hb dX11_count_1 (by decide) ?_
  refine lv_bipush (v := 7) hx hb dX11_count_2 (by decide) ?_
  obtain ⟨r_1, hc1, hf⟩ := bd_e hf
  refine call_S (As := [.int v1, .int 0, .int 7]) (rest := []) hx hb hml hown hts hK hP hD hS hA hZ lkX11_75 (Ctr.up (W := (lfX ct g x ++ (lfR ct (fun j => g (18 + j)) rv ++ (lfH ct (hsA g 0) g h0 ++ (lfS ct (fun j => (hsA g 0) (12 + j)) nt0 ++ (lfS ct (fun j => (hsA g 0) (8 + j)) cv0 ++ (lfP ct (fun j => (hsA g 0) (16 + j)) ps0))))))) (W' := (lfX ct g x ++ (lfR ct (fun j => g (18 + j)) rv ++ (lfH ct (hsA g 0) g h0 ++ (lfS ct (fun j => (hsA g 0) (12 + j)) nt0 ++ (lfS ct (fun j => (hsA g 0) (8 + j)) cv0 ++ (lfP ct (fun j => (hsA g 0) (16 + j)) ps0))))))) (c_X11_within l G ct sk sv  n v1 0 7 hc1) [] [0, 1, 2, 3, 4, 5, 6, 7, 8, 9, 10, 11, 12, 13, 14, 15, 16, 17, 18, 19, 20, 21, 22] [0, 1, 2, 3, 4, 5, 6, 7, 8, 9, 10, 11, 12, 13, 14, 15, 16, 17, 18, 19, 20, 21, 22] rfl rfl rfl rfl (by decide) rfl rfl) ⟨Nat.le_of_ble_eq_true rfl, Nat.le_of_ble_eq_true rfl⟩ rfl hl.1 rfl (Nat.le_of_ble_eq_true rfl) dX11_count_4 ⟨Nat.le_of_ble_eq_true rfl, Nat.le_of_ble_eq_true rfl⟩ (fun r9 w9 H locs hB hP hD hS => ?_)
  obtain ⟨rfl, rfl⟩ := hB
  refine WG_eq (g2 := F0 m 7 ls [.int r_1]) rfl ?_
  refine lv_if_ne (tgt := 15) hx hb dX11_count_7 (by decide) (fun c_2 => ?_) (fun c_2 => ?_)
  · replace hf := bc_f hf c_2
    refine lv_aload_n hx hb dX11_count_15 rfl (lv_at hl 0 rfl) ?_
    refine lv_iload_n hx hb dX11_count_16 rfl (lv_at hl 1 rfl) ?_
    obtain ⟨r_3, hc3, hf⟩ := bd_e hf
    refine call_V (As := [.int v1]) (rest := []) hx hb hml hown hts hK hP hD hS hA hZ lkX11_322 (c_X11_howMany l G ct sk sv g n x rv h0 nt0 cv0 ps0 v1 hc3) 0 rfl rfl ⟨Nat.le_of_ble_eq_true rfl, Nat.le_of_ble_eq_true rfl⟩ rfl hl.1 rfl (Nat.le_of_ble_eq_true rfl) dX11_count_17 ⟨Nat.le_of_ble_eq_true rfl, Nat.le_of_ble_eq_true rfl⟩ (fun r9 w9 H locs hB hP hD hS => ?_)
    obtain ⟨rfl, rfl⟩ := hB
    refine WG_eq (g2 := F0 m 20 ls [.int r_3]) rfl ?_
    obtain ⟨e1, e2⟩ := inj2 (Option.some.inj hf)
    exact end_i (w' := (lfX ct g x ++ (lfR ct (fun j => g (18 + j)) rv ++ (lfH ct (hsA g 0) g h0 ++ (lfS ct (fun j => (hsA g 0) (12 + j)) nt0 ++ (lfS ct (fun j => (hsA g 0) (8 + j)) cv0 ++ (lfP ct (fun j => (hsA g 0) (16 + j)) ps0))))))) hx hb hr hlocks hK hP hD hS dX11_count_20  ⟨by rw [← e1], by rw [← e2]⟩
  · replace hf := bc_t hf c_2
    refine lv_aload_n hx hb dX11_count_10 rfl (lv_at hl 0 rfl) ?_
    obtain ⟨r_4, x_5, hc5, hf⟩ := bd2_e hf
    refine call_V (As := []) (rest := []) hx hb hml hown hts hK hP hD hS hA hZ lkX11_83 (Ctr.up (W := (lfX ct g x ++ (lfR ct (fun j => g (18 + j)) rv ++ (lfH ct (hsA g 0) g h0 ++ (lfS ct (fun j => (hsA g 0) (12 + j)) nt0 ++ (lfS ct (fun j => (hsA g 0) (8 + j)) cv0 ++ (lfP ct (fun j => (hsA g 0) (16 + j)) ps0))))))) (W' := (lfX ct g x_5 ++ (lfR ct (fun j => g (18 + j)) rv ++ (lfH ct (hsA g 0) g h0 ++ (lfS ct (fun j => (hsA g 0) (12 + j)) nt0 ++ (lfS ct (fun j => (hsA g 0) (8 + j)) cv0 ++ (lfP ct (fun j => (hsA g 0) (16 + j)) ps0))))))) (c_X11_refuseBad l G ct sk sv g n x hc5) [0, 1, 2] [3, 4, 5, 6, 7, 8, 9, 10, 11, 12, 13, 14, 15, 16, 17, 18, 19, 20, 21, 22] [20, 21, 22, 0, 1, 2, 3, 4, 5, 6, 7, 8, 9, 10, 11, 12, 13, 14, 15, 16, 17, 18, 19] rfl rfl rfl rfl (by decide) rfl rfl) 0 rfl rfl ⟨Nat.le_of_ble_eq_true rfl, Nat.le_of_ble_eq_true rfl⟩ rfl hl.1 rfl (Nat.le_of_ble_eq_true rfl) dX11_count_11 ⟨Nat.le_of_ble_eq_true rfl, Nat.le_of_ble_eq_true rfl⟩ (fun r9 w9 H locs hB hP hD hS => ?_)
    obtain ⟨rfl, rfl⟩ := hB
    refine WG_eq (g2 := F0 m 14 ls [.int r_4]) rfl ?_
    obtain ⟨e1, e2⟩ := inj2 (Option.some.inj hf)
    exact end_i (w' := (lfX ct g x_5 ++ (lfR ct (fun j => g (18 + j)) rv ++ (lfH ct (hsA g 0) g h0 ++ (lfS ct (fun j => (hsA g 0) (12 + j)) nt0 ++ (lfS ct (fun j => (hsA g 0) (8 + j)) cv0 ++ (lfP ct (fun j => (hsA g 0) (16 + j)) ps0))))))) hx hb hr hlocks hK hP hD hS dX11_count_14  ⟨by rw [← e1], by rw [← e2]⟩
noncomputable def f_X11_isMember (n : Nat) (x : MV) (h0 : MV) (v1 : Int32) : Option (Int32) :=
  bd (f_X11_within n v1 0 ((h0.1 0) - 1)) fun r_1 =>
  gd (r_1 = 0 ∨ r_1 = 1) <| some r_1
set_option maxHeartbeats 4000000 in
set_option maxRecDepth 100000 in
theorem c_X11_isMember (l : Launch) (G : va_G) (ct : Nat → ClassId) (sk sv : Nat → Nat) (g : Nat → Nat) (n : Nat) (x : MV) (h0 : MV) (v1 : Int32) {r : Int32} (hf : f_X11_isMember n x h0 v1 = some r) : Ctr (l, G, ct, sk, sv) mX11_isMember 1 22 [.ref (g 7), .int v1] (lfX ct g x ++ (lfH ct (hsA g 0) g h0)) (lfX ct g x ++ (lfH ct (hsA g 0) g h0)) (some (.int r)) := by
  refine ctr_intro (by decide) (Nat.le_of_ble_eq_true rfl) ?_
  intro p e s m args below meth c A C hP hD hS hA ls hl
  obtain ⟨hx, hb, hml, hown, hts, hr, hlocks, hK, hnm, hZ⟩ := C
  have hb : c.code = cX11_isMember := hb
  have hml : c.maxLocals = 2 := hml
  have hown : s.vm.findClass "SignedOutside" = some m.cls := hown
  have hr : meth.sig.returnType = some .boolean := hr
  have hP : va_P G classes (lfX ct g x ++ (lfH ct (hsA g 0) g h0)) s.heap := hP
  have hD : va_D A (lfX ct g x ++ (lfH ct (hsA g 0) g h0)) := hD
  have hK : va_K G classes (TYS ct) s := hK
  have hl : lv_has ls 2 [(0, .ref (g 7)), (1, .int v1)] := hl
  unfold f_X11_isMember at hf
  show WG l G ct sk sv p e (RM 1 22 0 0) s m args below meth c A (Eq2 (some (.int r)) (lfX ct g x ++ (lfH ct (hsA g 0) g h0))) s.heap [] (F0 m 0 ls [])
  refine lv_iload_n hx hb dX11_isMember_0 rfl (lv_at hl 1 rfl) ?_
  refine lv_iconst (v := 0) hx hb dX11_isMember_1 (by decide) ?_
  refine lv_aload_n hx hb dX11_isMember_2 rfl (lv_at hl 0 rfl) ?_
  refine va_get (D := G) (C := RX11) (T := TX11) (N := 11) (v := .ref ((hsA g 0) 0)) hx hb hts iu_X11 hown hK hP 0 rfl rfl 0 (by decide) (hts _ kw262) (fun _ h9 => h9) rfl dX11_isMember_3 ?_
  refine va_get (D := G) (C := RX1) (T := TX1) (N := 16) (v := .int (h0.1 0)) hx hb hts iu_X1 hown hK hP 3 rfl rfl 1 (by decide) (hts _ kw124) (fun _ h9 => h9) rfl dX11_isMember_6 ?_
  refine lv_iconst (v := 1) hx hb dX11_isMember_9 (by decide) ?_
  refine lv_isub hx hb dX11_isMember_10 ?_
  obtain ⟨r_1, hc1, hf⟩ := bd_e hf
  refine call_S (As := [.int v1, .int 0, .int ((h0.1 0) - 1)]) (rest := []) hx hb hml hown hts hK hP hD hS hA hZ lkX11_75 (Ctr.up (W := (lfX ct g x ++ (lfH ct (hsA g 0) g h0))) (W' := (lfX ct g x ++ (lfH ct (hsA g 0) g h0))) (c_X11_within l G ct sk sv  n v1 0 ((h0.1 0) - 1) hc1) [] [0, 1, 2, 3, 4, 5, 6, 7, 8, 9, 10] [0, 1, 2, 3, 4, 5, 6, 7, 8, 9, 10] rfl rfl rfl rfl (by decide) rfl rfl) ⟨Nat.le_of_ble_eq_true rfl, Nat.le_of_ble_eq_true rfl⟩ rfl hl.1 rfl (Nat.le_of_ble_eq_true rfl) dX11_isMember_11 ⟨Nat.le_of_ble_eq_true rfl, Nat.le_of_ble_eq_true rfl⟩ (fun r9 w9 H locs hB hP hD hS => ?_)
  obtain ⟨rfl, rfl⟩ := hB
  refine WG_eq (g2 := F0 m 14 ls [.int r_1]) rfl ?_
  obtain ⟨g_2, hf⟩ := gd_e hf
  have e1 := Option.some.inj hf
  exact end_z (w' := (lfX ct g x ++ (lfH ct (hsA g 0) g h0))) hx hb hr hlocks hK hP hD hS dX11_isMember_14 g_2 ⟨by rw [← e1], rfl⟩
noncomputable def f_X11_isPlace (n : Nat) (v0 : Int32) : Option (Int32) :=
  bd (f_X11_within n v0 0 99) fun r_1 =>
  gd (r_1 = 0 ∨ r_1 = 1) <| some r_1
set_option maxHeartbeats 4000000 in
set_option maxRecDepth 100000 in
theorem c_X11_isPlace (l : Launch) (G : va_G) (ct : Nat → ClassId) (sk sv : Nat → Nat)  (n : Nat) (v0 : Int32) {r : Int32} (hf : f_X11_isPlace n v0 = some r) : Ctr (l, G, ct, sk, sv) mX11_isPlace 1 22 [.int v0] ([] : va_W) ([] : va_W) (some (.int r)) := by
  refine ctr_intro (by decide) (Nat.le_of_ble_eq_true rfl) ?_
  intro p e s m args below meth c A C hP hD hS hA ls hl
  obtain ⟨hx, hb, hml, hown, hts, hr, hlocks, hK, hnm, hZ⟩ := C
  have hb : c.code = cX11_isPlace := hb
  have hml : c.maxLocals = 1 := hml
  have hown : s.vm.findClass "SignedOutside" = some m.cls := hown
  have hr : meth.sig.returnType = some .boolean := hr
  have hP : va_P G classes ([] : va_W) s.heap := hP
  have hD : va_D A ([] : va_W) := hD
  have hK : va_K G classes (TYS ct) s := hK
  have hl : lv_has ls 1 [(0, .int v0)] := hl
  unfold f_X11_isPlace at hf
  show WG l G ct sk sv p e (RM 1 22 0 0) s m args below meth c A (Eq2 (some (.int r)) ([] : va_W)) s.heap [] (F0 m 0 ls [])
  refine lv_iload_n hx hb dX11_isPlace_0 rfl (lv_at hl 0 rfl) ?_
  refine lv_iconst (v := 0) hx hb dX11_isPlace_1 (by decide) ?_
  refine lv_bipush (v := 99) hx hb dX11_isPlace_2 (by decide) ?_
  obtain ⟨r_1, hc1, hf⟩ := bd_e hf
  refine call_S (As := [.int v0, .int 0, .int 99]) (rest := []) hx hb hml hown hts hK hP hD hS hA hZ lkX11_75 (c_X11_within l G ct sk sv  n v0 0 99 hc1) ⟨Nat.le_of_ble_eq_true rfl, Nat.le_of_ble_eq_true rfl⟩ rfl hl.1 rfl (Nat.le_of_ble_eq_true rfl) dX11_isPlace_4 ⟨Nat.le_of_ble_eq_true rfl, Nat.le_of_ble_eq_true rfl⟩ (fun r9 w9 H locs hB hP hD hS => ?_)
  obtain ⟨rfl, rfl⟩ := hB
  refine WG_eq (g2 := F0 m 7 ls [.int r_1]) rfl ?_
  obtain ⟨g_2, hf⟩ := gd_e hf
  have e1 := Option.some.inj hf
  exact end_z (w' := ([] : va_W)) hx hb hr hlocks hK hP hD hS dX11_isPlace_7 g_2 ⟨by rw [← e1], rfl⟩
noncomputable def f_X11_isSlipDay (n : Nat) (v0 : Int32) : Option (Int32) :=
  bd (f_X11_within n v0 0 99) fun r_1 =>
  gd (r_1 = 0 ∨ r_1 = 1) <| some r_1
set_option maxHeartbeats 4000000 in
set_option maxRecDepth 100000 in
theorem c_X11_isSlipDay (l : Launch) (G : va_G) (ct : Nat → ClassId) (sk sv : Nat → Nat)  (n : Nat) (v0 : Int32) {r : Int32} (hf : f_X11_isSlipDay n v0 = some r) : Ctr (l, G, ct, sk, sv) mX11_isSlipDay 1 22 [.int v0] ([] : va_W) ([] : va_W) (some (.int r)) := by
  refine ctr_intro (by decide) (Nat.le_of_ble_eq_true rfl) ?_
  intro p e s m args below meth c A C hP hD hS hA ls hl
  obtain ⟨hx, hb, hml, hown, hts, hr, hlocks, hK, hnm, hZ⟩ := C
  have hb : c.code = cX11_isSlipDay := hb
  have hml : c.maxLocals = 1 := hml
  have hown : s.vm.findClass "SignedOutside" = some m.cls := hown
  have hr : meth.sig.returnType = some .boolean := hr
  have hP : va_P G classes ([] : va_W) s.heap := hP
  have hD : va_D A ([] : va_W) := hD
  have hK : va_K G classes (TYS ct) s := hK
  have hl : lv_has ls 1 [(0, .int v0)] := hl
  unfold f_X11_isSlipDay at hf
  show WG l G ct sk sv p e (RM 1 22 0 0) s m args below meth c A (Eq2 (some (.int r)) ([] : va_W)) s.heap [] (F0 m 0 ls [])
  refine lv_iload_n hx hb dX11_isSlipDay_0 rfl (lv_at hl 0 rfl) ?_
  refine lv_iconst (v := 0) hx hb dX11_isSlipDay_1 (by decide) ?_
  refine lv_bipush (v := 99) hx hb dX11_isSlipDay_2 (by decide) ?_
  obtain ⟨r_1, hc1, hf⟩ := bd_e hf
  refine call_S (As := [.int v0, .int 0, .int 99]) (rest := []) hx hb hml hown hts hK hP hD hS hA hZ lkX11_75 (c_X11_within l G ct sk sv  n v0 0 99 hc1) ⟨Nat.le_of_ble_eq_true rfl, Nat.le_of_ble_eq_true rfl⟩ rfl hl.1 rfl (Nat.le_of_ble_eq_true rfl) dX11_isSlipDay_4 ⟨Nat.le_of_ble_eq_true rfl, Nat.le_of_ble_eq_true rfl⟩ (fun r9 w9 H locs hB hP hD hS => ?_)
  obtain ⟨rfl, rfl⟩ := hB
  refine WG_eq (g2 := F0 m 7 ls [.int r_1]) rfl ?_
  obtain ⟨g_2, hf⟩ := gd_e hf
  have e1 := Option.some.inj hf
  exact end_z (w' := ([] : va_W)) hx hb hr hlocks hK hP hD hS dX11_isSlipDay_7 g_2 ⟨by rw [← e1], rfl⟩
noncomputable def f_X11_refuseFull (n : Nat) (x : MV) : Option (Int32 × MV) :=
  bl (setS x 2 ((x.1 2) + 1)) fun x_1 =>
  some ((-4), x_1)
set_option maxHeartbeats 4000000 in
set_option maxRecDepth 100000 in
theorem c_X11_refuseFull (l : Launch) (G : va_G) (ct : Nat → ClassId) (sk sv : Nat → Nat) (g : Nat → Nat) (n : Nat) (x : MV) {r : Int32} {x' : MV} (hf : f_X11_refuseFull n x = some (r, x')) : Ctr (l, G, ct, sk, sv) mX11_refuseFull 0 0 [.ref (g 7)] (lfX ct g x) (lfX ct g x') (some (.int r)) := by
  refine ctr_intro (by decide) (Nat.le_of_ble_eq_true rfl) ?_
  intro p e s m args below meth c A C hP hD hS hA ls hl
  obtain ⟨hx, hb, hml, hown, hts, hr, hlocks, hK, hnm, hZ⟩ := C
  have hb : c.code = cX11_refuseFull := hb
  have hml : c.maxLocals = 1 := hml
  have hown : s.vm.findClass "SignedOutside" = some m.cls := hown
  have hr : meth.sig.returnType = some .int := hr
  have hP : va_P G classes (lfX ct g x) s.heap := hP
  have hD : va_D A (lfX ct g x) := hD
  have hK : va_K G classes (TYS ct) s := hK
  have hl : lv_has ls 1 [(0, .ref (g 7))] := hl
  unfold f_X11_refuseFull at hf
  show WG l G ct sk sv p e (RM 0 0 0 0) s m args below meth c A (Eq2 (some (.int r)) (lfX ct g x')) s.heap [] (F0 m 0 ls [])
  refine lv_aload_n hx hb dX11_refuseFull_0 rfl (lv_at hl 0 rfl) ?_
  refine lv_dup hx hb dX11_refuseFull_1 rfl ?_
  refine va_get (D := G) (C := RX11) (T := TX11) (N := 11) (v := .int (x.1 2)) hx hb hts iu_X11 hown hK hP 0 rfl rfl 10 (by decide) (hts _ kw272) (fun _ h9 => h9) rfl dX11_refuseFull_2 ?_
  refine lv_iconst (v := 1) hx hb dX11_refuseFull_5 (by decide) ?_
  refine lv_iadd hx hb dX11_refuseFull_6 ?_
  obtain ⟨x_1, ex_1, hf⟩ := bl_e hf
  refine va_put (D := G) (C := RX11) (T := TX11) (N := 11) (ty := .int) hx hb hts iu_X11 tyX11 tyX11_ok nmX11 hown hK hP hD hS 0 rfl rfl 10 (by decide) (hts _ kw272) (fun _ h9 => h9) rfl (by decide +kernel) rfl rfl (Nat.le_of_ble_eq_true rfl) dX11_refuseFull_7 (fun H locs hP hD hS => ?_)
  have hP : va_P G classes (lfX ct g x_1) H := by rw [← ex_1]; exact hP
  have hD : va_D A (lfX ct g x_1) := by rw [← ex_1]; exact hD
  refine lv_bipush (v := (-4)) hx hb dX11_refuseFull_10 (by decide) ?_
  obtain ⟨e1, e2⟩ := inj2 (Option.some.inj hf)
  exact end_i (w' := (lfX ct g x_1)) hx hb hr hlocks hK hP hD hS dX11_refuseFull_12  ⟨by rw [← e1], by rw [← e2]⟩
noncomputable def f_X11_cover_j22 (n : Nat) (x : MV) (h0 : MV) (cv0 : MV) : Option (Int32 × MV × MV) :=
  bd2 (f_X11_refuseBad n x) fun r_1 x_2 =>
  some (r_1, x_2, cv0)
noncomputable def f_X11_cover (n : Nat) (x : MV) (h0 : MV) (cv0 : MV) (v1 : Int32) (v2 : Int32) (v3 : Int32) : Option (Int32 × MV × MV) :=
  bd (f_X11_isMember n x h0 v1) fun r_3 =>
  bc (r_3 = 0) (f_X11_cover_j22 n x h0 cv0)
  (bd (f_X11_isSlipDay n v2) fun r_5 =>
  bc (r_5 = 0) (f_X11_cover_j22 n x h0 cv0)
  (bd (f_X11_isPlace n v3) fun r_7 =>
  bc (r_7 = 0) (f_X11_cover_j22 n x h0 cv0)
  (bd2 (f_X8_add n cv0 v1 v2 v3) fun r_9 cv0_10 =>
  bc (r_9 = 0) (bd2 (f_X11_refuseFull n x) fun r_12 x_13 =>
  some (r_12, x_13, cv0_10))
  (some (cv0_10.1 0, x, cv0_10)))))
set_option maxHeartbeats 4000000 in
set_option maxRecDepth 100000 in
theorem c_X11_cover (l : Launch) (G : va_G) (ct : Nat → ClassId) (sk sv : Nat → Nat) (g : Nat → Nat) (n : Nat) (x : MV) (h0 : MV) (cv0 : MV) (v1 : Int32) (v2 : Int32) (v3 : Int32) {r : Int32} {x' : MV} {cv0' : MV} (hf : f_X11_cover n x h0 cv0 v1 v2 v3 = some (r, x', cv0')) : Ctr (l, G, ct, sk, sv) mX11_cover 2 43 [.ref (g 7), .int v1, .int v2, .int v3] (lfX ct g x ++ (lfH ct (hsA g 0) g h0 ++ (lfS ct (fun j => (hsA g 0) (8 + j)) cv0))) (lfX ct g x' ++ (lfH ct (hsA g 0) g h0 ++ (lfS ct (fun j => (hsA g 0) (8 + j)) cv0'))) (some (.int r)) := by
  refine ctr_intro (by decide) (Nat.le_of_ble_eq_true rfl) ?_
  intro p e s m args below meth c A C hP hD hS hA ls hl
  obtain ⟨hx, hb, hml, hown, hts, hr, hlocks, hK, hnm, hZ⟩ := C
  have hb : c.code = cX11_cover := hb
  have hml : c.maxLocals = 4 := hml
  have hown : s.vm.findClass "SignedOutside" = some m.cls := hown
  have hr : meth.sig.returnType = some .int := hr
  have hP : va_P G classes (lfX ct g x ++ (lfH ct (hsA g 0) g h0 ++ (lfS ct (fun j => (hsA g 0) (8 + j)) cv0))) s.heap := hP
  have hD : va_D A (lfX ct g x ++ (lfH ct (hsA g 0) g h0 ++ (lfS ct (fun j => (hsA g 0) (8 + j)) cv0))) := hD
  have hK : va_K G classes (TYS ct) s := hK
  have hl : lv_has ls 4 [(0, .ref (g 7)), (1, .int v1), (2, .int v2), (3, .int v3)] := hl
  have J22 : ∀ (x : MV) (cv0 : MV) (H : Heap) (locs : List Loc) (ls : Array Slot), va_P G classes (lfX ct g x ++ (lfH ct (hsA g 0) g h0 ++ (lfS ct (fun j => (hsA g 0) (8 + j)) cv0))) H → va_D A (lfX ct g x ++ (lfH ct (hsA g 0) g h0 ++ (lfS ct (fun j => (hsA g 0) (8 + j)) cv0))) → va_S A s.heap H locs → lv_has ls 4 [(0, .ref (g 7))] → f_X11_cover_j22 n x h0 cv0 = some (r, x', cv0') → WG l G ct sk sv p e (RM 2 43 0 0) s m args below meth c A (Eq2 (some (.int r)) (lfX ct g x' ++ (lfH ct (hsA g 0) g h0 ++ (lfS ct (fun j => (hsA g 0) (8 + j)) cv0')))) H locs (F0 m 22 ls []) := by
    intro x cv0 H locs ls hP hD hS hl hf
    unfold f_X11_cover_j22 at hf
    refine lv_aload_n hx hb dX11_cover_22 rfl (lv_at hl 0 rfl) ?_
    obtain ⟨r_1, x_2, hc2, hf⟩ := bd2_e hf
    refine call_V (As := []) (rest := []) hx hb hml hown hts hK hP hD hS hA hZ lkX11_83 (Ctr.up (W := (lfX ct g x ++ (lfH ct (hsA g 0) g h0 ++ (lfS ct (fun j => (hsA g 0) (8 + j)) cv0)))) (W' := (lfX ct g x_2 ++ (lfH ct (hsA g 0) g h0 ++ (lfS ct (fun j => (hsA g 0) (8 + j)) cv0)))) (c_X11_refuseBad l G ct sk sv g n x hc2) [0, 1, 2] [3, 4, 5, 6, 7, 8, 9, 10, 11, 12, 13, 14] [12, 13, 14, 0, 1, 2, 3, 4, 5, 6, 7, 8, 9, 10, 11] rfl rfl rfl rfl (by decide) rfl rfl) 0 rfl rfl ⟨Nat.le_of_ble_eq_true rfl, Nat.le_of_ble_eq_true rfl⟩ rfl hl.1 rfl (Nat.le_of_ble_eq_true rfl) dX11_cover_23 ⟨Nat.le_of_ble_eq_true rfl, Nat.le_of_ble_eq_true rfl⟩ (fun r9 w9 H locs hB hP hD hS => ?_)
    obtain ⟨rfl, rfl⟩ := hB
    refine WG_eq (g2 := F0 m 26 ls [.int r_1]) rfl ?_
    obtain ⟨e1, e2, e3⟩ := inj3 (Option.some.inj hf)
    exact end_i (w' := (lfX ct g x_2 ++ (lfH ct (hsA g 0) g h0 ++ (lfS ct (fun j => (hsA g 0) (8 + j)) cv0)))) hx hb hr hlocks hK hP hD hS dX11_cover_26  ⟨by rw [← e1], by rw [← e2, ← e3]⟩
  unfold f_X11_cover at hf
  show WG l G ct sk sv p e (RM 2 43 0 0) s m args below meth c A (Eq2 (some (.int r)) (lfX ct g x' ++ (lfH ct (hsA g 0) g h0 ++ (lfS ct (fun j => (hsA g 0) (8 + j)) cv0')))) s.heap [] (F0 m 0 ls [])
  refine lv_aload_n hx hb dX11_cover_0 rfl (lv_at hl 0 rfl) ?_
  refine lv_iload_n hx hb dX11_cover_1 rfl (lv_at hl 1 rfl) ?_
  obtain ⟨r_3, hc3, hf⟩ := bd_e hf
  refine call_V (As := [.int v1]) (rest := []) hx hb hml hown hts hK hP hD hS hA hZ lkX11_128 (Ctr.up (W := (lfX ct g x ++ (lfH ct (hsA g 0) g h0 ++ (lfS ct (fun j => (hsA g 0) (8 + j)) cv0)))) (W' := (lfX ct g x ++ (lfH ct (hsA g 0) g h0 ++ (lfS ct (fun j => (hsA g 0) (8 + j)) cv0)))) (c_X11_isMember l G ct sk sv g n x h0 v1 hc3) [0, 1, 2, 3, 4, 5, 6, 7, 8, 9, 10] [11, 12, 13, 14] [4, 5, 6, 7, 8, 9, 10, 11, 12, 13, 14, 0, 1, 2, 3] rfl rfl rfl rfl (by decide) rfl rfl) 0 rfl rfl ⟨Nat.le_of_ble_eq_true rfl, Nat.le_of_ble_eq_true rfl⟩ rfl hl.1 rfl (Nat.le_of_ble_eq_true rfl) dX11_cover_2 ⟨Nat.le_of_ble_eq_true rfl, Nat.le_of_ble_eq_true rfl⟩ (fun r9 w9 H locs hB hP hD hS => ?_)
  obtain ⟨rfl, rfl⟩ := hB
  refine WG_eq (g2 := F0 m 5 ls [.int r_3]) rfl ?_
  refine lv_if_eq (tgt := 22) hx hb dX11_cover_5 (by decide) (fun c_4 => ?_) (fun c_4 => ?_)
  · replace hf := bc_t hf c_4
    exact J22 x cv0 _ _ _ hP hD hS (lv_sub hl [0] rfl) hf
  · replace hf := bc_f hf c_4
    refine lv_iload_n hx hb dX11_cover_8 rfl (lv_at hl 2 rfl) ?_
    obtain ⟨r_5, hc5, hf⟩ := bd_e hf
    refine call_S (As := [.int v2]) (rest := []) hx hb hml hown hts hK hP hD hS hA hZ lkX11_247 (Ctr.up (W := (lfX ct g x ++ (lfH ct (hsA g 0) g h0 ++ (lfS ct (fun j => (hsA g 0) (8 + j)) cv0)))) (W' := (lfX ct g x ++ (lfH ct (hsA g 0) g h0 ++ (lfS ct (fun j => (hsA g 0) (8 + j)) cv0)))) (c_X11_isSlipDay l G ct sk sv  n v2 hc5) [] [0, 1, 2, 3, 4, 5, 6, 7, 8, 9, 10, 11, 12, 13, 14] [0, 1, 2, 3, 4, 5, 6, 7, 8, 9, 10, 11, 12, 13, 14] rfl rfl rfl rfl (by decide) rfl rfl) ⟨Nat.le_of_ble_eq_true rfl, Nat.le_of_ble_eq_true rfl⟩ rfl hl.1 rfl (Nat.le_of_ble_eq_true rfl) dX11_cover_9 ⟨Nat.le_of_ble_eq_true rfl, Nat.le_of_ble_eq_true rfl⟩ (fun r9 w9 H locs hB hP hD hS => ?_)
    obtain ⟨rfl, rfl⟩ := hB
    refine WG_eq (g2 := F0 m 12 ls [.int r_5]) rfl ?_
    refine lv_if_eq (tgt := 22) hx hb dX11_cover_12 (by decide) (fun c_6 => ?_) (fun c_6 => ?_)
    · replace hf := bc_t hf c_6
      exact J22 x cv0 _ _ _ hP hD hS (lv_sub hl [0] rfl) hf
    · replace hf := bc_f hf c_6
      refine lv_iload_n hx hb dX11_cover_15 rfl (lv_at hl 3 rfl) ?_
      obtain ⟨r_7, hc7, hf⟩ := bd_e hf
      refine call_S (As := [.int v3]) (rest := []) hx hb hml hown hts hK hP hD hS hA hZ lkX11_79 (Ctr.up (W := (lfX ct g x ++ (lfH ct (hsA g 0) g h0 ++ (lfS ct (fun j => (hsA g 0) (8 + j)) cv0)))) (W' := (lfX ct g x ++ (lfH ct (hsA g 0) g h0 ++ (lfS ct (fun j => (hsA g 0) (8 + j)) cv0)))) (c_X11_isPlace l G ct sk sv  n v3 hc7) [] [0, 1, 2, 3, 4, 5, 6, 7, 8, 9, 10, 11, 12, 13, 14] [0, 1, 2, 3, 4, 5, 6, 7, 8, 9, 10, 11, 12, 13, 14] rfl rfl rfl rfl (by decide) rfl rfl) ⟨Nat.le_of_ble_eq_true rfl, Nat.le_of_ble_eq_true rfl⟩ rfl hl.1 rfl (Nat.le_of_ble_eq_true rfl) dX11_cover_16 ⟨Nat.le_of_ble_eq_true rfl, Nat.le_of_ble_eq_true rfl⟩ (fun r9 w9 H locs hB hP hD hS => ?_)
      obtain ⟨rfl, rfl⟩ := hB
      refine WG_eq (g2 := F0 m 19 ls [.int r_7]) rfl ?_
      refine lv_if_ne (tgt := 27) hx hb dX11_cover_19 (by decide) (fun c_8 => ?_) (fun c_8 => ?_)
      · replace hf := bc_f hf c_8
        refine lv_aload_n hx hb dX11_cover_27 rfl (lv_at hl 0 rfl) ?_
        refine va_get (D := G) (C := RX11) (T := TX11) (N := 11) (v := .ref ((hsA g 0) 0)) hx hb hts iu_X11 hown hK hP 0 rfl rfl 0 (by decide) (hts _ kw262) (fun _ h9 => h9) rfl dX11_cover_28 ?_
        refine va_get (D := G) (C := RX1) (T := TX1) (N := 16) (v := .ref ((hsA g 0) 8)) hx hb hts iu_X1 hown hK hP 3 rfl rfl 13 (by decide) (hts _ kw158) (fun _ h9 => h9) rfl dX11_cover_31 ?_
        refine lv_iload_n hx hb dX11_cover_34 rfl (lv_at hl 1 rfl) ?_
        refine lv_iload_n hx hb dX11_cover_35 rfl (lv_at hl 2 rfl) ?_
        refine lv_iload_n hx hb dX11_cover_36 rfl (lv_at hl 3 rfl) ?_
        obtain ⟨r_9, cv0_10, hc10, hf⟩ := bd2_e hf
        refine call_V (As := [.int v1, .int v2, .int v3]) (rest := []) hx hb hml hown hts hK hP hD hS hA hZ lkX11_254 (Ctr.up (W := (lfX ct g x ++ (lfH ct (hsA g 0) g h0 ++ (lfS ct (fun j => (hsA g 0) (8 + j)) cv0)))) (W' := (lfX ct g x ++ (lfH ct (hsA g 0) g h0 ++ (lfS ct (fun j => (hsA g 0) (8 + j)) cv0_10)))) (c_X8_add l G ct sk sv (fun j => (hsA g 0) (8 + j)) n cv0 v1 v2 v3 hc10) [11, 12, 13, 14] [0, 1, 2, 3, 4, 5, 6, 7, 8, 9, 10] [0, 1, 2, 3, 4, 5, 6, 7, 8, 9, 10, 11, 12, 13, 14] rfl rfl rfl rfl (by decide) rfl rfl) 11 rfl rfl ⟨Nat.le_of_ble_eq_true rfl, Nat.le_of_ble_eq_true rfl⟩ rfl hl.1 rfl (Nat.le_of_ble_eq_true rfl) dX11_cover_37 ⟨Nat.le_of_ble_eq_true rfl, Nat.le_of_ble_eq_true rfl⟩ (fun r9 w9 H locs hB hP hD hS => ?_)
        obtain ⟨rfl, rfl⟩ := hB
        refine WG_eq (g2 := F0 m 40 ls [.int r_9]) rfl ?_
        refine lv_if_ne (tgt := 48) hx hb dX11_cover_40 (by decide) (fun c_11 => ?_) (fun c_11 => ?_)
        · replace hf := bc_f hf c_11
          refine lv_aload_n hx hb dX11_cover_48 rfl (lv_at hl 0 rfl) ?_
          refine va_get (D := G) (C := RX11) (T := TX11) (N := 11) (v := .ref ((hsA g 0) 0)) hx hb hts iu_X11 hown hK hP 0 rfl rfl 0 (by decide) (hts _ kw262) (fun _ h9 => h9) rfl dX11_cover_49 ?_
          refine va_get (D := G) (C := RX1) (T := TX1) (N := 16) (v := .ref ((hsA g 0) 8)) hx hb hts iu_X1 hown hK hP 3 rfl rfl 13 (by decide) (hts _ kw158) (fun _ h9 => h9) rfl dX11_cover_52 ?_
          refine va_get (D := G) (C := RX8) (T := TX8) (N := 4) (v := .int (cv0_10.1 0)) hx hb hts iu_X8 hown hK hP 11 rfl rfl 0 (by decide) (hts _ kw87) (fun _ h9 => h9) rfl dX11_cover_55 ?_
          obtain ⟨e1, e2, e3⟩ := inj3 (Option.some.inj hf)
          exact end_i (w' := (lfX ct g x ++ (lfH ct (hsA g 0) g h0 ++ (lfS ct (fun j => (hsA g 0) (8 + j)) cv0_10)))) hx hb hr hlocks hK hP hD hS dX11_cover_58  ⟨by rw [← e1], by rw [← e2, ← e3]⟩
        · replace hf := bc_t hf c_11
          refine lv_aload_n hx hb dX11_cover_43 rfl (lv_at hl 0 rfl) ?_
          obtain ⟨r_12, x_13, hc13, hf⟩ := bd2_e hf
          refine call_V (As := []) (rest := []) hx hb hml hown hts hK hP hD hS hA hZ lkX11_87 (Ctr.up (W := (lfX ct g x ++ (lfH ct (hsA g 0) g h0 ++ (lfS ct (fun j => (hsA g 0) (8 + j)) cv0_10)))) (W' := (lfX ct g x_13 ++ (lfH ct (hsA g 0) g h0 ++ (lfS ct (fun j => (hsA g 0) (8 + j)) cv0_10)))) (c_X11_refuseFull l G ct sk sv g n x hc13) [0, 1, 2] [3, 4, 5, 6, 7, 8, 9, 10, 11, 12, 13, 14] [12, 13, 14, 0, 1, 2, 3, 4, 5, 6, 7, 8, 9, 10, 11] rfl rfl rfl rfl (by decide) rfl rfl) 0 rfl rfl ⟨Nat.le_of_ble_eq_true rfl, Nat.le_of_ble_eq_true rfl⟩ rfl hl.1 rfl (Nat.le_of_ble_eq_true rfl) dX11_cover_44 ⟨Nat.le_of_ble_eq_true rfl, Nat.le_of_ble_eq_true rfl⟩ (fun r9 w9 H locs hB hP hD hS => ?_)
          obtain ⟨rfl, rfl⟩ := hB
          refine WG_eq (g2 := F0 m 47 ls [.int r_12]) rfl ?_
          obtain ⟨e1, e2, e3⟩ := inj3 (Option.some.inj hf)
          exact end_i (w' := (lfX ct g x_13 ++ (lfH ct (hsA g 0) g h0 ++ (lfS ct (fun j => (hsA g 0) (8 + j)) cv0_10)))) hx hb hr hlocks hK hP hD hS dX11_cover_47  ⟨by rw [← e1], by rw [← e2, ← e3]⟩
      · replace hf := bc_t hf c_8
        exact J22 x cv0 _ _ _ hP hD hS (lv_sub hl [0] rfl) hf
noncomputable def f_X11_day (n : Nat) (x : MV) (h0 : MV) (ps0 : MV) : Option (Int32 × MV × MV) :=
  bd (f_X4_keep n h0 ps0) fun ps0_1 =>
  bd (f_X1_passDay n h0) fun h0_2 =>
  some (h0_2.1 2, h0_2, ps0_1)
set_option maxHeartbeats 4000000 in
set_option maxRecDepth 100000 in
theorem c_X11_day (l : Launch) (G : va_G) (ct : Nat → ClassId) (sk sv : Nat → Nat) (g : Nat → Nat) (n : Nat) (x : MV) (h0 : MV) (ps0 : MV) {r : Int32} {h0' : MV} {ps0' : MV} (hf : f_X11_day n x h0 ps0 = some (r, h0', ps0')) : Ctr (l, G, ct, sk, sv) mX11_day 2 87 [.ref (g 7)] (lfX ct g x ++ (lfH ct (hsA g 0) g h0 ++ (lfP ct (fun j => (hsA g 0) (16 + j)) ps0))) (lfX ct g x ++ (lfH ct (hsA g 0) g h0' ++ (lfP ct (fun j => (hsA g 0) (16 + j)) ps0'))) (some (.int r)) := by
  refine ctr_intro (by decide) (Nat.le_of_ble_eq_true rfl) ?_
  intro p e s m args below meth c A C hP hD hS hA ls hl
  obtain ⟨hx, hb, hml, hown, hts, hr, hlocks, hK, hnm, hZ⟩ := C
  have hb : c.code = cX11_day := hb
  have hml : c.maxLocals = 1 := hml
  have hown : s.vm.findClass "SignedOutside" = some m.cls := hown
  have hr : meth.sig.returnType = some .int := hr
  have hP : va_P G classes (lfX ct g x ++ (lfH ct (hsA g 0) g h0 ++ (lfP ct (fun j => (hsA g 0) (16 + j)) ps0))) s.heap := hP
  have hD : va_D A (lfX ct g x ++ (lfH ct (hsA g 0) g h0 ++ (lfP ct (fun j => (hsA g 0) (16 + j)) ps0))) := hD
  have hK : va_K G classes (TYS ct) s := hK
  have hl : lv_has ls 1 [(0, .ref (g 7))] := hl
  unfold f_X11_day at hf
  show WG l G ct sk sv p e (RM 2 87 0 0) s m args below meth c A (Eq2 (some (.int r)) (lfX ct g x ++ (lfH ct (hsA g 0) g h0' ++ (lfP ct (fun j => (hsA g 0) (16 + j)) ps0')))) s.heap [] (F0 m 0 ls [])
  refine lv_aload_n hx hb dX11_day_0 rfl (lv_at hl 0 rfl) ?_
  refine va_get (D := G) (C := RX11) (T := TX11) (N := 11) (v := .ref ((hsA g 0) 0)) hx hb hts iu_X11 hown hK hP 0 rfl rfl 0 (by decide) (hts _ kw262) (fun _ h9 => h9) rfl dX11_day_1 ?_
  refine va_get (D := G) (C := RX1) (T := TX1) (N := 16) (v := .ref ((hsA g 0) 16)) hx hb hts iu_X1 hown hK hP 3 rfl rfl 15 (by decide) (hts _ kw162) (fun _ h9 => h9) rfl dX11_day_4 ?_
  refine lv_aload_n hx hb dX11_day_7 rfl (lv_at hl 0 rfl) ?_
  refine va_get (D := G) (C := RX11) (T := TX11) (N := 11) (v := .ref ((hsA g 0) 0)) hx hb hts iu_X11 hown hK hP 0 rfl rfl 0 (by decide) (hts _ kw262) (fun _ h9 => h9) rfl dX11_day_8 ?_
  obtain ⟨ps0_1, hc1, hf⟩ := bd_e hf
  refine call_V (As := [.ref ((hsA g 0) 0)]) (rest := []) hx hb hml hown hts hK hP hD hS hA hZ lkX11_138 (Ctr.up (W := (lfX ct g x ++ (lfH ct (hsA g 0) g h0 ++ (lfP ct (fun j => (hsA g 0) (16 + j)) ps0)))) (W' := (lfX ct g x ++ (lfH ct (hsA g 0) g h0 ++ (lfP ct (fun j => (hsA g 0) (16 + j)) ps0_1)))) (c_X4_keep l G ct sk sv (hsA g 0) g n h0 ps0 hc1) [3, 4, 5, 6, 7, 8, 9, 10, 11, 12] [0, 1, 2] [0, 1, 2, 3, 4, 5, 6, 7, 8, 9, 10, 11, 12] rfl rfl rfl rfl (by decide) rfl rfl) 11 rfl rfl ⟨Nat.le_of_ble_eq_true rfl, Nat.le_of_ble_eq_true rfl⟩ rfl hl.1 rfl (Nat.le_of_ble_eq_true rfl) dX11_day_11 ⟨Nat.le_of_ble_eq_true rfl, Nat.le_of_ble_eq_true rfl⟩ (fun r9 w9 H locs hB hP hD hS => ?_)
  obtain ⟨rfl, rfl⟩ := hB
  refine WG_eq (g2 := F0 m 14 ls []) rfl ?_
  refine lv_aload_n hx hb dX11_day_14 rfl (lv_at hl 0 rfl) ?_
  refine va_get (D := G) (C := RX11) (T := TX11) (N := 11) (v := .ref ((hsA g 0) 0)) hx hb hts iu_X11 hown hK hP 0 rfl rfl 0 (by decide) (hts _ kw262) (fun _ h9 => h9) rfl dX11_day_15 ?_
  obtain ⟨h0_2, hc2, hf⟩ := bd_e hf
  refine call_V (As := []) (rest := []) hx hb hml hown hts hK hP hD hS hA hZ lkX11_160 (Ctr.up (W := (lfX ct g x ++ (lfH ct (hsA g 0) g h0 ++ (lfP ct (fun j => (hsA g 0) (16 + j)) ps0_1)))) (W' := (lfX ct g x ++ (lfH ct (hsA g 0) g h0_2 ++ (lfP ct (fun j => (hsA g 0) (16 + j)) ps0_1)))) (c_X1_passDay l G ct sk sv (hsA g 0) g n h0 hc2) [3, 4, 5, 6, 7, 8, 9, 10] [0, 1, 2, 11, 12] [0, 1, 2, 5, 6, 7, 8, 9, 10, 11, 12, 3, 4] rfl rfl rfl rfl (by decide) rfl rfl) 3 rfl rfl ⟨Nat.le_of_ble_eq_true rfl, Nat.le_of_ble_eq_true rfl⟩ rfl hl.1 rfl (Nat.le_of_ble_eq_true rfl) dX11_day_18 ⟨Nat.le_of_ble_eq_true rfl, Nat.le_of_ble_eq_true rfl⟩ (fun r9 w9 H locs hB hP hD hS => ?_)
  obtain ⟨rfl, rfl⟩ := hB
  refine WG_eq (g2 := F0 m 21 ls []) rfl ?_
  refine lv_aload_n hx hb dX11_day_21 rfl (lv_at hl 0 rfl) ?_
  refine va_get (D := G) (C := RX11) (T := TX11) (N := 11) (v := .ref ((hsA g 0) 0)) hx hb hts iu_X11 hown hK hP 0 rfl rfl 0 (by decide) (hts _ kw262) (fun _ h9 => h9) rfl dX11_day_22 ?_
  refine va_get (D := G) (C := RX1) (T := TX1) (N := 16) (v := .int (h0_2.1 2)) hx hb hts iu_X1 hown hK hP 3 rfl rfl 10 (by decide) (hts _ kw150) (fun _ h9 => h9) rfl dX11_day_25 ?_
  obtain ⟨e1, e2, e3⟩ := inj3 (Option.some.inj hf)
  exact end_i (w' := (lfX ct g x ++ (lfH ct (hsA g 0) g h0_2 ++ (lfP ct (fun j => (hsA g 0) (16 + j)) ps0_1)))) hx hb hr hlocks hK hP hD hS dX11_day_28  ⟨by rw [← e1], by rw [← e2, ← e3]⟩
noncomputable def f_X11_mix (n : Nat) (v0 : Int64) (v2 : Int64) : Option (Int64) :=
  some ((31 * v0) + v2)
set_option maxHeartbeats 4000000 in
set_option maxRecDepth 100000 in
theorem c_X11_mix (l : Launch) (G : va_G) (ct : Nat → ClassId) (sk sv : Nat → Nat)  (n : Nat) (v0 : Int64) (v2 : Int64) {r : Int64} (hf : f_X11_mix n v0 v2 = some r) : Ctr (l, G, ct, sk, sv) mX11_mix 0 0 [.long v0, .long v2] ([] : va_W) ([] : va_W) (some (.long r)) := by
  refine ctr_intro (by decide) (Nat.le_of_ble_eq_true rfl) ?_
  intro p e s m args below meth c A C hP hD hS hA ls hl
  obtain ⟨hx, hb, hml, hown, hts, hr, hlocks, hK, hnm, hZ⟩ := C
  have hb : c.code = cX11_mix := hb
  have hml : c.maxLocals = 4 := hml
  have hown : s.vm.findClass "SignedOutside" = some m.cls := hown
  have hr : meth.sig.returnType = some .long := hr
  have hP : va_P G classes ([] : va_W) s.heap := hP
  have hD : va_D A ([] : va_W) := hD
  have hK : va_K G classes (TYS ct) s := hK
  have hl : lv_has ls 4 [(0, .long v0), (2, .long v2)] := hl
  unfold f_X11_mix at hf
  show WG l G ct sk sv p e (RM 0 0 0 0) s m args below meth c A (Eq2 (some (.long r)) ([] : va_W)) s.heap [] (F0 m 0 ls [])
  refine lv_ldc2 (v := 31) hx hb hown (hts _ kw874) dX11_mix_0 ?_
  refine lv_lload_n hx hb dX11_mix_3 rfl (lv_at hl 0 rfl) ?_
  refine lv_lmul hx hb dX11_mix_4 ?_
  refine lv_lload_n hx hb dX11_mix_5 rfl (lv_at hl 1 rfl) ?_
  refine lv_ladd hx hb dX11_mix_6 ?_
  have e1 := Option.some.inj hf
  exact end_l (w' := ([] : va_W)) hx hb hr hlocks hK hP hD hS dX11_mix_7  ⟨by rw [← e1], rfl⟩
noncomputable def f_X11_mixSlips_b5 (n : Nat) (sl : MV) (v5 : Int32) (v3 : Int64) : Option ((Int32 × Int64) ⊕ (Int64)) :=
  bc ((sl.1 0) ≤ v5) (some (.inr v3))
  (gd (vp_in v5 6) <|
  bd (f_X11_mix n v3 ((sl.2.1 0 (ix v5) : Int32).toInt64)) fun r_3 =>
  gd (vp_in v5 6) <|
  bd (f_X11_mix n r_3 ((sl.2.1 1 (ix v5) : Int32).toInt64)) fun r_5 =>
  gd (vp_in v5 6) <|
  bd (f_X11_mix n r_5 ((sl.2.1 2 (ix v5) : Int32).toInt64)) fun r_7 =>
  bl (v5 + 1) fun v5_8 =>
  some (.inl (v5_8, r_7)))
noncomputable def f_X11_mixSlips_l5 (fu : Nat) (n : Nat) (sl : MV) (v5 : Int32) (v3 : Int64) : Option (Int64) :=
  lp (fun q => f_X11_mixSlips_b5 n sl q.1 q.2) fu (v5, v3)
noncomputable def f_X11_mixSlips (n : Nat) (sl : MV) (v0 : Int64) : Option (Int64) :=
  bd (f_X11_mixSlips_l5 n n sl 0 v0) fun v3_9 =>
  some v3_9
set_option maxHeartbeats 4000000 in
set_option maxRecDepth 100000 in
theorem c_X11_mixSlips (l : Launch) (G : va_G) (ct : Nat → ClassId) (sk sv : Nat → Nat) (a : Nat → Nat) (n : Nat) (sl : MV) (v0 : Int64) {r : Int64} (hf : f_X11_mixSlips n sl v0 = some r) : Ctr (l, G, ct, sk, sv) mX11_mixSlips 1 23 [.long v0, .ref (a 0)] (lfS ct a sl) (lfS ct a sl) (some (.long r)) := by
  refine ctr_intro (by decide) (Nat.le_of_ble_eq_true rfl) ?_
  intro p e s m args below meth c A C hP hD hS hA ls hl
  obtain ⟨hx, hb, hml, hown, hts, hr, hlocks, hK, hnm, hZ⟩ := C
  have hb : c.code = cX11_mixSlips := hb
  have hml : c.maxLocals = 6 := hml
  have hown : s.vm.findClass "SignedOutside" = some m.cls := hown
  have hr : meth.sig.returnType = some .long := hr
  have hP : va_P G classes (lfS ct a sl) s.heap := hP
  have hD : va_D A (lfS ct a sl) := hD
  have hK : va_K G classes (TYS ct) s := hK
  have hl : lv_has ls 6 [(0, .long v0), (2, .ref (a 0))] := hl
  have L5 : ∀ (fu : Nat) (v5 : Int32) (v3 : Int64) (ex : Int64) (H : Heap) (locs : List Loc) (ls : Array Slot), va_P G classes (lfS ct a sl) H → va_D A (lfS ct a sl) → va_S A s.heap H locs → lv_has ls 6 [(5, .int v5), (3, .long v3), (2, .ref (a 0))] → f_X11_mixSlips_l5 fu n sl v5 v3 = some ex → (∀ (x : Int64), ex = x → ∀ (H : Heap) (locs : List Loc) (ls : Array Slot), va_P G classes (lfS ct a sl) H → va_D A (lfS ct a sl) → va_S A s.heap H locs → lv_has ls 6 [(3, .long x)] → WG l G ct sk sv p e (RM 1 23 0 0) s m args below meth c A (Eq2 (some (.long r)) (lfS ct a sl)) H locs (F0 m 55 ls [])) → WG l G ct sk sv p e (RM 1 23 0 0) s m args below meth c A (Eq2 (some (.long r)) (lfS ct a sl)) H locs (F0 m 5 ls []) := by
    intro fu
    induction fu with
    | zero =>
      intro v5 v3 ex H locs ls hP hD hS hl hf
      exact absurd hf (by unfold f_X11_mixSlips_l5 lp; exact fun h => by cases h)
    | succ fu ih =>
      intro v5 v3 ex H locs ls hP hD hS hl hf hE
      unfold f_X11_mixSlips_l5 at hf
      obtain ⟨q, hf, hor⟩ := lp_e hf
      replace hf : f_X11_mixSlips_b5 n sl v5 v3 = some q := hf
      unfold f_X11_mixSlips_b5 at hf
      refine lv_iload hx hb dX11_mixSlips_5 (lv_at hl 0 rfl) ?_
      refine lv_aload_n hx hb dX11_mixSlips_7 rfl (lv_at hl 2 rfl) ?_
      refine va_get (D := G) (C := RX8) (T := TX8) (N := 4) (v := .int (sl.1 0)) hx hb hts iu_X8 hown hK hP 0 rfl rfl 0 (by decide) (hts _ kw87) (fun _ h9 => h9) rfl dX11_mixSlips_8 ?_
      refine lv_icmp_ge (tgt := 55) hx hb dX11_mixSlips_11 (by decide) (fun c_1 => ?_) (fun c_1 => ?_)
      · replace hf := bc_t hf c_1
        exact hE v3 (lp_inr hor hf).symm _ _ _ hP hD hS (lv_sub hl [1] rfl)
      · replace hf := bc_f hf c_1
        refine lv_lload_n hx hb dX11_mixSlips_14 rfl (lv_at hl 1 rfl) ?_
        refine lv_aload_n hx hb dX11_mixSlips_15 rfl (lv_at hl 2 rfl) ?_
        refine va_get (D := G) (C := RX8) (T := TX8) (N := 4) (v := .ref (a 1)) hx hb hts iu_X8 hown hK hP 0 rfl rfl 1 (by decide) (hts _ kw89) (fun _ h9 => h9) rfl dX11_mixSlips_16 ?_
        refine lv_iload hx hb dX11_mixSlips_19 (lv_at hl 0 rfl) ?_
        obtain ⟨g_2, hf⟩ := gd_e hf
        refine va_iald (f := sl.2.1 0) hx hb hK hP 1 0 rfl rfl g_2 dX11_mixSlips_21 ?_
        refine lv_i2l (v := (sl.2.1 0 (ix v5) : Int32).toInt64) hx hb dX11_mixSlips_22 rfl ?_
        obtain ⟨r_3, hc3, hf⟩ := bd_e hf
        refine call_S (As := [.long v3, .long ((sl.2.1 0 (ix v5) : Int32).toInt64)]) (rest := []) hx hb hml hown hts hK hP hD hS hA hZ lkX11_327 (Ctr.up (W := (lfS ct a sl)) (W' := (lfS ct a sl)) (c_X11_mix l G ct sk sv  n v3 ((sl.2.1 0 (ix v5) : Int32).toInt64) hc3) [] [0, 1, 2, 3] [0, 1, 2, 3] rfl rfl rfl rfl (by decide) rfl rfl) ⟨Nat.le_of_ble_eq_true rfl, Nat.le_of_ble_eq_true rfl⟩ rfl hl.1 rfl (Nat.le_of_ble_eq_true rfl) dX11_mixSlips_23 ⟨Nat.le_of_ble_eq_true rfl, Nat.le_of_ble_eq_true rfl⟩ (fun r9 w9 H locs hB hP hD hS => ?_)
        obtain ⟨rfl, rfl⟩ := hB
        refine WG_eq (g2 := F0 m 26 ls [.long r_3]) rfl ?_
        refine lv_aload_n hx hb dX11_mixSlips_26 rfl (lv_at hl 2 rfl) ?_
        refine va_get (D := G) (C := RX8) (T := TX8) (N := 4) (v := .ref (a 2)) hx hb hts iu_X8 hown hK hP 0 rfl rfl 2 (by decide) (hts _ kw91) (fun _ h9 => h9) rfl dX11_mixSlips_27 ?_
        refine lv_iload hx hb dX11_mixSlips_30 (lv_at hl 0 rfl) ?_
        obtain ⟨g_4, hf⟩ := gd_e hf
        refine va_iald (f := sl.2.1 1) hx hb hK hP 2 0 rfl rfl g_4 dX11_mixSlips_32 ?_
        refine lv_i2l (v := (sl.2.1 1 (ix v5) : Int32).toInt64) hx hb dX11_mixSlips_33 rfl ?_
        obtain ⟨r_5, hc5, hf⟩ := bd_e hf
        refine call_S (As := [.long r_3, .long ((sl.2.1 1 (ix v5) : Int32).toInt64)]) (rest := []) hx hb hml hown hts hK hP hD hS hA hZ lkX11_327 (Ctr.up (W := (lfS ct a sl)) (W' := (lfS ct a sl)) (c_X11_mix l G ct sk sv  n r_3 ((sl.2.1 1 (ix v5) : Int32).toInt64) hc5) [] [0, 1, 2, 3] [0, 1, 2, 3] rfl rfl rfl rfl (by decide) rfl rfl) ⟨Nat.le_of_ble_eq_true rfl, Nat.le_of_ble_eq_true rfl⟩ rfl hl.1 rfl (Nat.le_of_ble_eq_true rfl) dX11_mixSlips_34 ⟨Nat.le_of_ble_eq_true rfl, Nat.le_of_ble_eq_true rfl⟩ (fun r9 w9 H locs hB hP hD hS => ?_)
        obtain ⟨rfl, rfl⟩ := hB
        refine WG_eq (g2 := F0 m 37 ls [.long r_5]) rfl ?_
        refine lv_aload_n hx hb dX11_mixSlips_37 rfl (lv_at hl 2 rfl) ?_
        refine va_get (D := G) (C := RX8) (T := TX8) (N := 4) (v := .ref (a 3)) hx hb hts iu_X8 hown hK hP 0 rfl rfl 3 (by decide) (hts _ kw93) (fun _ h9 => h9) rfl dX11_mixSlips_38 ?_
        refine lv_iload hx hb dX11_mixSlips_41 (lv_at hl 0 rfl) ?_
        obtain ⟨g_6, hf⟩ := gd_e hf
        refine va_iald (f := sl.2.1 2) hx hb hK hP 3 0 rfl rfl g_6 dX11_mixSlips_43 ?_
        refine lv_i2l (v := (sl.2.1 2 (ix v5) : Int32).toInt64) hx hb dX11_mixSlips_44 rfl ?_
        obtain ⟨r_7, hc7, hf⟩ := bd_e hf
        refine call_S (As := [.long r_5, .long ((sl.2.1 2 (ix v5) : Int32).toInt64)]) (rest := []) hx hb hml hown hts hK hP hD hS hA hZ lkX11_327 (Ctr.up (W := (lfS ct a sl)) (W' := (lfS ct a sl)) (c_X11_mix l G ct sk sv  n r_5 ((sl.2.1 2 (ix v5) : Int32).toInt64) hc7) [] [0, 1, 2, 3] [0, 1, 2, 3] rfl rfl rfl rfl (by decide) rfl rfl) ⟨Nat.le_of_ble_eq_true rfl, Nat.le_of_ble_eq_true rfl⟩ rfl hl.1 rfl (Nat.le_of_ble_eq_true rfl) dX11_mixSlips_45 ⟨Nat.le_of_ble_eq_true rfl, Nat.le_of_ble_eq_true rfl⟩ (fun r9 w9 H locs hB hP hD hS => ?_)
        obtain ⟨rfl, rfl⟩ := hB
        refine WG_eq (g2 := F0 m 48 ls [.long r_7]) rfl ?_
        refine lv_lstore_n (lv' := [(3, .long r_7), (5, .int v5), (2, .ref (a 0))]) hx hb dX11_mixSlips_48 rfl hl (by decide) rfl (fun ls hl => ?_)
        obtain ⟨v5_8, ev5_8, hf⟩ := bl_e hf
        refine lv_iinc (v := v5_8) (lv' := [(5, .int v5_8), (3, .long r_7), (2, .ref (a 0))]) hx hb dX11_mixSlips_49 hl (k := 1) rfl ev5_8 (by decide) rfl (fun ls hl => ?_)
        refine lv_goto (tgt := 5) hx hb dX11_mixSlips_52 (by decide) ?_
        exact ih v5_8 r_7 ex _ _ _ hP hD hS hl (lp_inl hor hf) hE
  unfold f_X11_mixSlips at hf
  show WG l G ct sk sv p e (RM 1 23 0 0) s m args below meth c A (Eq2 (some (.long r)) (lfS ct a sl)) s.heap [] (F0 m 0 ls [])
  refine lv_lload_n hx hb dX11_mixSlips_0 rfl (lv_at hl 0 rfl) ?_
  refine lv_lstore_n (lv' := [(3, .long v0), (0, .long v0), (2, .ref (a 0))]) hx hb dX11_mixSlips_1 rfl hl (by decide) rfl (fun ls hl => ?_)
  refine lv_iconst (v := 0) hx hb dX11_mixSlips_2 (by decide) ?_
  refine lv_istore (lv' := [(5, .int 0), (3, .long v0), (0, .long v0), (2, .ref (a 0))]) hx hb dX11_mixSlips_3 hl (by decide) rfl (fun ls hl => ?_)
  obtain ⟨v3_9, hx_10, hf⟩ := bd_e hf
  refine L5 n 0 v0 v3_9 _ _ _ hP hD hS (lv_sub hl [0, 1, 3] rfl) hx_10 ?_
  intro x9 e9 H locs ls hP hD hS hl
  subst e9
  have hP : va_P G classes (lfS ct a sl) H := hP
  have hD : va_D A (lfS ct a sl) := hD
  have hl : lv_has ls 6 [(3, .long v3_9)] := hl
  refine lv_lload_n hx hb dX11_mixSlips_55 rfl (lv_at hl 0 rfl) ?_
  have e1 := Option.some.inj hf
  exact end_l (w' := (lfS ct a sl)) hx hb hr hlocks hK hP hD hS dX11_mixSlips_56  ⟨by rw [← e1], rfl⟩
noncomputable def f_X11_digest_b6 (n : Nat) (x : MV) (rv : MV) (h0 : MV) (nt0 : MV) (cv0 : MV) (ps0 : MV) (v3 : Int32) (v1 : Int64) : Option ((Int32 × Int64) ⊕ (Int64)) :=
  bc (7 < v3) (some (.inr v1))
  (bd (f_X11_howMany n x rv h0 nt0 cv0 ps0 v3) fun r_2 =>
  bd (f_X11_mix n v1 ((r_2 : Int32).toInt64)) fun r_3 =>
  bl (v3 + 1) fun v3_4 =>
  some (.inl (v3_4, r_3)))
noncomputable def f_X11_digest_l6 (fu : Nat) (n : Nat) (x : MV) (rv : MV) (h0 : MV) (nt0 : MV) (cv0 : MV) (ps0 : MV) (v3 : Int32) (v1 : Int64) : Option (Int64) :=
  lp (fun q => f_X11_digest_b6 n x rv h0 nt0 cv0 ps0 q.1 q.2) fu (v3, v1)
noncomputable def f_X11_digest_b55 (n : Nat) (x : MV) (rv : MV) (h0 : MV) (nt0 : MV) (cv0 : MV) (ps0 : MV) (v3 : Int32) (v1 : Int64) : Option ((Int32 × Int64) ⊕ (Int64)) :=
  bc ((h0.1 0) ≤ v3) (some (.inr v1))
  (gd (vp_in v3 5) <|
  bd (f_X11_mix n v1 ((h0.2.1 0 (ix v3) : Int32).toInt64)) fun r_7 =>
  gd (vp_in v3 5) <|
  bd (f_X11_mix n r_7 ((h0.2.1 1 (ix v3) : Int32).toInt64)) fun r_9 =>
  gd (vp_in v3 5) <|
  bd (f_X11_mix n r_9 ((h0.2.1 2 (ix v3) : Int32).toInt64)) fun r_11 =>
  bl (v3 + 1) fun v3_12 =>
  some (.inl (v3_12, r_11)))
noncomputable def f_X11_digest_l55 (fu : Nat) (n : Nat) (x : MV) (rv : MV) (h0 : MV) (nt0 : MV) (cv0 : MV) (ps0 : MV) (v3 : Int32) (v1 : Int64) : Option (Int64) :=
  lp (fun q => f_X11_digest_b55 n x rv h0 nt0 cv0 ps0 q.1 q.2) fu (v3, v1)
noncomputable def f_X11_digest_b115 (n : Nat) (x : MV) (rv : MV) (h0 : MV) (nt0 : MV) (cv0 : MV) (ps0 : MV) (v3 : Int32) (v1 : Int64) : Option ((Int32 × Int64) ⊕ (Int64)) :=
  bc ((h0.1 1) ≤ v3) (some (.inr v1))
  (gd (vp_in v3 6) <|
  bd (f_X11_mix n v1 ((h0.2.1 3 (ix v3) : Int32).toInt64)) fun r_15 =>
  gd (vp_in v3 6) <|
  bd (f_X11_mix n r_15 ((h0.2.1 4 (ix v3) : Int32).toInt64)) fun r_17 =>
  gd (vp_in v3 6) <|
  bd (f_X11_mix n r_17 ((h0.2.1 5 (ix v3) : Int32).toInt64)) fun r_19 =>
  gd (vp_in v3 6) <|
  bd (f_X11_mix n r_19 ((h0.2.1 6 (ix v3) : Int32).toInt64)) fun r_21 =>
  bl (v3 + 1) fun v3_22 =>
  some (.inl (v3_22, r_21)))
noncomputable def f_X11_digest_l115 (fu : Nat) (n : Nat) (x : MV) (rv : MV) (h0 : MV) (nt0 : MV) (cv0 : MV) (ps0 : MV) (v3 : Int32) (v1 : Int64) : Option (Int64) :=
  lp (fun q => f_X11_digest_b115 n x rv h0 nt0 cv0 ps0 q.1 q.2) fu (v3, v1)
noncomputable def f_X11_digest (n : Nat) (x : MV) (rv : MV) (h0 : MV) (nt0 : MV) (cv0 : MV) (ps0 : MV) : Option (Int64) :=
  bd (f_X11_digest_l6 n n x rv h0 nt0 cv0 ps0 0 1289) fun v1_23 =>
  bd (f_X11_mix n v1_23 ((h0.1 3 : Int32).toInt64)) fun r_25 =>
  bd (f_X11_mix n r_25 ((h0.1 4 : Int32).toInt64)) fun r_26 =>
  bd (f_X11_digest_l55 n n x rv h0 nt0 cv0 ps0 0 r_26) fun v1_27 =>
  bd (f_X11_digest_l115 n n x rv h0 nt0 cv0 ps0 0 v1_27) fun v1_29 =>
  bd (f_X11_mixSlips n cv0 v1_29) fun r_31 =>
  bd (f_X11_mixSlips n nt0 r_31) fun r_32 =>
  bd (f_X11_mix n r_32 (x.2.2 0)) fun r_33 =>
  bd (f_X11_mix n r_33 (x.2.2 1)) fun r_34 =>
  some r_34
set_option maxHeartbeats 4000000 in
set_option maxRecDepth 100000 in
theorem c_X11_digest (l : Launch) (G : va_G) (ct : Nat → ClassId) (sk sv : Nat → Nat) (g : Nat → Nat) (n : Nat) (x : MV) (rv : MV) (h0 : MV) (nt0 : MV) (cv0 : MV) (ps0 : MV) {r : Int64} (hf : f_X11_digest n x rv h0 nt0 cv0 ps0 = some r) : Ctr (l, G, ct, sk, sv) mX11_digest 3 64 [.ref (g 7)] (lfX ct g x ++ (lfR ct (fun j => g (18 + j)) rv ++ (lfH ct (hsA g 0) g h0 ++ (lfS ct (fun j => (hsA g 0) (12 + j)) nt0 ++ (lfS ct (fun j => (hsA g 0) (8 + j)) cv0 ++ (lfP ct (fun j => (hsA g 0) (16 + j)) ps0)))))) (lfX ct g x ++ (lfR ct (fun j => g (18 + j)) rv ++ (lfH ct (hsA g 0) g h0 ++ (lfS ct (fun j => (hsA g 0) (12 + j)) nt0 ++ (lfS ct (fun j => (hsA g 0) (8 + j)) cv0 ++ (lfP ct (fun j => (hsA g 0) (16 + j)) ps0)))))) (some (.long r)) := by
  refine ctr_intro (by decide) (Nat.le_of_ble_eq_true rfl) ?_
  intro p e s m args below meth c A C hP hD hS hA ls hl
  obtain ⟨hx, hb, hml, hown, hts, hr, hlocks, hK, hnm, hZ⟩ := C
  have hb : c.code = cX11_digest := hb
  have hml : c.maxLocals = 4 := hml
  have hown : s.vm.findClass "SignedOutside" = some m.cls := hown
  have hr : meth.sig.returnType = some .long := hr
  have hP : va_P G classes (lfX ct g x ++ (lfR ct (fun j => g (18 + j)) rv ++ (lfH ct (hsA g 0) g h0 ++ (lfS ct (fun j => (hsA g 0) (12 + j)) nt0 ++ (lfS ct (fun j => (hsA g 0) (8 + j)) cv0 ++ (lfP ct (fun j => (hsA g 0) (16 + j)) ps0)))))) s.heap := hP
  have hD : va_D A (lfX ct g x ++ (lfR ct (fun j => g (18 + j)) rv ++ (lfH ct (hsA g 0) g h0 ++ (lfS ct (fun j => (hsA g 0) (12 + j)) nt0 ++ (lfS ct (fun j => (hsA g 0) (8 + j)) cv0 ++ (lfP ct (fun j => (hsA g 0) (16 + j)) ps0)))))) := hD
  have hK : va_K G classes (TYS ct) s := hK
  have hl : lv_has ls 4 [(0, .ref (g 7))] := hl
  have L6 : ∀ (fu : Nat) (v3 : Int32) (v1 : Int64) (ex : Int64) (H : Heap) (locs : List Loc) (ls : Array Slot), va_P G classes (lfX ct g x ++ (lfR ct (fun j => g (18 + j)) rv ++ (lfH ct (hsA g 0) g h0 ++ (lfS ct (fun j => (hsA g 0) (12 + j)) nt0 ++ (lfS ct (fun j => (hsA g 0) (8 + j)) cv0 ++ (lfP ct (fun j => (hsA g 0) (16 + j)) ps0)))))) H → va_D A (lfX ct g x ++ (lfR ct (fun j => g (18 + j)) rv ++ (lfH ct (hsA g 0) g h0 ++ (lfS ct (fun j => (hsA g 0) (12 + j)) nt0 ++ (lfS ct (fun j => (hsA g 0) (8 + j)) cv0 ++ (lfP ct (fun j => (hsA g 0) (16 + j)) ps0)))))) → va_S A s.heap H locs → lv_has ls 4 [(3, .int v3), (1, .long v1), (0, .ref (g 7))] → f_X11_digest_l6 fu n x rv h0 nt0 cv0 ps0 v3 v1 = some ex → (∀ (x : Int64), ex = x → ∀ (H : Heap) (locs : List Loc) (ls : Array Slot), va_P G classes (lfX ct g x ++ (lfR ct (fun j => g (18 + j)) rv ++ (lfH ct (hsA g 0) g h0 ++ (lfS ct (fun j => (hsA g 0) (12 + j)) nt0 ++ (lfS ct (fun j => (hsA g 0) (8 + j)) cv0 ++ (lfP ct (fun j => (hsA g 0) (16 + j)) ps0)))))) H → va_D A (lfX ct g x ++ (lfR ct (fun j => g (18 + j)) rv ++ (lfH ct (hsA g 0) g h0 ++ (lfS ct (fun j => (hsA g 0) (12 + j)) nt0 ++ (lfS ct (fun j => (hsA g 0) (8 + j)) cv0 ++ (lfP ct (fun j => (hsA g 0) (16 + j)) ps0)))))) → va_S A s.heap H locs → lv_has ls 4 [(1, .long x), (0, .ref (g 7))] → WG l G ct sk sv p e (RM 3 64 0 0) s m args below meth c A (Eq2 (some (.long r)) (lfX ct g x ++ (lfR ct (fun j => g (18 + j)) rv ++ (lfH ct (hsA g 0) g h0 ++ (lfS ct (fun j => (hsA g 0) (12 + j)) nt0 ++ (lfS ct (fun j => (hsA g 0) (8 + j)) cv0 ++ (lfP ct (fun j => (hsA g 0) (16 + j)) ps0))))))) H locs (F0 m 29 ls [])) → WG l G ct sk sv p e (RM 3 64 0 0) s m args below meth c A (Eq2 (some (.long r)) (lfX ct g x ++ (lfR ct (fun j => g (18 + j)) rv ++ (lfH ct (hsA g 0) g h0 ++ (lfS ct (fun j => (hsA g 0) (12 + j)) nt0 ++ (lfS ct (fun j => (hsA g 0) (8 + j)) cv0 ++ (lfP ct (fun j => (hsA g 0) (16 + j)) ps0))))))) H locs (F0 m 6 ls []) := by
    intro fu
    induction fu with
    | zero =>
      intro v3 v1 ex H locs ls hP hD hS hl hf
      exact absurd hf (by unfold f_X11_digest_l6 lp; exact fun h => by cases h)
    | succ fu ih =>
      intro v3 v1 ex H locs ls hP hD hS hl hf hE
      unfold f_X11_digest_l6 at hf
      obtain ⟨q, hf, hor⟩ := lp_e hf
      replace hf : f_X11_digest_b6 n x rv h0 nt0 cv0 ps0 v3 v1 = some q := hf
      unfold f_X11_digest_b6 at hf
      refine lv_iload_n hx hb dX11_digest_6 rfl (lv_at hl 0 rfl) ?_
      refine lv_bipush (v := 7) hx hb dX11_digest_7 (by decide) ?_
      refine lv_icmp_gt (tgt := 29) hx hb dX11_digest_9 (by decide) (fun c_1 => ?_) (fun c_1 => ?_)
      · replace hf := bc_t hf c_1
        exact hE v1 (lp_inr hor hf).symm _ _ _ hP hD hS (lv_sub hl [1, 2] rfl)
      · replace hf := bc_f hf c_1
        refine lv_lload_n hx hb dX11_digest_12 rfl (lv_at hl 1 rfl) ?_
        refine lv_aload_n hx hb dX11_digest_13 rfl (lv_at hl 2 rfl) ?_
        refine lv_iload_n hx hb dX11_digest_14 rfl (lv_at hl 0 rfl) ?_
        obtain ⟨r_2, hc2, hf⟩ := bd_e hf
        refine call_V (As := [.int v3]) (rest := [.long v1]) hx hb hml hown hts hK hP hD hS hA hZ lkX11_322 (c_X11_howMany l G ct sk sv g n x rv h0 nt0 cv0 ps0 v3 hc2) 0 rfl rfl ⟨Nat.le_of_ble_eq_true rfl, Nat.le_of_ble_eq_true rfl⟩ rfl hl.1 rfl (Nat.le_of_ble_eq_true rfl) dX11_digest_15 ⟨Nat.le_of_ble_eq_true rfl, Nat.le_of_ble_eq_true rfl⟩ (fun r9 w9 H locs hB hP hD hS => ?_)
        obtain ⟨rfl, rfl⟩ := hB
        refine WG_eq (g2 := F0 m 18 ls [.int r_2, .long v1]) rfl ?_
        refine lv_i2l (v := (r_2 : Int32).toInt64) hx hb dX11_digest_18 rfl ?_
        obtain ⟨r_3, hc3, hf⟩ := bd_e hf
        refine call_S (As := [.long v1, .long ((r_2 : Int32).toInt64)]) (rest := []) hx hb hml hown hts hK hP hD hS hA hZ lkX11_327 (Ctr.up (W := (lfX ct g x ++ (lfR ct (fun j => g (18 + j)) rv ++ (lfH ct (hsA g 0) g h0 ++ (lfS ct (fun j => (hsA g 0) (12 + j)) nt0 ++ (lfS ct (fun j => (hsA g 0) (8 + j)) cv0 ++ (lfP ct (fun j => (hsA g 0) (16 + j)) ps0))))))) (W' := (lfX ct g x ++ (lfR ct (fun j => g (18 + j)) rv ++ (lfH ct (hsA g 0) g h0 ++ (lfS ct (fun j => (hsA g 0) (12 + j)) nt0 ++ (lfS ct (fun j => (hsA g 0) (8 + j)) cv0 ++ (lfP ct (fun j => (hsA g 0) (16 + j)) ps0))))))) (c_X11_mix l G ct sk sv  n v1 ((r_2 : Int32).toInt64) hc3) [] [0, 1, 2, 3, 4, 5, 6, 7, 8, 9, 10, 11, 12, 13, 14, 15, 16, 17, 18, 19, 20, 21, 22] [0, 1, 2, 3, 4, 5, 6, 7, 8, 9, 10, 11, 12, 13, 14, 15, 16, 17, 18, 19, 20, 21, 22] rfl rfl rfl rfl (by decide) rfl rfl) ⟨Nat.le_of_ble_eq_true rfl, Nat.le_of_ble_eq_true rfl⟩ rfl hl.1 rfl (Nat.le_of_ble_eq_true rfl) dX11_digest_19 ⟨Nat.le_of_ble_eq_true rfl, Nat.le_of_ble_eq_true rfl⟩ (fun r9 w9 H locs hB hP hD hS => ?_)
        obtain ⟨rfl, rfl⟩ := hB
        refine WG_eq (g2 := F0 m 22 ls [.long r_3]) rfl ?_
        refine lv_lstore_n (lv' := [(1, .long r_3), (3, .int v3), (0, .ref (g 7))]) hx hb dX11_digest_22 rfl hl (by decide) rfl (fun ls hl => ?_)
        obtain ⟨v3_4, ev3_4, hf⟩ := bl_e hf
        refine lv_iinc (v := v3_4) (lv' := [(3, .int v3_4), (1, .long r_3), (0, .ref (g 7))]) hx hb dX11_digest_23 hl (k := 1) rfl ev3_4 (by decide) rfl (fun ls hl => ?_)
        refine lv_goto (tgt := 6) hx hb dX11_digest_26 (by decide) ?_
        exact ih v3_4 r_3 ex _ _ _ hP hD hS hl (lp_inl hor hf) hE
  have L55 : ∀ (fu : Nat) (v3 : Int32) (v1 : Int64) (ex : Int64) (H : Heap) (locs : List Loc) (ls : Array Slot), va_P G classes (lfX ct g x ++ (lfR ct (fun j => g (18 + j)) rv ++ (lfH ct (hsA g 0) g h0 ++ (lfS ct (fun j => (hsA g 0) (12 + j)) nt0 ++ (lfS ct (fun j => (hsA g 0) (8 + j)) cv0 ++ (lfP ct (fun j => (hsA g 0) (16 + j)) ps0)))))) H → va_D A (lfX ct g x ++ (lfR ct (fun j => g (18 + j)) rv ++ (lfH ct (hsA g 0) g h0 ++ (lfS ct (fun j => (hsA g 0) (12 + j)) nt0 ++ (lfS ct (fun j => (hsA g 0) (8 + j)) cv0 ++ (lfP ct (fun j => (hsA g 0) (16 + j)) ps0)))))) → va_S A s.heap H locs → lv_has ls 4 [(3, .int v3), (1, .long v1), (0, .ref (g 7))] → f_X11_digest_l55 fu n x rv h0 nt0 cv0 ps0 v3 v1 = some ex → (∀ (x : Int64), ex = x → ∀ (H : Heap) (locs : List Loc) (ls : Array Slot), va_P G classes (lfX ct g x ++ (lfR ct (fun j => g (18 + j)) rv ++ (lfH ct (hsA g 0) g h0 ++ (lfS ct (fun j => (hsA g 0) (12 + j)) nt0 ++ (lfS ct (fun j => (hsA g 0) (8 + j)) cv0 ++ (lfP ct (fun j => (hsA g 0) (16 + j)) ps0)))))) H → va_D A (lfX ct g x ++ (lfR ct (fun j => g (18 + j)) rv ++ (lfH ct (hsA g 0) g h0 ++ (lfS ct (fun j => (hsA g 0) (12 + j)) nt0 ++ (lfS ct (fun j => (hsA g 0) (8 + j)) cv0 ++ (lfP ct (fun j => (hsA g 0) (16 + j)) ps0)))))) → va_S A s.heap H locs → lv_has ls 4 [(1, .long x), (0, .ref (g 7))] → WG l G ct sk sv p e (RM 3 64 0 0) s m args below meth c A (Eq2 (some (.long r)) (lfX ct g x ++ (lfR ct (fun j => g (18 + j)) rv ++ (lfH ct (hsA g 0) g h0 ++ (lfS ct (fun j => (hsA g 0) (12 + j)) nt0 ++ (lfS ct (fun j => (hsA g 0) (8 + j)) cv0 ++ (lfP ct (fun j => (hsA g 0) (16 + j)) ps0))))))) H locs (F0 m 113 ls [])) → WG l G ct sk sv p e (RM 3 64 0 0) s m args below meth c A (Eq2 (some (.long r)) (lfX ct g x ++ (lfR ct (fun j => g (18 + j)) rv ++ (lfH ct (hsA g 0) g h0 ++ (lfS ct (fun j => (hsA g 0) (12 + j)) nt0 ++ (lfS ct (fun j => (hsA g 0) (8 + j)) cv0 ++ (lfP ct (fun j => (hsA g 0) (16 + j)) ps0))))))) H locs (F0 m 55 ls []) := by
    intro fu
    induction fu with
    | zero =>
      intro v3 v1 ex H locs ls hP hD hS hl hf
      exact absurd hf (by unfold f_X11_digest_l55 lp; exact fun h => by cases h)
    | succ fu ih =>
      intro v3 v1 ex H locs ls hP hD hS hl hf hE
      unfold f_X11_digest_l55 at hf
      obtain ⟨q, hf, hor⟩ := lp_e hf
      replace hf : f_X11_digest_b55 n x rv h0 nt0 cv0 ps0 v3 v1 = some q := hf
      unfold f_X11_digest_b55 at hf
      refine lv_iload_n hx hb dX11_digest_55 rfl (lv_at hl 0 rfl) ?_
      refine lv_aload_n hx hb dX11_digest_56 rfl (lv_at hl 2 rfl) ?_
      refine va_get (D := G) (C := RX11) (T := TX11) (N := 11) (v := .ref ((hsA g 0) 0)) hx hb hts iu_X11 hown hK hP 0 rfl rfl 0 (by decide) (hts _ kw262) (fun _ h9 => h9) rfl dX11_digest_57 ?_
      refine va_get (D := G) (C := RX1) (T := TX1) (N := 16) (v := .int (h0.1 0)) hx hb hts iu_X1 hown hK hP 5 rfl rfl 1 (by decide) (hts _ kw124) (fun _ h9 => h9) rfl dX11_digest_60 ?_
      refine lv_icmp_ge (tgt := 113) hx hb dX11_digest_63 (by decide) (fun c_5 => ?_) (fun c_5 => ?_)
      · replace hf := bc_t hf c_5
        exact hE v1 (lp_inr hor hf).symm _ _ _ hP hD hS (lv_sub hl [1, 2] rfl)
      · replace hf := bc_f hf c_5
        refine lv_lload_n hx hb dX11_digest_66 rfl (lv_at hl 1 rfl) ?_
        refine lv_aload_n hx hb dX11_digest_67 rfl (lv_at hl 2 rfl) ?_
        refine va_get (D := G) (C := RX11) (T := TX11) (N := 11) (v := .ref ((hsA g 0) 0)) hx hb hts iu_X11 hown hK hP 0 rfl rfl 0 (by decide) (hts _ kw262) (fun _ h9 => h9) rfl dX11_digest_68 ?_
        refine va_get (D := G) (C := RX1) (T := TX1) (N := 16) (v := .ref ((hsA g 0) 1)) hx hb hts iu_X1 hown hK hP 5 rfl rfl 2 (by decide) (hts _ kw128) (fun _ h9 => h9) rfl dX11_digest_71 ?_
        refine lv_iload_n hx hb dX11_digest_74 rfl (lv_at hl 0 rfl) ?_
        obtain ⟨g_6, hf⟩ := gd_e hf
        refine va_iald (f := h0.2.1 0) hx hb hK hP 6 0 rfl rfl g_6 dX11_digest_75 ?_
        refine lv_i2l (v := (h0.2.1 0 (ix v3) : Int32).toInt64) hx hb dX11_digest_76 rfl ?_
        obtain ⟨r_7, hc7, hf⟩ := bd_e hf
        refine call_S (As := [.long v1, .long ((h0.2.1 0 (ix v3) : Int32).toInt64)]) (rest := []) hx hb hml hown hts hK hP hD hS hA hZ lkX11_327 (Ctr.up (W := (lfX ct g x ++ (lfR ct (fun j => g (18 + j)) rv ++ (lfH ct (hsA g 0) g h0 ++ (lfS ct (fun j => (hsA g 0) (12 + j)) nt0 ++ (lfS ct (fun j => (hsA g 0) (8 + j)) cv0 ++ (lfP ct (fun j => (hsA g 0) (16 + j)) ps0))))))) (W' := (lfX ct g x ++ (lfR ct (fun j => g (18 + j)) rv ++ (lfH ct (hsA g 0) g h0 ++ (lfS ct (fun j => (hsA g 0) (12 + j)) nt0 ++ (lfS ct (fun j => (hsA g 0) (8 + j)) cv0 ++ (lfP ct (fun j => (hsA g 0) (16 + j)) ps0))))))) (c_X11_mix l G ct sk sv  n v1 ((h0.2.1 0 (ix v3) : Int32).toInt64) hc7) [] [0, 1, 2, 3, 4, 5, 6, 7, 8, 9, 10, 11, 12, 13, 14, 15, 16, 17, 18, 19, 20, 21, 22] [0, 1, 2, 3, 4, 5, 6, 7, 8, 9, 10, 11, 12, 13, 14, 15, 16, 17, 18, 19, 20, 21, 22] rfl rfl rfl rfl (by decide) rfl rfl) ⟨Nat.le_of_ble_eq_true rfl, Nat.le_of_ble_eq_true rfl⟩ rfl hl.1 rfl (Nat.le_of_ble_eq_true rfl) dX11_digest_77 ⟨Nat.le_of_ble_eq_true rfl, Nat.le_of_ble_eq_true rfl⟩ (fun r9 w9 H locs hB hP hD hS => ?_)
        obtain ⟨rfl, rfl⟩ := hB
        refine WG_eq (g2 := F0 m 80 ls [.long r_7]) rfl ?_
        refine lv_aload_n hx hb dX11_digest_80 rfl (lv_at hl 2 rfl) ?_
        refine va_get (D := G) (C := RX11) (T := TX11) (N := 11) (v := .ref ((hsA g 0) 0)) hx hb hts iu_X11 hown hK hP 0 rfl rfl 0 (by decide) (hts _ kw262) (fun _ h9 => h9) rfl dX11_digest_81 ?_
        refine va_get (D := G) (C := RX1) (T := TX1) (N := 16) (v := .ref ((hsA g 0) 2)) hx hb hts iu_X1 hown hK hP 5 rfl rfl 3 (by decide) (hts _ kw131) (fun _ h9 => h9) rfl dX11_digest_84 ?_
        refine lv_iload_n hx hb dX11_digest_87 rfl (lv_at hl 0 rfl) ?_
        obtain ⟨g_8, hf⟩ := gd_e hf
        refine va_iald (f := h0.2.1 1) hx hb hK hP 7 0 rfl rfl g_8 dX11_digest_88 ?_
        refine lv_i2l (v := (h0.2.1 1 (ix v3) : Int32).toInt64) hx hb dX11_digest_89 rfl ?_
        obtain ⟨r_9, hc9, hf⟩ := bd_e hf
        refine call_S (As := [.long r_7, .long ((h0.2.1 1 (ix v3) : Int32).toInt64)]) (rest := []) hx hb hml hown hts hK hP hD hS hA hZ lkX11_327 (Ctr.up (W := (lfX ct g x ++ (lfR ct (fun j => g (18 + j)) rv ++ (lfH ct (hsA g 0) g h0 ++ (lfS ct (fun j => (hsA g 0) (12 + j)) nt0 ++ (lfS ct (fun j => (hsA g 0) (8 + j)) cv0 ++ (lfP ct (fun j => (hsA g 0) (16 + j)) ps0))))))) (W' := (lfX ct g x ++ (lfR ct (fun j => g (18 + j)) rv ++ (lfH ct (hsA g 0) g h0 ++ (lfS ct (fun j => (hsA g 0) (12 + j)) nt0 ++ (lfS ct (fun j => (hsA g 0) (8 + j)) cv0 ++ (lfP ct (fun j => (hsA g 0) (16 + j)) ps0))))))) (c_X11_mix l G ct sk sv  n r_7 ((h0.2.1 1 (ix v3) : Int32).toInt64) hc9) [] [0, 1, 2, 3, 4, 5, 6, 7, 8, 9, 10, 11, 12, 13, 14, 15, 16, 17, 18, 19, 20, 21, 22] [0, 1, 2, 3, 4, 5, 6, 7, 8, 9, 10, 11, 12, 13, 14, 15, 16, 17, 18, 19, 20, 21, 22] rfl rfl rfl rfl (by decide) rfl rfl) ⟨Nat.le_of_ble_eq_true rfl, Nat.le_of_ble_eq_true rfl⟩ rfl hl.1 rfl (Nat.le_of_ble_eq_true rfl) dX11_digest_90 ⟨Nat.le_of_ble_eq_true rfl, Nat.le_of_ble_eq_true rfl⟩ (fun r9 w9 H locs hB hP hD hS => ?_)
        obtain ⟨rfl, rfl⟩ := hB
        refine WG_eq (g2 := F0 m 93 ls [.long r_9]) rfl ?_
        refine lv_aload_n hx hb dX11_digest_93 rfl (lv_at hl 2 rfl) ?_
        refine va_get (D := G) (C := RX11) (T := TX11) (N := 11) (v := .ref ((hsA g 0) 0)) hx hb hts iu_X11 hown hK hP 0 rfl rfl 0 (by decide) (hts _ kw262) (fun _ h9 => h9) rfl dX11_digest_94 ?_
        refine va_get (D := G) (C := RX1) (T := TX1) (N := 16) (v := .ref ((hsA g 0) 3)) hx hb hts iu_X1 hown hK hP 5 rfl rfl 4 (by decide) (hts _ kw134) (fun _ h9 => h9) rfl dX11_digest_97 ?_
        refine lv_iload_n hx hb dX11_digest_100 rfl (lv_at hl 0 rfl) ?_
        obtain ⟨g_10, hf⟩ := gd_e hf
        refine va_iald (f := h0.2.1 2) hx hb hK hP 8 0 rfl rfl g_10 dX11_digest_101 ?_
        refine lv_i2l (v := (h0.2.1 2 (ix v3) : Int32).toInt64) hx hb dX11_digest_102 rfl ?_
        obtain ⟨r_11, hc11, hf⟩ := bd_e hf
        refine call_S (As := [.long r_9, .long ((h0.2.1 2 (ix v3) : Int32).toInt64)]) (rest := []) hx hb hml hown hts hK hP hD hS hA hZ lkX11_327 (Ctr.up (W := (lfX ct g x ++ (lfR ct (fun j => g (18 + j)) rv ++ (lfH ct (hsA g 0) g h0 ++ (lfS ct (fun j => (hsA g 0) (12 + j)) nt0 ++ (lfS ct (fun j => (hsA g 0) (8 + j)) cv0 ++ (lfP ct (fun j => (hsA g 0) (16 + j)) ps0))))))) (W' := (lfX ct g x ++ (lfR ct (fun j => g (18 + j)) rv ++ (lfH ct (hsA g 0) g h0 ++ (lfS ct (fun j => (hsA g 0) (12 + j)) nt0 ++ (lfS ct (fun j => (hsA g 0) (8 + j)) cv0 ++ (lfP ct (fun j => (hsA g 0) (16 + j)) ps0))))))) (c_X11_mix l G ct sk sv  n r_9 ((h0.2.1 2 (ix v3) : Int32).toInt64) hc11) [] [0, 1, 2, 3, 4, 5, 6, 7, 8, 9, 10, 11, 12, 13, 14, 15, 16, 17, 18, 19, 20, 21, 22] [0, 1, 2, 3, 4, 5, 6, 7, 8, 9, 10, 11, 12, 13, 14, 15, 16, 17, 18, 19, 20, 21, 22] rfl rfl rfl rfl (by decide) rfl rfl) ⟨Nat.le_of_ble_eq_true rfl, Nat.le_of_ble_eq_true rfl⟩ rfl hl.1 rfl (Nat.le_of_ble_eq_true rfl) dX11_digest_103 ⟨Nat.le_of_ble_eq_true rfl, Nat.le_of_ble_eq_true rfl⟩ (fun r9 w9 H locs hB hP hD hS => ?_)
        obtain ⟨rfl, rfl⟩ := hB
        refine WG_eq (g2 := F0 m 106 ls [.long r_11]) rfl ?_
        refine lv_lstore_n (lv' := [(1, .long r_11), (3, .int v3), (0, .ref (g 7))]) hx hb dX11_digest_106 rfl hl (by decide) rfl (fun ls hl => ?_)
        obtain ⟨v3_12, ev3_12, hf⟩ := bl_e hf
        refine lv_iinc (v := v3_12) (lv' := [(3, .int v3_12), (1, .long r_11), (0, .ref (g 7))]) hx hb dX11_digest_107 hl (k := 1) rfl ev3_12 (by decide) rfl (fun ls hl => ?_)
        refine lv_goto (tgt := 55) hx hb dX11_digest_110 (by decide) ?_
        exact ih v3_12 r_11 ex _ _ _ hP hD hS hl (lp_inl hor hf) hE
  have L115 : ∀ (fu : Nat) (v3 : Int32) (v1 : Int64) (ex : Int64) (H : Heap) (locs : List Loc) (ls : Array Slot), va_P G classes (lfX ct g x ++ (lfR ct (fun j => g (18 + j)) rv ++ (lfH ct (hsA g 0) g h0 ++ (lfS ct (fun j => (hsA g 0) (12 + j)) nt0 ++ (lfS ct (fun j => (hsA g 0) (8 + j)) cv0 ++ (lfP ct (fun j => (hsA g 0) (16 + j)) ps0)))))) H → va_D A (lfX ct g x ++ (lfR ct (fun j => g (18 + j)) rv ++ (lfH ct (hsA g 0) g h0 ++ (lfS ct (fun j => (hsA g 0) (12 + j)) nt0 ++ (lfS ct (fun j => (hsA g 0) (8 + j)) cv0 ++ (lfP ct (fun j => (hsA g 0) (16 + j)) ps0)))))) → va_S A s.heap H locs → lv_has ls 4 [(3, .int v3), (1, .long v1), (0, .ref (g 7))] → f_X11_digest_l115 fu n x rv h0 nt0 cv0 ps0 v3 v1 = some ex → (∀ (x : Int64), ex = x → ∀ (H : Heap) (locs : List Loc) (ls : Array Slot), va_P G classes (lfX ct g x ++ (lfR ct (fun j => g (18 + j)) rv ++ (lfH ct (hsA g 0) g h0 ++ (lfS ct (fun j => (hsA g 0) (12 + j)) nt0 ++ (lfS ct (fun j => (hsA g 0) (8 + j)) cv0 ++ (lfP ct (fun j => (hsA g 0) (16 + j)) ps0)))))) H → va_D A (lfX ct g x ++ (lfR ct (fun j => g (18 + j)) rv ++ (lfH ct (hsA g 0) g h0 ++ (lfS ct (fun j => (hsA g 0) (12 + j)) nt0 ++ (lfS ct (fun j => (hsA g 0) (8 + j)) cv0 ++ (lfP ct (fun j => (hsA g 0) (16 + j)) ps0)))))) → va_S A s.heap H locs → lv_has ls 4 [(1, .long x), (0, .ref (g 7))] → WG l G ct sk sv p e (RM 3 64 0 0) s m args below meth c A (Eq2 (some (.long r)) (lfX ct g x ++ (lfR ct (fun j => g (18 + j)) rv ++ (lfH ct (hsA g 0) g h0 ++ (lfS ct (fun j => (hsA g 0) (12 + j)) nt0 ++ (lfS ct (fun j => (hsA g 0) (8 + j)) cv0 ++ (lfP ct (fun j => (hsA g 0) (16 + j)) ps0))))))) H locs (F0 m 188 ls [])) → WG l G ct sk sv p e (RM 3 64 0 0) s m args below meth c A (Eq2 (some (.long r)) (lfX ct g x ++ (lfR ct (fun j => g (18 + j)) rv ++ (lfH ct (hsA g 0) g h0 ++ (lfS ct (fun j => (hsA g 0) (12 + j)) nt0 ++ (lfS ct (fun j => (hsA g 0) (8 + j)) cv0 ++ (lfP ct (fun j => (hsA g 0) (16 + j)) ps0))))))) H locs (F0 m 115 ls []) := by
    intro fu
    induction fu with
    | zero =>
      intro v3 v1 ex H locs ls hP hD hS hl hf
      exact absurd hf (by unfold f_X11_digest_l115 lp; exact fun h => by cases h)
    | succ fu ih =>
      intro v3 v1 ex H locs ls hP hD hS hl hf hE
      unfold f_X11_digest_l115 at hf
      obtain ⟨q, hf, hor⟩ := lp_e hf
      replace hf : f_X11_digest_b115 n x rv h0 nt0 cv0 ps0 v3 v1 = some q := hf
      unfold f_X11_digest_b115 at hf
      refine lv_iload_n hx hb dX11_digest_115 rfl (lv_at hl 0 rfl) ?_
      refine lv_aload_n hx hb dX11_digest_116 rfl (lv_at hl 2 rfl) ?_
      refine va_get (D := G) (C := RX11) (T := TX11) (N := 11) (v := .ref ((hsA g 0) 0)) hx hb hts iu_X11 hown hK hP 0 rfl rfl 0 (by decide) (hts _ kw262) (fun _ h9 => h9) rfl dX11_digest_117 ?_
      refine va_get (D := G) (C := RX1) (T := TX1) (N := 16) (v := .int (h0.1 1)) hx hb hts iu_X1 hown hK hP 5 rfl rfl 5 (by decide) (hts _ kw137) (fun _ h9 => h9) rfl dX11_digest_120 ?_
      refine lv_icmp_ge (tgt := 188) hx hb dX11_digest_123 (by decide) (fun c_13 => ?_) (fun c_13 => ?_)
      · replace hf := bc_t hf c_13
        exact hE v1 (lp_inr hor hf).symm _ _ _ hP hD hS (lv_sub hl [1, 2] rfl)
      · replace hf := bc_f hf c_13
        refine lv_lload_n hx hb dX11_digest_126 rfl (lv_at hl 1 rfl) ?_
        refine lv_aload_n hx hb dX11_digest_127 rfl (lv_at hl 2 rfl) ?_
        refine va_get (D := G) (C := RX11) (T := TX11) (N := 11) (v := .ref ((hsA g 0) 0)) hx hb hts iu_X11 hown hK hP 0 rfl rfl 0 (by decide) (hts _ kw262) (fun _ h9 => h9) rfl dX11_digest_128 ?_
        refine va_get (D := G) (C := RX1) (T := TX1) (N := 16) (v := .ref ((hsA g 0) 4)) hx hb hts iu_X1 hown hK hP 5 rfl rfl 6 (by decide) (hts _ kw140) (fun _ h9 => h9) rfl dX11_digest_131 ?_
        refine lv_iload_n hx hb dX11_digest_134 rfl (lv_at hl 0 rfl) ?_
        obtain ⟨g_14, hf⟩ := gd_e hf
        refine va_iald (f := h0.2.1 3) hx hb hK hP 9 0 rfl rfl g_14 dX11_digest_135 ?_
        refine lv_i2l (v := (h0.2.1 3 (ix v3) : Int32).toInt64) hx hb dX11_digest_136 rfl ?_
        obtain ⟨r_15, hc15, hf⟩ := bd_e hf
        refine call_S (As := [.long v1, .long ((h0.2.1 3 (ix v3) : Int32).toInt64)]) (rest := []) hx hb hml hown hts hK hP hD hS hA hZ lkX11_327 (Ctr.up (W := (lfX ct g x ++ (lfR ct (fun j => g (18 + j)) rv ++ (lfH ct (hsA g 0) g h0 ++ (lfS ct (fun j => (hsA g 0) (12 + j)) nt0 ++ (lfS ct (fun j => (hsA g 0) (8 + j)) cv0 ++ (lfP ct (fun j => (hsA g 0) (16 + j)) ps0))))))) (W' := (lfX ct g x ++ (lfR ct (fun j => g (18 + j)) rv ++ (lfH ct (hsA g 0) g h0 ++ (lfS ct (fun j => (hsA g 0) (12 + j)) nt0 ++ (lfS ct (fun j => (hsA g 0) (8 + j)) cv0 ++ (lfP ct (fun j => (hsA g 0) (16 + j)) ps0))))))) (c_X11_mix l G ct sk sv  n v1 ((h0.2.1 3 (ix v3) : Int32).toInt64) hc15) [] [0, 1, 2, 3, 4, 5, 6, 7, 8, 9, 10, 11, 12, 13, 14, 15, 16, 17, 18, 19, 20, 21, 22] [0, 1, 2, 3, 4, 5, 6, 7, 8, 9, 10, 11, 12, 13, 14, 15, 16, 17, 18, 19, 20, 21, 22] rfl rfl rfl rfl (by decide) rfl rfl) ⟨Nat.le_of_ble_eq_true rfl, Nat.le_of_ble_eq_true rfl⟩ rfl hl.1 rfl (Nat.le_of_ble_eq_true rfl) dX11_digest_137 ⟨Nat.le_of_ble_eq_true rfl, Nat.le_of_ble_eq_true rfl⟩ (fun r9 w9 H locs hB hP hD hS => ?_)
        obtain ⟨rfl, rfl⟩ := hB
        refine WG_eq (g2 := F0 m 140 ls [.long r_15]) rfl ?_
        refine lv_aload_n hx hb dX11_digest_140 rfl (lv_at hl 2 rfl) ?_
        refine va_get (D := G) (C := RX11) (T := TX11) (N := 11) (v := .ref ((hsA g 0) 0)) hx hb hts iu_X11 hown hK hP 0 rfl rfl 0 (by decide) (hts _ kw262) (fun _ h9 => h9) rfl dX11_digest_141 ?_
        refine va_get (D := G) (C := RX1) (T := TX1) (N := 16) (v := .ref ((hsA g 0) 5)) hx hb hts iu_X1 hown hK hP 5 rfl rfl 7 (by decide) (hts _ kw142) (fun _ h9 => h9) rfl dX11_digest_144 ?_
        refine lv_iload_n hx hb dX11_digest_147 rfl (lv_at hl 0 rfl) ?_
        obtain ⟨g_16, hf⟩ := gd_e hf
        refine va_iald (f := h0.2.1 4) hx hb hK hP 10 0 rfl rfl g_16 dX11_digest_148 ?_
        refine lv_i2l (v := (h0.2.1 4 (ix v3) : Int32).toInt64) hx hb dX11_digest_149 rfl ?_
        obtain ⟨r_17, hc17, hf⟩ := bd_e hf
        refine call_S (As := [.long r_15, .long ((h0.2.1 4 (ix v3) : Int32).toInt64)]) (rest := []) hx hb hml hown hts hK hP hD hS hA hZ lkX11_327 (Ctr.up (W := (lfX ct g x ++ (lfR ct (fun j => g (18 + j)) rv ++ (lfH ct (hsA g 0) g h0 ++ (lfS ct (fun j => (hsA g 0) (12 + j)) nt0 ++ (lfS ct (fun j => (hsA g 0) (8 + j)) cv0 ++ (lfP ct (fun j => (hsA g 0) (16 + j)) ps0))))))) (W' := (lfX ct g x ++ (lfR ct (fun j => g (18 + j)) rv ++ (lfH ct (hsA g 0) g h0 ++ (lfS ct (fun j => (hsA g 0) (12 + j)) nt0 ++ (lfS ct (fun j => (hsA g 0) (8 + j)) cv0 ++ (lfP ct (fun j => (hsA g 0) (16 + j)) ps0))))))) (c_X11_mix l G ct sk sv  n r_15 ((h0.2.1 4 (ix v3) : Int32).toInt64) hc17) [] [0, 1, 2, 3, 4, 5, 6, 7, 8, 9, 10, 11, 12, 13, 14, 15, 16, 17, 18, 19, 20, 21, 22] [0, 1, 2, 3, 4, 5, 6, 7, 8, 9, 10, 11, 12, 13, 14, 15, 16, 17, 18, 19, 20, 21, 22] rfl rfl rfl rfl (by decide) rfl rfl) ⟨Nat.le_of_ble_eq_true rfl, Nat.le_of_ble_eq_true rfl⟩ rfl hl.1 rfl (Nat.le_of_ble_eq_true rfl) dX11_digest_150 ⟨Nat.le_of_ble_eq_true rfl, Nat.le_of_ble_eq_true rfl⟩ (fun r9 w9 H locs hB hP hD hS => ?_)
        obtain ⟨rfl, rfl⟩ := hB
        refine WG_eq (g2 := F0 m 153 ls [.long r_17]) rfl ?_
        refine lv_lstore_n (lv' := [(1, .long r_17), (3, .int v3), (0, .ref (g 7))]) hx hb dX11_digest_153 rfl hl (by decide) rfl (fun ls hl => ?_)
        refine lv_lload_n hx hb dX11_digest_154 rfl (lv_at hl 0 rfl) ?_
        refine lv_aload_n hx hb dX11_digest_155 rfl (lv_at hl 2 rfl) ?_
        refine va_get (D := G) (C := RX11) (T := TX11) (N := 11) (v := .ref ((hsA g 0) 0)) hx hb hts iu_X11 hown hK hP 0 rfl rfl 0 (by decide) (hts _ kw262) (fun _ h9 => h9) rfl dX11_digest_156 ?_
        refine va_get (D := G) (C := RX1) (T := TX1) (N := 16) (v := .ref ((hsA g 0) 6)) hx hb hts iu_X1 hown hK hP 5 rfl rfl 8 (by decide) (hts _ kw144) (fun _ h9 => h9) rfl dX11_digest_159 ?_
        refine lv_iload_n hx hb dX11_digest_162 rfl (lv_at hl 1 rfl) ?_
        obtain ⟨g_18, hf⟩ := gd_e hf
        refine va_iald (f := h0.2.1 5) hx hb hK hP 11 0 rfl rfl g_18 dX11_digest_163 ?_
        refine lv_i2l (v := (h0.2.1 5 (ix v3) : Int32).toInt64) hx hb dX11_digest_164 rfl ?_
        obtain ⟨r_19, hc19, hf⟩ := bd_e hf
        refine call_S (As := [.long r_17, .long ((h0.2.1 5 (ix v3) : Int32).toInt64)]) (rest := []) hx hb hml hown hts hK hP hD hS hA hZ lkX11_327 (Ctr.up (W := (lfX ct g x ++ (lfR ct (fun j => g (18 + j)) rv ++ (lfH ct (hsA g 0) g h0 ++ (lfS ct (fun j => (hsA g 0) (12 + j)) nt0 ++ (lfS ct (fun j => (hsA g 0) (8 + j)) cv0 ++ (lfP ct (fun j => (hsA g 0) (16 + j)) ps0))))))) (W' := (lfX ct g x ++ (lfR ct (fun j => g (18 + j)) rv ++ (lfH ct (hsA g 0) g h0 ++ (lfS ct (fun j => (hsA g 0) (12 + j)) nt0 ++ (lfS ct (fun j => (hsA g 0) (8 + j)) cv0 ++ (lfP ct (fun j => (hsA g 0) (16 + j)) ps0))))))) (c_X11_mix l G ct sk sv  n r_17 ((h0.2.1 5 (ix v3) : Int32).toInt64) hc19) [] [0, 1, 2, 3, 4, 5, 6, 7, 8, 9, 10, 11, 12, 13, 14, 15, 16, 17, 18, 19, 20, 21, 22] [0, 1, 2, 3, 4, 5, 6, 7, 8, 9, 10, 11, 12, 13, 14, 15, 16, 17, 18, 19, 20, 21, 22] rfl rfl rfl rfl (by decide) rfl rfl) ⟨Nat.le_of_ble_eq_true rfl, Nat.le_of_ble_eq_true rfl⟩ rfl hl.1 rfl (Nat.le_of_ble_eq_true rfl) dX11_digest_165 ⟨Nat.le_of_ble_eq_true rfl, Nat.le_of_ble_eq_true rfl⟩ (fun r9 w9 H locs hB hP hD hS => ?_)
        obtain ⟨rfl, rfl⟩ := hB
        refine WG_eq (g2 := F0 m 168 ls [.long r_19]) rfl ?_
        refine lv_aload_n hx hb dX11_digest_168 rfl (lv_at hl 2 rfl) ?_
        refine va_get (D := G) (C := RX11) (T := TX11) (N := 11) (v := .ref ((hsA g 0) 0)) hx hb hts iu_X11 hown hK hP 0 rfl rfl 0 (by decide) (hts _ kw262) (fun _ h9 => h9) rfl dX11_digest_169 ?_
        refine va_get (D := G) (C := RX1) (T := TX1) (N := 16) (v := .ref ((hsA g 0) 7)) hx hb hts iu_X1 hown hK hP 5 rfl rfl 9 (by decide) (hts _ kw147) (fun _ h9 => h9) rfl dX11_digest_172 ?_
        refine lv_iload_n hx hb dX11_digest_175 rfl (lv_at hl 1 rfl) ?_
        obtain ⟨g_20, hf⟩ := gd_e hf
        refine va_iald (f := h0.2.1 6) hx hb hK hP 12 0 rfl rfl g_20 dX11_digest_176 ?_
        refine lv_i2l (v := (h0.2.1 6 (ix v3) : Int32).toInt64) hx hb dX11_digest_177 rfl ?_
        obtain ⟨r_21, hc21, hf⟩ := bd_e hf
        refine call_S (As := [.long r_19, .long ((h0.2.1 6 (ix v3) : Int32).toInt64)]) (rest := []) hx hb hml hown hts hK hP hD hS hA hZ lkX11_327 (Ctr.up (W := (lfX ct g x ++ (lfR ct (fun j => g (18 + j)) rv ++ (lfH ct (hsA g 0) g h0 ++ (lfS ct (fun j => (hsA g 0) (12 + j)) nt0 ++ (lfS ct (fun j => (hsA g 0) (8 + j)) cv0 ++ (lfP ct (fun j => (hsA g 0) (16 + j)) ps0))))))) (W' := (lfX ct g x ++ (lfR ct (fun j => g (18 + j)) rv ++ (lfH ct (hsA g 0) g h0 ++ (lfS ct (fun j => (hsA g 0) (12 + j)) nt0 ++ (lfS ct (fun j => (hsA g 0) (8 + j)) cv0 ++ (lfP ct (fun j => (hsA g 0) (16 + j)) ps0))))))) (c_X11_mix l G ct sk sv  n r_19 ((h0.2.1 6 (ix v3) : Int32).toInt64) hc21) [] [0, 1, 2, 3, 4, 5, 6, 7, 8, 9, 10, 11, 12, 13, 14, 15, 16, 17, 18, 19, 20, 21, 22] [0, 1, 2, 3, 4, 5, 6, 7, 8, 9, 10, 11, 12, 13, 14, 15, 16, 17, 18, 19, 20, 21, 22] rfl rfl rfl rfl (by decide) rfl rfl) ⟨Nat.le_of_ble_eq_true rfl, Nat.le_of_ble_eq_true rfl⟩ rfl hl.1 rfl (Nat.le_of_ble_eq_true rfl) dX11_digest_178 ⟨Nat.le_of_ble_eq_true rfl, Nat.le_of_ble_eq_true rfl⟩ (fun r9 w9 H locs hB hP hD hS => ?_)
        obtain ⟨rfl, rfl⟩ := hB
        refine WG_eq (g2 := F0 m 181 ls [.long r_21]) rfl ?_
        refine lv_lstore_n (lv' := [(1, .long r_21), (3, .int v3), (0, .ref (g 7))]) hx hb dX11_digest_181 rfl hl (by decide) rfl (fun ls hl => ?_)
        obtain ⟨v3_22, ev3_22, hf⟩ := bl_e hf
        refine lv_iinc (v := v3_22) (lv' := [(3, .int v3_22), (1, .long r_21), (0, .ref (g 7))]) hx hb dX11_digest_182 hl (k := 1) rfl ev3_22 (by decide) rfl (fun ls hl => ?_)
        refine lv_goto (tgt := 115) hx hb dX11_digest_185 (by decide) ?_
        exact ih v3_22 r_21 ex _ _ _ hP hD hS hl (lp_inl hor hf) hE
  unfold f_X11_digest at hf
  show WG l G ct sk sv p e (RM 3 64 0 0) s m args below meth c A (Eq2 (some (.long r)) (lfX ct g x ++ (lfR ct (fun j => g (18 + j)) rv ++ (lfH ct (hsA g 0) g h0 ++ (lfS ct (fun j => (hsA g 0) (12 + j)) nt0 ++ (lfS ct (fun j => (hsA g 0) (8 + j)) cv0 ++ (lfP ct (fun j => (hsA g 0) (16 + j)) ps0))))))) s.heap [] (F0 m 0 ls [])
  refine lv_ldc2 (v := 1289) hx hb hown (hts _ kw870) dX11_digest_0 ?_
  refine lv_lstore_n (lv' := [(1, .long 1289), (0, .ref (g 7))]) hx hb dX11_digest_3 rfl hl (by decide) rfl (fun ls hl => ?_)
  refine lv_iconst (v := 0) hx hb dX11_digest_4 (by decide) ?_
  refine lv_istore_n (lv' := [(3, .int 0), (1, .long 1289), (0, .ref (g 7))]) hx hb dX11_digest_5 rfl hl (by decide) rfl (fun ls hl => ?_)
  obtain ⟨v1_23, hx_24, hf⟩ := bd_e hf
  refine L6 n 0 1289 v1_23 _ _ _ hP hD hS hl hx_24 ?_
  intro x9 e9 H locs ls hP hD hS hl
  subst e9
  have hP : va_P G classes (lfX ct g x ++ (lfR ct (fun j => g (18 + j)) rv ++ (lfH ct (hsA g 0) g h0 ++ (lfS ct (fun j => (hsA g 0) (12 + j)) nt0 ++ (lfS ct (fun j => (hsA g 0) (8 + j)) cv0 ++ (lfP ct (fun j => (hsA g 0) (16 + j)) ps0)))))) H := hP
  have hD : va_D A (lfX ct g x ++ (lfR ct (fun j => g (18 + j)) rv ++ (lfH ct (hsA g 0) g h0 ++ (lfS ct (fun j => (hsA g 0) (12 + j)) nt0 ++ (lfS ct (fun j => (hsA g 0) (8 + j)) cv0 ++ (lfP ct (fun j => (hsA g 0) (16 + j)) ps0)))))) := hD
  have hl : lv_has ls 4 [(1, .long v1_23), (0, .ref (g 7))] := hl
  refine lv_lload_n hx hb dX11_digest_29 rfl (lv_at hl 0 rfl) ?_
  refine lv_aload_n hx hb dX11_digest_30 rfl (lv_at hl 1 rfl) ?_
  refine va_get (D := G) (C := RX11) (T := TX11) (N := 11) (v := .ref ((hsA g 0) 0)) hx hb hts iu_X11 hown hK hP 0 rfl rfl 0 (by decide) (hts _ kw262) (fun _ h9 => h9) rfl dX11_digest_31 ?_
  refine va_get (D := G) (C := RX1) (T := TX1) (N := 16) (v := .int (h0.1 3)) hx hb hts iu_X1 hown hK hP 5 rfl rfl 11 (by decide) (hts _ kw153) (fun _ h9 => h9) rfl dX11_digest_34 ?_
  refine lv_i2l (v := (h0.1 3 : Int32).toInt64) hx hb dX11_digest_37 rfl ?_
  obtain ⟨r_25, hc25, hf⟩ := bd_e hf
  refine call_S (As := [.long v1_23, .long ((h0.1 3 : Int32).toInt64)]) (rest := []) hx hb hml hown hts hK hP hD hS hA hZ lkX11_327 (Ctr.up (W := (lfX ct g x ++ (lfR ct (fun j => g (18 + j)) rv ++ (lfH ct (hsA g 0) g h0 ++ (lfS ct (fun j => (hsA g 0) (12 + j)) nt0 ++ (lfS ct (fun j => (hsA g 0) (8 + j)) cv0 ++ (lfP ct (fun j => (hsA g 0) (16 + j)) ps0))))))) (W' := (lfX ct g x ++ (lfR ct (fun j => g (18 + j)) rv ++ (lfH ct (hsA g 0) g h0 ++ (lfS ct (fun j => (hsA g 0) (12 + j)) nt0 ++ (lfS ct (fun j => (hsA g 0) (8 + j)) cv0 ++ (lfP ct (fun j => (hsA g 0) (16 + j)) ps0))))))) (c_X11_mix l G ct sk sv  n v1_23 ((h0.1 3 : Int32).toInt64) hc25) [] [0, 1, 2, 3, 4, 5, 6, 7, 8, 9, 10, 11, 12, 13, 14, 15, 16, 17, 18, 19, 20, 21, 22] [0, 1, 2, 3, 4, 5, 6, 7, 8, 9, 10, 11, 12, 13, 14, 15, 16, 17, 18, 19, 20, 21, 22] rfl rfl rfl rfl (by decide) rfl rfl) ⟨Nat.le_of_ble_eq_true rfl, Nat.le_of_ble_eq_true rfl⟩ rfl hl.1 rfl (Nat.le_of_ble_eq_true rfl) dX11_digest_38 ⟨Nat.le_of_ble_eq_true rfl, Nat.le_of_ble_eq_true rfl⟩ (fun r9 w9 H locs hB hP hD hS => ?_)
  obtain ⟨rfl, rfl⟩ := hB
  refine WG_eq (g2 := F0 m 41 ls [.long r_25]) rfl ?_
  refine lv_aload_n hx hb dX11_digest_41 rfl (lv_at hl 1 rfl) ?_
  refine va_get (D := G) (C := RX11) (T := TX11) (N := 11) (v := .ref ((hsA g 0) 0)) hx hb hts iu_X11 hown hK hP 0 rfl rfl 0 (by decide) (hts _ kw262) (fun _ h9 => h9) rfl dX11_digest_42 ?_
  refine va_get (D := G) (C := RX1) (T := TX1) (N := 16) (v := .int (h0.1 4)) hx hb hts iu_X1 hown hK hP 5 rfl rfl 12 (by decide) (hts _ kw156) (fun _ h9 => h9) rfl dX11_digest_45 ?_
  refine lv_i2l (v := (h0.1 4 : Int32).toInt64) hx hb dX11_digest_48 rfl ?_
  obtain ⟨r_26, hc26, hf⟩ := bd_e hf
  refine call_S (As := [.long r_25, .long ((h0.1 4 : Int32).toInt64)]) (rest := []) hx hb hml hown hts hK hP hD hS hA hZ lkX11_327 (Ctr.up (W := (lfX ct g x ++ (lfR ct (fun j => g (18 + j)) rv ++ (lfH ct (hsA g 0) g h0 ++ (lfS ct (fun j => (hsA g 0) (12 + j)) nt0 ++ (lfS ct (fun j => (hsA g 0) (8 + j)) cv0 ++ (lfP ct (fun j => (hsA g 0) (16 + j)) ps0))))))) (W' := (lfX ct g x ++ (lfR ct (fun j => g (18 + j)) rv ++ (lfH ct (hsA g 0) g h0 ++ (lfS ct (fun j => (hsA g 0) (12 + j)) nt0 ++ (lfS ct (fun j => (hsA g 0) (8 + j)) cv0 ++ (lfP ct (fun j => (hsA g 0) (16 + j)) ps0))))))) (c_X11_mix l G ct sk sv  n r_25 ((h0.1 4 : Int32).toInt64) hc26) [] [0, 1, 2, 3, 4, 5, 6, 7, 8, 9, 10, 11, 12, 13, 14, 15, 16, 17, 18, 19, 20, 21, 22] [0, 1, 2, 3, 4, 5, 6, 7, 8, 9, 10, 11, 12, 13, 14, 15, 16, 17, 18, 19, 20, 21, 22] rfl rfl rfl rfl (by decide) rfl rfl) ⟨Nat.le_of_ble_eq_true rfl, Nat.le_of_ble_eq_true rfl⟩ rfl hl.1 rfl (Nat.le_of_ble_eq_true rfl) dX11_digest_49 ⟨Nat.le_of_ble_eq_true rfl, Nat.le_of_ble_eq_true rfl⟩ (fun r9 w9 H locs hB hP hD hS => ?_)
  obtain ⟨rfl, rfl⟩ := hB
  refine WG_eq (g2 := F0 m 52 ls [.long r_26]) rfl ?_
  refine lv_lstore_n (lv' := [(1, .long r_26), (0, .ref (g 7))]) hx hb dX11_digest_52 rfl hl (by decide) rfl (fun ls hl => ?_)
  refine lv_iconst (v := 0) hx hb dX11_digest_53 (by decide) ?_
  refine lv_istore_n (lv' := [(3, .int 0), (1, .long r_26), (0, .ref (g 7))]) hx hb dX11_digest_54 rfl hl (by decide) rfl (fun ls hl => ?_)
  obtain ⟨v1_27, hx_28, hf⟩ := bd_e hf
  refine L55 n 0 r_26 v1_27 _ _ _ hP hD hS hl hx_28 ?_
  intro x9 e9 H locs ls hP hD hS hl
  subst e9
  have hP : va_P G classes (lfX ct g x ++ (lfR ct (fun j => g (18 + j)) rv ++ (lfH ct (hsA g 0) g h0 ++ (lfS ct (fun j => (hsA g 0) (12 + j)) nt0 ++ (lfS ct (fun j => (hsA g 0) (8 + j)) cv0 ++ (lfP ct (fun j => (hsA g 0) (16 + j)) ps0)))))) H := hP
  have hD : va_D A (lfX ct g x ++ (lfR ct (fun j => g (18 + j)) rv ++ (lfH ct (hsA g 0) g h0 ++ (lfS ct (fun j => (hsA g 0) (12 + j)) nt0 ++ (lfS ct (fun j => (hsA g 0) (8 + j)) cv0 ++ (lfP ct (fun j => (hsA g 0) (16 + j)) ps0)))))) := hD
  have hl : lv_has ls 4 [(1, .long v1_27), (0, .ref (g 7))] := hl
  refine lv_iconst (v := 0) hx hb dX11_digest_113 (by decide) ?_
  refine lv_istore_n (lv' := [(3, .int 0), (1, .long v1_27), (0, .ref (g 7))]) hx hb dX11_digest_114 rfl hl (by decide) rfl (fun ls hl => ?_)
  obtain ⟨v1_29, hx_30, hf⟩ := bd_e hf
  refine L115 n 0 v1_27 v1_29 _ _ _ hP hD hS hl hx_30 ?_
  intro x9 e9 H locs ls hP hD hS hl
  subst e9
  have hP : va_P G classes (lfX ct g x ++ (lfR ct (fun j => g (18 + j)) rv ++ (lfH ct (hsA g 0) g h0 ++ (lfS ct (fun j => (hsA g 0) (12 + j)) nt0 ++ (lfS ct (fun j => (hsA g 0) (8 + j)) cv0 ++ (lfP ct (fun j => (hsA g 0) (16 + j)) ps0)))))) H := hP
  have hD : va_D A (lfX ct g x ++ (lfR ct (fun j => g (18 + j)) rv ++ (lfH ct (hsA g 0) g h0 ++ (lfS ct (fun j => (hsA g 0) (12 + j)) nt0 ++ (lfS ct (fun j => (hsA g 0) (8 + j)) cv0 ++ (lfP ct (fun j => (hsA g 0) (16 + j)) ps0)))))) := hD
  have hl : lv_has ls 4 [(1, .long v1_29), (0, .ref (g 7))] := hl
  refine lv_lload_n hx hb dX11_digest_188 rfl (lv_at hl 0 rfl) ?_
  refine lv_aload_n hx hb dX11_digest_189 rfl (lv_at hl 1 rfl) ?_
  refine va_get (D := G) (C := RX11) (T := TX11) (N := 11) (v := .ref ((hsA g 0) 0)) hx hb hts iu_X11 hown hK hP 0 rfl rfl 0 (by decide) (hts _ kw262) (fun _ h9 => h9) rfl dX11_digest_190 ?_
  refine va_get (D := G) (C := RX1) (T := TX1) (N := 16) (v := .ref ((hsA g 0) 8)) hx hb hts iu_X1 hown hK hP 5 rfl rfl 13 (by decide) (hts _ kw158) (fun _ h9 => h9) rfl dX11_digest_193 ?_
  obtain ⟨r_31, hc31, hf⟩ := bd_e hf
  refine call_S (As := [.long v1_29, .ref ((hsA g 0) 8)]) (rest := []) hx hb hml hown hts hK hP hD hS hA hZ lkX11_331 (Ctr.up (W := (lfX ct g x ++ (lfR ct (fun j => g (18 + j)) rv ++ (lfH ct (hsA g 0) g h0 ++ (lfS ct (fun j => (hsA g 0) (12 + j)) nt0 ++ (lfS ct (fun j => (hsA g 0) (8 + j)) cv0 ++ (lfP ct (fun j => (hsA g 0) (16 + j)) ps0))))))) (W' := (lfX ct g x ++ (lfR ct (fun j => g (18 + j)) rv ++ (lfH ct (hsA g 0) g h0 ++ (lfS ct (fun j => (hsA g 0) (12 + j)) nt0 ++ (lfS ct (fun j => (hsA g 0) (8 + j)) cv0 ++ (lfP ct (fun j => (hsA g 0) (16 + j)) ps0))))))) (c_X11_mixSlips l G ct sk sv (fun j => (hsA g 0) (8 + j)) n cv0 v1_29 hc31) [17, 18, 19, 20] [0, 1, 2, 3, 4, 5, 6, 7, 8, 9, 10, 11, 12, 13, 14, 15, 16, 21, 22] [0, 1, 2, 3, 4, 5, 6, 7, 8, 9, 10, 11, 12, 13, 14, 15, 16, 19, 20, 21, 22, 17, 18] rfl rfl rfl rfl (by decide) rfl rfl) ⟨Nat.le_of_ble_eq_true rfl, Nat.le_of_ble_eq_true rfl⟩ rfl hl.1 rfl (Nat.le_of_ble_eq_true rfl) dX11_digest_196 ⟨Nat.le_of_ble_eq_true rfl, Nat.le_of_ble_eq_true rfl⟩ (fun r9 w9 H locs hB hP hD hS => ?_)
  obtain ⟨rfl, rfl⟩ := hB
  refine WG_eq (g2 := F0 m 199 ls [.long r_31]) rfl ?_
  refine lv_aload_n hx hb dX11_digest_199 rfl (lv_at hl 1 rfl) ?_
  refine va_get (D := G) (C := RX11) (T := TX11) (N := 11) (v := .ref ((hsA g 0) 0)) hx hb hts iu_X11 hown hK hP 0 rfl rfl 0 (by decide) (hts _ kw262) (fun _ h9 => h9) rfl dX11_digest_200 ?_
  refine va_get (D := G) (C := RX1) (T := TX1) (N := 16) (v := .ref ((hsA g 0) 12)) hx hb hts iu_X1 hown hK hP 5 rfl rfl 14 (by decide) (hts _ kw160) (fun _ h9 => h9) rfl dX11_digest_203 ?_
  obtain ⟨r_32, hc32, hf⟩ := bd_e hf
  refine call_S (As := [.long r_31, .ref ((hsA g 0) 12)]) (rest := []) hx hb hml hown hts hK hP hD hS hA hZ lkX11_331 (Ctr.up (W := (lfX ct g x ++ (lfR ct (fun j => g (18 + j)) rv ++ (lfH ct (hsA g 0) g h0 ++ (lfS ct (fun j => (hsA g 0) (12 + j)) nt0 ++ (lfS ct (fun j => (hsA g 0) (8 + j)) cv0 ++ (lfP ct (fun j => (hsA g 0) (16 + j)) ps0))))))) (W' := (lfX ct g x ++ (lfR ct (fun j => g (18 + j)) rv ++ (lfH ct (hsA g 0) g h0 ++ (lfS ct (fun j => (hsA g 0) (12 + j)) nt0 ++ (lfS ct (fun j => (hsA g 0) (8 + j)) cv0 ++ (lfP ct (fun j => (hsA g 0) (16 + j)) ps0))))))) (c_X11_mixSlips l G ct sk sv (fun j => (hsA g 0) (12 + j)) n nt0 r_31 hc32) [13, 14, 15, 16] [0, 1, 2, 3, 4, 5, 6, 7, 8, 9, 10, 11, 12, 17, 18, 19, 20, 21, 22] [0, 1, 2, 3, 4, 5, 6, 7, 8, 9, 10, 11, 12, 19, 20, 21, 22, 13, 14, 15, 16, 17, 18] rfl rfl rfl rfl (by decide) rfl rfl) ⟨Nat.le_of_ble_eq_true rfl, Nat.le_of_ble_eq_true rfl⟩ rfl hl.1 rfl (Nat.le_of_ble_eq_true rfl) dX11_digest_206 ⟨Nat.le_of_ble_eq_true rfl, Nat.le_of_ble_eq_true rfl⟩ (fun r9 w9 H locs hB hP hD hS => ?_)
  obtain ⟨rfl, rfl⟩ := hB
  refine WG_eq (g2 := F0 m 209 ls [.long r_32]) rfl ?_
  refine lv_lstore_n (lv' := [(1, .long r_32), (0, .ref (g 7))]) hx hb dX11_digest_209 rfl hl (by decide) rfl (fun ls hl => ?_)
  refine lv_lload_n hx hb dX11_digest_210 rfl (lv_at hl 0 rfl) ?_
  refine lv_aload_n hx hb dX11_digest_211 rfl (lv_at hl 1 rfl) ?_
  refine va_get (D := G) (C := RX11) (T := TX11) (N := 11) (v := .long (x.2.2 0)) hx hb hts iu_X11 hown hK hP 0 rfl rfl 6 (by decide) (hts _ kw268) (fun _ h9 => h9) rfl dX11_digest_212 ?_
  obtain ⟨r_33, hc33, hf⟩ := bd_e hf
  refine call_S (As := [.long r_32, .long (x.2.2 0)]) (rest := []) hx hb hml hown hts hK hP hD hS hA hZ lkX11_327 (Ctr.up (W := (lfX ct g x ++ (lfR ct (fun j => g (18 + j)) rv ++ (lfH ct (hsA g 0) g h0 ++ (lfS ct (fun j => (hsA g 0) (12 + j)) nt0 ++ (lfS ct (fun j => (hsA g 0) (8 + j)) cv0 ++ (lfP ct (fun j => (hsA g 0) (16 + j)) ps0))))))) (W' := (lfX ct g x ++ (lfR ct (fun j => g (18 + j)) rv ++ (lfH ct (hsA g 0) g h0 ++ (lfS ct (fun j => (hsA g 0) (12 + j)) nt0 ++ (lfS ct (fun j => (hsA g 0) (8 + j)) cv0 ++ (lfP ct (fun j => (hsA g 0) (16 + j)) ps0))))))) (c_X11_mix l G ct sk sv  n r_32 (x.2.2 0) hc33) [] [0, 1, 2, 3, 4, 5, 6, 7, 8, 9, 10, 11, 12, 13, 14, 15, 16, 17, 18, 19, 20, 21, 22] [0, 1, 2, 3, 4, 5, 6, 7, 8, 9, 10, 11, 12, 13, 14, 15, 16, 17, 18, 19, 20, 21, 22] rfl rfl rfl rfl (by decide) rfl rfl) ⟨Nat.le_of_ble_eq_true rfl, Nat.le_of_ble_eq_true rfl⟩ rfl hl.1 rfl (Nat.le_of_ble_eq_true rfl) dX11_digest_215 ⟨Nat.le_of_ble_eq_true rfl, Nat.le_of_ble_eq_true rfl⟩ (fun r9 w9 H locs hB hP hD hS => ?_)
  obtain ⟨rfl, rfl⟩ := hB
  refine WG_eq (g2 := F0 m 218 ls [.long r_33]) rfl ?_
  refine lv_aload_n hx hb dX11_digest_218 rfl (lv_at hl 1 rfl) ?_
  refine va_get (D := G) (C := RX11) (T := TX11) (N := 11) (v := .long (x.2.2 1)) hx hb hts iu_X11 hown hK hP 0 rfl rfl 7 (by decide) (hts _ kw269) (fun _ h9 => h9) rfl dX11_digest_219 ?_
  obtain ⟨r_34, hc34, hf⟩ := bd_e hf
  refine call_S (As := [.long r_33, .long (x.2.2 1)]) (rest := []) hx hb hml hown hts hK hP hD hS hA hZ lkX11_327 (Ctr.up (W := (lfX ct g x ++ (lfR ct (fun j => g (18 + j)) rv ++ (lfH ct (hsA g 0) g h0 ++ (lfS ct (fun j => (hsA g 0) (12 + j)) nt0 ++ (lfS ct (fun j => (hsA g 0) (8 + j)) cv0 ++ (lfP ct (fun j => (hsA g 0) (16 + j)) ps0))))))) (W' := (lfX ct g x ++ (lfR ct (fun j => g (18 + j)) rv ++ (lfH ct (hsA g 0) g h0 ++ (lfS ct (fun j => (hsA g 0) (12 + j)) nt0 ++ (lfS ct (fun j => (hsA g 0) (8 + j)) cv0 ++ (lfP ct (fun j => (hsA g 0) (16 + j)) ps0))))))) (c_X11_mix l G ct sk sv  n r_33 (x.2.2 1) hc34) [] [0, 1, 2, 3, 4, 5, 6, 7, 8, 9, 10, 11, 12, 13, 14, 15, 16, 17, 18, 19, 20, 21, 22] [0, 1, 2, 3, 4, 5, 6, 7, 8, 9, 10, 11, 12, 13, 14, 15, 16, 17, 18, 19, 20, 21, 22] rfl rfl rfl rfl (by decide) rfl rfl) ⟨Nat.le_of_ble_eq_true rfl, Nat.le_of_ble_eq_true rfl⟩ rfl hl.1 rfl (Nat.le_of_ble_eq_true rfl) dX11_digest_222 ⟨Nat.le_of_ble_eq_true rfl, Nat.le_of_ble_eq_true rfl⟩ (fun r9 w9 H locs hB hP hD hS => ?_)
  obtain ⟨rfl, rfl⟩ := hB
  refine WG_eq (g2 := F0 m 225 ls [.long r_34]) rfl ?_
  have e1 := Option.some.inj hf
  exact end_l (w' := (lfX ct g x ++ (lfR ct (fun j => g (18 + j)) rv ++ (lfH ct (hsA g 0) g h0 ++ (lfS ct (fun j => (hsA g 0) (12 + j)) nt0 ++ (lfS ct (fun j => (hsA g 0) (8 + j)) cv0 ++ (lfP ct (fun j => (hsA g 0) (16 + j)) ps0))))))) hx hb hr hlocks hK hP hD hS dX11_digest_225  ⟨by rw [← e1], rfl⟩
noncomputable def f_X11_fewest_j66 (n : Nat) (x : MV) (nv : MV) (h0 : MV) (v3 : Int32) (v2 : Int32) (v1 : Int32) : Option ((Int32 × Int32 × MV) ⊕ (Int32 × MV)) :=
  bl (v3 + 1) fun v3_1 =>
  some (.inl (v3_1, v2, nv))
noncomputable def f_X11_fewest_j41 (n : Nat) (x : MV) (nv : MV) (h0 : MV) (v3 : Int32) (v2 : Int32) (v1 : Int32) (s0 : Int32) : Option ((Int32 × Int32 × MV) ⊕ (Int32 × MV)) :=
  bc (s0 = 0) (f_X11_fewest_j66 n x nv h0 v3 v2 v1)
  (bd2 (f_X3_solve n nv h0 v3) fun r_3 nv_4 =>
  bc (r_3 = v1) (f_X11_fewest_j66 n x nv_4 h0 v3 v3 v1)
  (f_X11_fewest_j66 n x nv_4 h0 v3 v2 v1))
noncomputable def f_X11_fewest_j36 (n : Nat) (x : MV) (nv : MV) (h0 : MV) (v3 : Int32) (v2 : Int32) (v1 : Int32) : Option ((Int32 × Int32 × MV) ⊕ (Int32 × MV)) :=
  f_X11_fewest_j41 n x nv h0 v3 v2 v1 1
noncomputable def f_X11_fewest_b12 (n : Nat) (x : MV) (nv : MV) (h0 : MV) (v3 : Int32) (v2 : Int32) (v1 : Int32) : Option ((Int32 × Int32 × MV) ⊕ (Int32 × MV)) :=
  bd (f_X11_everyMember n x h0) fun r_6 =>
  bc (r_6 < v3) (some (.inr (v2, nv)))
  (bc (v2 = (-1)) (f_X11_fewest_j36 n x nv h0 v3 v2 v1)
  (bd (f_J6_bitCount n v3) fun r_9 =>
  bd (f_J6_bitCount n v2) fun r_10 =>
  bc (r_10 ≤ r_9) (f_X11_fewest_j41 n x nv h0 v3 v2 v1 0)
  (f_X11_fewest_j36 n x nv h0 v3 v2 v1)))
noncomputable def f_X11_fewest_l12 (fu : Nat) (n : Nat) (x : MV) (nv : MV) (h0 : MV) (v1 : Int32) (v3 : Int32) (v2 : Int32) : Option (Int32 × MV) :=
  lp (fun q => f_X11_fewest_b12 n x q.2.2 h0 q.1 q.2.1 v1) fu (v3, v2, nv)
noncomputable def f_X11_fewest (n : Nat) (x : MV) (nv : MV) (h0 : MV) : Option (Int32 × MV) :=
  bd (f_X1_postageDue n h0) fun r_12 =>
  bd2 (f_X11_fewest_l12 n n x nv h0 r_12 0 (-1)) fun v2_13 nv_14 =>
  some (v2_13, nv_14)
set_option maxHeartbeats 4000000 in
set_option maxRecDepth 100000 in
theorem c_X11_fewest (l : Launch) (G : va_G) (ct : Nat → ClassId) (sk sv : Nat → Nat) (g : Nat → Nat) (n : Nat) (x : MV) (nv : MV) (h0 : MV) {r : Int32} {nv' : MV} (hf : f_X11_fewest n x nv h0 = some (r, nv')) : Ctr (l, G, ct, sk, sv) mX11_fewest 11 304 [.ref (g 7)] (lfX ct g x ++ (lfN ct (fun j => g (10 + j)) nv ++ (lfH ct (hsA g 0) g h0 ++ (lfK ct g)))) (lfX ct g x ++ (lfN ct (fun j => g (10 + j)) nv' ++ (lfH ct (hsA g 0) g h0 ++ (lfK ct g)))) (some (.int r)) := by
  refine ctr_intro (by decide) (Nat.le_of_ble_eq_true rfl) ?_
  intro p e s m args below meth c A C hP hD hS hA ls hl
  obtain ⟨hx, hb, hml, hown, hts, hr, hlocks, hK, hnm, hZ⟩ := C
  have hb : c.code = cX11_fewest := hb
  have hml : c.maxLocals = 5 := hml
  have hown : s.vm.findClass "SignedOutside" = some m.cls := hown
  have hr : meth.sig.returnType = some .int := hr
  have hP : va_P G classes (lfX ct g x ++ (lfN ct (fun j => g (10 + j)) nv ++ (lfH ct (hsA g 0) g h0 ++ (lfK ct g)))) s.heap := hP
  have hD : va_D A (lfX ct g x ++ (lfN ct (fun j => g (10 + j)) nv ++ (lfH ct (hsA g 0) g h0 ++ (lfK ct g)))) := hD
  have hK : va_K G classes (TYS ct) s := hK
  have hl : lv_has ls 5 [(0, .ref (g 7))] := hl
  have L12 : ∀ (fu : Nat) (nv : MV) (v1 : Int32) (v3 : Int32) (v2 : Int32) (ex : Int32 × MV) (H : Heap) (locs : List Loc) (ls : Array Slot), va_P G classes (lfX ct g x ++ (lfN ct (fun j => g (10 + j)) nv ++ (lfH ct (hsA g 0) g h0 ++ (lfK ct g)))) H → va_D A (lfX ct g x ++ (lfN ct (fun j => g (10 + j)) nv ++ (lfH ct (hsA g 0) g h0 ++ (lfK ct g)))) → va_S A s.heap H locs → lv_has ls 5 [(3, .int v3), (2, .int v2), (1, .int v1), (0, .ref (g 7))] → f_X11_fewest_l12 fu n x nv h0 v1 v3 v2 = some ex → (∀ (x : Int32 × MV), ex = x → ∀ (H : Heap) (locs : List Loc) (ls : Array Slot), va_P G classes (lfX ct g x ++ (lfN ct (fun j => g (10 + j)) x.2 ++ (lfH ct (hsA g 0) g h0 ++ (lfK ct g)))) H → va_D A (lfX ct g x ++ (lfN ct (fun j => g (10 + j)) x.2 ++ (lfH ct (hsA g 0) g h0 ++ (lfK ct g)))) → va_S A s.heap H locs → lv_has ls 5 [(2, .int x.1)] → WG l G ct sk sv p e (RM 11 304 0 0) s m args below meth c A (Eq2 (some (.int r)) (lfX ct g x ++ (lfN ct (fun j => g (10 + j)) nv' ++ (lfH ct (hsA g 0) g h0 ++ (lfK ct g))))) H locs (F0 m 72 ls [])) → WG l G ct sk sv p e (RM 11 304 0 0) s m args below meth c A (Eq2 (some (.int r)) (lfX ct g x ++ (lfN ct (fun j => g (10 + j)) nv' ++ (lfH ct (hsA g 0) g h0 ++ (lfK ct g))))) H locs (F0 m 12 ls []) := by
    intro fu
    induction fu with
    | zero =>
      intro nv v1 v3 v2 ex H locs ls hP hD hS hl hf
      exact absurd hf (by unfold f_X11_fewest_l12 lp; exact fun h => by cases h)
    | succ fu ih =>
      intro nv v1 v3 v2 ex H locs ls hP hD hS hl hf hE
      unfold f_X11_fewest_l12 at hf
      obtain ⟨q, hf, hor⟩ := lp_e hf
      have J66 : ∀ (nv : MV) (v3 : Int32) (v2 : Int32) (H : Heap) (locs : List Loc) (ls : Array Slot), va_P G classes (lfX ct g x ++ (lfN ct (fun j => g (10 + j)) nv ++ (lfH ct (hsA g 0) g h0 ++ (lfK ct g)))) H → va_D A (lfX ct g x ++ (lfN ct (fun j => g (10 + j)) nv ++ (lfH ct (hsA g 0) g h0 ++ (lfK ct g)))) → va_S A s.heap H locs → lv_has ls 5 [(3, .int v3), (2, .int v2), (1, .int v1), (0, .ref (g 7))] → f_X11_fewest_j66 n x nv h0 v3 v2 v1 = some q → WG l G ct sk sv p e (RM 11 304 0 0) s m args below meth c A (Eq2 (some (.int r)) (lfX ct g x ++ (lfN ct (fun j => g (10 + j)) nv' ++ (lfH ct (hsA g 0) g h0 ++ (lfK ct g))))) H locs (F0 m 66 ls []) := by
        intro nv v3 v2 H locs ls hP hD hS hl hf
        unfold f_X11_fewest_j66 at hf
        obtain ⟨v3_1, ev3_1, hf⟩ := bl_e hf
        refine lv_iinc (v := v3_1) (lv' := [(3, .int v3_1), (2, .int v2), (1, .int v1), (0, .ref (g 7))]) hx hb dX11_fewest_66 hl (k := 0) rfl ev3_1 (by decide) rfl (fun ls hl => ?_)
        refine lv_goto (tgt := 12) hx hb dX11_fewest_69 (by decide) ?_
        exact ih nv v1 v3_1 v2 ex _ _ _ hP hD hS hl (lp_inl hor hf) hE
      have J41 : ∀ (nv : MV) (v3 : Int32) (v2 : Int32) (s0 : Int32) (H : Heap) (locs : List Loc) (ls : Array Slot), va_P G classes (lfX ct g x ++ (lfN ct (fun j => g (10 + j)) nv ++ (lfH ct (hsA g 0) g h0 ++ (lfK ct g)))) H → va_D A (lfX ct g x ++ (lfN ct (fun j => g (10 + j)) nv ++ (lfH ct (hsA g 0) g h0 ++ (lfK ct g)))) → va_S A s.heap H locs → lv_has ls 5 [(3, .int v3), (2, .int v2), (1, .int v1), (0, .ref (g 7))] → f_X11_fewest_j41 n x nv h0 v3 v2 v1 s0 = some q → WG l G ct sk sv p e (RM 11 304 0 0) s m args below meth c A (Eq2 (some (.int r)) (lfX ct g x ++ (lfN ct (fun j => g (10 + j)) nv' ++ (lfH ct (hsA g 0) g h0 ++ (lfK ct g))))) H locs (F0 m 41 ls [.int s0]) := by
        intro nv v3 v2 s0 H locs ls hP hD hS hl hf
        unfold f_X11_fewest_j41 at hf
        refine lv_istore (lv' := [(4, .int s0), (3, .int v3), (2, .int v2), (1, .int v1), (0, .ref (g 7))]) hx hb dX11_fewest_41 hl (by decide) rfl (fun ls hl => ?_)
        refine lv_iload hx hb dX11_fewest_43 (lv_at hl 0 rfl) ?_
        refine lv_if_eq (tgt := 66) hx hb dX11_fewest_45 (by decide) (fun c_2 => ?_) (fun c_2 => ?_)
        · replace hf := bc_t hf c_2
          exact J66 nv v3 v2 _ _ _ hP hD hS (lv_sub hl [1, 2, 3, 4] rfl) hf
        · replace hf := bc_f hf c_2
          refine lv_aload_n hx hb dX11_fewest_48 rfl (lv_at hl 4 rfl) ?_
          refine va_get (D := G) (C := RX11) (T := TX11) (N := 11) (v := .ref (g 10)) hx hb hts iu_X11 hown hK hP 0 rfl rfl 4 (by decide) (hts _ kw266) (fun _ h9 => h9) rfl dX11_fewest_49 ?_
          refine lv_aload_n hx hb dX11_fewest_52 rfl (lv_at hl 4 rfl) ?_
          refine va_get (D := G) (C := RX11) (T := TX11) (N := 11) (v := .ref ((hsA g 0) 0)) hx hb hts iu_X11 hown hK hP 0 rfl rfl 0 (by decide) (hts _ kw262) (fun _ h9 => h9) rfl dX11_fewest_53 ?_
          refine lv_iload_n hx hb dX11_fewest_56 rfl (lv_at hl 1 rfl) ?_
          obtain ⟨r_3, nv_4, hc4, hf⟩ := bd2_e hf
          refine call_V (As := [.ref ((hsA g 0) 0), .int v3]) (rest := []) hx hb hml hown hts hK hP hD hS hA hZ lkX11_219 (Ctr.up (W := (lfX ct g x ++ (lfN ct (fun j => g (10 + j)) nv ++ (lfH ct (hsA g 0) g h0 ++ (lfK ct g))))) (W' := (lfX ct g x ++ (lfN ct (fun j => g (10 + j)) nv_4 ++ (lfH ct (hsA g 0) g h0 ++ (lfK ct g))))) (c_X3_solve l G ct sk sv (fun j => g (10 + j)) (hsA g 0) g n nv h0 v3 hc4) [3, 4, 5, 6, 7, 8, 9, 10, 11, 12, 13, 14, 15, 16, 17, 18, 19, 20, 21, 22, 23, 24, 25] [0, 1, 2] [0, 1, 2, 3, 4, 5, 6, 7, 8, 9, 10, 11, 12, 13, 14, 15, 16, 17, 18, 19, 20, 21, 22, 23, 24, 25] rfl rfl rfl rfl (by decide) rfl rfl) 3 rfl rfl ⟨Nat.le_of_ble_eq_true rfl, Nat.le_of_ble_eq_true rfl⟩ rfl hl.1 rfl (Nat.le_of_ble_eq_true rfl) dX11_fewest_57 ⟨Nat.le_of_ble_eq_true rfl, Nat.le_of_ble_eq_true rfl⟩ (fun r9 w9 H locs hB hP hD hS => ?_)
          obtain ⟨rfl, rfl⟩ := hB
          refine WG_eq (g2 := F0 m 60 ls [.int r_3]) rfl ?_
          refine lv_iload_n hx hb dX11_fewest_60 rfl (lv_at hl 3 rfl) ?_
          refine lv_icmp_ne (tgt := 66) hx hb dX11_fewest_61 (by decide) (fun c_5 => ?_) (fun c_5 => ?_)
          · replace hf := bc_f hf c_5
            exact J66 nv_4 v3 v2 _ _ _ hP hD hS (lv_sub hl [1, 2, 3, 4] rfl) hf
          · replace hf := bc_t hf c_5
            refine lv_iload_n hx hb dX11_fewest_64 rfl (lv_at hl 1 rfl) ?_
            refine lv_istore_n (lv' := [(2, .int v3), (4, .int s0), (3, .int v3), (1, .int v1), (0, .ref (g 7))]) hx hb dX11_fewest_65 rfl hl (by decide) rfl (fun ls hl => ?_)
            exact J66 nv_4 v3 v3 _ _ _ hP hD hS (lv_sub hl [2, 0, 3, 4] rfl) hf
      have J36 : ∀ (nv : MV) (v3 : Int32) (v2 : Int32) (H : Heap) (locs : List Loc) (ls : Array Slot), va_P G classes (lfX ct g x ++ (lfN ct (fun j => g (10 + j)) nv ++ (lfH ct (hsA g 0) g h0 ++ (lfK ct g)))) H → va_D A (lfX ct g x ++ (lfN ct (fun j => g (10 + j)) nv ++ (lfH ct (hsA g 0) g h0 ++ (lfK ct g)))) → va_S A s.heap H locs → lv_has ls 5 [(3, .int v3), (2, .int v2), (1, .int v1), (0, .ref (g 7))] → f_X11_fewest_j36 n x nv h0 v3 v2 v1 = some q → WG l G ct sk sv p e (RM 11 304 0 0) s m args below meth c A (Eq2 (some (.int r)) (lfX ct g x ++ (lfN ct (fun j => g (10 + j)) nv' ++ (lfH ct (hsA g 0) g h0 ++ (lfK ct g))))) H locs (F0 m 36 ls []) := by
        intro nv v3 v2 H locs ls hP hD hS hl hf
        unfold f_X11_fewest_j36 at hf
        refine lv_iconst (v := 1) hx hb dX11_fewest_36 (by decide) ?_
        refine lv_goto (tgt := 41) hx hb dX11_fewest_37 (by decide) ?_
        exact J41 nv v3 v2 1 _ _ _ hP hD hS hl hf
      replace hf : f_X11_fewest_b12 n x nv h0 v3 v2 v1 = some q := hf
      unfold f_X11_fewest_b12 at hf
      refine lv_iload_n hx hb dX11_fewest_12 rfl (lv_at hl 0 rfl) ?_
      refine lv_aload_n hx hb dX11_fewest_13 rfl (lv_at hl 3 rfl) ?_
      obtain ⟨r_6, hc6, hf⟩ := bd_e hf
      refine call_V (As := []) (rest := [.int v3]) hx hb hml hown hts hK hP hD hS hA hZ lkX11_216 (Ctr.up (W := (lfX ct g x ++ (lfN ct (fun j => g (10 + j)) nv ++ (lfH ct (hsA g 0) g h0 ++ (lfK ct g))))) (W' := (lfX ct g x ++ (lfN ct (fun j => g (10 + j)) nv ++ (lfH ct (hsA g 0) g h0 ++ (lfK ct g))))) (c_X11_everyMember l G ct sk sv g n x h0 hc6) [0, 1, 2, 11, 12, 13, 14, 15, 16, 17, 18] [3, 4, 5, 6, 7, 8, 9, 10, 19, 20, 21, 22, 23, 24, 25] [15, 16, 17, 0, 1, 2, 3, 4, 5, 6, 7, 18, 19, 20, 21, 22, 23, 24, 25, 8, 9, 10, 11, 12, 13, 14] rfl rfl rfl rfl (by decide) rfl rfl) 0 rfl rfl ⟨Nat.le_of_ble_eq_true rfl, Nat.le_of_ble_eq_true rfl⟩ rfl hl.1 rfl (Nat.le_of_ble_eq_true rfl) dX11_fewest_14 ⟨Nat.le_of_ble_eq_true rfl, Nat.le_of_ble_eq_true rfl⟩ (fun r9 w9 H locs hB hP hD hS => ?_)
      obtain ⟨rfl, rfl⟩ := hB
      refine WG_eq (g2 := F0 m 17 ls [.int r_6, .int v3]) rfl ?_
      refine lv_icmp_gt (tgt := 72) hx hb dX11_fewest_17 (by decide) (fun c_7 => ?_) (fun c_7 => ?_)
      · replace hf := bc_t hf c_7
        exact hE (v2, nv) (lp_inr hor hf).symm _ _ _ hP hD hS (lv_sub hl [1] rfl)
      · replace hf := bc_f hf c_7
        refine lv_iload_n hx hb dX11_fewest_20 rfl (lv_at hl 1 rfl) ?_
        refine lv_iconst (v := (-1)) hx hb dX11_fewest_21 (by decide) ?_
        refine lv_icmp_eq (tgt := 36) hx hb dX11_fewest_22 (by decide) (fun c_8 => ?_) (fun c_8 => ?_)
        · replace hf := bc_t hf c_8
          exact J36 nv v3 v2 _ _ _ hP hD hS hl hf
        · replace hf := bc_f hf c_8
          refine lv_iload_n hx hb dX11_fewest_25 rfl (lv_at hl 0 rfl) ?_
          obtain ⟨r_9, hc9, hf⟩ := bd_e hf
          refine call_S (As := [.int v3]) (rest := []) hx hb hml hown hts hK hP hD hS hA hZ lkX11_226 (Ctr.up (W := (lfX ct g x ++ (lfN ct (fun j => g (10 + j)) nv ++ (lfH ct (hsA g 0) g h0 ++ (lfK ct g))))) (W' := (lfX ct g x ++ (lfN ct (fun j => g (10 + j)) nv ++ (lfH ct (hsA g 0) g h0 ++ (lfK ct g))))) (c_J6_bitCount l G ct sk sv  n v3 hc9) [] [0, 1, 2, 3, 4, 5, 6, 7, 8, 9, 10, 11, 12, 13, 14, 15, 16, 17, 18, 19, 20, 21, 22, 23, 24, 25] [0, 1, 2, 3, 4, 5, 6, 7, 8, 9, 10, 11, 12, 13, 14, 15, 16, 17, 18, 19, 20, 21, 22, 23, 24, 25] rfl rfl rfl rfl (by decide) rfl rfl) ⟨Nat.le_of_ble_eq_true rfl, Nat.le_of_ble_eq_true rfl⟩ rfl hl.1 rfl (Nat.le_of_ble_eq_true rfl) dX11_fewest_26 ⟨Nat.le_of_ble_eq_true rfl, Nat.le_of_ble_eq_true rfl⟩ (fun r9 w9 H locs hB hP hD hS => ?_)
          obtain ⟨rfl, rfl⟩ := hB
          refine WG_eq (g2 := F0 m 29 ls [.int r_9]) rfl ?_
          refine lv_iload_n hx hb dX11_fewest_29 rfl (lv_at hl 1 rfl) ?_
          obtain ⟨r_10, hc10, hf⟩ := bd_e hf
          refine call_S (As := [.int v2]) (rest := [.int r_9]) hx hb hml hown hts hK hP hD hS hA hZ lkX11_226 (Ctr.up (W := (lfX ct g x ++ (lfN ct (fun j => g (10 + j)) nv ++ (lfH ct (hsA g 0) g h0 ++ (lfK ct g))))) (W' := (lfX ct g x ++ (lfN ct (fun j => g (10 + j)) nv ++ (lfH ct (hsA g 0) g h0 ++ (lfK ct g))))) (c_J6_bitCount l G ct sk sv  n v2 hc10) [] [0, 1, 2, 3, 4, 5, 6, 7, 8, 9, 10, 11, 12, 13, 14, 15, 16, 17, 18, 19, 20, 21, 22, 23, 24, 25] [0, 1, 2, 3, 4, 5, 6, 7, 8, 9, 10, 11, 12, 13, 14, 15, 16, 17, 18, 19, 20, 21, 22, 23, 24, 25] rfl rfl rfl rfl (by decide) rfl rfl) ⟨Nat.le_of_ble_eq_true rfl, Nat.le_of_ble_eq_true rfl⟩ rfl hl.1 rfl (Nat.le_of_ble_eq_true rfl) dX11_fewest_30 ⟨Nat.le_of_ble_eq_true rfl, Nat.le_of_ble_eq_true rfl⟩ (fun r9 w9 H locs hB hP hD hS => ?_)
          obtain ⟨rfl, rfl⟩ := hB
          refine WG_eq (g2 := F0 m 33 ls [.int r_10, .int r_9]) rfl ?_
          refine lv_icmp_ge (tgt := 40) hx hb dX11_fewest_33 (by decide) (fun c_11 => ?_) (fun c_11 => ?_)
          · replace hf := bc_t hf c_11
            refine lv_iconst (v := 0) hx hb dX11_fewest_40 (by decide) ?_
            exact J41 nv v3 v2 0 _ _ _ hP hD hS hl hf
          · replace hf := bc_f hf c_11
            exact J36 nv v3 v2 _ _ _ hP hD hS hl hf
  unfold f_X11_fewest at hf
  show WG l G ct sk sv p e (RM 11 304 0 0) s m args below meth c A (Eq2 (some (.int r)) (lfX ct g x ++ (lfN ct (fun j => g (10 + j)) nv' ++ (lfH ct (hsA g 0) g h0 ++ (lfK ct g))))) s.heap [] (F0 m 0 ls [])
  refine lv_aload_n hx hb dX11_fewest_0 rfl (lv_at hl 0 rfl) ?_
  refine va_get (D := G) (C := RX11) (T := TX11) (N := 11) (v := .ref ((hsA g 0) 0)) hx hb hts iu_X11 hown hK hP 0 rfl rfl 0 (by decide) (hts _ kw262) (fun _ h9 => h9) rfl dX11_fewest_1 ?_
  obtain ⟨r_12, hc12, hf⟩ := bd_e hf
  refine call_V (As := []) (rest := []) hx hb hml hown hts hK hP hD hS hA hZ lkX11_210 (Ctr.up (W := (lfX ct g x ++ (lfN ct (fun j => g (10 + j)) nv ++ (lfH ct (hsA g 0) g h0 ++ (lfK ct g))))) (W' := (lfX ct g x ++ (lfN ct (fun j => g (10 + j)) nv ++ (lfH ct (hsA g 0) g h0 ++ (lfK ct g))))) (c_X1_postageDue l G ct sk sv (hsA g 0) g n h0 hc12) [11, 12, 13, 14, 15, 16, 17, 18] [0, 1, 2, 3, 4, 5, 6, 7, 8, 9, 10, 19, 20, 21, 22, 23, 24, 25] [0, 1, 2, 3, 4, 5, 6, 7, 8, 9, 10, 18, 19, 20, 21, 22, 23, 24, 25, 11, 12, 13, 14, 15, 16, 17] rfl rfl rfl rfl (by decide) rfl rfl) 11 rfl rfl ⟨Nat.le_of_ble_eq_true rfl, Nat.le_of_ble_eq_true rfl⟩ rfl hl.1 rfl (Nat.le_of_ble_eq_true rfl) dX11_fewest_4 ⟨Nat.le_of_ble_eq_true rfl, Nat.le_of_ble_eq_true rfl⟩ (fun r9 w9 H locs hB hP hD hS => ?_)
  obtain ⟨rfl, rfl⟩ := hB
  refine WG_eq (g2 := F0 m 7 ls [.int r_12]) rfl ?_
  refine lv_istore_n (lv' := [(1, .int r_12), (0, .ref (g 7))]) hx hb dX11_fewest_7 rfl hl (by decide) rfl (fun ls hl => ?_)
  refine lv_iconst (v := (-1)) hx hb dX11_fewest_8 (by decide) ?_
  refine lv_istore_n (lv' := [(2, .int (-1)), (1, .int r_12), (0, .ref (g 7))]) hx hb dX11_fewest_9 rfl hl (by decide) rfl (fun ls hl => ?_)
  refine lv_iconst (v := 0) hx hb dX11_fewest_10 (by decide) ?_
  refine lv_istore_n (lv' := [(3, .int 0), (2, .int (-1)), (1, .int r_12), (0, .ref (g 7))]) hx hb dX11_fewest_11 rfl hl (by decide) rfl (fun ls hl => ?_)
  obtain ⟨v2_13, nv_14, hx_15, hf⟩ := bd2_e hf
  refine L12 n nv r_12 0 (-1) (v2_13, nv_14) _ _ _ hP hD hS hl hx_15 ?_
  intro x9 e9 H locs ls hP hD hS hl
  subst e9
  have hP : va_P G classes (lfX ct g x ++ (lfN ct (fun j => g (10 + j)) nv_14 ++ (lfH ct (hsA g 0) g h0 ++ (lfK ct g)))) H := hP
  have hD : va_D A (lfX ct g x ++ (lfN ct (fun j => g (10 + j)) nv_14 ++ (lfH ct (hsA g 0) g h0 ++ (lfK ct g)))) := hD
  have hl : lv_has ls 5 [(2, .int v2_13)] := hl
  refine lv_iload_n hx hb dX11_fewest_72 rfl (lv_at hl 0 rfl) ?_
  obtain ⟨e1, e2⟩ := inj2 (Option.some.inj hf)
  exact end_i (w' := (lfX ct g x ++ (lfN ct (fun j => g (10 + j)) nv_14 ++ (lfH ct (hsA g 0) g h0 ++ (lfK ct g))))) hx hb hr hlocks hK hP hD hS dX11_fewest_73  ⟨by rw [← e1], by rw [← e2]⟩
noncomputable def f_X11_forged (n : Nat) (x : MV) (h0 : MV) (cv0 : MV) (v1 : Int32) : Option (Int32 × MV) :=
  bd (f_X11_isMember n x h0 v1) fun r_1 =>
  bc (r_1 = 0) (bd2 (f_X11_refuseBad n x) fun r_5 x_6 =>
  some (r_5, x_6))
  (bd (f_X1_kindAt n h0 v1) fun i_3 =>
  bd (f_X8_fewestFalse n cv0 i_3 v1) fun r_4 =>
  some (r_4, x))
set_option maxHeartbeats 4000000 in
set_option maxRecDepth 100000 in
theorem c_X11_forged (l : Launch) (G : va_G) (ct : Nat → ClassId) (sk sv : Nat → Nat) (g : Nat → Nat) (n : Nat) (x : MV) (h0 : MV) (cv0 : MV) (v1 : Int32) {r : Int32} {x' : MV} (hf : f_X11_forged n x h0 cv0 v1 = some (r, x')) : Ctr (l, G, ct, sk, sv) mX11_forged 6 211 [.ref (g 7), .int v1] (lfX ct g x ++ (lfH ct (hsA g 0) g h0 ++ (lfS ct (fun j => (hsA g 0) (8 + j)) cv0 ++ (lfK ct g)))) (lfX ct g x' ++ (lfH ct (hsA g 0) g h0 ++ (lfS ct (fun j => (hsA g 0) (8 + j)) cv0 ++ (lfK ct g)))) (some (.int r)) := by
  refine ctr_intro (by decide) (Nat.le_of_ble_eq_true rfl) ?_
  intro p e s m args below meth c A C hP hD hS hA ls hl
  obtain ⟨hx, hb, hml, hown, hts, hr, hlocks, hK, hnm, hZ⟩ := C
  have hb : c.code = cX11_forged := hb
  have hml : c.maxLocals = 2 := hml
  have hown : s.vm.findClass "SignedOutside" = some m.cls := hown
  have hr : meth.sig.returnType = some .int := hr
  have hP : va_P G classes (lfX ct g x ++ (lfH ct (hsA g 0) g h0 ++ (lfS ct (fun j => (hsA g 0) (8 + j)) cv0 ++ (lfK ct g)))) s.heap := hP
  have hD : va_D A (lfX ct g x ++ (lfH ct (hsA g 0) g h0 ++ (lfS ct (fun j => (hsA g 0) (8 + j)) cv0 ++ (lfK ct g)))) := hD
  have hK : va_K G classes (TYS ct) s := hK
  have hl : lv_has ls 2 [(0, .ref (g 7)), (1, .int v1)] := hl
  unfold f_X11_forged at hf
  show WG l G ct sk sv p e (RM 6 211 0 0) s m args below meth c A (Eq2 (some (.int r)) (lfX ct g x' ++ (lfH ct (hsA g 0) g h0 ++ (lfS ct (fun j => (hsA g 0) (8 + j)) cv0 ++ (lfK ct g))))) s.heap [] (F0 m 0 ls [])
  refine lv_aload_n hx hb dX11_forged_0 rfl (lv_at hl 0 rfl) ?_
  refine lv_iload_n hx hb dX11_forged_1 rfl (lv_at hl 1 rfl) ?_
  obtain ⟨r_1, hc1, hf⟩ := bd_e hf
  refine call_V (As := [.int v1]) (rest := []) hx hb hml hown hts hK hP hD hS hA hZ lkX11_128 (Ctr.up (W := (lfX ct g x ++ (lfH ct (hsA g 0) g h0 ++ (lfS ct (fun j => (hsA g 0) (8 + j)) cv0 ++ (lfK ct g))))) (W' := (lfX ct g x ++ (lfH ct (hsA g 0) g h0 ++ (lfS ct (fun j => (hsA g 0) (8 + j)) cv0 ++ (lfK ct g))))) (c_X11_isMember l G ct sk sv g n x h0 v1 hc1) [0, 1, 2, 3, 4, 5, 6, 7, 8, 9, 10] [11, 12, 13, 14, 15, 16, 17, 18, 19, 20, 21] [11, 12, 13, 14, 15, 16, 17, 18, 19, 20, 21, 0, 1, 2, 3, 4, 5, 6, 7, 8, 9, 10] rfl rfl rfl rfl (by decide) rfl rfl) 0 rfl rfl ⟨Nat.le_of_ble_eq_true rfl, Nat.le_of_ble_eq_true rfl⟩ rfl hl.1 rfl (Nat.le_of_ble_eq_true rfl) dX11_forged_2 ⟨Nat.le_of_ble_eq_true rfl, Nat.le_of_ble_eq_true rfl⟩ (fun r9 w9 H locs hB hP hD hS => ?_)
  obtain ⟨rfl, rfl⟩ := hB
  refine WG_eq (g2 := F0 m 5 ls [.int r_1]) rfl ?_
  refine lv_if_ne (tgt := 13) hx hb dX11_forged_5 (by decide) (fun c_2 => ?_) (fun c_2 => ?_)
  · replace hf := bc_f hf c_2
    refine lv_aload_n hx hb dX11_forged_13 rfl (lv_at hl 0 rfl) ?_
    refine va_get (D := G) (C := RX11) (T := TX11) (N := 11) (v := .ref ((hsA g 0) 0)) hx hb hts iu_X11 hown hK hP 0 rfl rfl 0 (by decide) (hts _ kw262) (fun _ h9 => h9) rfl dX11_forged_14 ?_
    refine va_get (D := G) (C := RX1) (T := TX1) (N := 16) (v := .ref ((hsA g 0) 8)) hx hb hts iu_X1 hown hK hP 3 rfl rfl 13 (by decide) (hts _ kw158) (fun _ h9 => h9) rfl dX11_forged_17 ?_
    refine lv_iload_n hx hb dX11_forged_20 rfl (lv_at hl 1 rfl) ?_
    refine lv_aload_n hx hb dX11_forged_21 rfl (lv_at hl 0 rfl) ?_
    refine va_get (D := G) (C := RX11) (T := TX11) (N := 11) (v := .ref ((hsA g 0) 0)) hx hb hts iu_X11 hown hK hP 0 rfl rfl 0 (by decide) (hts _ kw262) (fun _ h9 => h9) rfl dX11_forged_22 ?_
    refine lv_iload_n hx hb dX11_forged_25 rfl (lv_at hl 1 rfl) ?_
    obtain ⟨i_3, hc3, hf⟩ := bd_e hf
    refine call_V (As := [.int v1]) (rest := [.int v1, .ref ((hsA g 0) 8)]) hx hb hml hown hts hK hP hD hS hA hZ lkX11_170 (Ctr.up (W := (lfX ct g x ++ (lfH ct (hsA g 0) g h0 ++ (lfS ct (fun j => (hsA g 0) (8 + j)) cv0 ++ (lfK ct g))))) (W' := (lfX ct g x ++ (lfH ct (hsA g 0) g h0 ++ (lfS ct (fun j => (hsA g 0) (8 + j)) cv0 ++ (lfK ct g))))) (c_X1_kindAt l G ct sk sv (hsA g 0) g n h0 v1 hc3) [3, 4, 5, 6, 7, 8, 9, 10, 15, 16, 17, 18, 19, 20, 21] [0, 1, 2, 11, 12, 13, 14] [0, 1, 2, 7, 8, 9, 10, 11, 12, 13, 14, 3, 4, 5, 6, 15, 16, 17, 18, 19, 20, 21] rfl rfl rfl rfl (by decide) rfl rfl) 3 rfl rfl ⟨Nat.le_of_ble_eq_true rfl, Nat.le_of_ble_eq_true rfl⟩ rfl hl.1 rfl (Nat.le_of_ble_eq_true rfl) dX11_forged_26 ⟨Nat.le_of_ble_eq_true rfl, Nat.le_of_ble_eq_true rfl⟩ (fun r9 w9 H locs hB hP hD hS => ?_)
    obtain ⟨rfl, rfl⟩ := hB
    refine WG_eq (g2 := F0 m 29 ls [.ref (g (1 + i_3)), .int v1, .ref ((hsA g 0) 8)]) rfl ?_
    obtain ⟨r_4, hc4, hf⟩ := bd_e hf
    refine call_V (As := [.int v1, .ref (g (1 + i_3))]) (rest := []) hx hb hml hown hts hK hP hD hS hA hZ lkX11_277 (Ctr.up (W := (lfX ct g x ++ (lfH ct (hsA g 0) g h0 ++ (lfS ct (fun j => (hsA g 0) (8 + j)) cv0 ++ (lfK ct g))))) (W' := (lfX ct g x ++ (lfH ct (hsA g 0) g h0 ++ (lfS ct (fun j => (hsA g 0) (8 + j)) cv0 ++ (lfK ct g))))) (c_X8_fewestFalse l G ct sk sv (fun j => (hsA g 0) (8 + j)) g n cv0 i_3 v1 hc4) [11, 12, 13, 14, 15, 16, 17, 18, 19, 20, 21] [0, 1, 2, 3, 4, 5, 6, 7, 8, 9, 10] [0, 1, 2, 3, 4, 5, 6, 7, 8, 9, 10, 11, 12, 13, 14, 15, 16, 17, 18, 19, 20, 21] rfl rfl rfl rfl (by decide) rfl rfl) 11 rfl rfl ⟨Nat.le_of_ble_eq_true rfl, Nat.le_of_ble_eq_true rfl⟩ rfl hl.1 rfl (Nat.le_of_ble_eq_true rfl) dX11_forged_29 ⟨Nat.le_of_ble_eq_true rfl, Nat.le_of_ble_eq_true rfl⟩ (fun r9 w9 H locs hB hP hD hS => ?_)
    obtain ⟨rfl, rfl⟩ := hB
    refine WG_eq (g2 := F0 m 32 ls [.int r_4]) rfl ?_
    obtain ⟨e1, e2⟩ := inj2 (Option.some.inj hf)
    exact end_i (w' := (lfX ct g x ++ (lfH ct (hsA g 0) g h0 ++ (lfS ct (fun j => (hsA g 0) (8 + j)) cv0 ++ (lfK ct g))))) hx hb hr hlocks hK hP hD hS dX11_forged_32  ⟨by rw [← e1], by rw [← e2]⟩
  · replace hf := bc_t hf c_2
    refine lv_aload_n hx hb dX11_forged_8 rfl (lv_at hl 0 rfl) ?_
    obtain ⟨r_5, x_6, hc6, hf⟩ := bd2_e hf
    refine call_V (As := []) (rest := []) hx hb hml hown hts hK hP hD hS hA hZ lkX11_83 (Ctr.up (W := (lfX ct g x ++ (lfH ct (hsA g 0) g h0 ++ (lfS ct (fun j => (hsA g 0) (8 + j)) cv0 ++ (lfK ct g))))) (W' := (lfX ct g x_6 ++ (lfH ct (hsA g 0) g h0 ++ (lfS ct (fun j => (hsA g 0) (8 + j)) cv0 ++ (lfK ct g))))) (c_X11_refuseBad l G ct sk sv g n x hc6) [0, 1, 2] [3, 4, 5, 6, 7, 8, 9, 10, 11, 12, 13, 14, 15, 16, 17, 18, 19, 20, 21] [19, 20, 21, 0, 1, 2, 3, 4, 5, 6, 7, 8, 9, 10, 11, 12, 13, 14, 15, 16, 17, 18] rfl rfl rfl rfl (by decide) rfl rfl) 0 rfl rfl ⟨Nat.le_of_ble_eq_true rfl, Nat.le_of_ble_eq_true rfl⟩ rfl hl.1 rfl (Nat.le_of_ble_eq_true rfl) dX11_forged_9 ⟨Nat.le_of_ble_eq_true rfl, Nat.le_of_ble_eq_true rfl⟩ (fun r9 w9 H locs hB hP hD hS => ?_)
    obtain ⟨rfl, rfl⟩ := hB
    refine WG_eq (g2 := F0 m 12 ls [.int r_5]) rfl ?_
    obtain ⟨e1, e2⟩ := inj2 (Option.some.inj hf)
    exact end_i (w' := (lfX ct g x_6 ++ (lfH ct (hsA g 0) g h0 ++ (lfS ct (fun j => (hsA g 0) (8 + j)) cv0 ++ (lfK ct g))))) hx hb hr hlocks hK hP hD hS dX11_forged_12  ⟨by rw [← e1], by rw [← e2]⟩
noncomputable def f_X11_forget_j35 (n : Nat) (x : MV) (h0 : MV) (nt0 : MV) (cv0 : MV) : Option (Int32 × MV × MV × MV) :=
  bl (nt0.1 0) fun v3_1 =>
  bl (setS nt0 0 0) fun nt0_2 =>
  some (v3_1, x, nt0_2, cv0)
noncomputable def f_X11_forget (n : Nat) (x : MV) (h0 : MV) (nt0 : MV) (cv0 : MV) (v1 : Int32) : Option (Int32 × MV × MV × MV) :=
  bd (f_X11_within n v1 0 1) fun r_3 =>
  bc (r_3 = 0) (bd2 (f_X11_refuseBad n x) fun r_6 x_7 =>
  some (r_6, x_7, nt0, cv0))
  (bc (v1 = 0) (f_X11_forget_j35 n x h0 nt0 cv0)
  (f_X11_forget_j35 n x h0 nt0 cv0))
set_option maxHeartbeats 4000000 in
set_option maxRecDepth 100000 in
theorem c_X11_forget (l : Launch) (G : va_G) (ct : Nat → ClassId) (sk sv : Nat → Nat) (g : Nat → Nat) (n : Nat) (x : MV) (h0 : MV) (nt0 : MV) (cv0 : MV) (v1 : Int32) {r : Int32} {x' : MV} {nt0' : MV} {cv0' : MV} (hf : f_X11_forget n x h0 nt0 cv0 v1 = some (r, x', nt0', cv0')) : Ctr (l, G, ct, sk, sv) mX11_forget 1 22 [.ref (g 7), .int v1] (lfX ct g x ++ (lfH ct (hsA g 0) g h0 ++ (lfS ct (fun j => (hsA g 0) (12 + j)) nt0 ++ (lfS ct (fun j => (hsA g 0) (8 + j)) cv0)))) (lfX ct g x' ++ (lfH ct (hsA g 0) g h0 ++ (lfS ct (fun j => (hsA g 0) (12 + j)) nt0' ++ (lfS ct (fun j => (hsA g 0) (8 + j)) cv0')))) (some (.int r)) := by
  refine ctr_intro (by decide) (Nat.le_of_ble_eq_true rfl) ?_
  intro p e s m args below meth c A C hP hD hS hA ls hl
  obtain ⟨hx, hb, hml, hown, hts, hr, hlocks, hK, hnm, hZ⟩ := C
  have hb : c.code = cX11_forget := hb
  have hml : c.maxLocals = 4 := hml
  have hown : s.vm.findClass "SignedOutside" = some m.cls := hown
  have hr : meth.sig.returnType = some .int := hr
  have hP : va_P G classes (lfX ct g x ++ (lfH ct (hsA g 0) g h0 ++ (lfS ct (fun j => (hsA g 0) (12 + j)) nt0 ++ (lfS ct (fun j => (hsA g 0) (8 + j)) cv0)))) s.heap := hP
  have hD : va_D A (lfX ct g x ++ (lfH ct (hsA g 0) g h0 ++ (lfS ct (fun j => (hsA g 0) (12 + j)) nt0 ++ (lfS ct (fun j => (hsA g 0) (8 + j)) cv0)))) := hD
  have hK : va_K G classes (TYS ct) s := hK
  have hl : lv_has ls 4 [(0, .ref (g 7)), (1, .int v1)] := hl
  have J35 : ∀ (x : MV) (nt0 : MV) (cv0 : MV) (H : Heap) (locs : List Loc) (ls : Array Slot), va_P G classes (lfX ct g x ++ (lfH ct (hsA g 0) g h0 ++ (lfS ct (fun j => (hsA g 0) (12 + j)) nt0 ++ (lfS ct (fun j => (hsA g 0) (8 + j)) cv0)))) H → va_D A (lfX ct g x ++ (lfH ct (hsA g 0) g h0 ++ (lfS ct (fun j => (hsA g 0) (12 + j)) nt0 ++ (lfS ct (fun j => (hsA g 0) (8 + j)) cv0)))) → va_S A s.heap H locs → lv_has ls 4 [] → f_X11_forget_j35 n x h0 nt0 cv0 = some (r, x', nt0', cv0') → WG l G ct sk sv p e (RM 1 22 0 0) s m args below meth c A (Eq2 (some (.int r)) (lfX ct g x' ++ (lfH ct (hsA g 0) g h0 ++ (lfS ct (fun j => (hsA g 0) (12 + j)) nt0' ++ (lfS ct (fun j => (hsA g 0) (8 + j)) cv0'))))) H locs (F0 m 35 ls [.ref ((hsA g 0) 12)]) := by
    intro x nt0 cv0 H locs ls hP hD hS hl hf
    unfold f_X11_forget_j35 at hf
    refine lv_astore_n (lv' := [(2, .ref ((hsA g 0) 12))]) hx hb dX11_forget_35 rfl hl (by decide) rfl (fun ls hl => ?_)
    refine lv_aload_n hx hb dX11_forget_36 rfl (lv_at hl 0 rfl) ?_
    refine va_get (D := G) (C := RX8) (T := TX8) (N := 4) (v := .int (nt0.1 0)) hx hb hts iu_X8 hown hK hP 11 rfl rfl 0 (by decide) (hts _ kw87) (fun _ h9 => h9) rfl dX11_forget_37 ?_
    refine lv_topi (fun v3_1 ev3_1 => ?_)
    replace hf := bl_i hf ev3_1
    refine lv_istore_n (lv' := [(3, .int v3_1), (2, .ref ((hsA g 0) 12))]) hx hb dX11_forget_40 rfl hl (by decide) rfl (fun ls hl => ?_)
    refine lv_aload_n hx hb dX11_forget_41 rfl (lv_at hl 1 rfl) ?_
    refine lv_iconst (v := 0) hx hb dX11_forget_42 (by decide) ?_
    obtain ⟨nt0_2, ent0_2, hf⟩ := bl_e hf
    refine va_put (D := G) (C := RX8) (T := TX8) (N := 4) (ty := .int) hx hb hts iu_X8 tyX8 tyX8_ok nmX8 hown hK hP hD hS 11 rfl rfl 0 (by decide) (hts _ kw87) (fun _ h9 => h9) rfl (by decide +kernel) rfl rfl (Nat.le_of_ble_eq_true rfl) dX11_forget_43 (fun H locs hP hD hS => ?_)
    have hP : va_P G classes (lfX ct g x ++ (lfH ct (hsA g 0) g h0 ++ (lfS ct (fun j => (hsA g 0) (12 + j)) nt0_2 ++ (lfS ct (fun j => (hsA g 0) (8 + j)) cv0)))) H := by rw [← ent0_2]; exact hP
    have hD : va_D A (lfX ct g x ++ (lfH ct (hsA g 0) g h0 ++ (lfS ct (fun j => (hsA g 0) (12 + j)) nt0_2 ++ (lfS ct (fun j => (hsA g 0) (8 + j)) cv0)))) := by rw [← ent0_2]; exact hD
    refine lv_iload_n hx hb dX11_forget_46 rfl (lv_at hl 0 rfl) ?_
    obtain ⟨e1, e2, e3, e4⟩ := inj4 (Option.some.inj hf)
    exact end_i (w' := (lfX ct g x ++ (lfH ct (hsA g 0) g h0 ++ (lfS ct (fun j => (hsA g 0) (12 + j)) nt0_2 ++ (lfS ct (fun j => (hsA g 0) (8 + j)) cv0))))) hx hb hr hlocks hK hP hD hS dX11_forget_47  ⟨by rw [← e1], by rw [← e2, ← e3, ← e4]⟩
  unfold f_X11_forget at hf
  show WG l G ct sk sv p e (RM 1 22 0 0) s m args below meth c A (Eq2 (some (.int r)) (lfX ct g x' ++ (lfH ct (hsA g 0) g h0 ++ (lfS ct (fun j => (hsA g 0) (12 + j)) nt0' ++ (lfS ct (fun j => (hsA g 0) (8 + j)) cv0'))))) s.heap [] (F0 m 0 ls [])
  refine lv_iload_n hx hb dX11_forget_0 rfl (lv_at hl 1 rfl) ?_
  refine lv_iconst (v := 0) hx hb dX11_forget_1 (by decide) ?_
  refine lv_iconst (v := 1) hx hb dX11_forget_2 (by decide) ?_
  obtain ⟨r_3, hc3, hf⟩ := bd_e hf
  refine call_S (As := [.int v1, .int 0, .int 1]) (rest := []) hx hb hml hown hts hK hP hD hS hA hZ lkX11_75 (Ctr.up (W := (lfX ct g x ++ (lfH ct (hsA g 0) g h0 ++ (lfS ct (fun j => (hsA g 0) (12 + j)) nt0 ++ (lfS ct (fun j => (hsA g 0) (8 + j)) cv0))))) (W' := (lfX ct g x ++ (lfH ct (hsA g 0) g h0 ++ (lfS ct (fun j => (hsA g 0) (12 + j)) nt0 ++ (lfS ct (fun j => (hsA g 0) (8 + j)) cv0))))) (c_X11_within l G ct sk sv  n v1 0 1 hc3) [] [0, 1, 2, 3, 4, 5, 6, 7, 8, 9, 10, 11, 12, 13, 14, 15, 16, 17, 18] [0, 1, 2, 3, 4, 5, 6, 7, 8, 9, 10, 11, 12, 13, 14, 15, 16, 17, 18] rfl rfl rfl rfl (by decide) rfl rfl) ⟨Nat.le_of_ble_eq_true rfl, Nat.le_of_ble_eq_true rfl⟩ rfl hl.1 rfl (Nat.le_of_ble_eq_true rfl) dX11_forget_3 ⟨Nat.le_of_ble_eq_true rfl, Nat.le_of_ble_eq_true rfl⟩ (fun r9 w9 H locs hB hP hD hS => ?_)
  obtain ⟨rfl, rfl⟩ := hB
  refine WG_eq (g2 := F0 m 6 ls [.int r_3]) rfl ?_
  refine lv_if_ne (tgt := 14) hx hb dX11_forget_6 (by decide) (fun c_4 => ?_) (fun c_4 => ?_)
  · replace hf := bc_f hf c_4
    refine lv_iload_n hx hb dX11_forget_14 rfl (lv_at hl 1 rfl) ?_
    refine lv_if_ne (tgt := 28) hx hb dX11_forget_15 (by decide) (fun c_5 => ?_) (fun c_5 => ?_)
    · replace hf := bc_f hf c_5
      refine lv_aload_n hx hb dX11_forget_28 rfl (lv_at hl 0 rfl) ?_
      refine va_get (D := G) (C := RX11) (T := TX11) (N := 11) (v := .ref ((hsA g 0) 0)) hx hb hts iu_X11 hown hK hP 0 rfl rfl 0 (by decide) (hts _ kw262) (fun _ h9 => h9) rfl dX11_forget_29 ?_
      refine va_get (D := G) (C := RX1) (T := TX1) (N := 16) (v := .ref ((hsA g 0) 12)) hx hb hts iu_X1 hown hK hP 3 rfl rfl 14 (by decide) (hts _ kw160) (fun _ h9 => h9) rfl dX11_forget_32 ?_
      exact J35 x nt0 cv0 _ _ _ hP hD hS (lv_sub hl [] rfl) hf
    · replace hf := bc_t hf c_5
      refine lv_aload_n hx hb dX11_forget_18 rfl (lv_at hl 0 rfl) ?_
      refine va_get (D := G) (C := RX11) (T := TX11) (N := 11) (v := .ref ((hsA g 0) 0)) hx hb hts iu_X11 hown hK hP 0 rfl rfl 0 (by decide) (hts _ kw262) (fun _ h9 => h9) rfl dX11_forget_19 ?_
      refine va_get (D := G) (C := RX1) (T := TX1) (N := 16) (v := .ref ((hsA g 0) 8)) hx hb hts iu_X1 hown hK hP 3 rfl rfl 13 (by decide) (hts _ kw158) (fun _ h9 => h9) rfl dX11_forget_22 ?_
      refine lv_goto (tgt := 35) hx hb dX11_forget_25 (by decide) ?_
      exact J35 x nt0 cv0 _ _ _ hP hD hS (lv_sub hl [] rfl) hf
  · replace hf := bc_t hf c_4
    refine lv_aload_n hx hb dX11_forget_9 rfl (lv_at hl 0 rfl) ?_
    obtain ⟨r_6, x_7, hc7, hf⟩ := bd2_e hf
    refine call_V (As := []) (rest := []) hx hb hml hown hts hK hP hD hS hA hZ lkX11_83 (Ctr.up (W := (lfX ct g x ++ (lfH ct (hsA g 0) g h0 ++ (lfS ct (fun j => (hsA g 0) (12 + j)) nt0 ++ (lfS ct (fun j => (hsA g 0) (8 + j)) cv0))))) (W' := (lfX ct g x_7 ++ (lfH ct (hsA g 0) g h0 ++ (lfS ct (fun j => (hsA g 0) (12 + j)) nt0 ++ (lfS ct (fun j => (hsA g 0) (8 + j)) cv0))))) (c_X11_refuseBad l G ct sk sv g n x hc7) [0, 1, 2] [3, 4, 5, 6, 7, 8, 9, 10, 11, 12, 13, 14, 15, 16, 17, 18] [16, 17, 18, 0, 1, 2, 3, 4, 5, 6, 7, 8, 9, 10, 11, 12, 13, 14, 15] rfl rfl rfl rfl (by decide) rfl rfl) 0 rfl rfl ⟨Nat.le_of_ble_eq_true rfl, Nat.le_of_ble_eq_true rfl⟩ rfl hl.1 rfl (Nat.le_of_ble_eq_true rfl) dX11_forget_10 ⟨Nat.le_of_ble_eq_true rfl, Nat.le_of_ble_eq_true rfl⟩ (fun r9 w9 H locs hB hP hD hS => ?_)
    obtain ⟨rfl, rfl⟩ := hB
    refine WG_eq (g2 := F0 m 13 ls [.int r_6]) rfl ?_
    obtain ⟨e1, e2, e3, e4⟩ := inj4 (Option.some.inj hf)
    exact end_i (w' := (lfX ct g x_7 ++ (lfH ct (hsA g 0) g h0 ++ (lfS ct (fun j => (hsA g 0) (12 + j)) nt0 ++ (lfS ct (fun j => (hsA g 0) (8 + j)) cv0))))) hx hb hr hlocks hK hP hD hS dX11_forget_13  ⟨by rw [← e1], by rw [← e2, ← e3, ← e4]⟩
noncomputable def f_X11_setFraction_j30 (n : Nat) (x : MV) : Option (MV) :=
  some x
noncomputable def f_X11_setFraction (n : Nat) (x : MV) (v1 : Int64) (v3 : Int64) : Option (MV) :=
  bd (f_X11_commonDivisor n v1 v3) fun r_1 =>
  bc ((lg_cmp r_1 0) ≤ 0) (f_X11_setFraction_j30 n x)
  (gd (¬ r_1 = 0) <|
  bl (setL x 0 (v1 / r_1)) fun x_4 =>
  gd (¬ r_1 = 0) <|
  bl (setL x_4 1 (v3 / r_1)) fun x_6 =>
  f_X11_setFraction_j30 n x_6)
set_option maxHeartbeats 4000000 in
set_option maxRecDepth 100000 in
theorem c_X11_setFraction (l : Launch) (G : va_G) (ct : Nat → ClassId) (sk sv : Nat → Nat) (g : Nat → Nat) (n : Nat) (x : MV) (v1 : Int64) (v3 : Int64) {x' : MV} (hf : f_X11_setFraction n x v1 v3 = some x') : Ctr (l, G, ct, sk, sv) mX11_setFraction 1 30 [.ref (g 7), .long v1, .long v3] (lfX ct g x) (lfX ct g x') (none) := by
  refine ctr_intro (by decide) (Nat.le_of_ble_eq_true rfl) ?_
  intro p e s m args below meth c A C hP hD hS hA ls hl
  obtain ⟨hx, hb, hml, hown, hts, hr, hlocks, hK, hnm, hZ⟩ := C
  have hb : c.code = cX11_setFraction := hb
  have hml : c.maxLocals = 7 := hml
  have hown : s.vm.findClass "SignedOutside" = some m.cls := hown
  have hr : meth.sig.returnType = none := hr
  have hP : va_P G classes (lfX ct g x) s.heap := hP
  have hD : va_D A (lfX ct g x) := hD
  have hK : va_K G classes (TYS ct) s := hK
  have hl : lv_has ls 7 [(0, .ref (g 7)), (1, .long v1), (3, .long v3)] := hl
  have J30 : ∀ (x : MV) (H : Heap) (locs : List Loc) (ls : Array Slot), va_P G classes (lfX ct g x) H → va_D A (lfX ct g x) → va_S A s.heap H locs → lv_has ls 7 [] → f_X11_setFraction_j30 n x = some x' → WG l G ct sk sv p e (RM 1 30 0 0) s m args below meth c A (Eq2 (none) (lfX ct g x')) H locs (F0 m 30 ls []) := by
    intro x H locs ls hP hD hS hl hf
    unfold f_X11_setFraction_j30 at hf
    have e1 := Option.some.inj hf
    exact end_v (w' := (lfX ct g x)) hx hb hr hlocks hK hP hD hS dX11_setFraction_30  ⟨rfl, by rw [← e1]⟩
  unfold f_X11_setFraction at hf
  show WG l G ct sk sv p e (RM 1 30 0 0) s m args below meth c A (Eq2 (none) (lfX ct g x')) s.heap [] (F0 m 0 ls [])
  refine lv_lload_n hx hb dX11_setFraction_0 rfl (lv_at hl 1 rfl) ?_
  refine lv_lload_n hx hb dX11_setFraction_1 rfl (lv_at hl 2 rfl) ?_
  obtain ⟨r_1, hc1, hf⟩ := bd_e hf
  refine call_S (As := [.long v1, .long v3]) (rest := []) hx hb hml hown hts hK hP hD hS hA hZ lkX11_356 (Ctr.up (W := (lfX ct g x)) (W' := (lfX ct g x)) (c_X11_commonDivisor l G ct sk sv  n v1 v3 hc1) [] [0, 1, 2] [0, 1, 2] rfl rfl rfl rfl (by decide) rfl rfl) ⟨Nat.le_of_ble_eq_true rfl, Nat.le_of_ble_eq_true rfl⟩ rfl hl.1 rfl (Nat.le_of_ble_eq_true rfl) dX11_setFraction_2 ⟨Nat.le_of_ble_eq_true rfl, Nat.le_of_ble_eq_true rfl⟩ (fun r9 w9 H locs hB hP hD hS => ?_)
  obtain ⟨rfl, rfl⟩ := hB
  refine WG_eq (g2 := F0 m 5 ls [.long r_1]) rfl ?_
  refine lv_lstore (lv' := [(5, .long r_1), (0, .ref (g 7)), (1, .long v1), (3, .long v3)]) hx hb dX11_setFraction_5 hl (by decide) rfl (fun ls hl => ?_)
  refine lv_lload hx hb dX11_setFraction_7 (lv_at hl 0 rfl) ?_
  refine lv_lconst (v := 0) hx hb dX11_setFraction_9 (by decide) ?_
  refine W.lcmp hx hb dX11_setFraction_10 ?_
  refine lv_if_le (tgt := 30) hx hb dX11_setFraction_11 (by decide) (fun c_2 => ?_) (fun c_2 => ?_)
  · replace hf := bc_t hf c_2
    exact J30 x _ _ _ hP hD hS (lv_sub hl [] rfl) hf
  · replace hf := bc_f hf c_2
    refine lv_aload_n hx hb dX11_setFraction_14 rfl (lv_at hl 1 rfl) ?_
    refine lv_lload_n hx hb dX11_setFraction_15 rfl (lv_at hl 2 rfl) ?_
    refine lv_lload hx hb dX11_setFraction_16 (lv_at hl 0 rfl) ?_
    obtain ⟨g_3, hf⟩ := gd_e hf
    refine lv_ldiv hx hb dX11_setFraction_18 g_3 ?_
    obtain ⟨x_4, ex_4, hf⟩ := bl_e hf
    refine va_put (D := G) (C := RX11) (T := TX11) (N := 11) (ty := .long) hx hb hts iu_X11 tyX11 tyX11_ok nmX11 hown hK hP hD hS 0 rfl rfl 6 (by decide) (hts _ kw268) (fun _ h9 => h9) rfl (by decide +kernel) rfl rfl (Nat.le_of_ble_eq_true rfl) dX11_setFraction_19 (fun H locs hP hD hS => ?_)
    have hP : va_P G classes (lfX ct g x_4) H := by rw [← ex_4]; exact hP
    have hD : va_D A (lfX ct g x_4) := by rw [← ex_4]; exact hD
    refine lv_aload_n hx hb dX11_setFraction_22 rfl (lv_at hl 1 rfl) ?_
    refine lv_lload_n hx hb dX11_setFraction_23 rfl (lv_at hl 3 rfl) ?_
    refine lv_lload hx hb dX11_setFraction_24 (lv_at hl 0 rfl) ?_
    obtain ⟨g_5, hf⟩ := gd_e hf
    refine lv_ldiv hx hb dX11_setFraction_26 g_5 ?_
    obtain ⟨x_6, ex_6, hf⟩ := bl_e hf
    refine va_put (D := G) (C := RX11) (T := TX11) (N := 11) (ty := .long) hx hb hts iu_X11 tyX11 tyX11_ok nmX11 hown hK hP hD hS 0 rfl rfl 7 (by decide) (hts _ kw269) (fun _ h9 => h9) rfl (by decide +kernel) rfl rfl (Nat.le_of_ble_eq_true rfl) dX11_setFraction_27 (fun H locs hP hD hS => ?_)
    have hP : va_P G classes (lfX ct g x_6) H := by rw [← ex_6]; exact hP
    have hD : va_D A (lfX ct g x_6) := by rw [← ex_6]; exact hD
    exact J30 x_6 _ _ _ hP hD hS (lv_sub hl [] rfl) hf
noncomputable def f_X11_found (n : Nat) (x : MV) (h0 : MV) (v1 : Int32) : Option (Int32 × MV) :=
  bd (f_X11_within n v1 0 10) fun r_1 =>
  bc (r_1 = 0) (bd2 (f_X11_refuseBad n x) fun r_5 x_6 =>
  some (r_5, x_6))
  (bd (f_X1_postageFranked n h0) fun r_3 =>
  bd (f_X11_setFraction n x (((v1 : Int32).toInt64) * ((r_3 : Int32).toInt64)) 10) fun x_4 =>
  some (1, x_4))
set_option maxHeartbeats 4000000 in
set_option maxRecDepth 100000 in
theorem c_X11_found (l : Launch) (G : va_G) (ct : Nat → ClassId) (sk sv : Nat → Nat) (g : Nat → Nat) (n : Nat) (x : MV) (h0 : MV) (v1 : Int32) {r : Int32} {x' : MV} (hf : f_X11_found n x h0 v1 = some (r, x')) : Ctr (l, G, ct, sk, sv) mX11_found 3 107 [.ref (g 7), .int v1] (lfX ct g x ++ (lfH ct (hsA g 0) g h0)) (lfX ct g x' ++ (lfH ct (hsA g 0) g h0)) (some (.int r)) := by
  refine ctr_intro (by decide) (Nat.le_of_ble_eq_true rfl) ?_
  intro p e s m args below meth c A C hP hD hS hA ls hl
  obtain ⟨hx, hb, hml, hown, hts, hr, hlocks, hK, hnm, hZ⟩ := C
  have hb : c.code = cX11_found := hb
  have hml : c.maxLocals = 2 := hml
  have hown : s.vm.findClass "SignedOutside" = some m.cls := hown
  have hr : meth.sig.returnType = some .int := hr
  have hP : va_P G classes (lfX ct g x ++ (lfH ct (hsA g 0) g h0)) s.heap := hP
  have hD : va_D A (lfX ct g x ++ (lfH ct (hsA g 0) g h0)) := hD
  have hK : va_K G classes (TYS ct) s := hK
  have hl : lv_has ls 2 [(0, .ref (g 7)), (1, .int v1)] := hl
  unfold f_X11_found at hf
  show WG l G ct sk sv p e (RM 3 107 0 0) s m args below meth c A (Eq2 (some (.int r)) (lfX ct g x' ++ (lfH ct (hsA g 0) g h0))) s.heap [] (F0 m 0 ls [])
  refine lv_iload_n hx hb dX11_found_0 rfl (lv_at hl 1 rfl) ?_
  refine lv_iconst (v := 0) hx hb dX11_found_1 (by decide) ?_
  refine lv_bipush (v := 10) hx hb dX11_found_2 (by decide) ?_
  obtain ⟨r_1, hc1, hf⟩ := bd_e hf
  refine call_S (As := [.int v1, .int 0, .int 10]) (rest := []) hx hb hml hown hts hK hP hD hS hA hZ lkX11_75 (Ctr.up (W := (lfX ct g x ++ (lfH ct (hsA g 0) g h0))) (W' := (lfX ct g x ++ (lfH ct (hsA g 0) g h0))) (c_X11_within l G ct sk sv  n v1 0 10 hc1) [] [0, 1, 2, 3, 4, 5, 6, 7, 8, 9, 10] [0, 1, 2, 3, 4, 5, 6, 7, 8, 9, 10] rfl rfl rfl rfl (by decide) rfl rfl) ⟨Nat.le_of_ble_eq_true rfl, Nat.le_of_ble_eq_true rfl⟩ rfl hl.1 rfl (Nat.le_of_ble_eq_true rfl) dX11_found_4 ⟨Nat.le_of_ble_eq_true rfl, Nat.le_of_ble_eq_true rfl⟩ (fun r9 w9 H locs hB hP hD hS => ?_)
  obtain ⟨rfl, rfl⟩ := hB
  refine WG_eq (g2 := F0 m 7 ls [.int r_1]) rfl ?_
  refine lv_if_ne (tgt := 15) hx hb dX11_found_7 (by decide) (fun c_2 => ?_) (fun c_2 => ?_)
  · replace hf := bc_f hf c_2
    refine lv_aload_n hx hb dX11_found_15 rfl (lv_at hl 0 rfl) ?_
    refine lv_iload_n hx hb dX11_found_16 rfl (lv_at hl 1 rfl) ?_
    refine lv_i2l (v := (v1 : Int32).toInt64) hx hb dX11_found_17 rfl ?_
    refine lv_aload_n hx hb dX11_found_18 rfl (lv_at hl 0 rfl) ?_
    refine va_get (D := G) (C := RX11) (T := TX11) (N := 11) (v := .ref ((hsA g 0) 0)) hx hb hts iu_X11 hown hK hP 0 rfl rfl 0 (by decide) (hts _ kw262) (fun _ h9 => h9) rfl dX11_found_19 ?_
    obtain ⟨r_3, hc3, hf⟩ := bd_e hf
    refine call_V (As := []) (rest := [.long ((v1 : Int32).toInt64), .ref (g 7)]) hx hb hml hown hts hK hP hD hS hA hZ lkX11_293 (Ctr.up (W := (lfX ct g x ++ (lfH ct (hsA g 0) g h0))) (W' := (lfX ct g x ++ (lfH ct (hsA g 0) g h0))) (c_X1_postageFranked l G ct sk sv (hsA g 0) g n h0 hc3) [3, 4, 5, 6, 7, 8, 9, 10] [0, 1, 2] [0, 1, 2, 3, 4, 5, 6, 7, 8, 9, 10] rfl rfl rfl rfl (by decide) rfl rfl) 3 rfl rfl ⟨Nat.le_of_ble_eq_true rfl, Nat.le_of_ble_eq_true rfl⟩ rfl hl.1 rfl (Nat.le_of_ble_eq_true rfl) dX11_found_22 ⟨Nat.le_of_ble_eq_true rfl, Nat.le_of_ble_eq_true rfl⟩ (fun r9 w9 H locs hB hP hD hS => ?_)
    obtain ⟨rfl, rfl⟩ := hB
    refine WG_eq (g2 := F0 m 25 ls [.int r_3, .long ((v1 : Int32).toInt64), .ref (g 7)]) rfl ?_
    refine lv_i2l (v := (r_3 : Int32).toInt64) hx hb dX11_found_25 rfl ?_
    refine lv_lmul hx hb dX11_found_26 ?_
    refine lv_ldc2 (v := 10) hx hb hown (hts _ kw821) dX11_found_27 ?_
    obtain ⟨x_4, hc4, hf⟩ := bd_e hf
    refine call_V (As := [.long (((v1 : Int32).toInt64) * ((r_3 : Int32).toInt64)), .long 10]) (rest := []) hx hb hml hown hts hK hP hD hS hA hZ lkX11_243 (Ctr.up (W := (lfX ct g x ++ (lfH ct (hsA g 0) g h0))) (W' := (lfX ct g x_4 ++ (lfH ct (hsA g 0) g h0))) (c_X11_setFraction l G ct sk sv g n x (((v1 : Int32).toInt64) * ((r_3 : Int32).toInt64)) 10 hc4) [0, 1, 2] [3, 4, 5, 6, 7, 8, 9, 10] [8, 9, 10, 0, 1, 2, 3, 4, 5, 6, 7] rfl rfl rfl rfl (by decide) rfl rfl) 0 rfl rfl ⟨Nat.le_of_ble_eq_true rfl, Nat.le_of_ble_eq_true rfl⟩ rfl hl.1 rfl (Nat.le_of_ble_eq_true rfl) dX11_found_30 ⟨Nat.le_of_ble_eq_true rfl, Nat.le_of_ble_eq_true rfl⟩ (fun r9 w9 H locs hB hP hD hS => ?_)
    obtain ⟨rfl, rfl⟩ := hB
    refine WG_eq (g2 := F0 m 33 ls []) rfl ?_
    refine lv_iconst (v := 1) hx hb dX11_found_33 (by decide) ?_
    obtain ⟨e1, e2⟩ := inj2 (Option.some.inj hf)
    exact end_i (w' := (lfX ct g x_4 ++ (lfH ct (hsA g 0) g h0))) hx hb hr hlocks hK hP hD hS dX11_found_34  ⟨by rw [← e1], by rw [← e2]⟩
  · replace hf := bc_t hf c_2
    refine lv_aload_n hx hb dX11_found_10 rfl (lv_at hl 0 rfl) ?_
    obtain ⟨r_5, x_6, hc6, hf⟩ := bd2_e hf
    refine call_V (As := []) (rest := []) hx hb hml hown hts hK hP hD hS hA hZ lkX11_83 (Ctr.up (W := (lfX ct g x ++ (lfH ct (hsA g 0) g h0))) (W' := (lfX ct g x_6 ++ (lfH ct (hsA g 0) g h0))) (c_X11_refuseBad l G ct sk sv g n x hc6) [0, 1, 2] [3, 4, 5, 6, 7, 8, 9, 10] [8, 9, 10, 0, 1, 2, 3, 4, 5, 6, 7] rfl rfl rfl rfl (by decide) rfl rfl) 0 rfl rfl ⟨Nat.le_of_ble_eq_true rfl, Nat.le_of_ble_eq_true rfl⟩ rfl hl.1 rfl (Nat.le_of_ble_eq_true rfl) dX11_found_11 ⟨Nat.le_of_ble_eq_true rfl, Nat.le_of_ble_eq_true rfl⟩ (fun r9 w9 H locs hB hP hD hS => ?_)
    obtain ⟨rfl, rfl⟩ := hB
    refine WG_eq (g2 := F0 m 14 ls [.int r_5]) rfl ?_
    obtain ⟨e1, e2⟩ := inj2 (Option.some.inj hf)
    exact end_i (w' := (lfX ct g x_6 ++ (lfH ct (hsA g 0) g h0))) hx hb hr hlocks hK hP hD hS dX11_found_14  ⟨by rw [← e1], by rw [← e2]⟩
noncomputable def f_X11_refuseNo (n : Nat) (x : MV) : Option (Int32 × MV) :=
  bl (setS x 1 ((x.1 1) + 1)) fun x_1 =>
  some ((-3), x_1)
set_option maxHeartbeats 4000000 in
set_option maxRecDepth 100000 in
theorem c_X11_refuseNo (l : Launch) (G : va_G) (ct : Nat → ClassId) (sk sv : Nat → Nat) (g : Nat → Nat) (n : Nat) (x : MV) {r : Int32} {x' : MV} (hf : f_X11_refuseNo n x = some (r, x')) : Ctr (l, G, ct, sk, sv) mX11_refuseNo 0 0 [.ref (g 7)] (lfX ct g x) (lfX ct g x') (some (.int r)) := by
  refine ctr_intro (by decide) (Nat.le_of_ble_eq_true rfl) ?_
  intro p e s m args below meth c A C hP hD hS hA ls hl
  obtain ⟨hx, hb, hml, hown, hts, hr, hlocks, hK, hnm, hZ⟩ := C
  have hb : c.code = cX11_refuseNo := hb
  have hml : c.maxLocals = 1 := hml
  have hown : s.vm.findClass "SignedOutside" = some m.cls := hown
  have hr : meth.sig.returnType = some .int := hr
  have hP : va_P G classes (lfX ct g x) s.heap := hP
  have hD : va_D A (lfX ct g x) := hD
  have hK : va_K G classes (TYS ct) s := hK
  have hl : lv_has ls 1 [(0, .ref (g 7))] := hl
  unfold f_X11_refuseNo at hf
  show WG l G ct sk sv p e (RM 0 0 0 0) s m args below meth c A (Eq2 (some (.int r)) (lfX ct g x')) s.heap [] (F0 m 0 ls [])
  refine lv_aload_n hx hb dX11_refuseNo_0 rfl (lv_at hl 0 rfl) ?_
  refine lv_dup hx hb dX11_refuseNo_1 rfl ?_
  refine va_get (D := G) (C := RX11) (T := TX11) (N := 11) (v := .int (x.1 1)) hx hb hts iu_X11 hown hK hP 0 rfl rfl 9 (by decide) (hts _ kw271) (fun _ h9 => h9) rfl dX11_refuseNo_2 ?_
  refine lv_iconst (v := 1) hx hb dX11_refuseNo_5 (by decide) ?_
  refine lv_iadd hx hb dX11_refuseNo_6 ?_
  obtain ⟨x_1, ex_1, hf⟩ := bl_e hf
  refine va_put (D := G) (C := RX11) (T := TX11) (N := 11) (ty := .int) hx hb hts iu_X11 tyX11 tyX11_ok nmX11 hown hK hP hD hS 0 rfl rfl 9 (by decide) (hts _ kw271) (fun _ h9 => h9) rfl (by decide +kernel) rfl rfl (Nat.le_of_ble_eq_true rfl) dX11_refuseNo_7 (fun H locs hP hD hS => ?_)
  have hP : va_P G classes (lfX ct g x_1) H := by rw [← ex_1]; exact hP
  have hD : va_D A (lfX ct g x_1) := by rw [← ex_1]; exact hD
  refine lv_bipush (v := (-3)) hx hb dX11_refuseNo_10 (by decide) ?_
  obtain ⟨e1, e2⟩ := inj2 (Option.some.inj hf)
  exact end_i (w' := (lfX ct g x_1)) hx hb hr hlocks hK hP hD hS dX11_refuseNo_12  ⟨by rw [← e1], by rw [← e2]⟩
noncomputable def f_X11_frank_j16 (n : Nat) (x : MV) (h0 : MV) (ps0 : MV) : Option (Int32 × MV × MV × MV) :=
  bd2 (f_X11_refuseBad n x) fun r_1 x_2 =>
  some (r_1, x_2, h0, ps0)
noncomputable def f_X11_frank (n : Nat) (x : MV) (h0 : MV) (ps0 : MV) (v1 : Int32) (v2 : Int32) : Option (Int32 × MV × MV × MV) :=
  bd (f_X11_isLetter n x h0 v1) fun r_3 =>
  bc (r_3 = 0) (f_X11_frank_j16 n x h0 ps0)
  (bd (f_X11_isMember n x h0 v2) fun r_5 =>
  bc (r_5 = 0) (f_X11_frank_j16 n x h0 ps0)
  (bd (f_X1_mayFrank n h0 v1 v2) fun r_7 =>
  bc (r_7 = 0) (bd2 (f_X11_refuseNo n x) fun r_12 x_13 =>
  some (r_12, x_13, h0, ps0))
  (bd (f_X4_keep n h0 ps0) fun ps0_9 =>
  bd (f_X1_sign n h0 v1 v2) fun h0_10 =>
  bd (f_X1_postage n h0_10 v1) fun r_11 =>
  some (r_11, x, h0_10, ps0_9))))
set_option maxHeartbeats 4000000 in
set_option maxRecDepth 100000 in
theorem c_X11_frank (l : Launch) (G : va_G) (ct : Nat → ClassId) (sk sv : Nat → Nat) (g : Nat → Nat) (n : Nat) (x : MV) (h0 : MV) (ps0 : MV) (v1 : Int32) (v2 : Int32) {r : Int32} {x' : MV} {h0' : MV} {ps0' : MV} (hf : f_X11_frank n x h0 ps0 v1 v2 = some (r, x', h0', ps0')) : Ctr (l, G, ct, sk, sv) mX11_frank 6 206 [.ref (g 7), .int v1, .int v2] (lfX ct g x ++ (lfH ct (hsA g 0) g h0 ++ (lfP ct (fun j => (hsA g 0) (16 + j)) ps0 ++ (lfK ct g)))) (lfX ct g x' ++ (lfH ct (hsA g 0) g h0' ++ (lfP ct (fun j => (hsA g 0) (16 + j)) ps0' ++ (lfK ct g)))) (some (.int r)) := by
  refine ctr_intro (by decide) (Nat.le_of_ble_eq_true rfl) ?_
  intro p e s m args below meth c A C hP hD hS hA ls hl
  obtain ⟨hx, hb, hml, hown, hts, hr, hlocks, hK, hnm, hZ⟩ := C
  have hb : c.code = cX11_frank := hb
  have hml : c.maxLocals = 3 := hml
  have hown : s.vm.findClass "SignedOutside" = some m.cls := hown
  have hr : meth.sig.returnType = some .int := hr
  have hP : va_P G classes (lfX ct g x ++ (lfH ct (hsA g 0) g h0 ++ (lfP ct (fun j => (hsA g 0) (16 + j)) ps0 ++ (lfK ct g)))) s.heap := hP
  have hD : va_D A (lfX ct g x ++ (lfH ct (hsA g 0) g h0 ++ (lfP ct (fun j => (hsA g 0) (16 + j)) ps0 ++ (lfK ct g)))) := hD
  have hK : va_K G classes (TYS ct) s := hK
  have hl : lv_has ls 3 [(0, .ref (g 7)), (1, .int v1), (2, .int v2)] := hl
  have J16 : ∀ (x : MV) (h0 : MV) (ps0 : MV) (H : Heap) (locs : List Loc) (ls : Array Slot), va_P G classes (lfX ct g x ++ (lfH ct (hsA g 0) g h0 ++ (lfP ct (fun j => (hsA g 0) (16 + j)) ps0 ++ (lfK ct g)))) H → va_D A (lfX ct g x ++ (lfH ct (hsA g 0) g h0 ++ (lfP ct (fun j => (hsA g 0) (16 + j)) ps0 ++ (lfK ct g)))) → va_S A s.heap H locs → lv_has ls 3 [(0, .ref (g 7))] → f_X11_frank_j16 n x h0 ps0 = some (r, x', h0', ps0') → WG l G ct sk sv p e (RM 6 206 0 0) s m args below meth c A (Eq2 (some (.int r)) (lfX ct g x' ++ (lfH ct (hsA g 0) g h0' ++ (lfP ct (fun j => (hsA g 0) (16 + j)) ps0' ++ (lfK ct g))))) H locs (F0 m 16 ls []) := by
    intro x h0 ps0 H locs ls hP hD hS hl hf
    unfold f_X11_frank_j16 at hf
    refine lv_aload_n hx hb dX11_frank_16 rfl (lv_at hl 0 rfl) ?_
    obtain ⟨r_1, x_2, hc2, hf⟩ := bd2_e hf
    refine call_V (As := []) (rest := []) hx hb hml hown hts hK hP hD hS hA hZ lkX11_83 (Ctr.up (W := (lfX ct g x ++ (lfH ct (hsA g 0) g h0 ++ (lfP ct (fun j => (hsA g 0) (16 + j)) ps0 ++ (lfK ct g))))) (W' := (lfX ct g x_2 ++ (lfH ct (hsA g 0) g h0 ++ (lfP ct (fun j => (hsA g 0) (16 + j)) ps0 ++ (lfK ct g))))) (c_X11_refuseBad l G ct sk sv g n x hc2) [0, 1, 2] [3, 4, 5, 6, 7, 8, 9, 10, 11, 12, 13, 14, 15, 16, 17, 18, 19] [17, 18, 19, 0, 1, 2, 3, 4, 5, 6, 7, 8, 9, 10, 11, 12, 13, 14, 15, 16] rfl rfl rfl rfl (by decide) rfl rfl) 0 rfl rfl ⟨Nat.le_of_ble_eq_true rfl, Nat.le_of_ble_eq_true rfl⟩ rfl hl.1 rfl (Nat.le_of_ble_eq_true rfl) dX11_frank_17 ⟨Nat.le_of_ble_eq_true rfl, Nat.le_of_ble_eq_true rfl⟩ (fun r9 w9 H locs hB hP hD hS => ?_)
    obtain ⟨rfl, rfl⟩ := hB
    refine WG_eq (g2 := F0 m 20 ls [.int r_1]) rfl ?_
    obtain ⟨e1, e2, e3, e4⟩ := inj4 (Option.some.inj hf)
    exact end_i (w' := (lfX ct g x_2 ++ (lfH ct (hsA g 0) g h0 ++ (lfP ct (fun j => (hsA g 0) (16 + j)) ps0 ++ (lfK ct g))))) hx hb hr hlocks hK hP hD hS dX11_frank_20  ⟨by rw [← e1], by rw [← e2, ← e3, ← e4]⟩
  unfold f_X11_frank at hf
  show WG l G ct sk sv p e (RM 6 206 0 0) s m args below meth c A (Eq2 (some (.int r)) (lfX ct g x' ++ (lfH ct (hsA g 0) g h0' ++ (lfP ct (fun j => (hsA g 0) (16 + j)) ps0' ++ (lfK ct g))))) s.heap [] (F0 m 0 ls [])
  refine lv_aload_n hx hb dX11_frank_0 rfl (lv_at hl 0 rfl) ?_
  refine lv_iload_n hx hb dX11_frank_1 rfl (lv_at hl 1 rfl) ?_
  obtain ⟨r_3, hc3, hf⟩ := bd_e hf
  refine call_V (As := [.int v1]) (rest := []) hx hb hml hown hts hK hP hD hS hA hZ lkX11_125 (Ctr.up (W := (lfX ct g x ++ (lfH ct (hsA g 0) g h0 ++ (lfP ct (fun j => (hsA g 0) (16 + j)) ps0 ++ (lfK ct g))))) (W' := (lfX ct g x ++ (lfH ct (hsA g 0) g h0 ++ (lfP ct (fun j => (hsA g 0) (16 + j)) ps0 ++ (lfK ct g))))) (c_X11_isLetter l G ct sk sv g n x h0 v1 hc3) [0, 1, 2, 3, 4, 5, 6, 7, 8, 9, 10] [11, 12, 13, 14, 15, 16, 17, 18, 19] [9, 10, 11, 12, 13, 14, 15, 16, 17, 18, 19, 0, 1, 2, 3, 4, 5, 6, 7, 8] rfl rfl rfl rfl (by decide) rfl rfl) 0 rfl rfl ⟨Nat.le_of_ble_eq_true rfl, Nat.le_of_ble_eq_true rfl⟩ rfl hl.1 rfl (Nat.le_of_ble_eq_true rfl) dX11_frank_2 ⟨Nat.le_of_ble_eq_true rfl, Nat.le_of_ble_eq_true rfl⟩ (fun r9 w9 H locs hB hP hD hS => ?_)
  obtain ⟨rfl, rfl⟩ := hB
  refine WG_eq (g2 := F0 m 5 ls [.int r_3]) rfl ?_
  refine lv_if_eq (tgt := 16) hx hb dX11_frank_5 (by decide) (fun c_4 => ?_) (fun c_4 => ?_)
  · replace hf := bc_t hf c_4
    exact J16 x h0 ps0 _ _ _ hP hD hS (lv_sub hl [0] rfl) hf
  · replace hf := bc_f hf c_4
    refine lv_aload_n hx hb dX11_frank_8 rfl (lv_at hl 0 rfl) ?_
    refine lv_iload_n hx hb dX11_frank_9 rfl (lv_at hl 2 rfl) ?_
    obtain ⟨r_5, hc5, hf⟩ := bd_e hf
    refine call_V (As := [.int v2]) (rest := []) hx hb hml hown hts hK hP hD hS hA hZ lkX11_128 (Ctr.up (W := (lfX ct g x ++ (lfH ct (hsA g 0) g h0 ++ (lfP ct (fun j => (hsA g 0) (16 + j)) ps0 ++ (lfK ct g))))) (W' := (lfX ct g x ++ (lfH ct (hsA g 0) g h0 ++ (lfP ct (fun j => (hsA g 0) (16 + j)) ps0 ++ (lfK ct g))))) (c_X11_isMember l G ct sk sv g n x h0 v2 hc5) [0, 1, 2, 3, 4, 5, 6, 7, 8, 9, 10] [11, 12, 13, 14, 15, 16, 17, 18, 19] [9, 10, 11, 12, 13, 14, 15, 16, 17, 18, 19, 0, 1, 2, 3, 4, 5, 6, 7, 8] rfl rfl rfl rfl (by decide) rfl rfl) 0 rfl rfl ⟨Nat.le_of_ble_eq_true rfl, Nat.le_of_ble_eq_true rfl⟩ rfl hl.1 rfl (Nat.le_of_ble_eq_true rfl) dX11_frank_10 ⟨Nat.le_of_ble_eq_true rfl, Nat.le_of_ble_eq_true rfl⟩ (fun r9 w9 H locs hB hP hD hS => ?_)
    obtain ⟨rfl, rfl⟩ := hB
    refine WG_eq (g2 := F0 m 13 ls [.int r_5]) rfl ?_
    refine lv_if_ne (tgt := 21) hx hb dX11_frank_13 (by decide) (fun c_6 => ?_) (fun c_6 => ?_)
    · replace hf := bc_f hf c_6
      refine lv_aload_n hx hb dX11_frank_21 rfl (lv_at hl 0 rfl) ?_
      refine va_get (D := G) (C := RX11) (T := TX11) (N := 11) (v := .ref ((hsA g 0) 0)) hx hb hts iu_X11 hown hK hP 0 rfl rfl 0 (by decide) (hts _ kw262) (fun _ h9 => h9) rfl dX11_frank_22 ?_
      refine lv_iload_n hx hb dX11_frank_25 rfl (lv_at hl 1 rfl) ?_
      refine lv_iload_n hx hb dX11_frank_26 rfl (lv_at hl 2 rfl) ?_
      obtain ⟨r_7, hc7, hf⟩ := bd_e hf
      refine call_V (As := [.int v1, .int v2]) (rest := []) hx hb hml hown hts hK hP hD hS hA hZ lkX11_131 (Ctr.up (W := (lfX ct g x ++ (lfH ct (hsA g 0) g h0 ++ (lfP ct (fun j => (hsA g 0) (16 + j)) ps0 ++ (lfK ct g))))) (W' := (lfX ct g x ++ (lfH ct (hsA g 0) g h0 ++ (lfP ct (fun j => (hsA g 0) (16 + j)) ps0 ++ (lfK ct g))))) (c_X1_mayFrank l G ct sk sv (hsA g 0) g n h0 v1 v2 hc7) [3, 4, 5, 6, 7, 8, 9, 10, 13, 14, 15, 16, 17, 18, 19] [0, 1, 2, 11, 12] [0, 1, 2, 5, 6, 7, 8, 9, 10, 11, 12, 3, 4, 13, 14, 15, 16, 17, 18, 19] rfl rfl rfl rfl (by decide) rfl rfl) 3 rfl rfl ⟨Nat.le_of_ble_eq_true rfl, Nat.le_of_ble_eq_true rfl⟩ rfl hl.1 rfl (Nat.le_of_ble_eq_true rfl) dX11_frank_27 ⟨Nat.le_of_ble_eq_true rfl, Nat.le_of_ble_eq_true rfl⟩ (fun r9 w9 H locs hB hP hD hS => ?_)
      obtain ⟨rfl, rfl⟩ := hB
      refine WG_eq (g2 := F0 m 30 ls [.int r_7]) rfl ?_
      refine lv_if_ne (tgt := 38) hx hb dX11_frank_30 (by decide) (fun c_8 => ?_) (fun c_8 => ?_)
      · replace hf := bc_f hf c_8
        refine lv_aload_n hx hb dX11_frank_38 rfl (lv_at hl 0 rfl) ?_
        refine va_get (D := G) (C := RX11) (T := TX11) (N := 11) (v := .ref ((hsA g 0) 0)) hx hb hts iu_X11 hown hK hP 0 rfl rfl 0 (by decide) (hts _ kw262) (fun _ h9 => h9) rfl dX11_frank_39 ?_
        refine va_get (D := G) (C := RX1) (T := TX1) (N := 16) (v := .ref ((hsA g 0) 16)) hx hb hts iu_X1 hown hK hP 3 rfl rfl 15 (by decide) (hts _ kw162) (fun _ h9 => h9) rfl dX11_frank_42 ?_
        refine lv_aload_n hx hb dX11_frank_45 rfl (lv_at hl 0 rfl) ?_
        refine va_get (D := G) (C := RX11) (T := TX11) (N := 11) (v := .ref ((hsA g 0) 0)) hx hb hts iu_X11 hown hK hP 0 rfl rfl 0 (by decide) (hts _ kw262) (fun _ h9 => h9) rfl dX11_frank_46 ?_
        obtain ⟨ps0_9, hc9, hf⟩ := bd_e hf
        refine call_V (As := [.ref ((hsA g 0) 0)]) (rest := []) hx hb hml hown hts hK hP hD hS hA hZ lkX11_138 (Ctr.up (W := (lfX ct g x ++ (lfH ct (hsA g 0) g h0 ++ (lfP ct (fun j => (hsA g 0) (16 + j)) ps0 ++ (lfK ct g))))) (W' := (lfX ct g x ++ (lfH ct (hsA g 0) g h0 ++ (lfP ct (fun j => (hsA g 0) (16 + j)) ps0_9 ++ (lfK ct g))))) (c_X4_keep l G ct sk sv (hsA g 0) g n h0 ps0 hc9) [3, 4, 5, 6, 7, 8, 9, 10, 11, 12] [0, 1, 2, 13, 14, 15, 16, 17, 18, 19] [0, 1, 2, 10, 11, 12, 13, 14, 15, 16, 17, 18, 19, 3, 4, 5, 6, 7, 8, 9] rfl rfl rfl rfl (by decide) rfl rfl) 11 rfl rfl ⟨Nat.le_of_ble_eq_true rfl, Nat.le_of_ble_eq_true rfl⟩ rfl hl.1 rfl (Nat.le_of_ble_eq_true rfl) dX11_frank_49 ⟨Nat.le_of_ble_eq_true rfl, Nat.le_of_ble_eq_true rfl⟩ (fun r9 w9 H locs hB hP hD hS => ?_)
        obtain ⟨rfl, rfl⟩ := hB
        refine WG_eq (g2 := F0 m 52 ls []) rfl ?_
        refine lv_aload_n hx hb dX11_frank_52 rfl (lv_at hl 0 rfl) ?_
        refine va_get (D := G) (C := RX11) (T := TX11) (N := 11) (v := .ref ((hsA g 0) 0)) hx hb hts iu_X11 hown hK hP 0 rfl rfl 0 (by decide) (hts _ kw262) (fun _ h9 => h9) rfl dX11_frank_53 ?_
        refine lv_iload_n hx hb dX11_frank_56 rfl (lv_at hl 1 rfl) ?_
        refine lv_iload_n hx hb dX11_frank_57 rfl (lv_at hl 2 rfl) ?_
        obtain ⟨h0_10, hc10, hf⟩ := bd_e hf
        refine call_V (As := [.int v1, .int v2]) (rest := []) hx hb hml hown hts hK hP hD hS hA hZ lkX11_141 (Ctr.up (W := (lfX ct g x ++ (lfH ct (hsA g 0) g h0 ++ (lfP ct (fun j => (hsA g 0) (16 + j)) ps0_9 ++ (lfK ct g))))) (W' := (lfX ct g x ++ (lfH ct (hsA g 0) g h0_10 ++ (lfP ct (fun j => (hsA g 0) (16 + j)) ps0_9 ++ (lfK ct g))))) (c_X1_sign l G ct sk sv (hsA g 0) g n h0 v1 v2 hc10) [3, 4, 5, 6, 7, 8, 9, 10] [0, 1, 2, 11, 12, 13, 14, 15, 16, 17, 18, 19] [0, 1, 2, 12, 13, 14, 15, 16, 17, 18, 19, 3, 4, 5, 6, 7, 8, 9, 10, 11] rfl rfl rfl rfl (by decide) rfl rfl) 3 rfl rfl ⟨Nat.le_of_ble_eq_true rfl, Nat.le_of_ble_eq_true rfl⟩ rfl hl.1 rfl (Nat.le_of_ble_eq_true rfl) dX11_frank_58 ⟨Nat.le_of_ble_eq_true rfl, Nat.le_of_ble_eq_true rfl⟩ (fun r9 w9 H locs hB hP hD hS => ?_)
        obtain ⟨rfl, rfl⟩ := hB
        refine WG_eq (g2 := F0 m 61 ls []) rfl ?_
        refine lv_aload_n hx hb dX11_frank_61 rfl (lv_at hl 0 rfl) ?_
        refine va_get (D := G) (C := RX11) (T := TX11) (N := 11) (v := .ref ((hsA g 0) 0)) hx hb hts iu_X11 hown hK hP 0 rfl rfl 0 (by decide) (hts _ kw262) (fun _ h9 => h9) rfl dX11_frank_62 ?_
        refine lv_iload_n hx hb dX11_frank_65 rfl (lv_at hl 1 rfl) ?_
        obtain ⟨r_11, hc11, hf⟩ := bd_e hf
        refine call_V (As := [.int v1]) (rest := []) hx hb hml hown hts hK hP hD hS hA hZ lkX11_145 (Ctr.up (W := (lfX ct g x ++ (lfH ct (hsA g 0) g h0_10 ++ (lfP ct (fun j => (hsA g 0) (16 + j)) ps0_9 ++ (lfK ct g))))) (W' := (lfX ct g x ++ (lfH ct (hsA g 0) g h0_10 ++ (lfP ct (fun j => (hsA g 0) (16 + j)) ps0_9 ++ (lfK ct g))))) (c_X1_postage l G ct sk sv (hsA g 0) g n h0_10 v1 hc11) [3, 4, 5, 6, 7, 8, 9, 10] [0, 1, 2, 11, 12, 13, 14, 15, 16, 17, 18, 19] [0, 1, 2, 12, 13, 14, 15, 16, 17, 18, 19, 3, 4, 5, 6, 7, 8, 9, 10, 11] rfl rfl rfl rfl (by decide) rfl rfl) 3 rfl rfl ⟨Nat.le_of_ble_eq_true rfl, Nat.le_of_ble_eq_true rfl⟩ rfl hl.1 rfl (Nat.le_of_ble_eq_true rfl) dX11_frank_66 ⟨Nat.le_of_ble_eq_true rfl, Nat.le_of_ble_eq_true rfl⟩ (fun r9 w9 H locs hB hP hD hS => ?_)
        obtain ⟨rfl, rfl⟩ := hB
        refine WG_eq (g2 := F0 m 69 ls [.int r_11]) rfl ?_
        obtain ⟨e1, e2, e3, e4⟩ := inj4 (Option.some.inj hf)
        exact end_i (w' := (lfX ct g x ++ (lfH ct (hsA g 0) g h0_10 ++ (lfP ct (fun j => (hsA g 0) (16 + j)) ps0_9 ++ (lfK ct g))))) hx hb hr hlocks hK hP hD hS dX11_frank_69  ⟨by rw [← e1], by rw [← e2, ← e3, ← e4]⟩
      · replace hf := bc_t hf c_8
        refine lv_aload_n hx hb dX11_frank_33 rfl (lv_at hl 0 rfl) ?_
        obtain ⟨r_12, x_13, hc13, hf⟩ := bd2_e hf
        refine call_V (As := []) (rest := []) hx hb hml hown hts hK hP hD hS hA hZ lkX11_135 (Ctr.up (W := (lfX ct g x ++ (lfH ct (hsA g 0) g h0 ++ (lfP ct (fun j => (hsA g 0) (16 + j)) ps0 ++ (lfK ct g))))) (W' := (lfX ct g x_13 ++ (lfH ct (hsA g 0) g h0 ++ (lfP ct (fun j => (hsA g 0) (16 + j)) ps0 ++ (lfK ct g))))) (c_X11_refuseNo l G ct sk sv g n x hc13) [0, 1, 2] [3, 4, 5, 6, 7, 8, 9, 10, 11, 12, 13, 14, 15, 16, 17, 18, 19] [17, 18, 19, 0, 1, 2, 3, 4, 5, 6, 7, 8, 9, 10, 11, 12, 13, 14, 15, 16] rfl rfl rfl rfl (by decide) rfl rfl) 0 rfl rfl ⟨Nat.le_of_ble_eq_true rfl, Nat.le_of_ble_eq_true rfl⟩ rfl hl.1 rfl (Nat.le_of_ble_eq_true rfl) dX11_frank_34 ⟨Nat.le_of_ble_eq_true rfl, Nat.le_of_ble_eq_true rfl⟩ (fun r9 w9 H locs hB hP hD hS => ?_)
        obtain ⟨rfl, rfl⟩ := hB
        refine WG_eq (g2 := F0 m 37 ls [.int r_12]) rfl ?_
        obtain ⟨e1, e2, e3, e4⟩ := inj4 (Option.some.inj hf)
        exact end_i (w' := (lfX ct g x_13 ++ (lfH ct (hsA g 0) g h0 ++ (lfP ct (fun j => (hsA g 0) (16 + j)) ps0 ++ (lfK ct g))))) hx hb hr hlocks hK hP hD hS dX11_frank_37  ⟨by rw [← e1], by rw [← e2, ← e3, ← e4]⟩
    · replace hf := bc_t hf c_6
      exact J16 x h0 ps0 _ _ _ hP hD hS (lv_sub hl [0] rfl) hf
noncomputable def f_X11_from (n : Nat) (x : MV) (h0 : MV) (h2 : MV) (h3 : MV) (nt0 : MV) (cv0 : MV) (nt2 : MV) (cv2 : MV) (nt3 : MV) (cv3 : MV) (ps0 : MV) (ps2 : MV) (ps3 : MV) (v1 : Int32) : Option (Int32 × MV × MV × MV × MV × MV) :=
  bd (f_X11_within n v1 0 1) fun r_1 =>
  bc (r_1 = 0) (bd2 (f_X11_refuseBad n x) fun r_17 x_18 =>
  some (r_17, x_18, h0, nt0, cv0, ps0))
  (gd (vp_in v1 2) <|
  bc ((x.2.1 0 (ix v1)) = 0) (bd2 (f_X11_refuseNo n x) fun r_15 x_16 =>
  some (r_15, x_16, h0, nt0, cv0, ps0))
  (gd (vp_in v1 2) <|
  bc (v1 = 0) (bd4 (f_X1_takeOver n h0 h2 nt0 cv0 nt2 cv2 ps0 ps2) fun h0_7 nt0_8 cv0_9 ps0_10 =>
  some (1, x, h0_7, nt0_8, cv0_9, ps0_10))
  (bd4 (f_X1_takeOver n h0 h3 nt0 cv0 nt3 cv3 ps0 ps3) fun h0_11 nt0_12 cv0_13 ps0_14 =>
  some (1, x, h0_11, nt0_12, cv0_13, ps0_14))))
set_option maxHeartbeats 4000000 in
set_option maxRecDepth 100000 in
theorem c_X11_from (l : Launch) (G : va_G) (ct : Nat → ClassId) (sk sv : Nat → Nat) (g : Nat → Nat) (n : Nat) (x : MV) (h0 : MV) (h2 : MV) (h3 : MV) (nt0 : MV) (cv0 : MV) (nt2 : MV) (cv2 : MV) (nt3 : MV) (cv3 : MV) (ps0 : MV) (ps2 : MV) (ps3 : MV) (v1 : Int32) {r : Int32} {x' : MV} {h0' : MV} {nt0' : MV} {cv0' : MV} {ps0' : MV} (hf : f_X11_from n x h0 h2 h3 nt0 cv0 nt2 cv2 nt3 cv3 ps0 ps2 ps3 v1 = some (r, x', h0', nt0', cv0', ps0')) : Ctr (l, G, ct, sk, sv) mX11_from 3 106 [.ref (g 7), .int v1] (lfX ct g x ++ (lfH ct (hsA g 0) g h0 ++ (lfH ct (hsA g 2) g h2 ++ (lfH ct (hsA g 3) g h3 ++ (lfS ct (fun j => (hsA g 0) (12 + j)) nt0 ++ (lfS ct (fun j => (hsA g 0) (8 + j)) cv0 ++ (lfS ct (fun j => (hsA g 2) (12 + j)) nt2 ++ (lfS ct (fun j => (hsA g 2) (8 + j)) cv2 ++ (lfS ct (fun j => (hsA g 3) (12 + j)) nt3 ++ (lfS ct (fun j => (hsA g 3) (8 + j)) cv3 ++ (lfP ct (fun j => (hsA g 0) (16 + j)) ps0 ++ (lfP ct (fun j => (hsA g 2) (16 + j)) ps2 ++ (lfP ct (fun j => (hsA g 3) (16 + j)) ps3))))))))))))) (lfX ct g x' ++ (lfH ct (hsA g 0) g h0' ++ (lfH ct (hsA g 2) g h2 ++ (lfH ct (hsA g 3) g h3 ++ (lfS ct (fun j => (hsA g 0) (12 + j)) nt0' ++ (lfS ct (fun j => (hsA g 0) (8 + j)) cv0' ++ (lfS ct (fun j => (hsA g 2) (12 + j)) nt2 ++ (lfS ct (fun j => (hsA g 2) (8 + j)) cv2 ++ (lfS ct (fun j => (hsA g 3) (12 + j)) nt3 ++ (lfS ct (fun j => (hsA g 3) (8 + j)) cv3 ++ (lfP ct (fun j => (hsA g 0) (16 + j)) ps0' ++ (lfP ct (fun j => (hsA g 2) (16 + j)) ps2 ++ (lfP ct (fun j => (hsA g 3) (16 + j)) ps3))))))))))))) (some (.int r)) := by
  refine ctr_intro (by decide) (Nat.le_of_ble_eq_true rfl) ?_
  intro p e s m args below meth c A C hP hD hS hA ls hl
  obtain ⟨hx, hb, hml, hown, hts, hr, hlocks, hK, hnm, hZ⟩ := C
  have hb : c.code = cX11_from := hb
  have hml : c.maxLocals = 2 := hml
  have hown : s.vm.findClass "SignedOutside" = some m.cls := hown
  have hr : meth.sig.returnType = some .int := hr
  have hP : va_P G classes (lfX ct g x ++ (lfH ct (hsA g 0) g h0 ++ (lfH ct (hsA g 2) g h2 ++ (lfH ct (hsA g 3) g h3 ++ (lfS ct (fun j => (hsA g 0) (12 + j)) nt0 ++ (lfS ct (fun j => (hsA g 0) (8 + j)) cv0 ++ (lfS ct (fun j => (hsA g 2) (12 + j)) nt2 ++ (lfS ct (fun j => (hsA g 2) (8 + j)) cv2 ++ (lfS ct (fun j => (hsA g 3) (12 + j)) nt3 ++ (lfS ct (fun j => (hsA g 3) (8 + j)) cv3 ++ (lfP ct (fun j => (hsA g 0) (16 + j)) ps0 ++ (lfP ct (fun j => (hsA g 2) (16 + j)) ps2 ++ (lfP ct (fun j => (hsA g 3) (16 + j)) ps3))))))))))))) s.heap := hP
  have hD : va_D A (lfX ct g x ++ (lfH ct (hsA g 0) g h0 ++ (lfH ct (hsA g 2) g h2 ++ (lfH ct (hsA g 3) g h3 ++ (lfS ct (fun j => (hsA g 0) (12 + j)) nt0 ++ (lfS ct (fun j => (hsA g 0) (8 + j)) cv0 ++ (lfS ct (fun j => (hsA g 2) (12 + j)) nt2 ++ (lfS ct (fun j => (hsA g 2) (8 + j)) cv2 ++ (lfS ct (fun j => (hsA g 3) (12 + j)) nt3 ++ (lfS ct (fun j => (hsA g 3) (8 + j)) cv3 ++ (lfP ct (fun j => (hsA g 0) (16 + j)) ps0 ++ (lfP ct (fun j => (hsA g 2) (16 + j)) ps2 ++ (lfP ct (fun j => (hsA g 3) (16 + j)) ps3))))))))))))) := hD
  have hK : va_K G classes (TYS ct) s := hK
  have hl : lv_has ls 2 [(0, .ref (g 7)), (1, .int v1)] := hl
  unfold f_X11_from at hf
  show WG l G ct sk sv p e (RM 3 106 0 0) s m args below meth c A (Eq2 (some (.int r)) (lfX ct g x' ++ (lfH ct (hsA g 0) g h0' ++ (lfH ct (hsA g 2) g h2 ++ (lfH ct (hsA g 3) g h3 ++ (lfS ct (fun j => (hsA g 0) (12 + j)) nt0' ++ (lfS ct (fun j => (hsA g 0) (8 + j)) cv0' ++ (lfS ct (fun j => (hsA g 2) (12 + j)) nt2 ++ (lfS ct (fun j => (hsA g 2) (8 + j)) cv2 ++ (lfS ct (fun j => (hsA g 3) (12 + j)) nt3 ++ (lfS ct (fun j => (hsA g 3) (8 + j)) cv3 ++ (lfP ct (fun j => (hsA g 0) (16 + j)) ps0' ++ (lfP ct (fun j => (hsA g 2) (16 + j)) ps2 ++ (lfP ct (fun j => (hsA g 3) (16 + j)) ps3)))))))))))))) s.heap [] (F0 m 0 ls [])
  refine lv_iload_n hx hb dX11_from_0 rfl (lv_at hl 1 rfl) ?_
  refine lv_iconst (v := 0) hx hb dX11_from_1 (by decide) ?_
  refine lv_iconst (v := 1) hx hb dX11_from_2 (by decide) ?_
  obtain ⟨r_1, hc1, hf⟩ := bd_e hf
  refine call_S (As := [.int v1, .int 0, .int 1]) (rest := []) hx hb hml hown hts hK hP hD hS hA hZ lkX11_75 (Ctr.up (W := (lfX ct g x ++ (lfH ct (hsA g 0) g h0 ++ (lfH ct (hsA g 2) g h2 ++ (lfH ct (hsA g 3) g h3 ++ (lfS ct (fun j => (hsA g 0) (12 + j)) nt0 ++ (lfS ct (fun j => (hsA g 0) (8 + j)) cv0 ++ (lfS ct (fun j => (hsA g 2) (12 + j)) nt2 ++ (lfS ct (fun j => (hsA g 2) (8 + j)) cv2 ++ (lfS ct (fun j => (hsA g 3) (12 + j)) nt3 ++ (lfS ct (fun j => (hsA g 3) (8 + j)) cv3 ++ (lfP ct (fun j => (hsA g 0) (16 + j)) ps0 ++ (lfP ct (fun j => (hsA g 2) (16 + j)) ps2 ++ (lfP ct (fun j => (hsA g 3) (16 + j)) ps3)))))))))))))) (W' := (lfX ct g x ++ (lfH ct (hsA g 0) g h0 ++ (lfH ct (hsA g 2) g h2 ++ (lfH ct (hsA g 3) g h3 ++ (lfS ct (fun j => (hsA g 0) (12 + j)) nt0 ++ (lfS ct (fun j => (hsA g 0) (8 + j)) cv0 ++ (lfS ct (fun j => (hsA g 2) (12 + j)) nt2 ++ (lfS ct (fun j => (hsA g 2) (8 + j)) cv2 ++ (lfS ct (fun j => (hsA g 3) (12 + j)) nt3 ++ (lfS ct (fun j => (hsA g 3) (8 + j)) cv3 ++ (lfP ct (fun j => (hsA g 0) (16 + j)) ps0 ++ (lfP ct (fun j => (hsA g 2) (16 + j)) ps2 ++ (lfP ct (fun j => (hsA g 3) (16 + j)) ps3)))))))))))))) (c_X11_within l G ct sk sv  n v1 0 1 hc1) [] [0, 1, 2, 3, 4, 5, 6, 7, 8, 9, 10, 11, 12, 13, 14, 15, 16, 17, 18, 19, 20, 21, 22, 23, 24, 25, 26, 27, 28, 29, 30, 31, 32, 33, 34, 35, 36, 37, 38, 39, 40, 41, 42, 43, 44, 45, 46, 47, 48, 49, 50, 51, 52, 53, 54, 55, 56] [0, 1, 2, 3, 4, 5, 6, 7, 8, 9, 10, 11, 12, 13, 14, 15, 16, 17, 18, 19, 20, 21, 22, 23, 24, 25, 26, 27, 28, 29, 30, 31, 32, 33, 34, 35, 36, 37, 38, 39, 40, 41, 42, 43, 44, 45, 46, 47, 48, 49, 50, 51, 52, 53, 54, 55, 56] rfl rfl rfl rfl (by decide) rfl rfl) ⟨Nat.le_of_ble_eq_true rfl, Nat.le_of_ble_eq_true rfl⟩ rfl hl.1 rfl (Nat.le_of_ble_eq_true rfl) dX11_from_3 ⟨Nat.le_of_ble_eq_true rfl, Nat.le_of_ble_eq_true rfl⟩ (fun r9 w9 H locs hB hP hD hS => ?_)
  obtain ⟨rfl, rfl⟩ := hB
  refine WG_eq (g2 := F0 m 6 ls [.int r_1]) rfl ?_
  refine lv_if_ne (tgt := 14) hx hb dX11_from_6 (by decide) (fun c_2 => ?_) (fun c_2 => ?_)
  · replace hf := bc_f hf c_2
    refine lv_aload_n hx hb dX11_from_14 rfl (lv_at hl 0 rfl) ?_
    refine va_get (D := G) (C := RX11) (T := TX11) (N := 11) (v := .ref (g 9)) hx hb hts iu_X11 hown hK hP 0 rfl rfl 3 (by decide) (hts _ kw265) (fun _ h9 => h9) rfl dX11_from_15 ?_
    refine lv_iload_n hx hb dX11_from_18 rfl (lv_at hl 1 rfl) ?_
    obtain ⟨g_3, hf⟩ := gd_e hf
    refine va_zald (f := x.2.1 0) hx hb hK hP 2 1 rfl rfl g_3 dX11_from_19 ?_
    refine lv_if_ne (tgt := 28) hx hb dX11_from_20 (by decide) (fun c_4 => ?_) (fun c_4 => ?_)
    · replace hf := bc_f hf c_4
      refine lv_aload_n hx hb dX11_from_28 rfl (lv_at hl 0 rfl) ?_
      refine va_get (D := G) (C := RX11) (T := TX11) (N := 11) (v := .ref ((hsA g 0) 0)) hx hb hts iu_X11 hown hK hP 0 rfl rfl 0 (by decide) (hts _ kw262) (fun _ h9 => h9) rfl dX11_from_29 ?_
      refine lv_aload_n hx hb dX11_from_32 rfl (lv_at hl 0 rfl) ?_
      refine va_get (D := G) (C := RX11) (T := TX11) (N := 11) (v := .ref (g 8)) hx hb hts iu_X11 hown hK hP 0 rfl rfl 2 (by decide) (hts _ kw264) (fun _ h9 => h9) rfl dX11_from_33 ?_
      refine lv_iload_n hx hb dX11_from_36 rfl (lv_at hl 1 rfl) ?_
      obtain ⟨g_5, hf⟩ := gd_e hf
      rcases Classical.em (v1 = 0) with c_6 | c_6
      · replace hf := bc_t hf c_6
        refine va_aldq (f := fun j => some (hsA g (2 + j) 0)) hx hb hK hP 1 4 rfl rfl g_5 dX11_from_37 ?_
        refine W.eq (g2 := F0 m 38 ls []) (by rw [c_6]; rfl) ?_
        obtain ⟨h0_7, nt0_8, cv0_9, ps0_10, hc10, hf⟩ := bd4_e hf
        refine call_V (As := [.ref ((hsA g 2) 0)]) (rest := []) hx hb hml hown hts hK hP hD hS hA hZ lkX11_121 (Ctr.up (W := (lfX ct g x ++ (lfH ct (hsA g 0) g h0 ++ (lfH ct (hsA g 2) g h2 ++ (lfH ct (hsA g 3) g h3 ++ (lfS ct (fun j => (hsA g 0) (12 + j)) nt0 ++ (lfS ct (fun j => (hsA g 0) (8 + j)) cv0 ++ (lfS ct (fun j => (hsA g 2) (12 + j)) nt2 ++ (lfS ct (fun j => (hsA g 2) (8 + j)) cv2 ++ (lfS ct (fun j => (hsA g 3) (12 + j)) nt3 ++ (lfS ct (fun j => (hsA g 3) (8 + j)) cv3 ++ (lfP ct (fun j => (hsA g 0) (16 + j)) ps0 ++ (lfP ct (fun j => (hsA g 2) (16 + j)) ps2 ++ (lfP ct (fun j => (hsA g 3) (16 + j)) ps3)))))))))))))) (W' := (lfX ct g x ++ (lfH ct (hsA g 0) g h0_7 ++ (lfH ct (hsA g 2) g h2 ++ (lfH ct (hsA g 3) g h3 ++ (lfS ct (fun j => (hsA g 0) (12 + j)) nt0_8 ++ (lfS ct (fun j => (hsA g 0) (8 + j)) cv0_9 ++ (lfS ct (fun j => (hsA g 2) (12 + j)) nt2 ++ (lfS ct (fun j => (hsA g 2) (8 + j)) cv2 ++ (lfS ct (fun j => (hsA g 3) (12 + j)) nt3 ++ (lfS ct (fun j => (hsA g 3) (8 + j)) cv3 ++ (lfP ct (fun j => (hsA g 0) (16 + j)) ps0_10 ++ (lfP ct (fun j => (hsA g 2) (16 + j)) ps2 ++ (lfP ct (fun j => (hsA g 3) (16 + j)) ps3)))))))))))))) (c_X1_takeOver l G ct sk sv (hsA g 0) (hsA g 2) g n h0 h2 nt0 cv0 nt2 cv2 ps0 ps2 hc10) [3, 4, 5, 6, 7, 8, 9, 10, 11, 12, 13, 14, 15, 16, 17, 18, 27, 28, 29, 30, 31, 32, 33, 34, 35, 36, 37, 38, 39, 40, 41, 42, 51, 52, 53, 54] [0, 1, 2, 19, 20, 21, 22, 23, 24, 25, 26, 43, 44, 45, 46, 47, 48, 49, 50, 55, 56] [0, 1, 2, 21, 22, 23, 24, 25, 26, 27, 28, 29, 30, 31, 32, 33, 34, 35, 36, 3, 4, 5, 6, 7, 8, 9, 10, 37, 38, 39, 40, 41, 42, 43, 44, 45, 46, 47, 48, 49, 50, 51, 52, 11, 12, 13, 14, 15, 16, 17, 18, 53, 54, 55, 56, 19, 20] rfl rfl rfl rfl (by decide) rfl rfl) 3 rfl rfl ⟨Nat.le_of_ble_eq_true rfl, Nat.le_of_ble_eq_true rfl⟩ rfl hl.1 rfl (Nat.le_of_ble_eq_true rfl) dX11_from_38 ⟨Nat.le_of_ble_eq_true rfl, Nat.le_of_ble_eq_true rfl⟩ (fun r9 w9 H locs hB hP hD hS => ?_)
        obtain ⟨rfl, rfl⟩ := hB
        refine WG_eq (g2 := F0 m 41 ls []) rfl ?_
        refine lv_iconst (v := 1) hx hb dX11_from_41 (by decide) ?_
        obtain ⟨e1, e2, e3, e4, e5, e6⟩ := inj6 (Option.some.inj hf)
        exact end_i (w' := (lfX ct g x ++ (lfH ct (hsA g 0) g h0_7 ++ (lfH ct (hsA g 2) g h2 ++ (lfH ct (hsA g 3) g h3 ++ (lfS ct (fun j => (hsA g 0) (12 + j)) nt0_8 ++ (lfS ct (fun j => (hsA g 0) (8 + j)) cv0_9 ++ (lfS ct (fun j => (hsA g 2) (12 + j)) nt2 ++ (lfS ct (fun j => (hsA g 2) (8 + j)) cv2 ++ (lfS ct (fun j => (hsA g 3) (12 + j)) nt3 ++ (lfS ct (fun j => (hsA g 3) (8 + j)) cv3 ++ (lfP ct (fun j => (hsA g 0) (16 + j)) ps0_10 ++ (lfP ct (fun j => (hsA g 2) (16 + j)) ps2 ++ (lfP ct (fun j => (hsA g 3) (16 + j)) ps3)))))))))))))) hx hb hr hlocks hK hP hD hS dX11_from_42  ⟨by rw [← e1], by rw [← e2, ← e3, ← e4, ← e5, ← e6]⟩
      · replace hf := bc_f hf c_6
        have c9 : v1 = 1 := vp_two g_5 c_6
        refine va_aldq (f := fun j => some (hsA g (2 + j) 0)) hx hb hK hP 1 4 rfl rfl g_5 dX11_from_37 ?_
        refine W.eq (g2 := F0 m 38 ls []) (by rw [c9]; rfl) ?_
        obtain ⟨h0_11, nt0_12, cv0_13, ps0_14, hc14, hf⟩ := bd4_e hf
        refine call_V (As := [.ref ((hsA g 3) 0)]) (rest := []) hx hb hml hown hts hK hP hD hS hA hZ lkX11_121 (Ctr.up (W := (lfX ct g x ++ (lfH ct (hsA g 0) g h0 ++ (lfH ct (hsA g 2) g h2 ++ (lfH ct (hsA g 3) g h3 ++ (lfS ct (fun j => (hsA g 0) (12 + j)) nt0 ++ (lfS ct (fun j => (hsA g 0) (8 + j)) cv0 ++ (lfS ct (fun j => (hsA g 2) (12 + j)) nt2 ++ (lfS ct (fun j => (hsA g 2) (8 + j)) cv2 ++ (lfS ct (fun j => (hsA g 3) (12 + j)) nt3 ++ (lfS ct (fun j => (hsA g 3) (8 + j)) cv3 ++ (lfP ct (fun j => (hsA g 0) (16 + j)) ps0 ++ (lfP ct (fun j => (hsA g 2) (16 + j)) ps2 ++ (lfP ct (fun j => (hsA g 3) (16 + j)) ps3)))))))))))))) (W' := (lfX ct g x ++ (lfH ct (hsA g 0) g h0_11 ++ (lfH ct (hsA g 2) g h2 ++ (lfH ct (hsA g 3) g h3 ++ (lfS ct (fun j => (hsA g 0) (12 + j)) nt0_12 ++ (lfS ct (fun j => (hsA g 0) (8 + j)) cv0_13 ++ (lfS ct (fun j => (hsA g 2) (12 + j)) nt2 ++ (lfS ct (fun j => (hsA g 2) (8 + j)) cv2 ++ (lfS ct (fun j => (hsA g 3) (12 + j)) nt3 ++ (lfS ct (fun j => (hsA g 3) (8 + j)) cv3 ++ (lfP ct (fun j => (hsA g 0) (16 + j)) ps0_14 ++ (lfP ct (fun j => (hsA g 2) (16 + j)) ps2 ++ (lfP ct (fun j => (hsA g 3) (16 + j)) ps3)))))))))))))) (c_X1_takeOver l G ct sk sv (hsA g 0) (hsA g 3) g n h0 h3 nt0 cv0 nt3 cv3 ps0 ps3 hc14) [3, 4, 5, 6, 7, 8, 9, 10, 19, 20, 21, 22, 23, 24, 25, 26, 27, 28, 29, 30, 31, 32, 33, 34, 43, 44, 45, 46, 47, 48, 49, 50, 51, 52, 55, 56] [0, 1, 2, 11, 12, 13, 14, 15, 16, 17, 18, 35, 36, 37, 38, 39, 40, 41, 42, 53, 54] [0, 1, 2, 21, 22, 23, 24, 25, 26, 27, 28, 3, 4, 5, 6, 7, 8, 9, 10, 29, 30, 31, 32, 33, 34, 35, 36, 37, 38, 39, 40, 41, 42, 43, 44, 11, 12, 13, 14, 15, 16, 17, 18, 45, 46, 47, 48, 49, 50, 51, 52, 53, 54, 19, 20, 55, 56] rfl rfl rfl rfl (by decide) rfl rfl) 3 rfl rfl ⟨Nat.le_of_ble_eq_true rfl, Nat.le_of_ble_eq_true rfl⟩ rfl hl.1 rfl (Nat.le_of_ble_eq_true rfl) dX11_from_38 ⟨Nat.le_of_ble_eq_true rfl, Nat.le_of_ble_eq_true rfl⟩ (fun r9 w9 H locs hB hP hD hS => ?_)
        obtain ⟨rfl, rfl⟩ := hB
        refine WG_eq (g2 := F0 m 41 ls []) rfl ?_
        refine lv_iconst (v := 1) hx hb dX11_from_41 (by decide) ?_
        obtain ⟨e1, e2, e3, e4, e5, e6⟩ := inj6 (Option.some.inj hf)
        exact end_i (w' := (lfX ct g x ++ (lfH ct (hsA g 0) g h0_11 ++ (lfH ct (hsA g 2) g h2 ++ (lfH ct (hsA g 3) g h3 ++ (lfS ct (fun j => (hsA g 0) (12 + j)) nt0_12 ++ (lfS ct (fun j => (hsA g 0) (8 + j)) cv0_13 ++ (lfS ct (fun j => (hsA g 2) (12 + j)) nt2 ++ (lfS ct (fun j => (hsA g 2) (8 + j)) cv2 ++ (lfS ct (fun j => (hsA g 3) (12 + j)) nt3 ++ (lfS ct (fun j => (hsA g 3) (8 + j)) cv3 ++ (lfP ct (fun j => (hsA g 0) (16 + j)) ps0_14 ++ (lfP ct (fun j => (hsA g 2) (16 + j)) ps2 ++ (lfP ct (fun j => (hsA g 3) (16 + j)) ps3)))))))))))))) hx hb hr hlocks hK hP hD hS dX11_from_42  ⟨by rw [← e1], by rw [← e2, ← e3, ← e4, ← e5, ← e6]⟩
    · replace hf := bc_t hf c_4
      refine lv_aload_n hx hb dX11_from_23 rfl (lv_at hl 0 rfl) ?_
      obtain ⟨r_15, x_16, hc16, hf⟩ := bd2_e hf
      refine call_V (As := []) (rest := []) hx hb hml hown hts hK hP hD hS hA hZ lkX11_135 (Ctr.up (W := (lfX ct g x ++ (lfH ct (hsA g 0) g h0 ++ (lfH ct (hsA g 2) g h2 ++ (lfH ct (hsA g 3) g h3 ++ (lfS ct (fun j => (hsA g 0) (12 + j)) nt0 ++ (lfS ct (fun j => (hsA g 0) (8 + j)) cv0 ++ (lfS ct (fun j => (hsA g 2) (12 + j)) nt2 ++ (lfS ct (fun j => (hsA g 2) (8 + j)) cv2 ++ (lfS ct (fun j => (hsA g 3) (12 + j)) nt3 ++ (lfS ct (fun j => (hsA g 3) (8 + j)) cv3 ++ (lfP ct (fun j => (hsA g 0) (16 + j)) ps0 ++ (lfP ct (fun j => (hsA g 2) (16 + j)) ps2 ++ (lfP ct (fun j => (hsA g 3) (16 + j)) ps3)))))))))))))) (W' := (lfX ct g x_16 ++ (lfH ct (hsA g 0) g h0 ++ (lfH ct (hsA g 2) g h2 ++ (lfH ct (hsA g 3) g h3 ++ (lfS ct (fun j => (hsA g 0) (12 + j)) nt0 ++ (lfS ct (fun j => (hsA g 0) (8 + j)) cv0 ++ (lfS ct (fun j => (hsA g 2) (12 + j)) nt2 ++ (lfS ct (fun j => (hsA g 2) (8 + j)) cv2 ++ (lfS ct (fun j => (hsA g 3) (12 + j)) nt3 ++ (lfS ct (fun j => (hsA g 3) (8 + j)) cv3 ++ (lfP ct (fun j => (hsA g 0) (16 + j)) ps0 ++ (lfP ct (fun j => (hsA g 2) (16 + j)) ps2 ++ (lfP ct (fun j => (hsA g 3) (16 + j)) ps3)))))))))))))) (c_X11_refuseNo l G ct sk sv g n x hc16) [0, 1, 2] [3, 4, 5, 6, 7, 8, 9, 10, 11, 12, 13, 14, 15, 16, 17, 18, 19, 20, 21, 22, 23, 24, 25, 26, 27, 28, 29, 30, 31, 32, 33, 34, 35, 36, 37, 38, 39, 40, 41, 42, 43, 44, 45, 46, 47, 48, 49, 50, 51, 52, 53, 54, 55, 56] [54, 55, 56, 0, 1, 2, 3, 4, 5, 6, 7, 8, 9, 10, 11, 12, 13, 14, 15, 16, 17, 18, 19, 20, 21, 22, 23, 24, 25, 26, 27, 28, 29, 30, 31, 32, 33, 34, 35, 36, 37, 38, 39, 40, 41, 42, 43, 44, 45, 46, 47, 48, 49, 50, 51, 52, 53] rfl rfl rfl rfl (by decide) rfl rfl) 0 rfl rfl ⟨Nat.le_of_ble_eq_true rfl, Nat.le_of_ble_eq_true rfl⟩ rfl hl.1 rfl (Nat.le_of_ble_eq_true rfl) dX11_from_24 ⟨Nat.le_of_ble_eq_true rfl, Nat.le_of_ble_eq_true rfl⟩ (fun r9 w9 H locs hB hP hD hS => ?_)
      obtain ⟨rfl, rfl⟩ := hB
      refine WG_eq (g2 := F0 m 27 ls [.int r_15]) rfl ?_
      obtain ⟨e1, e2, e3, e4, e5, e6⟩ := inj6 (Option.some.inj hf)
      exact end_i (w' := (lfX ct g x_16 ++ (lfH ct (hsA g 0) g h0 ++ (lfH ct (hsA g 2) g h2 ++ (lfH ct (hsA g 3) g h3 ++ (lfS ct (fun j => (hsA g 0) (12 + j)) nt0 ++ (lfS ct (fun j => (hsA g 0) (8 + j)) cv0 ++ (lfS ct (fun j => (hsA g 2) (12 + j)) nt2 ++ (lfS ct (fun j => (hsA g 2) (8 + j)) cv2 ++ (lfS ct (fun j => (hsA g 3) (12 + j)) nt3 ++ (lfS ct (fun j => (hsA g 3) (8 + j)) cv3 ++ (lfP ct (fun j => (hsA g 0) (16 + j)) ps0 ++ (lfP ct (fun j => (hsA g 2) (16 + j)) ps2 ++ (lfP ct (fun j => (hsA g 3) (16 + j)) ps3)))))))))))))) hx hb hr hlocks hK hP hD hS dX11_from_27  ⟨by rw [← e1], by rw [← e2, ← e3, ← e4, ← e5, ← e6]⟩
  · replace hf := bc_t hf c_2
    refine lv_aload_n hx hb dX11_from_9 rfl (lv_at hl 0 rfl) ?_
    obtain ⟨r_17, x_18, hc18, hf⟩ := bd2_e hf
    refine call_V (As := []) (rest := []) hx hb hml hown hts hK hP hD hS hA hZ lkX11_83 (Ctr.up (W := (lfX ct g x ++ (lfH ct (hsA g 0) g h0 ++ (lfH ct (hsA g 2) g h2 ++ (lfH ct (hsA g 3) g h3 ++ (lfS ct (fun j => (hsA g 0) (12 + j)) nt0 ++ (lfS ct (fun j => (hsA g 0) (8 + j)) cv0 ++ (lfS ct (fun j => (hsA g 2) (12 + j)) nt2 ++ (lfS ct (fun j => (hsA g 2) (8 + j)) cv2 ++ (lfS ct (fun j => (hsA g 3) (12 + j)) nt3 ++ (lfS ct (fun j => (hsA g 3) (8 + j)) cv3 ++ (lfP ct (fun j => (hsA g 0) (16 + j)) ps0 ++ (lfP ct (fun j => (hsA g 2) (16 + j)) ps2 ++ (lfP ct (fun j => (hsA g 3) (16 + j)) ps3)))))))))))))) (W' := (lfX ct g x_18 ++ (lfH ct (hsA g 0) g h0 ++ (lfH ct (hsA g 2) g h2 ++ (lfH ct (hsA g 3) g h3 ++ (lfS ct (fun j => (hsA g 0) (12 + j)) nt0 ++ (lfS ct (fun j => (hsA g 0) (8 + j)) cv0 ++ (lfS ct (fun j => (hsA g 2) (12 + j)) nt2 ++ (lfS ct (fun j => (hsA g 2) (8 + j)) cv2 ++ (lfS ct (fun j => (hsA g 3) (12 + j)) nt3 ++ (lfS ct (fun j => (hsA g 3) (8 + j)) cv3 ++ (lfP ct (fun j => (hsA g 0) (16 + j)) ps0 ++ (lfP ct (fun j => (hsA g 2) (16 + j)) ps2 ++ (lfP ct (fun j => (hsA g 3) (16 + j)) ps3)))))))))))))) (c_X11_refuseBad l G ct sk sv g n x hc18) [0, 1, 2] [3, 4, 5, 6, 7, 8, 9, 10, 11, 12, 13, 14, 15, 16, 17, 18, 19, 20, 21, 22, 23, 24, 25, 26, 27, 28, 29, 30, 31, 32, 33, 34, 35, 36, 37, 38, 39, 40, 41, 42, 43, 44, 45, 46, 47, 48, 49, 50, 51, 52, 53, 54, 55, 56] [54, 55, 56, 0, 1, 2, 3, 4, 5, 6, 7, 8, 9, 10, 11, 12, 13, 14, 15, 16, 17, 18, 19, 20, 21, 22, 23, 24, 25, 26, 27, 28, 29, 30, 31, 32, 33, 34, 35, 36, 37, 38, 39, 40, 41, 42, 43, 44, 45, 46, 47, 48, 49, 50, 51, 52, 53] rfl rfl rfl rfl (by decide) rfl rfl) 0 rfl rfl ⟨Nat.le_of_ble_eq_true rfl, Nat.le_of_ble_eq_true rfl⟩ rfl hl.1 rfl (Nat.le_of_ble_eq_true rfl) dX11_from_10 ⟨Nat.le_of_ble_eq_true rfl, Nat.le_of_ble_eq_true rfl⟩ (fun r9 w9 H locs hB hP hD hS => ?_)
    obtain ⟨rfl, rfl⟩ := hB
    refine WG_eq (g2 := F0 m 13 ls [.int r_17]) rfl ?_
    obtain ⟨e1, e2, e3, e4, e5, e6⟩ := inj6 (Option.some.inj hf)
    exact end_i (w' := (lfX ct g x_18 ++ (lfH ct (hsA g 0) g h0 ++ (lfH ct (hsA g 2) g h2 ++ (lfH ct (hsA g 3) g h3 ++ (lfS ct (fun j => (hsA g 0) (12 + j)) nt0 ++ (lfS ct (fun j => (hsA g 0) (8 + j)) cv0 ++ (lfS ct (fun j => (hsA g 2) (12 + j)) nt2 ++ (lfS ct (fun j => (hsA g 2) (8 + j)) cv2 ++ (lfS ct (fun j => (hsA g 3) (12 + j)) nt3 ++ (lfS ct (fun j => (hsA g 3) (8 + j)) cv3 ++ (lfP ct (fun j => (hsA g 0) (16 + j)) ps0 ++ (lfP ct (fun j => (hsA g 2) (16 + j)) ps2 ++ (lfP ct (fun j => (hsA g 3) (16 + j)) ps3)))))))))))))) hx hb hr hlocks hK hP hD hS dX11_from_13  ⟨by rw [← e1], by rw [← e2, ← e3, ← e4, ← e5, ← e6]⟩
noncomputable def f_X11_house (n : Nat) (x : MV) (h0 : MV) (nt0 : MV) (cv0 : MV) (ps0 : MV) : Option (Int32 × MV × MV × MV × MV) :=
  bl (h0.1 0) fun v1_1 =>
  bd4 (f_X1_makeEmpty n h0 nt0 cv0 ps0) fun h0_2 nt0_3 cv0_4 ps0_5 =>
  some (v1_1, h0_2, nt0_3, cv0_4, ps0_5)
set_option maxHeartbeats 4000000 in
set_option maxRecDepth 100000 in
theorem c_X11_house (l : Launch) (G : va_G) (ct : Nat → ClassId) (sk sv : Nat → Nat) (g : Nat → Nat) (n : Nat) (x : MV) (h0 : MV) (nt0 : MV) (cv0 : MV) (ps0 : MV) {r : Int32} {h0' : MV} {nt0' : MV} {cv0' : MV} {ps0' : MV} (hf : f_X11_house n x h0 nt0 cv0 ps0 = some (r, h0', nt0', cv0', ps0')) : Ctr (l, G, ct, sk, sv) mX11_house 2 40 [.ref (g 7)] (lfX ct g x ++ (lfH ct (hsA g 0) g h0 ++ (lfS ct (fun j => (hsA g 0) (12 + j)) nt0 ++ (lfS ct (fun j => (hsA g 0) (8 + j)) cv0 ++ (lfP ct (fun j => (hsA g 0) (16 + j)) ps0))))) (lfX ct g x ++ (lfH ct (hsA g 0) g h0' ++ (lfS ct (fun j => (hsA g 0) (12 + j)) nt0' ++ (lfS ct (fun j => (hsA g 0) (8 + j)) cv0' ++ (lfP ct (fun j => (hsA g 0) (16 + j)) ps0'))))) (some (.int r)) := by
  refine ctr_intro (by decide) (Nat.le_of_ble_eq_true rfl) ?_
  intro p e s m args below meth c A C hP hD hS hA ls hl
  obtain ⟨hx, hb, hml, hown, hts, hr, hlocks, hK, hnm, hZ⟩ := C
  have hb : c.code = cX11_house := hb
  have hml : c.maxLocals = 2 := hml
  have hown : s.vm.findClass "SignedOutside" = some m.cls := hown
  have hr : meth.sig.returnType = some .int := hr
  have hP : va_P G classes (lfX ct g x ++ (lfH ct (hsA g 0) g h0 ++ (lfS ct (fun j => (hsA g 0) (12 + j)) nt0 ++ (lfS ct (fun j => (hsA g 0) (8 + j)) cv0 ++ (lfP ct (fun j => (hsA g 0) (16 + j)) ps0))))) s.heap := hP
  have hD : va_D A (lfX ct g x ++ (lfH ct (hsA g 0) g h0 ++ (lfS ct (fun j => (hsA g 0) (12 + j)) nt0 ++ (lfS ct (fun j => (hsA g 0) (8 + j)) cv0 ++ (lfP ct (fun j => (hsA g 0) (16 + j)) ps0))))) := hD
  have hK : va_K G classes (TYS ct) s := hK
  have hl : lv_has ls 2 [(0, .ref (g 7))] := hl
  unfold f_X11_house at hf
  show WG l G ct sk sv p e (RM 2 40 0 0) s m args below meth c A (Eq2 (some (.int r)) (lfX ct g x ++ (lfH ct (hsA g 0) g h0' ++ (lfS ct (fun j => (hsA g 0) (12 + j)) nt0' ++ (lfS ct (fun j => (hsA g 0) (8 + j)) cv0' ++ (lfP ct (fun j => (hsA g 0) (16 + j)) ps0')))))) s.heap [] (F0 m 0 ls [])
  refine lv_aload_n hx hb dX11_house_0 rfl (lv_at hl 0 rfl) ?_
  refine va_get (D := G) (C := RX11) (T := TX11) (N := 11) (v := .ref ((hsA g 0) 0)) hx hb hts iu_X11 hown hK hP 0 rfl rfl 0 (by decide) (hts _ kw262) (fun _ h9 => h9) rfl dX11_house_1 ?_
  refine va_get (D := G) (C := RX1) (T := TX1) (N := 16) (v := .int (h0.1 0)) hx hb hts iu_X1 hown hK hP 3 rfl rfl 1 (by decide) (hts _ kw124) (fun _ h9 => h9) rfl dX11_house_4 ?_
  refine lv_topi (fun v1_1 ev1_1 => ?_)
  replace hf := bl_i hf ev1_1
  refine lv_istore_n (lv' := [(1, .int v1_1), (0, .ref (g 7))]) hx hb dX11_house_7 rfl hl (by decide) rfl (fun ls hl => ?_)
  refine lv_aload_n hx hb dX11_house_8 rfl (lv_at hl 1 rfl) ?_
  refine va_get (D := G) (C := RX11) (T := TX11) (N := 11) (v := .ref ((hsA g 0) 0)) hx hb hts iu_X11 hown hK hP 0 rfl rfl 0 (by decide) (hts _ kw262) (fun _ h9 => h9) rfl dX11_house_9 ?_
  obtain ⟨h0_2, nt0_3, cv0_4, ps0_5, hc5, hf⟩ := bd4_e hf
  refine call_V (As := []) (rest := []) hx hb hml hown hts hK hP hD hS hA hZ lkX11_72 (Ctr.up (W := (lfX ct g x ++ (lfH ct (hsA g 0) g h0 ++ (lfS ct (fun j => (hsA g 0) (12 + j)) nt0 ++ (lfS ct (fun j => (hsA g 0) (8 + j)) cv0 ++ (lfP ct (fun j => (hsA g 0) (16 + j)) ps0)))))) (W' := (lfX ct g x ++ (lfH ct (hsA g 0) g h0_2 ++ (lfS ct (fun j => (hsA g 0) (12 + j)) nt0_3 ++ (lfS ct (fun j => (hsA g 0) (8 + j)) cv0_4 ++ (lfP ct (fun j => (hsA g 0) (16 + j)) ps0_5)))))) (c_X1_makeEmpty l G ct sk sv (hsA g 0) g n h0 nt0 cv0 ps0 hc5) [3, 4, 5, 6, 7, 8, 9, 10, 11, 12, 13, 14, 15, 16, 17, 18, 19, 20] [0, 1, 2] [0, 1, 2, 3, 4, 5, 6, 7, 8, 9, 10, 11, 12, 13, 14, 15, 16, 17, 18, 19, 20] rfl rfl rfl rfl (by decide) rfl rfl) 3 rfl rfl ⟨Nat.le_of_ble_eq_true rfl, Nat.le_of_ble_eq_true rfl⟩ rfl hl.1 rfl (Nat.le_of_ble_eq_true rfl) dX11_house_12 ⟨Nat.le_of_ble_eq_true rfl, Nat.le_of_ble_eq_true rfl⟩ (fun r9 w9 H locs hB hP hD hS => ?_)
  obtain ⟨rfl, rfl⟩ := hB
  refine WG_eq (g2 := F0 m 15 ls []) rfl ?_
  refine lv_iload_n hx hb dX11_house_15 rfl (lv_at hl 0 rfl) ?_
  obtain ⟨e1, e2, e3, e4, e5⟩ := inj5 (Option.some.inj hf)
  exact end_i (w' := (lfX ct g x ++ (lfH ct (hsA g 0) g h0_2 ++ (lfS ct (fun j => (hsA g 0) (12 + j)) nt0_3 ++ (lfS ct (fun j => (hsA g 0) (8 + j)) cv0_4 ++ (lfP ct (fun j => (hsA g 0) (16 + j)) ps0_5)))))) hx hb hr hlocks hK hP hD hS dX11_house_16  ⟨by rw [← e1], by rw [← e2, ← e3, ← e4, ← e5]⟩
noncomputable def f_X11_image (n : Nat) (x : MV) (h0 : MV) (h2 : MV) (h3 : MV) (nt0 : MV) (cv0 : MV) (nt2 : MV) (cv2 : MV) (nt3 : MV) (cv3 : MV) (ps0 : MV) (ps2 : MV) (ps3 : MV) (v1 : Int32) : Option (Int32 × MV × MV × MV × MV × MV × MV × MV × MV × MV) :=
  bd (f_X11_within n v1 0 1) fun r_1 =>
  bc (r_1 = 0) (bd2 (f_X11_refuseBad n x) fun r_17 x_18 =>
  some (r_17, x_18, h2, h3, nt2, cv2, nt3, cv3, ps2, ps3))
  (gd (vp_in v1 2) <|
  bc (v1 = 0) (bd4 (f_X1_takeOver n h2 h0 nt2 cv2 nt0 cv0 ps2 ps0) fun h2_5 nt2_6 cv2_7 ps2_8 =>
  gd (vp_in v1 2) <|
  bl (setA x 0 (upd (x.2.1 0) (ix v1) (vp_nar .boolean 1))) fun x_10 =>
  some (1, x_10, h2_5, h3, nt2_6, cv2_7, nt3, cv3, ps2_8, ps3))
  (bd4 (f_X1_takeOver n h3 h0 nt3 cv3 nt0 cv0 ps3 ps0) fun h3_11 nt3_12 cv3_13 ps3_14 =>
  gd (vp_in v1 2) <|
  bl (setA x 0 (upd (x.2.1 0) (ix v1) (vp_nar .boolean 1))) fun x_16 =>
  some (1, x_16, h2, h3_11, nt2, cv2, nt3_12, cv3_13, ps2, ps3_14)))
set_option maxHeartbeats 4000000 in
set_option maxRecDepth 100000 in
theorem c_X11_image (l : Launch) (G : va_G) (ct : Nat → ClassId) (sk sv : Nat → Nat) (g : Nat → Nat) (n : Nat) (x : MV) (h0 : MV) (h2 : MV) (h3 : MV) (nt0 : MV) (cv0 : MV) (nt2 : MV) (cv2 : MV) (nt3 : MV) (cv3 : MV) (ps0 : MV) (ps2 : MV) (ps3 : MV) (v1 : Int32) {r : Int32} {x' : MV} {h2' : MV} {h3' : MV} {nt2' : MV} {cv2' : MV} {nt3' : MV} {cv3' : MV} {ps2' : MV} {ps3' : MV} (hf : f_X11_image n x h0 h2 h3 nt0 cv0 nt2 cv2 nt3 cv3 ps0 ps2 ps3 v1 = some (r, x', h2', h3', nt2', cv2', nt3', cv3', ps2', ps3')) : Ctr (l, G, ct, sk, sv) mX11_image 3 106 [.ref (g 7), .int v1] (lfX ct g x ++ (lfH ct (hsA g 0) g h0 ++ (lfH ct (hsA g 2) g h2 ++ (lfH ct (hsA g 3) g h3 ++ (lfS ct (fun j => (hsA g 0) (12 + j)) nt0 ++ (lfS ct (fun j => (hsA g 0) (8 + j)) cv0 ++ (lfS ct (fun j => (hsA g 2) (12 + j)) nt2 ++ (lfS ct (fun j => (hsA g 2) (8 + j)) cv2 ++ (lfS ct (fun j => (hsA g 3) (12 + j)) nt3 ++ (lfS ct (fun j => (hsA g 3) (8 + j)) cv3 ++ (lfP ct (fun j => (hsA g 0) (16 + j)) ps0 ++ (lfP ct (fun j => (hsA g 2) (16 + j)) ps2 ++ (lfP ct (fun j => (hsA g 3) (16 + j)) ps3))))))))))))) (lfX ct g x' ++ (lfH ct (hsA g 0) g h0 ++ (lfH ct (hsA g 2) g h2' ++ (lfH ct (hsA g 3) g h3' ++ (lfS ct (fun j => (hsA g 0) (12 + j)) nt0 ++ (lfS ct (fun j => (hsA g 0) (8 + j)) cv0 ++ (lfS ct (fun j => (hsA g 2) (12 + j)) nt2' ++ (lfS ct (fun j => (hsA g 2) (8 + j)) cv2' ++ (lfS ct (fun j => (hsA g 3) (12 + j)) nt3' ++ (lfS ct (fun j => (hsA g 3) (8 + j)) cv3' ++ (lfP ct (fun j => (hsA g 0) (16 + j)) ps0 ++ (lfP ct (fun j => (hsA g 2) (16 + j)) ps2' ++ (lfP ct (fun j => (hsA g 3) (16 + j)) ps3'))))))))))))) (some (.int r)) := by
  refine ctr_intro (by decide) (Nat.le_of_ble_eq_true rfl) ?_
  intro p e s m args below meth c A C hP hD hS hA ls hl
  obtain ⟨hx, hb, hml, hown, hts, hr, hlocks, hK, hnm, hZ⟩ := C
  have hb : c.code = cX11_image := hb
  have hml : c.maxLocals = 2 := hml
  have hown : s.vm.findClass "SignedOutside" = some m.cls := hown
  have hr : meth.sig.returnType = some .int := hr
  have hP : va_P G classes (lfX ct g x ++ (lfH ct (hsA g 0) g h0 ++ (lfH ct (hsA g 2) g h2 ++ (lfH ct (hsA g 3) g h3 ++ (lfS ct (fun j => (hsA g 0) (12 + j)) nt0 ++ (lfS ct (fun j => (hsA g 0) (8 + j)) cv0 ++ (lfS ct (fun j => (hsA g 2) (12 + j)) nt2 ++ (lfS ct (fun j => (hsA g 2) (8 + j)) cv2 ++ (lfS ct (fun j => (hsA g 3) (12 + j)) nt3 ++ (lfS ct (fun j => (hsA g 3) (8 + j)) cv3 ++ (lfP ct (fun j => (hsA g 0) (16 + j)) ps0 ++ (lfP ct (fun j => (hsA g 2) (16 + j)) ps2 ++ (lfP ct (fun j => (hsA g 3) (16 + j)) ps3))))))))))))) s.heap := hP
  have hD : va_D A (lfX ct g x ++ (lfH ct (hsA g 0) g h0 ++ (lfH ct (hsA g 2) g h2 ++ (lfH ct (hsA g 3) g h3 ++ (lfS ct (fun j => (hsA g 0) (12 + j)) nt0 ++ (lfS ct (fun j => (hsA g 0) (8 + j)) cv0 ++ (lfS ct (fun j => (hsA g 2) (12 + j)) nt2 ++ (lfS ct (fun j => (hsA g 2) (8 + j)) cv2 ++ (lfS ct (fun j => (hsA g 3) (12 + j)) nt3 ++ (lfS ct (fun j => (hsA g 3) (8 + j)) cv3 ++ (lfP ct (fun j => (hsA g 0) (16 + j)) ps0 ++ (lfP ct (fun j => (hsA g 2) (16 + j)) ps2 ++ (lfP ct (fun j => (hsA g 3) (16 + j)) ps3))))))))))))) := hD
  have hK : va_K G classes (TYS ct) s := hK
  have hl : lv_has ls 2 [(0, .ref (g 7)), (1, .int v1)] := hl
  unfold f_X11_image at hf
  show WG l G ct sk sv p e (RM 3 106 0 0) s m args below meth c A (Eq2 (some (.int r)) (lfX ct g x' ++ (lfH ct (hsA g 0) g h0 ++ (lfH ct (hsA g 2) g h2' ++ (lfH ct (hsA g 3) g h3' ++ (lfS ct (fun j => (hsA g 0) (12 + j)) nt0 ++ (lfS ct (fun j => (hsA g 0) (8 + j)) cv0 ++ (lfS ct (fun j => (hsA g 2) (12 + j)) nt2' ++ (lfS ct (fun j => (hsA g 2) (8 + j)) cv2' ++ (lfS ct (fun j => (hsA g 3) (12 + j)) nt3' ++ (lfS ct (fun j => (hsA g 3) (8 + j)) cv3' ++ (lfP ct (fun j => (hsA g 0) (16 + j)) ps0 ++ (lfP ct (fun j => (hsA g 2) (16 + j)) ps2' ++ (lfP ct (fun j => (hsA g 3) (16 + j)) ps3')))))))))))))) s.heap [] (F0 m 0 ls [])
  refine lv_iload_n hx hb dX11_image_0 rfl (lv_at hl 1 rfl) ?_
  refine lv_iconst (v := 0) hx hb dX11_image_1 (by decide) ?_
  refine lv_iconst (v := 1) hx hb dX11_image_2 (by decide) ?_
  obtain ⟨r_1, hc1, hf⟩ := bd_e hf
  refine call_S (As := [.int v1, .int 0, .int 1]) (rest := []) hx hb hml hown hts hK hP hD hS hA hZ lkX11_75 (Ctr.up (W := (lfX ct g x ++ (lfH ct (hsA g 0) g h0 ++ (lfH ct (hsA g 2) g h2 ++ (lfH ct (hsA g 3) g h3 ++ (lfS ct (fun j => (hsA g 0) (12 + j)) nt0 ++ (lfS ct (fun j => (hsA g 0) (8 + j)) cv0 ++ (lfS ct (fun j => (hsA g 2) (12 + j)) nt2 ++ (lfS ct (fun j => (hsA g 2) (8 + j)) cv2 ++ (lfS ct (fun j => (hsA g 3) (12 + j)) nt3 ++ (lfS ct (fun j => (hsA g 3) (8 + j)) cv3 ++ (lfP ct (fun j => (hsA g 0) (16 + j)) ps0 ++ (lfP ct (fun j => (hsA g 2) (16 + j)) ps2 ++ (lfP ct (fun j => (hsA g 3) (16 + j)) ps3)))))))))))))) (W' := (lfX ct g x ++ (lfH ct (hsA g 0) g h0 ++ (lfH ct (hsA g 2) g h2 ++ (lfH ct (hsA g 3) g h3 ++ (lfS ct (fun j => (hsA g 0) (12 + j)) nt0 ++ (lfS ct (fun j => (hsA g 0) (8 + j)) cv0 ++ (lfS ct (fun j => (hsA g 2) (12 + j)) nt2 ++ (lfS ct (fun j => (hsA g 2) (8 + j)) cv2 ++ (lfS ct (fun j => (hsA g 3) (12 + j)) nt3 ++ (lfS ct (fun j => (hsA g 3) (8 + j)) cv3 ++ (lfP ct (fun j => (hsA g 0) (16 + j)) ps0 ++ (lfP ct (fun j => (hsA g 2) (16 + j)) ps2 ++ (lfP ct (fun j => (hsA g 3) (16 + j)) ps3)))))))))))))) (c_X11_within l G ct sk sv  n v1 0 1 hc1) [] [0, 1, 2, 3, 4, 5, 6, 7, 8, 9, 10, 11, 12, 13, 14, 15, 16, 17, 18, 19, 20, 21, 22, 23, 24, 25, 26, 27, 28, 29, 30, 31, 32, 33, 34, 35, 36, 37, 38, 39, 40, 41, 42, 43, 44, 45, 46, 47, 48, 49, 50, 51, 52, 53, 54, 55, 56] [0, 1, 2, 3, 4, 5, 6, 7, 8, 9, 10, 11, 12, 13, 14, 15, 16, 17, 18, 19, 20, 21, 22, 23, 24, 25, 26, 27, 28, 29, 30, 31, 32, 33, 34, 35, 36, 37, 38, 39, 40, 41, 42, 43, 44, 45, 46, 47, 48, 49, 50, 51, 52, 53, 54, 55, 56] rfl rfl rfl rfl (by decide) rfl rfl) ⟨Nat.le_of_ble_eq_true rfl, Nat.le_of_ble_eq_true rfl⟩ rfl hl.1 rfl (Nat.le_of_ble_eq_true rfl) dX11_image_3 ⟨Nat.le_of_ble_eq_true rfl, Nat.le_of_ble_eq_true rfl⟩ (fun r9 w9 H locs hB hP hD hS => ?_)
  obtain ⟨rfl, rfl⟩ := hB
  refine WG_eq (g2 := F0 m 6 ls [.int r_1]) rfl ?_
  refine lv_if_ne (tgt := 14) hx hb dX11_image_6 (by decide) (fun c_2 => ?_) (fun c_2 => ?_)
  · replace hf := bc_f hf c_2
    refine lv_aload_n hx hb dX11_image_14 rfl (lv_at hl 0 rfl) ?_
    refine va_get (D := G) (C := RX11) (T := TX11) (N := 11) (v := .ref (g 8)) hx hb hts iu_X11 hown hK hP 0 rfl rfl 2 (by decide) (hts _ kw264) (fun _ h9 => h9) rfl dX11_image_15 ?_
    refine lv_iload_n hx hb dX11_image_18 rfl (lv_at hl 1 rfl) ?_
    obtain ⟨g_3, hf⟩ := gd_e hf
    rcases Classical.em (v1 = 0) with c_4 | c_4
    · replace hf := bc_t hf c_4
      refine va_aldq (f := fun j => some (hsA g (2 + j) 0)) hx hb hK hP 1 4 rfl rfl g_3 dX11_image_19 ?_
      refine W.eq (g2 := F0 m 20 ls []) (by rw [c_4]; rfl) ?_
      refine lv_aload_n hx hb dX11_image_20 rfl (lv_at hl 0 rfl) ?_
      refine va_get (D := G) (C := RX11) (T := TX11) (N := 11) (v := .ref ((hsA g 0) 0)) hx hb hts iu_X11 hown hK hP 0 rfl rfl 0 (by decide) (hts _ kw262) (fun _ h9 => h9) rfl dX11_image_21 ?_
      obtain ⟨h2_5, nt2_6, cv2_7, ps2_8, hc8, hf⟩ := bd4_e hf
      refine call_V (As := [.ref ((hsA g 0) 0)]) (rest := []) hx hb hml hown hts hK hP hD hS hA hZ lkX11_121 (Ctr.up (W := (lfX ct g x ++ (lfH ct (hsA g 0) g h0 ++ (lfH ct (hsA g 2) g h2 ++ (lfH ct (hsA g 3) g h3 ++ (lfS ct (fun j => (hsA g 0) (12 + j)) nt0 ++ (lfS ct (fun j => (hsA g 0) (8 + j)) cv0 ++ (lfS ct (fun j => (hsA g 2) (12 + j)) nt2 ++ (lfS ct (fun j => (hsA g 2) (8 + j)) cv2 ++ (lfS ct (fun j => (hsA g 3) (12 + j)) nt3 ++ (lfS ct (fun j => (hsA g 3) (8 + j)) cv3 ++ (lfP ct (fun j => (hsA g 0) (16 + j)) ps0 ++ (lfP ct (fun j => (hsA g 2) (16 + j)) ps2 ++ (lfP ct (fun j => (hsA g 3) (16 + j)) ps3)))))))))))))) (W' := (lfX ct g x ++ (lfH ct (hsA g 0) g h0 ++ (lfH ct (hsA g 2) g h2_5 ++ (lfH ct (hsA g 3) g h3 ++ (lfS ct (fun j => (hsA g 0) (12 + j)) nt0 ++ (lfS ct (fun j => (hsA g 0) (8 + j)) cv0 ++ (lfS ct (fun j => (hsA g 2) (12 + j)) nt2_6 ++ (lfS ct (fun j => (hsA g 2) (8 + j)) cv2_7 ++ (lfS ct (fun j => (hsA g 3) (12 + j)) nt3 ++ (lfS ct (fun j => (hsA g 3) (8 + j)) cv3 ++ (lfP ct (fun j => (hsA g 0) (16 + j)) ps0 ++ (lfP ct (fun j => (hsA g 2) (16 + j)) ps2_8 ++ (lfP ct (fun j => (hsA g 3) (16 + j)) ps3)))))))))))))) (c_X1_takeOver l G ct sk sv (hsA g 2) (hsA g 0) g n h2 h0 nt2 cv2 nt0 cv0 ps2 ps0 hc8) [11, 12, 13, 14, 15, 16, 17, 18, 3, 4, 5, 6, 7, 8, 9, 10, 35, 36, 37, 38, 39, 40, 41, 42, 27, 28, 29, 30, 31, 32, 33, 34, 53, 54, 51, 52] [0, 1, 2, 19, 20, 21, 22, 23, 24, 25, 26, 43, 44, 45, 46, 47, 48, 49, 50, 55, 56] [0, 1, 2, 29, 30, 31, 32, 33, 34, 35, 36, 21, 22, 23, 24, 25, 26, 27, 28, 3, 4, 5, 6, 7, 8, 9, 10, 45, 46, 47, 48, 49, 50, 51, 52, 37, 38, 39, 40, 41, 42, 43, 44, 11, 12, 13, 14, 15, 16, 17, 18, 55, 56, 53, 54, 19, 20] rfl rfl rfl rfl (by decide) rfl rfl) 11 rfl rfl ⟨Nat.le_of_ble_eq_true rfl, Nat.le_of_ble_eq_true rfl⟩ rfl hl.1 rfl (Nat.le_of_ble_eq_true rfl) dX11_image_24 ⟨Nat.le_of_ble_eq_true rfl, Nat.le_of_ble_eq_true rfl⟩ (fun r9 w9 H locs hB hP hD hS => ?_)
      obtain ⟨rfl, rfl⟩ := hB
      refine WG_eq (g2 := F0 m 27 ls []) rfl ?_
      refine lv_aload_n hx hb dX11_image_27 rfl (lv_at hl 0 rfl) ?_
      refine va_get (D := G) (C := RX11) (T := TX11) (N := 11) (v := .ref (g 9)) hx hb hts iu_X11 hown hK hP 0 rfl rfl 3 (by decide) (hts _ kw265) (fun _ h9 => h9) rfl dX11_image_28 ?_
      refine lv_iload_n hx hb dX11_image_31 rfl (lv_at hl 1 rfl) ?_
      refine lv_iconst (v := 1) hx hb dX11_image_32 (by decide) ?_
      obtain ⟨g_9, hf⟩ := gd_e hf
      obtain ⟨x_10, ex_10, hf⟩ := bl_e hf
      refine va_zast hx hb hK hP hD hS 2 1 rfl rfl g_9 dX11_image_33 (fun H locs hP hD hS => ?_)
      have hP : va_P G classes (lfX ct g x_10 ++ (lfH ct (hsA g 0) g h0 ++ (lfH ct (hsA g 2) g h2_5 ++ (lfH ct (hsA g 3) g h3 ++ (lfS ct (fun j => (hsA g 0) (12 + j)) nt0 ++ (lfS ct (fun j => (hsA g 0) (8 + j)) cv0 ++ (lfS ct (fun j => (hsA g 2) (12 + j)) nt2_6 ++ (lfS ct (fun j => (hsA g 2) (8 + j)) cv2_7 ++ (lfS ct (fun j => (hsA g 3) (12 + j)) nt3 ++ (lfS ct (fun j => (hsA g 3) (8 + j)) cv3 ++ (lfP ct (fun j => (hsA g 0) (16 + j)) ps0 ++ (lfP ct (fun j => (hsA g 2) (16 + j)) ps2_8 ++ (lfP ct (fun j => (hsA g 3) (16 + j)) ps3))))))))))))) H := by rw [← ex_10]; exact hP
      have hD : va_D A (lfX ct g x_10 ++ (lfH ct (hsA g 0) g h0 ++ (lfH ct (hsA g 2) g h2_5 ++ (lfH ct (hsA g 3) g h3 ++ (lfS ct (fun j => (hsA g 0) (12 + j)) nt0 ++ (lfS ct (fun j => (hsA g 0) (8 + j)) cv0 ++ (lfS ct (fun j => (hsA g 2) (12 + j)) nt2_6 ++ (lfS ct (fun j => (hsA g 2) (8 + j)) cv2_7 ++ (lfS ct (fun j => (hsA g 3) (12 + j)) nt3 ++ (lfS ct (fun j => (hsA g 3) (8 + j)) cv3 ++ (lfP ct (fun j => (hsA g 0) (16 + j)) ps0 ++ (lfP ct (fun j => (hsA g 2) (16 + j)) ps2_8 ++ (lfP ct (fun j => (hsA g 3) (16 + j)) ps3))))))))))))) := by rw [← ex_10]; exact hD
      refine lv_iconst (v := 1) hx hb dX11_image_34 (by decide) ?_
      obtain ⟨e1, e2, e3, e4, e5, e6, e7, e8, e9, e10⟩ := inj10 (Option.some.inj hf)
      exact end_i (w' := (lfX ct g x_10 ++ (lfH ct (hsA g 0) g h0 ++ (lfH ct (hsA g 2) g h2_5 ++ (lfH ct (hsA g 3) g h3 ++ (lfS ct (fun j => (hsA g 0) (12 + j)) nt0 ++ (lfS ct (fun j => (hsA g 0) (8 + j)) cv0 ++ (lfS ct (fun j => (hsA g 2) (12 + j)) nt2_6 ++ (lfS ct (fun j => (hsA g 2) (8 + j)) cv2_7 ++ (lfS ct (fun j => (hsA g 3) (12 + j)) nt3 ++ (lfS ct (fun j => (hsA g 3) (8 + j)) cv3 ++ (lfP ct (fun j => (hsA g 0) (16 + j)) ps0 ++ (lfP ct (fun j => (hsA g 2) (16 + j)) ps2_8 ++ (lfP ct (fun j => (hsA g 3) (16 + j)) ps3)))))))))))))) hx hb hr hlocks hK hP hD hS dX11_image_35  ⟨by rw [← e1], by rw [← e2, ← e3, ← e4, ← e5, ← e6, ← e7, ← e8, ← e9, ← e10]⟩
    · replace hf := bc_f hf c_4
      have c9 : v1 = 1 := vp_two g_3 c_4
      refine va_aldq (f := fun j => some (hsA g (2 + j) 0)) hx hb hK hP 1 4 rfl rfl g_3 dX11_image_19 ?_
      refine W.eq (g2 := F0 m 20 ls []) (by rw [c9]; rfl) ?_
      refine lv_aload_n hx hb dX11_image_20 rfl (lv_at hl 0 rfl) ?_
      refine va_get (D := G) (C := RX11) (T := TX11) (N := 11) (v := .ref ((hsA g 0) 0)) hx hb hts iu_X11 hown hK hP 0 rfl rfl 0 (by decide) (hts _ kw262) (fun _ h9 => h9) rfl dX11_image_21 ?_
      obtain ⟨h3_11, nt3_12, cv3_13, ps3_14, hc14, hf⟩ := bd4_e hf
      refine call_V (As := [.ref ((hsA g 0) 0)]) (rest := []) hx hb hml hown hts hK hP hD hS hA hZ lkX11_121 (Ctr.up (W := (lfX ct g x ++ (lfH ct (hsA g 0) g h0 ++ (lfH ct (hsA g 2) g h2 ++ (lfH ct (hsA g 3) g h3 ++ (lfS ct (fun j => (hsA g 0) (12 + j)) nt0 ++ (lfS ct (fun j => (hsA g 0) (8 + j)) cv0 ++ (lfS ct (fun j => (hsA g 2) (12 + j)) nt2 ++ (lfS ct (fun j => (hsA g 2) (8 + j)) cv2 ++ (lfS ct (fun j => (hsA g 3) (12 + j)) nt3 ++ (lfS ct (fun j => (hsA g 3) (8 + j)) cv3 ++ (lfP ct (fun j => (hsA g 0) (16 + j)) ps0 ++ (lfP ct (fun j => (hsA g 2) (16 + j)) ps2 ++ (lfP ct (fun j => (hsA g 3) (16 + j)) ps3)))))))))))))) (W' := (lfX ct g x ++ (lfH ct (hsA g 0) g h0 ++ (lfH ct (hsA g 2) g h2 ++ (lfH ct (hsA g 3) g h3_11 ++ (lfS ct (fun j => (hsA g 0) (12 + j)) nt0 ++ (lfS ct (fun j => (hsA g 0) (8 + j)) cv0 ++ (lfS ct (fun j => (hsA g 2) (12 + j)) nt2 ++ (lfS ct (fun j => (hsA g 2) (8 + j)) cv2 ++ (lfS ct (fun j => (hsA g 3) (12 + j)) nt3_12 ++ (lfS ct (fun j => (hsA g 3) (8 + j)) cv3_13 ++ (lfP ct (fun j => (hsA g 0) (16 + j)) ps0 ++ (lfP ct (fun j => (hsA g 2) (16 + j)) ps2 ++ (lfP ct (fun j => (hsA g 3) (16 + j)) ps3_14)))))))))))))) (c_X1_takeOver l G ct sk sv (hsA g 3) (hsA g 0) g n h3 h0 nt3 cv3 nt0 cv0 ps3 ps0 hc14) [19, 20, 21, 22, 23, 24, 25, 26, 3, 4, 5, 6, 7, 8, 9, 10, 43, 44, 45, 46, 47, 48, 49, 50, 27, 28, 29, 30, 31, 32, 33, 34, 55, 56, 51, 52] [0, 1, 2, 11, 12, 13, 14, 15, 16, 17, 18, 35, 36, 37, 38, 39, 40, 41, 42, 53, 54] [0, 1, 2, 29, 30, 31, 32, 33, 34, 35, 36, 3, 4, 5, 6, 7, 8, 9, 10, 21, 22, 23, 24, 25, 26, 27, 28, 45, 46, 47, 48, 49, 50, 51, 52, 11, 12, 13, 14, 15, 16, 17, 18, 37, 38, 39, 40, 41, 42, 43, 44, 55, 56, 19, 20, 53, 54] rfl rfl rfl rfl (by decide) rfl rfl) 19 rfl rfl ⟨Nat.le_of_ble_eq_true rfl, Nat.le_of_ble_eq_true rfl⟩ rfl hl.1 rfl (Nat.le_of_ble_eq_true rfl) dX11_image_24 ⟨Nat.le_of_ble_eq_true rfl, Nat.le_of_ble_eq_true rfl⟩ (fun r9 w9 H locs hB hP hD hS => ?_)
      obtain ⟨rfl, rfl⟩ := hB
      refine WG_eq (g2 := F0 m 27 ls []) rfl ?_
      refine lv_aload_n hx hb dX11_image_27 rfl (lv_at hl 0 rfl) ?_
      refine va_get (D := G) (C := RX11) (T := TX11) (N := 11) (v := .ref (g 9)) hx hb hts iu_X11 hown hK hP 0 rfl rfl 3 (by decide) (hts _ kw265) (fun _ h9 => h9) rfl dX11_image_28 ?_
      refine lv_iload_n hx hb dX11_image_31 rfl (lv_at hl 1 rfl) ?_
      refine lv_iconst (v := 1) hx hb dX11_image_32 (by decide) ?_
      obtain ⟨g_15, hf⟩ := gd_e hf
      obtain ⟨x_16, ex_16, hf⟩ := bl_e hf
      refine va_zast hx hb hK hP hD hS 2 1 rfl rfl g_15 dX11_image_33 (fun H locs hP hD hS => ?_)
      have hP : va_P G classes (lfX ct g x_16 ++ (lfH ct (hsA g 0) g h0 ++ (lfH ct (hsA g 2) g h2 ++ (lfH ct (hsA g 3) g h3_11 ++ (lfS ct (fun j => (hsA g 0) (12 + j)) nt0 ++ (lfS ct (fun j => (hsA g 0) (8 + j)) cv0 ++ (lfS ct (fun j => (hsA g 2) (12 + j)) nt2 ++ (lfS ct (fun j => (hsA g 2) (8 + j)) cv2 ++ (lfS ct (fun j => (hsA g 3) (12 + j)) nt3_12 ++ (lfS ct (fun j => (hsA g 3) (8 + j)) cv3_13 ++ (lfP ct (fun j => (hsA g 0) (16 + j)) ps0 ++ (lfP ct (fun j => (hsA g 2) (16 + j)) ps2 ++ (lfP ct (fun j => (hsA g 3) (16 + j)) ps3_14))))))))))))) H := by rw [← ex_16]; exact hP
      have hD : va_D A (lfX ct g x_16 ++ (lfH ct (hsA g 0) g h0 ++ (lfH ct (hsA g 2) g h2 ++ (lfH ct (hsA g 3) g h3_11 ++ (lfS ct (fun j => (hsA g 0) (12 + j)) nt0 ++ (lfS ct (fun j => (hsA g 0) (8 + j)) cv0 ++ (lfS ct (fun j => (hsA g 2) (12 + j)) nt2 ++ (lfS ct (fun j => (hsA g 2) (8 + j)) cv2 ++ (lfS ct (fun j => (hsA g 3) (12 + j)) nt3_12 ++ (lfS ct (fun j => (hsA g 3) (8 + j)) cv3_13 ++ (lfP ct (fun j => (hsA g 0) (16 + j)) ps0 ++ (lfP ct (fun j => (hsA g 2) (16 + j)) ps2 ++ (lfP ct (fun j => (hsA g 3) (16 + j)) ps3_14))))))))))))) := by rw [← ex_16]; exact hD
      refine lv_iconst (v := 1) hx hb dX11_image_34 (by decide) ?_
      obtain ⟨e1, e2, e3, e4, e5, e6, e7, e8, e9, e10⟩ := inj10 (Option.some.inj hf)
      exact end_i (w' := (lfX ct g x_16 ++ (lfH ct (hsA g 0) g h0 ++ (lfH ct (hsA g 2) g h2 ++ (lfH ct (hsA g 3) g h3_11 ++ (lfS ct (fun j => (hsA g 0) (12 + j)) nt0 ++ (lfS ct (fun j => (hsA g 0) (8 + j)) cv0 ++ (lfS ct (fun j => (hsA g 2) (12 + j)) nt2 ++ (lfS ct (fun j => (hsA g 2) (8 + j)) cv2 ++ (lfS ct (fun j => (hsA g 3) (12 + j)) nt3_12 ++ (lfS ct (fun j => (hsA g 3) (8 + j)) cv3_13 ++ (lfP ct (fun j => (hsA g 0) (16 + j)) ps0 ++ (lfP ct (fun j => (hsA g 2) (16 + j)) ps2 ++ (lfP ct (fun j => (hsA g 3) (16 + j)) ps3_14)))))))))))))) hx hb hr hlocks hK hP hD hS dX11_image_35  ⟨by rw [← e1], by rw [← e2, ← e3, ← e4, ← e5, ← e6, ← e7, ← e8, ← e9, ← e10]⟩
  · replace hf := bc_t hf c_2
    refine lv_aload_n hx hb dX11_image_9 rfl (lv_at hl 0 rfl) ?_
    obtain ⟨r_17, x_18, hc18, hf⟩ := bd2_e hf
    refine call_V (As := []) (rest := []) hx hb hml hown hts hK hP hD hS hA hZ lkX11_83 (Ctr.up (W := (lfX ct g x ++ (lfH ct (hsA g 0) g h0 ++ (lfH ct (hsA g 2) g h2 ++ (lfH ct (hsA g 3) g h3 ++ (lfS ct (fun j => (hsA g 0) (12 + j)) nt0 ++ (lfS ct (fun j => (hsA g 0) (8 + j)) cv0 ++ (lfS ct (fun j => (hsA g 2) (12 + j)) nt2 ++ (lfS ct (fun j => (hsA g 2) (8 + j)) cv2 ++ (lfS ct (fun j => (hsA g 3) (12 + j)) nt3 ++ (lfS ct (fun j => (hsA g 3) (8 + j)) cv3 ++ (lfP ct (fun j => (hsA g 0) (16 + j)) ps0 ++ (lfP ct (fun j => (hsA g 2) (16 + j)) ps2 ++ (lfP ct (fun j => (hsA g 3) (16 + j)) ps3)))))))))))))) (W' := (lfX ct g x_18 ++ (lfH ct (hsA g 0) g h0 ++ (lfH ct (hsA g 2) g h2 ++ (lfH ct (hsA g 3) g h3 ++ (lfS ct (fun j => (hsA g 0) (12 + j)) nt0 ++ (lfS ct (fun j => (hsA g 0) (8 + j)) cv0 ++ (lfS ct (fun j => (hsA g 2) (12 + j)) nt2 ++ (lfS ct (fun j => (hsA g 2) (8 + j)) cv2 ++ (lfS ct (fun j => (hsA g 3) (12 + j)) nt3 ++ (lfS ct (fun j => (hsA g 3) (8 + j)) cv3 ++ (lfP ct (fun j => (hsA g 0) (16 + j)) ps0 ++ (lfP ct (fun j => (hsA g 2) (16 + j)) ps2 ++ (lfP ct (fun j => (hsA g 3) (16 + j)) ps3)))))))))))))) (c_X11_refuseBad l G ct sk sv g n x hc18) [0, 1, 2] [3, 4, 5, 6, 7, 8, 9, 10, 11, 12, 13, 14, 15, 16, 17, 18, 19, 20, 21, 22, 23, 24, 25, 26, 27, 28, 29, 30, 31, 32, 33, 34, 35, 36, 37, 38, 39, 40, 41, 42, 43, 44, 45, 46, 47, 48, 49, 50, 51, 52, 53, 54, 55, 56] [54, 55, 56, 0, 1, 2, 3, 4, 5, 6, 7, 8, 9, 10, 11, 12, 13, 14, 15, 16, 17, 18, 19, 20, 21, 22, 23, 24, 25, 26, 27, 28, 29, 30, 31, 32, 33, 34, 35, 36, 37, 38, 39, 40, 41, 42, 43, 44, 45, 46, 47, 48, 49, 50, 51, 52, 53] rfl rfl rfl rfl (by decide) rfl rfl) 0 rfl rfl ⟨Nat.le_of_ble_eq_true rfl, Nat.le_of_ble_eq_true rfl⟩ rfl hl.1 rfl (Nat.le_of_ble_eq_true rfl) dX11_image_10 ⟨Nat.le_of_ble_eq_true rfl, Nat.le_of_ble_eq_true rfl⟩ (fun r9 w9 H locs hB hP hD hS => ?_)
    obtain ⟨rfl, rfl⟩ := hB
    refine WG_eq (g2 := F0 m 13 ls [.int r_17]) rfl ?_
    obtain ⟨e1, e2, e3, e4, e5, e6, e7, e8, e9, e10⟩ := inj10 (Option.some.inj hf)
    exact end_i (w' := (lfX ct g x_18 ++ (lfH ct (hsA g 0) g h0 ++ (lfH ct (hsA g 2) g h2 ++ (lfH ct (hsA g 3) g h3 ++ (lfS ct (fun j => (hsA g 0) (12 + j)) nt0 ++ (lfS ct (fun j => (hsA g 0) (8 + j)) cv0 ++ (lfS ct (fun j => (hsA g 2) (12 + j)) nt2 ++ (lfS ct (fun j => (hsA g 2) (8 + j)) cv2 ++ (lfS ct (fun j => (hsA g 3) (12 + j)) nt3 ++ (lfS ct (fun j => (hsA g 3) (8 + j)) cv3 ++ (lfP ct (fun j => (hsA g 0) (16 + j)) ps0 ++ (lfP ct (fun j => (hsA g 2) (16 + j)) ps2 ++ (lfP ct (fun j => (hsA g 3) (16 + j)) ps3)))))))))))))) hx hb hr hlocks hK hP hD hS dX11_image_13  ⟨by rw [← e1], by rw [← e2, ← e3, ← e4, ← e5, ← e6, ← e7, ← e8, ← e9, ← e10]⟩
noncomputable def f_X11_is (n : Nat) (x : MV) (h0 : MV) (nt0 : MV) (v1 : Int32) : Option (Int32 × MV) :=
  bd (f_X11_isMember n x h0 v1) fun r_1 =>
  bc (r_1 = 0) (bd2 (f_X11_refuseBad n x) fun r_4 x_5 =>
  some (r_4, x_5))
  (bd (f_X8_kindsNoted n nt0 v1) fun r_3 =>
  some (r_3, x))
set_option maxHeartbeats 4000000 in
set_option maxRecDepth 100000 in
theorem c_X11_is (l : Launch) (G : va_G) (ct : Nat → ClassId) (sk sv : Nat → Nat) (g : Nat → Nat) (n : Nat) (x : MV) (h0 : MV) (nt0 : MV) (v1 : Int32) {r : Int32} {x' : MV} (hf : f_X11_is n x h0 nt0 v1 = some (r, x')) : Ctr (l, G, ct, sk, sv) mX11_is 6 207 [.ref (g 7), .int v1] (lfX ct g x ++ (lfH ct (hsA g 0) g h0 ++ (lfS ct (fun j => (hsA g 0) (12 + j)) nt0 ++ (lfK ct g)))) (lfX ct g x' ++ (lfH ct (hsA g 0) g h0 ++ (lfS ct (fun j => (hsA g 0) (12 + j)) nt0 ++ (lfK ct g)))) (some (.int r)) := by
  refine ctr_intro (by decide) (Nat.le_of_ble_eq_true rfl) ?_
  intro p e s m args below meth c A C hP hD hS hA ls hl
  obtain ⟨hx, hb, hml, hown, hts, hr, hlocks, hK, hnm, hZ⟩ := C
  have hb : c.code = cX11_is := hb
  have hml : c.maxLocals = 2 := hml
  have hown : s.vm.findClass "SignedOutside" = some m.cls := hown
  have hr : meth.sig.returnType = some .int := hr
  have hP : va_P G classes (lfX ct g x ++ (lfH ct (hsA g 0) g h0 ++ (lfS ct (fun j => (hsA g 0) (12 + j)) nt0 ++ (lfK ct g)))) s.heap := hP
  have hD : va_D A (lfX ct g x ++ (lfH ct (hsA g 0) g h0 ++ (lfS ct (fun j => (hsA g 0) (12 + j)) nt0 ++ (lfK ct g)))) := hD
  have hK : va_K G classes (TYS ct) s := hK
  have hl : lv_has ls 2 [(0, .ref (g 7)), (1, .int v1)] := hl
  unfold f_X11_is at hf
  show WG l G ct sk sv p e (RM 6 207 0 0) s m args below meth c A (Eq2 (some (.int r)) (lfX ct g x' ++ (lfH ct (hsA g 0) g h0 ++ (lfS ct (fun j => (hsA g 0) (12 + j)) nt0 ++ (lfK ct g))))) s.heap [] (F0 m 0 ls [])
  refine lv_aload_n hx hb dX11_is_0 rfl (lv_at hl 0 rfl) ?_
  refine lv_iload_n hx hb dX11_is_1 rfl (lv_at hl 1 rfl) ?_
  obtain ⟨r_1, hc1, hf⟩ := bd_e hf
  refine call_V (As := [.int v1]) (rest := []) hx hb hml hown hts hK hP hD hS hA hZ lkX11_128 (Ctr.up (W := (lfX ct g x ++ (lfH ct (hsA g 0) g h0 ++ (lfS ct (fun j => (hsA g 0) (12 + j)) nt0 ++ (lfK ct g))))) (W' := (lfX ct g x ++ (lfH ct (hsA g 0) g h0 ++ (lfS ct (fun j => (hsA g 0) (12 + j)) nt0 ++ (lfK ct g))))) (c_X11_isMember l G ct sk sv g n x h0 v1 hc1) [0, 1, 2, 3, 4, 5, 6, 7, 8, 9, 10] [11, 12, 13, 14, 15, 16, 17, 18, 19, 20, 21] [11, 12, 13, 14, 15, 16, 17, 18, 19, 20, 21, 0, 1, 2, 3, 4, 5, 6, 7, 8, 9, 10] rfl rfl rfl rfl (by decide) rfl rfl) 0 rfl rfl ⟨Nat.le_of_ble_eq_true rfl, Nat.le_of_ble_eq_true rfl⟩ rfl hl.1 rfl (Nat.le_of_ble_eq_true rfl) dX11_is_2 ⟨Nat.le_of_ble_eq_true rfl, Nat.le_of_ble_eq_true rfl⟩ (fun r9 w9 H locs hB hP hD hS => ?_)
  obtain ⟨rfl, rfl⟩ := hB
  refine WG_eq (g2 := F0 m 5 ls [.int r_1]) rfl ?_
  refine lv_if_ne (tgt := 13) hx hb dX11_is_5 (by decide) (fun c_2 => ?_) (fun c_2 => ?_)
  · replace hf := bc_f hf c_2
    refine lv_aload_n hx hb dX11_is_13 rfl (lv_at hl 0 rfl) ?_
    refine va_get (D := G) (C := RX11) (T := TX11) (N := 11) (v := .ref ((hsA g 0) 0)) hx hb hts iu_X11 hown hK hP 0 rfl rfl 0 (by decide) (hts _ kw262) (fun _ h9 => h9) rfl dX11_is_14 ?_
    refine va_get (D := G) (C := RX1) (T := TX1) (N := 16) (v := .ref ((hsA g 0) 12)) hx hb hts iu_X1 hown hK hP 3 rfl rfl 14 (by decide) (hts _ kw160) (fun _ h9 => h9) rfl dX11_is_17 ?_
    refine lv_iload_n hx hb dX11_is_20 rfl (lv_at hl 1 rfl) ?_
    refine lv_aload_n hx hb dX11_is_21 rfl (lv_at hl 0 rfl) ?_
    refine va_get (D := G) (C := RX11) (T := TX11) (N := 11) (v := .ref ((hsA g 0) 0)) hx hb hts iu_X11 hown hK hP 0 rfl rfl 0 (by decide) (hts _ kw262) (fun _ h9 => h9) rfl dX11_is_22 ?_
    refine va_get (D := G) (C := RX1) (T := TX1) (N := 16) (v := .ref (g 0)) hx hb hts iu_X1 hown hK hP 3 rfl rfl 0 (by decide) (hts _ kw122) (fun _ h9 => h9) rfl dX11_is_25 ?_
    obtain ⟨r_3, hc3, hf⟩ := bd_e hf
    refine call_V (As := [.int v1, .ref (g 0)]) (rest := []) hx hb hml hown hts hK hP hD hS hA hZ lkX11_285 (Ctr.up (W := (lfX ct g x ++ (lfH ct (hsA g 0) g h0 ++ (lfS ct (fun j => (hsA g 0) (12 + j)) nt0 ++ (lfK ct g))))) (W' := (lfX ct g x ++ (lfH ct (hsA g 0) g h0 ++ (lfS ct (fun j => (hsA g 0) (12 + j)) nt0 ++ (lfK ct g))))) (c_X8_kindsNoted l G ct sk sv (fun j => (hsA g 0) (12 + j)) g n nt0 v1 hc3) [11, 12, 13, 14, 15, 16, 17, 18, 19, 20, 21] [0, 1, 2, 3, 4, 5, 6, 7, 8, 9, 10] [0, 1, 2, 3, 4, 5, 6, 7, 8, 9, 10, 11, 12, 13, 14, 15, 16, 17, 18, 19, 20, 21] rfl rfl rfl rfl (by decide) rfl rfl) 11 rfl rfl ⟨Nat.le_of_ble_eq_true rfl, Nat.le_of_ble_eq_true rfl⟩ rfl hl.1 rfl (Nat.le_of_ble_eq_true rfl) dX11_is_28 ⟨Nat.le_of_ble_eq_true rfl, Nat.le_of_ble_eq_true rfl⟩ (fun r9 w9 H locs hB hP hD hS => ?_)
    obtain ⟨rfl, rfl⟩ := hB
    refine WG_eq (g2 := F0 m 31 ls [.int r_3]) rfl ?_
    obtain ⟨e1, e2⟩ := inj2 (Option.some.inj hf)
    exact end_i (w' := (lfX ct g x ++ (lfH ct (hsA g 0) g h0 ++ (lfS ct (fun j => (hsA g 0) (12 + j)) nt0 ++ (lfK ct g))))) hx hb hr hlocks hK hP hD hS dX11_is_31  ⟨by rw [← e1], by rw [← e2]⟩
  · replace hf := bc_t hf c_2
    refine lv_aload_n hx hb dX11_is_8 rfl (lv_at hl 0 rfl) ?_
    obtain ⟨r_4, x_5, hc5, hf⟩ := bd2_e hf
    refine call_V (As := []) (rest := []) hx hb hml hown hts hK hP hD hS hA hZ lkX11_83 (Ctr.up (W := (lfX ct g x ++ (lfH ct (hsA g 0) g h0 ++ (lfS ct (fun j => (hsA g 0) (12 + j)) nt0 ++ (lfK ct g))))) (W' := (lfX ct g x_5 ++ (lfH ct (hsA g 0) g h0 ++ (lfS ct (fun j => (hsA g 0) (12 + j)) nt0 ++ (lfK ct g))))) (c_X11_refuseBad l G ct sk sv g n x hc5) [0, 1, 2] [3, 4, 5, 6, 7, 8, 9, 10, 11, 12, 13, 14, 15, 16, 17, 18, 19, 20, 21] [19, 20, 21, 0, 1, 2, 3, 4, 5, 6, 7, 8, 9, 10, 11, 12, 13, 14, 15, 16, 17, 18] rfl rfl rfl rfl (by decide) rfl rfl) 0 rfl rfl ⟨Nat.le_of_ble_eq_true rfl, Nat.le_of_ble_eq_true rfl⟩ rfl hl.1 rfl (Nat.le_of_ble_eq_true rfl) dX11_is_9 ⟨Nat.le_of_ble_eq_true rfl, Nat.le_of_ble_eq_true rfl⟩ (fun r9 w9 H locs hB hP hD hS => ?_)
    obtain ⟨rfl, rfl⟩ := hB
    refine WG_eq (g2 := F0 m 12 ls [.int r_4]) rfl ?_
    obtain ⟨e1, e2⟩ := inj2 (Option.some.inj hf)
    exact end_i (w' := (lfX ct g x_5 ++ (lfH ct (hsA g 0) g h0 ++ (lfS ct (fun j => (hsA g 0) (12 + j)) nt0 ++ (lfK ct g))))) hx hb hr hlocks hK hP hD hS dX11_is_12  ⟨by rw [← e1], by rw [← e2]⟩
noncomputable def f_X11_letter_j24 (n : Nat) (x : MV) (h0 : MV) (ps0 : MV) : Option (Int32 × MV × MV × MV) :=
  bd2 (f_X11_refuseBad n x) fun r_1 x_2 =>
  some (r_1, x_2, h0, ps0)
noncomputable def f_X11_letter (n : Nat) (x : MV) (h0 : MV) (ps0 : MV) (v1 : Int32) (v2 : Int32) (v3 : Int32) : Option (Int32 × MV × MV × MV) :=
  bd (f_X11_isPlace n v1) fun r_3 =>
  bc (r_3 = 0) (f_X11_letter_j24 n x h0 ps0)
  (bd (f_X11_isPlace n v2) fun r_5 =>
  bc (r_5 = 0) (f_X11_letter_j24 n x h0 ps0)
  (bd (f_X11_within n v3 1 9) fun r_7 =>
  bc (r_7 = 0) (f_X11_letter_j24 n x h0 ps0)
  (bc ((h0.1 1) < 6) (bd (f_X4_makeEmpty n ps0) fun ps0_10 =>
  bd2 (f_X1_addLetter n h0 v1 v2 v3) fun r_11 h0_12 =>
  some (r_11, x, h0_12, ps0_10))
  (bd2 (f_X11_refuseFull n x) fun r_13 x_14 =>
  some (r_13, x_14, h0, ps0)))))
set_option maxHeartbeats 4000000 in
set_option maxRecDepth 100000 in
theorem c_X11_letter (l : Launch) (G : va_G) (ct : Nat → ClassId) (sk sv : Nat → Nat) (g : Nat → Nat) (n : Nat) (x : MV) (h0 : MV) (ps0 : MV) (v1 : Int32) (v2 : Int32) (v3 : Int32) {r : Int32} {x' : MV} {h0' : MV} {ps0' : MV} (hf : f_X11_letter n x h0 ps0 v1 v2 v3 = some (r, x', h0', ps0')) : Ctr (l, G, ct, sk, sv) mX11_letter 2 42 [.ref (g 7), .int v1, .int v2, .int v3] (lfX ct g x ++ (lfH ct (hsA g 0) g h0 ++ (lfP ct (fun j => (hsA g 0) (16 + j)) ps0))) (lfX ct g x' ++ (lfH ct (hsA g 0) g h0' ++ (lfP ct (fun j => (hsA g 0) (16 + j)) ps0'))) (some (.int r)) := by
  refine ctr_intro (by decide) (Nat.le_of_ble_eq_true rfl) ?_
  intro p e s m args below meth c A C hP hD hS hA ls hl
  obtain ⟨hx, hb, hml, hown, hts, hr, hlocks, hK, hnm, hZ⟩ := C
  have hb : c.code = cX11_letter := hb
  have hml : c.maxLocals = 4 := hml
  have hown : s.vm.findClass "SignedOutside" = some m.cls := hown
  have hr : meth.sig.returnType = some .int := hr
  have hP : va_P G classes (lfX ct g x ++ (lfH ct (hsA g 0) g h0 ++ (lfP ct (fun j => (hsA g 0) (16 + j)) ps0))) s.heap := hP
  have hD : va_D A (lfX ct g x ++ (lfH ct (hsA g 0) g h0 ++ (lfP ct (fun j => (hsA g 0) (16 + j)) ps0))) := hD
  have hK : va_K G classes (TYS ct) s := hK
  have hl : lv_has ls 4 [(0, .ref (g 7)), (1, .int v1), (2, .int v2), (3, .int v3)] := hl
  have J24 : ∀ (x : MV) (h0 : MV) (ps0 : MV) (H : Heap) (locs : List Loc) (ls : Array Slot), va_P G classes (lfX ct g x ++ (lfH ct (hsA g 0) g h0 ++ (lfP ct (fun j => (hsA g 0) (16 + j)) ps0))) H → va_D A (lfX ct g x ++ (lfH ct (hsA g 0) g h0 ++ (lfP ct (fun j => (hsA g 0) (16 + j)) ps0))) → va_S A s.heap H locs → lv_has ls 4 [(0, .ref (g 7))] → f_X11_letter_j24 n x h0 ps0 = some (r, x', h0', ps0') → WG l G ct sk sv p e (RM 2 42 0 0) s m args below meth c A (Eq2 (some (.int r)) (lfX ct g x' ++ (lfH ct (hsA g 0) g h0' ++ (lfP ct (fun j => (hsA g 0) (16 + j)) ps0')))) H locs (F0 m 24 ls []) := by
    intro x h0 ps0 H locs ls hP hD hS hl hf
    unfold f_X11_letter_j24 at hf
    refine lv_aload_n hx hb dX11_letter_24 rfl (lv_at hl 0 rfl) ?_
    obtain ⟨r_1, x_2, hc2, hf⟩ := bd2_e hf
    refine call_V (As := []) (rest := []) hx hb hml hown hts hK hP hD hS hA hZ lkX11_83 (Ctr.up (W := (lfX ct g x ++ (lfH ct (hsA g 0) g h0 ++ (lfP ct (fun j => (hsA g 0) (16 + j)) ps0)))) (W' := (lfX ct g x_2 ++ (lfH ct (hsA g 0) g h0 ++ (lfP ct (fun j => (hsA g 0) (16 + j)) ps0)))) (c_X11_refuseBad l G ct sk sv g n x hc2) [0, 1, 2] [3, 4, 5, 6, 7, 8, 9, 10, 11, 12] [10, 11, 12, 0, 1, 2, 3, 4, 5, 6, 7, 8, 9] rfl rfl rfl rfl (by decide) rfl rfl) 0 rfl rfl ⟨Nat.le_of_ble_eq_true rfl, Nat.le_of_ble_eq_true rfl⟩ rfl hl.1 rfl (Nat.le_of_ble_eq_true rfl) dX11_letter_25 ⟨Nat.le_of_ble_eq_true rfl, Nat.le_of_ble_eq_true rfl⟩ (fun r9 w9 H locs hB hP hD hS => ?_)
    obtain ⟨rfl, rfl⟩ := hB
    refine WG_eq (g2 := F0 m 28 ls [.int r_1]) rfl ?_
    obtain ⟨e1, e2, e3, e4⟩ := inj4 (Option.some.inj hf)
    exact end_i (w' := (lfX ct g x_2 ++ (lfH ct (hsA g 0) g h0 ++ (lfP ct (fun j => (hsA g 0) (16 + j)) ps0)))) hx hb hr hlocks hK hP hD hS dX11_letter_28  ⟨by rw [← e1], by rw [← e2, ← e3, ← e4]⟩
  unfold f_X11_letter at hf
  show WG l G ct sk sv p e (RM 2 42 0 0) s m args below meth c A (Eq2 (some (.int r)) (lfX ct g x' ++ (lfH ct (hsA g 0) g h0' ++ (lfP ct (fun j => (hsA g 0) (16 + j)) ps0')))) s.heap [] (F0 m 0 ls [])
  refine lv_iload_n hx hb dX11_letter_0 rfl (lv_at hl 1 rfl) ?_
  obtain ⟨r_3, hc3, hf⟩ := bd_e hf
  refine call_S (As := [.int v1]) (rest := []) hx hb hml hown hts hK hP hD hS hA hZ lkX11_79 (Ctr.up (W := (lfX ct g x ++ (lfH ct (hsA g 0) g h0 ++ (lfP ct (fun j => (hsA g 0) (16 + j)) ps0)))) (W' := (lfX ct g x ++ (lfH ct (hsA g 0) g h0 ++ (lfP ct (fun j => (hsA g 0) (16 + j)) ps0)))) (c_X11_isPlace l G ct sk sv  n v1 hc3) [] [0, 1, 2, 3, 4, 5, 6, 7, 8, 9, 10, 11, 12] [0, 1, 2, 3, 4, 5, 6, 7, 8, 9, 10, 11, 12] rfl rfl rfl rfl (by decide) rfl rfl) ⟨Nat.le_of_ble_eq_true rfl, Nat.le_of_ble_eq_true rfl⟩ rfl hl.1 rfl (Nat.le_of_ble_eq_true rfl) dX11_letter_1 ⟨Nat.le_of_ble_eq_true rfl, Nat.le_of_ble_eq_true rfl⟩ (fun r9 w9 H locs hB hP hD hS => ?_)
  obtain ⟨rfl, rfl⟩ := hB
  refine WG_eq (g2 := F0 m 4 ls [.int r_3]) rfl ?_
  refine lv_if_eq (tgt := 24) hx hb dX11_letter_4 (by decide) (fun c_4 => ?_) (fun c_4 => ?_)
  · replace hf := bc_t hf c_4
    exact J24 x h0 ps0 _ _ _ hP hD hS (lv_sub hl [0] rfl) hf
  · replace hf := bc_f hf c_4
    refine lv_iload_n hx hb dX11_letter_7 rfl (lv_at hl 2 rfl) ?_
    obtain ⟨r_5, hc5, hf⟩ := bd_e hf
    refine call_S (As := [.int v2]) (rest := []) hx hb hml hown hts hK hP hD hS hA hZ lkX11_79 (Ctr.up (W := (lfX ct g x ++ (lfH ct (hsA g 0) g h0 ++ (lfP ct (fun j => (hsA g 0) (16 + j)) ps0)))) (W' := (lfX ct g x ++ (lfH ct (hsA g 0) g h0 ++ (lfP ct (fun j => (hsA g 0) (16 + j)) ps0)))) (c_X11_isPlace l G ct sk sv  n v2 hc5) [] [0, 1, 2, 3, 4, 5, 6, 7, 8, 9, 10, 11, 12] [0, 1, 2, 3, 4, 5, 6, 7, 8, 9, 10, 11, 12] rfl rfl rfl rfl (by decide) rfl rfl) ⟨Nat.le_of_ble_eq_true rfl, Nat.le_of_ble_eq_true rfl⟩ rfl hl.1 rfl (Nat.le_of_ble_eq_true rfl) dX11_letter_8 ⟨Nat.le_of_ble_eq_true rfl, Nat.le_of_ble_eq_true rfl⟩ (fun r9 w9 H locs hB hP hD hS => ?_)
    obtain ⟨rfl, rfl⟩ := hB
    refine WG_eq (g2 := F0 m 11 ls [.int r_5]) rfl ?_
    refine lv_if_eq (tgt := 24) hx hb dX11_letter_11 (by decide) (fun c_6 => ?_) (fun c_6 => ?_)
    · replace hf := bc_t hf c_6
      exact J24 x h0 ps0 _ _ _ hP hD hS (lv_sub hl [0] rfl) hf
    · replace hf := bc_f hf c_6
      refine lv_iload_n hx hb dX11_letter_14 rfl (lv_at hl 3 rfl) ?_
      refine lv_iconst (v := 1) hx hb dX11_letter_15 (by decide) ?_
      refine lv_bipush (v := 9) hx hb dX11_letter_16 (by decide) ?_
      obtain ⟨r_7, hc7, hf⟩ := bd_e hf
      refine call_S (As := [.int v3, .int 1, .int 9]) (rest := []) hx hb hml hown hts hK hP hD hS hA hZ lkX11_75 (Ctr.up (W := (lfX ct g x ++ (lfH ct (hsA g 0) g h0 ++ (lfP ct (fun j => (hsA g 0) (16 + j)) ps0)))) (W' := (lfX ct g x ++ (lfH ct (hsA g 0) g h0 ++ (lfP ct (fun j => (hsA g 0) (16 + j)) ps0)))) (c_X11_within l G ct sk sv  n v3 1 9 hc7) [] [0, 1, 2, 3, 4, 5, 6, 7, 8, 9, 10, 11, 12] [0, 1, 2, 3, 4, 5, 6, 7, 8, 9, 10, 11, 12] rfl rfl rfl rfl (by decide) rfl rfl) ⟨Nat.le_of_ble_eq_true rfl, Nat.le_of_ble_eq_true rfl⟩ rfl hl.1 rfl (Nat.le_of_ble_eq_true rfl) dX11_letter_18 ⟨Nat.le_of_ble_eq_true rfl, Nat.le_of_ble_eq_true rfl⟩ (fun r9 w9 H locs hB hP hD hS => ?_)
      obtain ⟨rfl, rfl⟩ := hB
      refine WG_eq (g2 := F0 m 21 ls [.int r_7]) rfl ?_
      refine lv_if_ne (tgt := 29) hx hb dX11_letter_21 (by decide) (fun c_8 => ?_) (fun c_8 => ?_)
      · replace hf := bc_f hf c_8
        refine lv_aload_n hx hb dX11_letter_29 rfl (lv_at hl 0 rfl) ?_
        refine va_get (D := G) (C := RX11) (T := TX11) (N := 11) (v := .ref ((hsA g 0) 0)) hx hb hts iu_X11 hown hK hP 0 rfl rfl 0 (by decide) (hts _ kw262) (fun _ h9 => h9) rfl dX11_letter_30 ?_
        refine va_get (D := G) (C := RX1) (T := TX1) (N := 16) (v := .int (h0.1 1)) hx hb hts iu_X1 hown hK hP 3 rfl rfl 5 (by decide) (hts _ kw137) (fun _ h9 => h9) rfl dX11_letter_33 ?_
        refine lv_bipush (v := 6) hx hb dX11_letter_36 (by decide) ?_
        refine lv_icmp_lt (tgt := 46) hx hb dX11_letter_38 (by decide) (fun c_9 => ?_) (fun c_9 => ?_)
        · replace hf := bc_t hf c_9
          refine lv_aload_n hx hb dX11_letter_46 rfl (lv_at hl 0 rfl) ?_
          refine va_get (D := G) (C := RX11) (T := TX11) (N := 11) (v := .ref ((hsA g 0) 0)) hx hb hts iu_X11 hown hK hP 0 rfl rfl 0 (by decide) (hts _ kw262) (fun _ h9 => h9) rfl dX11_letter_47 ?_
          refine va_get (D := G) (C := RX1) (T := TX1) (N := 16) (v := .ref ((hsA g 0) 16)) hx hb hts iu_X1 hown hK hP 3 rfl rfl 15 (by decide) (hts _ kw162) (fun _ h9 => h9) rfl dX11_letter_50 ?_
          obtain ⟨ps0_10, hc10, hf⟩ := bd_e hf
          refine call_V (As := []) (rest := []) hx hb hml hown hts hK hP hD hS hA hZ lkX11_94 (Ctr.up (W := (lfX ct g x ++ (lfH ct (hsA g 0) g h0 ++ (lfP ct (fun j => (hsA g 0) (16 + j)) ps0)))) (W' := (lfX ct g x ++ (lfH ct (hsA g 0) g h0 ++ (lfP ct (fun j => (hsA g 0) (16 + j)) ps0_10)))) (c_X4_makeEmpty l G ct sk sv (fun j => (hsA g 0) (16 + j)) n ps0 hc10) [11, 12] [0, 1, 2, 3, 4, 5, 6, 7, 8, 9, 10] [0, 1, 2, 3, 4, 5, 6, 7, 8, 9, 10, 11, 12] rfl rfl rfl rfl (by decide) rfl rfl) 11 rfl rfl ⟨Nat.le_of_ble_eq_true rfl, Nat.le_of_ble_eq_true rfl⟩ rfl hl.1 rfl (Nat.le_of_ble_eq_true rfl) dX11_letter_53 ⟨Nat.le_of_ble_eq_true rfl, Nat.le_of_ble_eq_true rfl⟩ (fun r9 w9 H locs hB hP hD hS => ?_)
          obtain ⟨rfl, rfl⟩ := hB
          refine WG_eq (g2 := F0 m 56 ls []) rfl ?_
          refine lv_aload_n hx hb dX11_letter_56 rfl (lv_at hl 0 rfl) ?_
          refine va_get (D := G) (C := RX11) (T := TX11) (N := 11) (v := .ref ((hsA g 0) 0)) hx hb hts iu_X11 hown hK hP 0 rfl rfl 0 (by decide) (hts _ kw262) (fun _ h9 => h9) rfl dX11_letter_57 ?_
          refine lv_iload_n hx hb dX11_letter_60 rfl (lv_at hl 1 rfl) ?_
          refine lv_iload_n hx hb dX11_letter_61 rfl (lv_at hl 2 rfl) ?_
          refine lv_iload_n hx hb dX11_letter_62 rfl (lv_at hl 3 rfl) ?_
          obtain ⟨r_11, h0_12, hc12, hf⟩ := bd2_e hf
          refine call_V (As := [.int v1, .int v2, .int v3]) (rest := []) hx hb hml hown hts hK hP hD hS hA hZ lkX11_104 (Ctr.up (W := (lfX ct g x ++ (lfH ct (hsA g 0) g h0 ++ (lfP ct (fun j => (hsA g 0) (16 + j)) ps0_10)))) (W' := (lfX ct g x ++ (lfH ct (hsA g 0) g h0_12 ++ (lfP ct (fun j => (hsA g 0) (16 + j)) ps0_10)))) (c_X1_addLetter l G ct sk sv (hsA g 0) g n h0 v1 v2 v3 hc12) [3, 4, 5, 6, 7, 8, 9, 10] [0, 1, 2, 11, 12] [0, 1, 2, 5, 6, 7, 8, 9, 10, 11, 12, 3, 4] rfl rfl rfl rfl (by decide) rfl rfl) 3 rfl rfl ⟨Nat.le_of_ble_eq_true rfl, Nat.le_of_ble_eq_true rfl⟩ rfl hl.1 rfl (Nat.le_of_ble_eq_true rfl) dX11_letter_63 ⟨Nat.le_of_ble_eq_true rfl, Nat.le_of_ble_eq_true rfl⟩ (fun r9 w9 H locs hB hP hD hS => ?_)
          obtain ⟨rfl, rfl⟩ := hB
          refine WG_eq (g2 := F0 m 66 ls [.int r_11]) rfl ?_
          obtain ⟨e1, e2, e3, e4⟩ := inj4 (Option.some.inj hf)
          exact end_i (w' := (lfX ct g x ++ (lfH ct (hsA g 0) g h0_12 ++ (lfP ct (fun j => (hsA g 0) (16 + j)) ps0_10)))) hx hb hr hlocks hK hP hD hS dX11_letter_66  ⟨by rw [← e1], by rw [← e2, ← e3, ← e4]⟩
        · replace hf := bc_f hf c_9
          refine lv_aload_n hx hb dX11_letter_41 rfl (lv_at hl 0 rfl) ?_
          obtain ⟨r_13, x_14, hc14, hf⟩ := bd2_e hf
          refine call_V (As := []) (rest := []) hx hb hml hown hts hK hP hD hS hA hZ lkX11_87 (Ctr.up (W := (lfX ct g x ++ (lfH ct (hsA g 0) g h0 ++ (lfP ct (fun j => (hsA g 0) (16 + j)) ps0)))) (W' := (lfX ct g x_14 ++ (lfH ct (hsA g 0) g h0 ++ (lfP ct (fun j => (hsA g 0) (16 + j)) ps0)))) (c_X11_refuseFull l G ct sk sv g n x hc14) [0, 1, 2] [3, 4, 5, 6, 7, 8, 9, 10, 11, 12] [10, 11, 12, 0, 1, 2, 3, 4, 5, 6, 7, 8, 9] rfl rfl rfl rfl (by decide) rfl rfl) 0 rfl rfl ⟨Nat.le_of_ble_eq_true rfl, Nat.le_of_ble_eq_true rfl⟩ rfl hl.1 rfl (Nat.le_of_ble_eq_true rfl) dX11_letter_42 ⟨Nat.le_of_ble_eq_true rfl, Nat.le_of_ble_eq_true rfl⟩ (fun r9 w9 H locs hB hP hD hS => ?_)
          obtain ⟨rfl, rfl⟩ := hB
          refine WG_eq (g2 := F0 m 45 ls [.int r_13]) rfl ?_
          obtain ⟨e1, e2, e3, e4⟩ := inj4 (Option.some.inj hf)
          exact end_i (w' := (lfX ct g x_14 ++ (lfH ct (hsA g 0) g h0 ++ (lfP ct (fun j => (hsA g 0) (16 + j)) ps0)))) hx hb hr hlocks hK hP hD hS dX11_letter_45  ⟨by rw [← e1], by rw [← e2, ← e3, ← e4]⟩
      · replace hf := bc_t hf c_8
        exact J24 x h0 ps0 _ _ _ hP hD hS (lv_sub hl [0] rfl) hf
noncomputable def f_X11_look_j15 (n : Nat) (x : MV) (h0 : MV) (cv0 : MV) : Option (Int32 × MV) :=
  bd2 (f_X11_refuseBad n x) fun r_1 x_2 =>
  some (r_1, x_2)
noncomputable def f_X11_look (n : Nat) (x : MV) (h0 : MV) (cv0 : MV) (v1 : Int32) (v2 : Int32) : Option (Int32 × MV) :=
  bd (f_X11_isMember n x h0 v1) fun r_3 =>
  bc (r_3 = 0) (f_X11_look_j15 n x h0 cv0)
  (bd (f_X11_isSlipDay n v2) fun r_5 =>
  bc (r_5 = 0) (f_X11_look_j15 n x h0 cv0)
  (bd (f_X8_onDay n cv0 v1 v2) fun r_7 =>
  bd (f_X1_kindAt n h0 v1) fun i_8 =>
  bd (f_K_reach n i_8 ) fun r_9 =>
  bd (f_X8_nextPlace n cv0 r_7 r_9) fun r_10 =>
  some (r_10, x)))
set_option maxHeartbeats 4000000 in
set_option maxRecDepth 100000 in
theorem c_X11_look (l : Launch) (G : va_G) (ct : Nat → ClassId) (sk sv : Nat → Nat) (g : Nat → Nat) (n : Nat) (x : MV) (h0 : MV) (cv0 : MV) (v1 : Int32) (v2 : Int32) {r : Int32} {x' : MV} (hf : f_X11_look n x h0 cv0 v1 v2 = some (r, x')) : Ctr (l, G, ct, sk, sv) mX11_look 4 160 [.ref (g 7), .int v1, .int v2] (lfX ct g x ++ (lfH ct (hsA g 0) g h0 ++ (lfS ct (fun j => (hsA g 0) (8 + j)) cv0 ++ (lfK ct g)))) (lfX ct g x' ++ (lfH ct (hsA g 0) g h0 ++ (lfS ct (fun j => (hsA g 0) (8 + j)) cv0 ++ (lfK ct g)))) (some (.int r)) := by
  refine ctr_intro (by decide) (Nat.le_of_ble_eq_true rfl) ?_
  intro p e s m args below meth c A C hP hD hS hA ls hl
  obtain ⟨hx, hb, hml, hown, hts, hr, hlocks, hK, hnm, hZ⟩ := C
  have hb : c.code = cX11_look := hb
  have hml : c.maxLocals = 3 := hml
  have hown : s.vm.findClass "SignedOutside" = some m.cls := hown
  have hr : meth.sig.returnType = some .int := hr
  have hP : va_P G classes (lfX ct g x ++ (lfH ct (hsA g 0) g h0 ++ (lfS ct (fun j => (hsA g 0) (8 + j)) cv0 ++ (lfK ct g)))) s.heap := hP
  have hD : va_D A (lfX ct g x ++ (lfH ct (hsA g 0) g h0 ++ (lfS ct (fun j => (hsA g 0) (8 + j)) cv0 ++ (lfK ct g)))) := hD
  have hK : va_K G classes (TYS ct) s := hK
  have hl : lv_has ls 3 [(0, .ref (g 7)), (1, .int v1), (2, .int v2)] := hl
  have J15 : ∀ (x : MV) (H : Heap) (locs : List Loc) (ls : Array Slot), va_P G classes (lfX ct g x ++ (lfH ct (hsA g 0) g h0 ++ (lfS ct (fun j => (hsA g 0) (8 + j)) cv0 ++ (lfK ct g)))) H → va_D A (lfX ct g x ++ (lfH ct (hsA g 0) g h0 ++ (lfS ct (fun j => (hsA g 0) (8 + j)) cv0 ++ (lfK ct g)))) → va_S A s.heap H locs → lv_has ls 3 [(0, .ref (g 7))] → f_X11_look_j15 n x h0 cv0 = some (r, x') → WG l G ct sk sv p e (RM 4 160 0 0) s m args below meth c A (Eq2 (some (.int r)) (lfX ct g x' ++ (lfH ct (hsA g 0) g h0 ++ (lfS ct (fun j => (hsA g 0) (8 + j)) cv0 ++ (lfK ct g))))) H locs (F0 m 15 ls []) := by
    intro x H locs ls hP hD hS hl hf
    unfold f_X11_look_j15 at hf
    refine lv_aload_n hx hb dX11_look_15 rfl (lv_at hl 0 rfl) ?_
    obtain ⟨r_1, x_2, hc2, hf⟩ := bd2_e hf
    refine call_V (As := []) (rest := []) hx hb hml hown hts hK hP hD hS hA hZ lkX11_83 (Ctr.up (W := (lfX ct g x ++ (lfH ct (hsA g 0) g h0 ++ (lfS ct (fun j => (hsA g 0) (8 + j)) cv0 ++ (lfK ct g))))) (W' := (lfX ct g x_2 ++ (lfH ct (hsA g 0) g h0 ++ (lfS ct (fun j => (hsA g 0) (8 + j)) cv0 ++ (lfK ct g))))) (c_X11_refuseBad l G ct sk sv g n x hc2) [0, 1, 2] [3, 4, 5, 6, 7, 8, 9, 10, 11, 12, 13, 14, 15, 16, 17, 18, 19, 20, 21] [19, 20, 21, 0, 1, 2, 3, 4, 5, 6, 7, 8, 9, 10, 11, 12, 13, 14, 15, 16, 17, 18] rfl rfl rfl rfl (by decide) rfl rfl) 0 rfl rfl ⟨Nat.le_of_ble_eq_true rfl, Nat.le_of_ble_eq_true rfl⟩ rfl hl.1 rfl (Nat.le_of_ble_eq_true rfl) dX11_look_16 ⟨Nat.le_of_ble_eq_true rfl, Nat.le_of_ble_eq_true rfl⟩ (fun r9 w9 H locs hB hP hD hS => ?_)
    obtain ⟨rfl, rfl⟩ := hB
    refine WG_eq (g2 := F0 m 19 ls [.int r_1]) rfl ?_
    obtain ⟨e1, e2⟩ := inj2 (Option.some.inj hf)
    exact end_i (w' := (lfX ct g x_2 ++ (lfH ct (hsA g 0) g h0 ++ (lfS ct (fun j => (hsA g 0) (8 + j)) cv0 ++ (lfK ct g))))) hx hb hr hlocks hK hP hD hS dX11_look_19  ⟨by rw [← e1], by rw [← e2]⟩
  unfold f_X11_look at hf
  show WG l G ct sk sv p e (RM 4 160 0 0) s m args below meth c A (Eq2 (some (.int r)) (lfX ct g x' ++ (lfH ct (hsA g 0) g h0 ++ (lfS ct (fun j => (hsA g 0) (8 + j)) cv0 ++ (lfK ct g))))) s.heap [] (F0 m 0 ls [])
  refine lv_aload_n hx hb dX11_look_0 rfl (lv_at hl 0 rfl) ?_
  refine lv_iload_n hx hb dX11_look_1 rfl (lv_at hl 1 rfl) ?_
  obtain ⟨r_3, hc3, hf⟩ := bd_e hf
  refine call_V (As := [.int v1]) (rest := []) hx hb hml hown hts hK hP hD hS hA hZ lkX11_128 (Ctr.up (W := (lfX ct g x ++ (lfH ct (hsA g 0) g h0 ++ (lfS ct (fun j => (hsA g 0) (8 + j)) cv0 ++ (lfK ct g))))) (W' := (lfX ct g x ++ (lfH ct (hsA g 0) g h0 ++ (lfS ct (fun j => (hsA g 0) (8 + j)) cv0 ++ (lfK ct g))))) (c_X11_isMember l G ct sk sv g n x h0 v1 hc3) [0, 1, 2, 3, 4, 5, 6, 7, 8, 9, 10] [11, 12, 13, 14, 15, 16, 17, 18, 19, 20, 21] [11, 12, 13, 14, 15, 16, 17, 18, 19, 20, 21, 0, 1, 2, 3, 4, 5, 6, 7, 8, 9, 10] rfl rfl rfl rfl (by decide) rfl rfl) 0 rfl rfl ⟨Nat.le_of_ble_eq_true rfl, Nat.le_of_ble_eq_true rfl⟩ rfl hl.1 rfl (Nat.le_of_ble_eq_true rfl) dX11_look_2 ⟨Nat.le_of_ble_eq_true rfl, Nat.le_of_ble_eq_true rfl⟩ (fun r9 w9 H locs hB hP hD hS => ?_)
  obtain ⟨rfl, rfl⟩ := hB
  refine WG_eq (g2 := F0 m 5 ls [.int r_3]) rfl ?_
  refine lv_if_eq (tgt := 15) hx hb dX11_look_5 (by decide) (fun c_4 => ?_) (fun c_4 => ?_)
  · replace hf := bc_t hf c_4
    exact J15 x _ _ _ hP hD hS (lv_sub hl [0] rfl) hf
  · replace hf := bc_f hf c_4
    refine lv_iload_n hx hb dX11_look_8 rfl (lv_at hl 2 rfl) ?_
    obtain ⟨r_5, hc5, hf⟩ := bd_e hf
    refine call_S (As := [.int v2]) (rest := []) hx hb hml hown hts hK hP hD hS hA hZ lkX11_247 (Ctr.up (W := (lfX ct g x ++ (lfH ct (hsA g 0) g h0 ++ (lfS ct (fun j => (hsA g 0) (8 + j)) cv0 ++ (lfK ct g))))) (W' := (lfX ct g x ++ (lfH ct (hsA g 0) g h0 ++ (lfS ct (fun j => (hsA g 0) (8 + j)) cv0 ++ (lfK ct g))))) (c_X11_isSlipDay l G ct sk sv  n v2 hc5) [] [0, 1, 2, 3, 4, 5, 6, 7, 8, 9, 10, 11, 12, 13, 14, 15, 16, 17, 18, 19, 20, 21] [0, 1, 2, 3, 4, 5, 6, 7, 8, 9, 10, 11, 12, 13, 14, 15, 16, 17, 18, 19, 20, 21] rfl rfl rfl rfl (by decide) rfl rfl) ⟨Nat.le_of_ble_eq_true rfl, Nat.le_of_ble_eq_true rfl⟩ rfl hl.1 rfl (Nat.le_of_ble_eq_true rfl) dX11_look_9 ⟨Nat.le_of_ble_eq_true rfl, Nat.le_of_ble_eq_true rfl⟩ (fun r9 w9 H locs hB hP hD hS => ?_)
    obtain ⟨rfl, rfl⟩ := hB
    refine WG_eq (g2 := F0 m 12 ls [.int r_5]) rfl ?_
    refine lv_if_ne (tgt := 20) hx hb dX11_look_12 (by decide) (fun c_6 => ?_) (fun c_6 => ?_)
    · replace hf := bc_f hf c_6
      refine lv_aload_n hx hb dX11_look_20 rfl (lv_at hl 0 rfl) ?_
      refine va_get (D := G) (C := RX11) (T := TX11) (N := 11) (v := .ref ((hsA g 0) 0)) hx hb hts iu_X11 hown hK hP 0 rfl rfl 0 (by decide) (hts _ kw262) (fun _ h9 => h9) rfl dX11_look_21 ?_
      refine va_get (D := G) (C := RX1) (T := TX1) (N := 16) (v := .ref ((hsA g 0) 8)) hx hb hts iu_X1 hown hK hP 3 rfl rfl 13 (by decide) (hts _ kw158) (fun _ h9 => h9) rfl dX11_look_24 ?_
      refine lv_aload_n hx hb dX11_look_27 rfl (lv_at hl 0 rfl) ?_
      refine va_get (D := G) (C := RX11) (T := TX11) (N := 11) (v := .ref ((hsA g 0) 0)) hx hb hts iu_X11 hown hK hP 0 rfl rfl 0 (by decide) (hts _ kw262) (fun _ h9 => h9) rfl dX11_look_28 ?_
      refine va_get (D := G) (C := RX1) (T := TX1) (N := 16) (v := .ref ((hsA g 0) 8)) hx hb hts iu_X1 hown hK hP 3 rfl rfl 13 (by decide) (hts _ kw158) (fun _ h9 => h9) rfl dX11_look_31 ?_
      refine lv_iload_n hx hb dX11_look_34 rfl (lv_at hl 1 rfl) ?_
      refine lv_iload_n hx hb dX11_look_35 rfl (lv_at hl 2 rfl) ?_
      obtain ⟨r_7, hc7, hf⟩ := bd_e hf
      refine call_V (As := [.int v1, .int v2]) (rest := [.ref ((hsA g 0) 8)]) hx hb hml hown hts hK hP hD hS hA hZ lkX11_265 (Ctr.up (W := (lfX ct g x ++ (lfH ct (hsA g 0) g h0 ++ (lfS ct (fun j => (hsA g 0) (8 + j)) cv0 ++ (lfK ct g))))) (W' := (lfX ct g x ++ (lfH ct (hsA g 0) g h0 ++ (lfS ct (fun j => (hsA g 0) (8 + j)) cv0 ++ (lfK ct g))))) (c_X8_onDay l G ct sk sv (fun j => (hsA g 0) (8 + j)) n cv0 v1 v2 hc7) [11, 12, 13, 14] [0, 1, 2, 3, 4, 5, 6, 7, 8, 9, 10, 15, 16, 17, 18, 19, 20, 21] [0, 1, 2, 3, 4, 5, 6, 7, 8, 9, 10, 18, 19, 20, 21, 11, 12, 13, 14, 15, 16, 17] rfl rfl rfl rfl (by decide) rfl rfl) 11 rfl rfl ⟨Nat.le_of_ble_eq_true rfl, Nat.le_of_ble_eq_true rfl⟩ rfl hl.1 rfl (Nat.le_of_ble_eq_true rfl) dX11_look_36 ⟨Nat.le_of_ble_eq_true rfl, Nat.le_of_ble_eq_true rfl⟩ (fun r9 w9 H locs hB hP hD hS => ?_)
      obtain ⟨rfl, rfl⟩ := hB
      refine WG_eq (g2 := F0 m 39 ls [.int r_7, .ref ((hsA g 0) 8)]) rfl ?_
      refine lv_aload_n hx hb dX11_look_39 rfl (lv_at hl 0 rfl) ?_
      refine va_get (D := G) (C := RX11) (T := TX11) (N := 11) (v := .ref ((hsA g 0) 0)) hx hb hts iu_X11 hown hK hP 0 rfl rfl 0 (by decide) (hts _ kw262) (fun _ h9 => h9) rfl dX11_look_40 ?_
      refine lv_iload_n hx hb dX11_look_43 rfl (lv_at hl 1 rfl) ?_
      obtain ⟨i_8, hc8, hf⟩ := bd_e hf
      refine call_V (As := [.int v1]) (rest := [.int r_7, .ref ((hsA g 0) 8)]) hx hb hml hown hts hK hP hD hS hA hZ lkX11_170 (Ctr.up (W := (lfX ct g x ++ (lfH ct (hsA g 0) g h0 ++ (lfS ct (fun j => (hsA g 0) (8 + j)) cv0 ++ (lfK ct g))))) (W' := (lfX ct g x ++ (lfH ct (hsA g 0) g h0 ++ (lfS ct (fun j => (hsA g 0) (8 + j)) cv0 ++ (lfK ct g))))) (c_X1_kindAt l G ct sk sv (hsA g 0) g n h0 v1 hc8) [3, 4, 5, 6, 7, 8, 9, 10, 15, 16, 17, 18, 19, 20, 21] [0, 1, 2, 11, 12, 13, 14] [0, 1, 2, 7, 8, 9, 10, 11, 12, 13, 14, 3, 4, 5, 6, 15, 16, 17, 18, 19, 20, 21] rfl rfl rfl rfl (by decide) rfl rfl) 3 rfl rfl ⟨Nat.le_of_ble_eq_true rfl, Nat.le_of_ble_eq_true rfl⟩ rfl hl.1 rfl (Nat.le_of_ble_eq_true rfl) dX11_look_44 ⟨Nat.le_of_ble_eq_true rfl, Nat.le_of_ble_eq_true rfl⟩ (fun r9 w9 H locs hB hP hD hS => ?_)
      obtain ⟨rfl, rfl⟩ := hB
      refine WG_eq (g2 := F0 m 47 ls [.ref (g (1 + i_8)), .int r_7, .ref ((hsA g 0) 8)]) rfl ?_
      obtain ⟨r_9, hc9, hf⟩ := bd_e hf
      refine disp_X11_183 n (k := g) i_8 hx hb hml hown hts hK hP hD hS hA hZ hc9 16 rfl rfl rfl rfl rfl rfl (Nat.le_of_ble_eq_true rfl) (Nat.le_of_ble_eq_true rfl) hl.1 (Nat.le_of_ble_eq_true rfl) dX11_look_47 ⟨Nat.zero_le _, Nat.zero_le _⟩ (fun H locs hP hD hS => ?_)
      refine WG_eq (g2 := F0 m 50 ls [.int r_9, .int r_7, .ref ((hsA g 0) 8)]) rfl ?_
      obtain ⟨r_10, hc10, hf⟩ := bd_e hf
      refine call_V (As := [.int r_7, .int r_9]) (rest := []) hx hb hml hown hts hK hP hD hS hA hZ lkX11_274 (Ctr.up (W := (lfX ct g x ++ (lfH ct (hsA g 0) g h0 ++ (lfS ct (fun j => (hsA g 0) (8 + j)) cv0 ++ (lfK ct g))))) (W' := (lfX ct g x ++ (lfH ct (hsA g 0) g h0 ++ (lfS ct (fun j => (hsA g 0) (8 + j)) cv0 ++ (lfK ct g))))) (c_X8_nextPlace l G ct sk sv (fun j => (hsA g 0) (8 + j)) n cv0 r_7 r_9 hc10) [11, 12, 13, 14] [0, 1, 2, 3, 4, 5, 6, 7, 8, 9, 10, 15, 16, 17, 18, 19, 20, 21] [0, 1, 2, 3, 4, 5, 6, 7, 8, 9, 10, 18, 19, 20, 21, 11, 12, 13, 14, 15, 16, 17] rfl rfl rfl rfl (by decide) rfl rfl) 11 rfl rfl ⟨Nat.le_of_ble_eq_true rfl, Nat.le_of_ble_eq_true rfl⟩ rfl hl.1 rfl (Nat.le_of_ble_eq_true rfl) dX11_look_50 ⟨Nat.le_of_ble_eq_true rfl, Nat.le_of_ble_eq_true rfl⟩ (fun r9 w9 H locs hB hP hD hS => ?_)
      obtain ⟨rfl, rfl⟩ := hB
      refine WG_eq (g2 := F0 m 53 ls [.int r_10]) rfl ?_
      obtain ⟨e1, e2⟩ := inj2 (Option.some.inj hf)
      exact end_i (w' := (lfX ct g x ++ (lfH ct (hsA g 0) g h0 ++ (lfS ct (fun j => (hsA g 0) (8 + j)) cv0 ++ (lfK ct g))))) hx hb hr hlocks hK hP hD hS dX11_look_53  ⟨by rw [← e1], by rw [← e2]⟩
    · replace hf := bc_t hf c_6
      exact J15 x _ _ _ hP hD hS (lv_sub hl [0] rfl) hf
noncomputable def f_X11_may (n : Nat) (x : MV) (h0 : MV) (v1 : Int32) : Option (Int32 × MV) :=
  bd (f_X11_isLetter n x h0 v1) fun r_1 =>
  bc (r_1 = 0) (bd2 (f_X11_refuseBad n x) fun r_4 x_5 =>
  some (r_4, x_5))
  (bd (f_X1_whoMayFrank n h0 v1) fun r_3 =>
  some (r_3, x))
set_option maxHeartbeats 4000000 in
set_option maxRecDepth 100000 in
theorem c_X11_may (l : Launch) (G : va_G) (ct : Nat → ClassId) (sk sv : Nat → Nat) (g : Nat → Nat) (n : Nat) (x : MV) (h0 : MV) (v1 : Int32) {r : Int32} {x' : MV} (hf : f_X11_may n x h0 v1 = some (r, x')) : Ctr (l, G, ct, sk, sv) mX11_may 7 229 [.ref (g 7), .int v1] (lfX ct g x ++ (lfH ct (hsA g 0) g h0 ++ (lfK ct g))) (lfX ct g x' ++ (lfH ct (hsA g 0) g h0 ++ (lfK ct g))) (some (.int r)) := by
  refine ctr_intro (by decide) (Nat.le_of_ble_eq_true rfl) ?_
  intro p e s m args below meth c A C hP hD hS hA ls hl
  obtain ⟨hx, hb, hml, hown, hts, hr, hlocks, hK, hnm, hZ⟩ := C
  have hb : c.code = cX11_may := hb
  have hml : c.maxLocals = 2 := hml
  have hown : s.vm.findClass "SignedOutside" = some m.cls := hown
  have hr : meth.sig.returnType = some .int := hr
  have hP : va_P G classes (lfX ct g x ++ (lfH ct (hsA g 0) g h0 ++ (lfK ct g))) s.heap := hP
  have hD : va_D A (lfX ct g x ++ (lfH ct (hsA g 0) g h0 ++ (lfK ct g))) := hD
  have hK : va_K G classes (TYS ct) s := hK
  have hl : lv_has ls 2 [(0, .ref (g 7)), (1, .int v1)] := hl
  unfold f_X11_may at hf
  show WG l G ct sk sv p e (RM 7 229 0 0) s m args below meth c A (Eq2 (some (.int r)) (lfX ct g x' ++ (lfH ct (hsA g 0) g h0 ++ (lfK ct g)))) s.heap [] (F0 m 0 ls [])
  refine lv_aload_n hx hb dX11_may_0 rfl (lv_at hl 0 rfl) ?_
  refine lv_iload_n hx hb dX11_may_1 rfl (lv_at hl 1 rfl) ?_
  obtain ⟨r_1, hc1, hf⟩ := bd_e hf
  refine call_V (As := [.int v1]) (rest := []) hx hb hml hown hts hK hP hD hS hA hZ lkX11_125 (Ctr.up (W := (lfX ct g x ++ (lfH ct (hsA g 0) g h0 ++ (lfK ct g)))) (W' := (lfX ct g x ++ (lfH ct (hsA g 0) g h0 ++ (lfK ct g)))) (c_X11_isLetter l G ct sk sv g n x h0 v1 hc1) [0, 1, 2, 3, 4, 5, 6, 7, 8, 9, 10] [11, 12, 13, 14, 15, 16, 17] [7, 8, 9, 10, 11, 12, 13, 14, 15, 16, 17, 0, 1, 2, 3, 4, 5, 6] rfl rfl rfl rfl (by decide) rfl rfl) 0 rfl rfl ⟨Nat.le_of_ble_eq_true rfl, Nat.le_of_ble_eq_true rfl⟩ rfl hl.1 rfl (Nat.le_of_ble_eq_true rfl) dX11_may_2 ⟨Nat.le_of_ble_eq_true rfl, Nat.le_of_ble_eq_true rfl⟩ (fun r9 w9 H locs hB hP hD hS => ?_)
  obtain ⟨rfl, rfl⟩ := hB
  refine WG_eq (g2 := F0 m 5 ls [.int r_1]) rfl ?_
  refine lv_if_ne (tgt := 13) hx hb dX11_may_5 (by decide) (fun c_2 => ?_) (fun c_2 => ?_)
  · replace hf := bc_f hf c_2
    refine lv_aload_n hx hb dX11_may_13 rfl (lv_at hl 0 rfl) ?_
    refine va_get (D := G) (C := RX11) (T := TX11) (N := 11) (v := .ref ((hsA g 0) 0)) hx hb hts iu_X11 hown hK hP 0 rfl rfl 0 (by decide) (hts _ kw262) (fun _ h9 => h9) rfl dX11_may_14 ?_
    refine lv_iload_n hx hb dX11_may_17 rfl (lv_at hl 1 rfl) ?_
    obtain ⟨r_3, hc3, hf⟩ := bd_e hf
    refine call_V (As := [.int v1]) (rest := []) hx hb hml hown hts hK hP hD hS hA hZ lkX11_213 (Ctr.up (W := (lfX ct g x ++ (lfH ct (hsA g 0) g h0 ++ (lfK ct g)))) (W' := (lfX ct g x ++ (lfH ct (hsA g 0) g h0 ++ (lfK ct g)))) (c_X1_whoMayFrank l G ct sk sv (hsA g 0) g n h0 v1 hc3) [3, 4, 5, 6, 7, 8, 9, 10, 11, 12, 13, 14, 15, 16, 17] [0, 1, 2] [0, 1, 2, 3, 4, 5, 6, 7, 8, 9, 10, 11, 12, 13, 14, 15, 16, 17] rfl rfl rfl rfl (by decide) rfl rfl) 3 rfl rfl ⟨Nat.le_of_ble_eq_true rfl, Nat.le_of_ble_eq_true rfl⟩ rfl hl.1 rfl (Nat.le_of_ble_eq_true rfl) dX11_may_18 ⟨Nat.le_of_ble_eq_true rfl, Nat.le_of_ble_eq_true rfl⟩ (fun r9 w9 H locs hB hP hD hS => ?_)
    obtain ⟨rfl, rfl⟩ := hB
    refine WG_eq (g2 := F0 m 21 ls [.int r_3]) rfl ?_
    obtain ⟨e1, e2⟩ := inj2 (Option.some.inj hf)
    exact end_i (w' := (lfX ct g x ++ (lfH ct (hsA g 0) g h0 ++ (lfK ct g)))) hx hb hr hlocks hK hP hD hS dX11_may_21  ⟨by rw [← e1], by rw [← e2]⟩
  · replace hf := bc_t hf c_2
    refine lv_aload_n hx hb dX11_may_8 rfl (lv_at hl 0 rfl) ?_
    obtain ⟨r_4, x_5, hc5, hf⟩ := bd2_e hf
    refine call_V (As := []) (rest := []) hx hb hml hown hts hK hP hD hS hA hZ lkX11_83 (Ctr.up (W := (lfX ct g x ++ (lfH ct (hsA g 0) g h0 ++ (lfK ct g)))) (W' := (lfX ct g x_5 ++ (lfH ct (hsA g 0) g h0 ++ (lfK ct g)))) (c_X11_refuseBad l G ct sk sv g n x hc5) [0, 1, 2] [3, 4, 5, 6, 7, 8, 9, 10, 11, 12, 13, 14, 15, 16, 17] [15, 16, 17, 0, 1, 2, 3, 4, 5, 6, 7, 8, 9, 10, 11, 12, 13, 14] rfl rfl rfl rfl (by decide) rfl rfl) 0 rfl rfl ⟨Nat.le_of_ble_eq_true rfl, Nat.le_of_ble_eq_true rfl⟩ rfl hl.1 rfl (Nat.le_of_ble_eq_true rfl) dX11_may_9 ⟨Nat.le_of_ble_eq_true rfl, Nat.le_of_ble_eq_true rfl⟩ (fun r9 w9 H locs hB hP hD hS => ?_)
    obtain ⟨rfl, rfl⟩ := hB
    refine WG_eq (g2 := F0 m 12 ls [.int r_4]) rfl ?_
    obtain ⟨e1, e2⟩ := inj2 (Option.some.inj hf)
    exact end_i (w' := (lfX ct g x_5 ++ (lfH ct (hsA g 0) g h0 ++ (lfK ct g)))) hx hb hr hlocks hK hP hD hS dX11_may_12  ⟨by rw [← e1], by rw [← e2]⟩
noncomputable def f_X11_member_j16 (n : Nat) (x : MV) (h0 : MV) (ps0 : MV) : Option (Int32 × MV × MV × MV) :=
  bd2 (f_X11_refuseBad n x) fun r_1 x_2 =>
  some (r_1, x_2, h0, ps0)
noncomputable def f_X11_member (n : Nat) (x : MV) (h0 : MV) (ps0 : MV) (v1 : Int32) (v2 : Int32) : Option (Int32 × MV × MV × MV) :=
  bd (f_X11_within n v1 0 5) fun r_3 =>
  bc (r_3 = 0) (f_X11_member_j16 n x h0 ps0)
  (bd (f_X11_isPlace n v2) fun r_5 =>
  bc (r_5 = 0) (f_X11_member_j16 n x h0 ps0)
  (bc ((h0.1 0) < 5) (bd (f_X4_makeEmpty n ps0) fun ps0_8 =>
  bd2 (f_X1_addMember n h0 v1 v2) fun r_9 h0_10 =>
  some (r_9, x, h0_10, ps0_8))
  (bd2 (f_X11_refuseFull n x) fun r_11 x_12 =>
  some (r_11, x_12, h0, ps0))))
set_option maxHeartbeats 4000000 in
set_option maxRecDepth 100000 in
theorem c_X11_member (l : Launch) (G : va_G) (ct : Nat → ClassId) (sk sv : Nat → Nat) (g : Nat → Nat) (n : Nat) (x : MV) (h0 : MV) (ps0 : MV) (v1 : Int32) (v2 : Int32) {r : Int32} {x' : MV} {h0' : MV} {ps0' : MV} (hf : f_X11_member n x h0 ps0 v1 v2 = some (r, x', h0', ps0')) : Ctr (l, G, ct, sk, sv) mX11_member 2 42 [.ref (g 7), .int v1, .int v2] (lfX ct g x ++ (lfH ct (hsA g 0) g h0 ++ (lfP ct (fun j => (hsA g 0) (16 + j)) ps0))) (lfX ct g x' ++ (lfH ct (hsA g 0) g h0' ++ (lfP ct (fun j => (hsA g 0) (16 + j)) ps0'))) (some (.int r)) := by
  refine ctr_intro (by decide) (Nat.le_of_ble_eq_true rfl) ?_
  intro p e s m args below meth c A C hP hD hS hA ls hl
  obtain ⟨hx, hb, hml, hown, hts, hr, hlocks, hK, hnm, hZ⟩ := C
  have hb : c.code = cX11_member := hb
  have hml : c.maxLocals = 3 := hml
  have hown : s.vm.findClass "SignedOutside" = some m.cls := hown
  have hr : meth.sig.returnType = some .int := hr
  have hP : va_P G classes (lfX ct g x ++ (lfH ct (hsA g 0) g h0 ++ (lfP ct (fun j => (hsA g 0) (16 + j)) ps0))) s.heap := hP
  have hD : va_D A (lfX ct g x ++ (lfH ct (hsA g 0) g h0 ++ (lfP ct (fun j => (hsA g 0) (16 + j)) ps0))) := hD
  have hK : va_K G classes (TYS ct) s := hK
  have hl : lv_has ls 3 [(0, .ref (g 7)), (1, .int v1), (2, .int v2)] := hl
  have J16 : ∀ (x : MV) (h0 : MV) (ps0 : MV) (H : Heap) (locs : List Loc) (ls : Array Slot), va_P G classes (lfX ct g x ++ (lfH ct (hsA g 0) g h0 ++ (lfP ct (fun j => (hsA g 0) (16 + j)) ps0))) H → va_D A (lfX ct g x ++ (lfH ct (hsA g 0) g h0 ++ (lfP ct (fun j => (hsA g 0) (16 + j)) ps0))) → va_S A s.heap H locs → lv_has ls 3 [(0, .ref (g 7))] → f_X11_member_j16 n x h0 ps0 = some (r, x', h0', ps0') → WG l G ct sk sv p e (RM 2 42 0 0) s m args below meth c A (Eq2 (some (.int r)) (lfX ct g x' ++ (lfH ct (hsA g 0) g h0' ++ (lfP ct (fun j => (hsA g 0) (16 + j)) ps0')))) H locs (F0 m 16 ls []) := by
    intro x h0 ps0 H locs ls hP hD hS hl hf
    unfold f_X11_member_j16 at hf
    refine lv_aload_n hx hb dX11_member_16 rfl (lv_at hl 0 rfl) ?_
    obtain ⟨r_1, x_2, hc2, hf⟩ := bd2_e hf
    refine call_V (As := []) (rest := []) hx hb hml hown hts hK hP hD hS hA hZ lkX11_83 (Ctr.up (W := (lfX ct g x ++ (lfH ct (hsA g 0) g h0 ++ (lfP ct (fun j => (hsA g 0) (16 + j)) ps0)))) (W' := (lfX ct g x_2 ++ (lfH ct (hsA g 0) g h0 ++ (lfP ct (fun j => (hsA g 0) (16 + j)) ps0)))) (c_X11_refuseBad l G ct sk sv g n x hc2) [0, 1, 2] [3, 4, 5, 6, 7, 8, 9, 10, 11, 12] [10, 11, 12, 0, 1, 2, 3, 4, 5, 6, 7, 8, 9] rfl rfl rfl rfl (by decide) rfl rfl) 0 rfl rfl ⟨Nat.le_of_ble_eq_true rfl, Nat.le_of_ble_eq_true rfl⟩ rfl hl.1 rfl (Nat.le_of_ble_eq_true rfl) dX11_member_17 ⟨Nat.le_of_ble_eq_true rfl, Nat.le_of_ble_eq_true rfl⟩ (fun r9 w9 H locs hB hP hD hS => ?_)
    obtain ⟨rfl, rfl⟩ := hB
    refine WG_eq (g2 := F0 m 20 ls [.int r_1]) rfl ?_
    obtain ⟨e1, e2, e3, e4⟩ := inj4 (Option.some.inj hf)
    exact end_i (w' := (lfX ct g x_2 ++ (lfH ct (hsA g 0) g h0 ++ (lfP ct (fun j => (hsA g 0) (16 + j)) ps0)))) hx hb hr hlocks hK hP hD hS dX11_member_20  ⟨by rw [← e1], by rw [← e2, ← e3, ← e4]⟩
  unfold f_X11_member at hf
  show WG l G ct sk sv p e (RM 2 42 0 0) s m args below meth c A (Eq2 (some (.int r)) (lfX ct g x' ++ (lfH ct (hsA g 0) g h0' ++ (lfP ct (fun j => (hsA g 0) (16 + j)) ps0')))) s.heap [] (F0 m 0 ls [])
  refine lv_iload_n hx hb dX11_member_0 rfl (lv_at hl 1 rfl) ?_
  refine lv_iconst (v := 0) hx hb dX11_member_1 (by decide) ?_
  refine lv_iconst (v := 5) hx hb dX11_member_2 (by decide) ?_
  obtain ⟨r_3, hc3, hf⟩ := bd_e hf
  refine call_S (As := [.int v1, .int 0, .int 5]) (rest := []) hx hb hml hown hts hK hP hD hS hA hZ lkX11_75 (Ctr.up (W := (lfX ct g x ++ (lfH ct (hsA g 0) g h0 ++ (lfP ct (fun j => (hsA g 0) (16 + j)) ps0)))) (W' := (lfX ct g x ++ (lfH ct (hsA g 0) g h0 ++ (lfP ct (fun j => (hsA g 0) (16 + j)) ps0)))) (c_X11_within l G ct sk sv  n v1 0 5 hc3) [] [0, 1, 2, 3, 4, 5, 6, 7, 8, 9, 10, 11, 12] [0, 1, 2, 3, 4, 5, 6, 7, 8, 9, 10, 11, 12] rfl rfl rfl rfl (by decide) rfl rfl) ⟨Nat.le_of_ble_eq_true rfl, Nat.le_of_ble_eq_true rfl⟩ rfl hl.1 rfl (Nat.le_of_ble_eq_true rfl) dX11_member_3 ⟨Nat.le_of_ble_eq_true rfl, Nat.le_of_ble_eq_true rfl⟩ (fun r9 w9 H locs hB hP hD hS => ?_)
  obtain ⟨rfl, rfl⟩ := hB
  refine WG_eq (g2 := F0 m 6 ls [.int r_3]) rfl ?_
  refine lv_if_eq (tgt := 16) hx hb dX11_member_6 (by decide) (fun c_4 => ?_) (fun c_4 => ?_)
  · replace hf := bc_t hf c_4
    exact J16 x h0 ps0 _ _ _ hP hD hS (lv_sub hl [0] rfl) hf
  · replace hf := bc_f hf c_4
    refine lv_iload_n hx hb dX11_member_9 rfl (lv_at hl 2 rfl) ?_
    obtain ⟨r_5, hc5, hf⟩ := bd_e hf
    refine call_S (As := [.int v2]) (rest := []) hx hb hml hown hts hK hP hD hS hA hZ lkX11_79 (Ctr.up (W := (lfX ct g x ++ (lfH ct (hsA g 0) g h0 ++ (lfP ct (fun j => (hsA g 0) (16 + j)) ps0)))) (W' := (lfX ct g x ++ (lfH ct (hsA g 0) g h0 ++ (lfP ct (fun j => (hsA g 0) (16 + j)) ps0)))) (c_X11_isPlace l G ct sk sv  n v2 hc5) [] [0, 1, 2, 3, 4, 5, 6, 7, 8, 9, 10, 11, 12] [0, 1, 2, 3, 4, 5, 6, 7, 8, 9, 10, 11, 12] rfl rfl rfl rfl (by decide) rfl rfl) ⟨Nat.le_of_ble_eq_true rfl, Nat.le_of_ble_eq_true rfl⟩ rfl hl.1 rfl (Nat.le_of_ble_eq_true rfl) dX11_member_10 ⟨Nat.le_of_ble_eq_true rfl, Nat.le_of_ble_eq_true rfl⟩ (fun r9 w9 H locs hB hP hD hS => ?_)
    obtain ⟨rfl, rfl⟩ := hB
    refine WG_eq (g2 := F0 m 13 ls [.int r_5]) rfl ?_
    refine lv_if_ne (tgt := 21) hx hb dX11_member_13 (by decide) (fun c_6 => ?_) (fun c_6 => ?_)
    · replace hf := bc_f hf c_6
      refine lv_aload_n hx hb dX11_member_21 rfl (lv_at hl 0 rfl) ?_
      refine va_get (D := G) (C := RX11) (T := TX11) (N := 11) (v := .ref ((hsA g 0) 0)) hx hb hts iu_X11 hown hK hP 0 rfl rfl 0 (by decide) (hts _ kw262) (fun _ h9 => h9) rfl dX11_member_22 ?_
      refine va_get (D := G) (C := RX1) (T := TX1) (N := 16) (v := .int (h0.1 0)) hx hb hts iu_X1 hown hK hP 3 rfl rfl 1 (by decide) (hts _ kw124) (fun _ h9 => h9) rfl dX11_member_25 ?_
      refine lv_iconst (v := 5) hx hb dX11_member_28 (by decide) ?_
      refine lv_icmp_lt (tgt := 37) hx hb dX11_member_29 (by decide) (fun c_7 => ?_) (fun c_7 => ?_)
      · replace hf := bc_t hf c_7
        refine lv_aload_n hx hb dX11_member_37 rfl (lv_at hl 0 rfl) ?_
        refine va_get (D := G) (C := RX11) (T := TX11) (N := 11) (v := .ref ((hsA g 0) 0)) hx hb hts iu_X11 hown hK hP 0 rfl rfl 0 (by decide) (hts _ kw262) (fun _ h9 => h9) rfl dX11_member_38 ?_
        refine va_get (D := G) (C := RX1) (T := TX1) (N := 16) (v := .ref ((hsA g 0) 16)) hx hb hts iu_X1 hown hK hP 3 rfl rfl 15 (by decide) (hts _ kw162) (fun _ h9 => h9) rfl dX11_member_41 ?_
        obtain ⟨ps0_8, hc8, hf⟩ := bd_e hf
        refine call_V (As := []) (rest := []) hx hb hml hown hts hK hP hD hS hA hZ lkX11_94 (Ctr.up (W := (lfX ct g x ++ (lfH ct (hsA g 0) g h0 ++ (lfP ct (fun j => (hsA g 0) (16 + j)) ps0)))) (W' := (lfX ct g x ++ (lfH ct (hsA g 0) g h0 ++ (lfP ct (fun j => (hsA g 0) (16 + j)) ps0_8)))) (c_X4_makeEmpty l G ct sk sv (fun j => (hsA g 0) (16 + j)) n ps0 hc8) [11, 12] [0, 1, 2, 3, 4, 5, 6, 7, 8, 9, 10] [0, 1, 2, 3, 4, 5, 6, 7, 8, 9, 10, 11, 12] rfl rfl rfl rfl (by decide) rfl rfl) 11 rfl rfl ⟨Nat.le_of_ble_eq_true rfl, Nat.le_of_ble_eq_true rfl⟩ rfl hl.1 rfl (Nat.le_of_ble_eq_true rfl) dX11_member_44 ⟨Nat.le_of_ble_eq_true rfl, Nat.le_of_ble_eq_true rfl⟩ (fun r9 w9 H locs hB hP hD hS => ?_)
        obtain ⟨rfl, rfl⟩ := hB
        refine WG_eq (g2 := F0 m 47 ls []) rfl ?_
        refine lv_aload_n hx hb dX11_member_47 rfl (lv_at hl 0 rfl) ?_
        refine va_get (D := G) (C := RX11) (T := TX11) (N := 11) (v := .ref ((hsA g 0) 0)) hx hb hts iu_X11 hown hK hP 0 rfl rfl 0 (by decide) (hts _ kw262) (fun _ h9 => h9) rfl dX11_member_48 ?_
        refine lv_iload_n hx hb dX11_member_51 rfl (lv_at hl 1 rfl) ?_
        refine lv_iload_n hx hb dX11_member_52 rfl (lv_at hl 2 rfl) ?_
        obtain ⟨r_9, h0_10, hc10, hf⟩ := bd2_e hf
        refine call_V (As := [.int v1, .int v2]) (rest := []) hx hb hml hown hts hK hP hD hS hA hZ lkX11_97 (Ctr.up (W := (lfX ct g x ++ (lfH ct (hsA g 0) g h0 ++ (lfP ct (fun j => (hsA g 0) (16 + j)) ps0_8)))) (W' := (lfX ct g x ++ (lfH ct (hsA g 0) g h0_10 ++ (lfP ct (fun j => (hsA g 0) (16 + j)) ps0_8)))) (c_X1_addMember l G ct sk sv (hsA g 0) g n h0 v1 v2 hc10) [3, 4, 5, 6, 7, 8, 9, 10] [0, 1, 2, 11, 12] [0, 1, 2, 5, 6, 7, 8, 9, 10, 11, 12, 3, 4] rfl rfl rfl rfl (by decide) rfl rfl) 3 rfl rfl ⟨Nat.le_of_ble_eq_true rfl, Nat.le_of_ble_eq_true rfl⟩ rfl hl.1 rfl (Nat.le_of_ble_eq_true rfl) dX11_member_53 ⟨Nat.le_of_ble_eq_true rfl, Nat.le_of_ble_eq_true rfl⟩ (fun r9 w9 H locs hB hP hD hS => ?_)
        obtain ⟨rfl, rfl⟩ := hB
        refine WG_eq (g2 := F0 m 56 ls [.int r_9]) rfl ?_
        obtain ⟨e1, e2, e3, e4⟩ := inj4 (Option.some.inj hf)
        exact end_i (w' := (lfX ct g x ++ (lfH ct (hsA g 0) g h0_10 ++ (lfP ct (fun j => (hsA g 0) (16 + j)) ps0_8)))) hx hb hr hlocks hK hP hD hS dX11_member_56  ⟨by rw [← e1], by rw [← e2, ← e3, ← e4]⟩
      · replace hf := bc_f hf c_7
        refine lv_aload_n hx hb dX11_member_32 rfl (lv_at hl 0 rfl) ?_
        obtain ⟨r_11, x_12, hc12, hf⟩ := bd2_e hf
        refine call_V (As := []) (rest := []) hx hb hml hown hts hK hP hD hS hA hZ lkX11_87 (Ctr.up (W := (lfX ct g x ++ (lfH ct (hsA g 0) g h0 ++ (lfP ct (fun j => (hsA g 0) (16 + j)) ps0)))) (W' := (lfX ct g x_12 ++ (lfH ct (hsA g 0) g h0 ++ (lfP ct (fun j => (hsA g 0) (16 + j)) ps0)))) (c_X11_refuseFull l G ct sk sv g n x hc12) [0, 1, 2] [3, 4, 5, 6, 7, 8, 9, 10, 11, 12] [10, 11, 12, 0, 1, 2, 3, 4, 5, 6, 7, 8, 9] rfl rfl rfl rfl (by decide) rfl rfl) 0 rfl rfl ⟨Nat.le_of_ble_eq_true rfl, Nat.le_of_ble_eq_true rfl⟩ rfl hl.1 rfl (Nat.le_of_ble_eq_true rfl) dX11_member_33 ⟨Nat.le_of_ble_eq_true rfl, Nat.le_of_ble_eq_true rfl⟩ (fun r9 w9 H locs hB hP hD hS => ?_)
        obtain ⟨rfl, rfl⟩ := hB
        refine WG_eq (g2 := F0 m 36 ls [.int r_11]) rfl ?_
        obtain ⟨e1, e2, e3, e4⟩ := inj4 (Option.some.inj hf)
        exact end_i (w' := (lfX ct g x_12 ++ (lfH ct (hsA g 0) g h0 ++ (lfP ct (fun j => (hsA g 0) (16 + j)) ps0)))) hx hb hr hlocks hK hP hD hS dX11_member_36  ⟨by rw [← e1], by rw [← e2, ← e3, ← e4]⟩
    · replace hf := bc_t hf c_6
      exact J16 x h0 ps0 _ _ _ hP hD hS (lv_sub hl [0] rfl) hf
noncomputable def f_X11_moves_j15 (n : Nat) (x : MV) (h0 : MV) (ps0 : MV) : Option (Int32 × MV × MV × MV) :=
  bd2 (f_X11_refuseBad n x) fun r_1 x_2 =>
  some (r_1, x_2, h0, ps0)
noncomputable def f_X11_moves (n : Nat) (x : MV) (h0 : MV) (ps0 : MV) (v1 : Int32) (v2 : Int32) : Option (Int32 × MV × MV × MV) :=
  bd (f_X11_isMember n x h0 v1) fun r_3 =>
  bc (r_3 = 0) (f_X11_moves_j15 n x h0 ps0)
  (bd (f_X11_isPlace n v2) fun r_5 =>
  bc (r_5 = 0) (f_X11_moves_j15 n x h0 ps0)
  (bd (f_X4_keep n h0 ps0) fun ps0_7 =>
  gd (vp_in v1 5) <|
  bl (h0.2.1 1 (ix v1)) fun v3_9 =>
  gd (vp_in v1 5) <|
  bl (setA h0 1 (upd (h0.2.1 1) (ix v1) v2)) fun h0_11 =>
  some (v3_9, x, h0_11, ps0_7)))
set_option maxHeartbeats 4000000 in
set_option maxRecDepth 100000 in
theorem c_X11_moves (l : Launch) (G : va_G) (ct : Nat → ClassId) (sk sv : Nat → Nat) (g : Nat → Nat) (n : Nat) (x : MV) (h0 : MV) (ps0 : MV) (v1 : Int32) (v2 : Int32) {r : Int32} {x' : MV} {h0' : MV} {ps0' : MV} (hf : f_X11_moves n x h0 ps0 v1 v2 = some (r, x', h0', ps0')) : Ctr (l, G, ct, sk, sv) mX11_moves 2 87 [.ref (g 7), .int v1, .int v2] (lfX ct g x ++ (lfH ct (hsA g 0) g h0 ++ (lfP ct (fun j => (hsA g 0) (16 + j)) ps0))) (lfX ct g x' ++ (lfH ct (hsA g 0) g h0' ++ (lfP ct (fun j => (hsA g 0) (16 + j)) ps0'))) (some (.int r)) := by
  refine ctr_intro (by decide) (Nat.le_of_ble_eq_true rfl) ?_
  intro p e s m args below meth c A C hP hD hS hA ls hl
  obtain ⟨hx, hb, hml, hown, hts, hr, hlocks, hK, hnm, hZ⟩ := C
  have hb : c.code = cX11_moves := hb
  have hml : c.maxLocals = 4 := hml
  have hown : s.vm.findClass "SignedOutside" = some m.cls := hown
  have hr : meth.sig.returnType = some .int := hr
  have hP : va_P G classes (lfX ct g x ++ (lfH ct (hsA g 0) g h0 ++ (lfP ct (fun j => (hsA g 0) (16 + j)) ps0))) s.heap := hP
  have hD : va_D A (lfX ct g x ++ (lfH ct (hsA g 0) g h0 ++ (lfP ct (fun j => (hsA g 0) (16 + j)) ps0))) := hD
  have hK : va_K G classes (TYS ct) s := hK
  have hl : lv_has ls 4 [(0, .ref (g 7)), (1, .int v1), (2, .int v2)] := hl
  have J15 : ∀ (x : MV) (h0 : MV) (ps0 : MV) (H : Heap) (locs : List Loc) (ls : Array Slot), va_P G classes (lfX ct g x ++ (lfH ct (hsA g 0) g h0 ++ (lfP ct (fun j => (hsA g 0) (16 + j)) ps0))) H → va_D A (lfX ct g x ++ (lfH ct (hsA g 0) g h0 ++ (lfP ct (fun j => (hsA g 0) (16 + j)) ps0))) → va_S A s.heap H locs → lv_has ls 4 [(0, .ref (g 7))] → f_X11_moves_j15 n x h0 ps0 = some (r, x', h0', ps0') → WG l G ct sk sv p e (RM 2 87 0 0) s m args below meth c A (Eq2 (some (.int r)) (lfX ct g x' ++ (lfH ct (hsA g 0) g h0' ++ (lfP ct (fun j => (hsA g 0) (16 + j)) ps0')))) H locs (F0 m 15 ls []) := by
    intro x h0 ps0 H locs ls hP hD hS hl hf
    unfold f_X11_moves_j15 at hf
    refine lv_aload_n hx hb dX11_moves_15 rfl (lv_at hl 0 rfl) ?_
    obtain ⟨r_1, x_2, hc2, hf⟩ := bd2_e hf
    refine call_V (As := []) (rest := []) hx hb hml hown hts hK hP hD hS hA hZ lkX11_83 (Ctr.up (W := (lfX ct g x ++ (lfH ct (hsA g 0) g h0 ++ (lfP ct (fun j => (hsA g 0) (16 + j)) ps0)))) (W' := (lfX ct g x_2 ++ (lfH ct (hsA g 0) g h0 ++ (lfP ct (fun j => (hsA g 0) (16 + j)) ps0)))) (c_X11_refuseBad l G ct sk sv g n x hc2) [0, 1, 2] [3, 4, 5, 6, 7, 8, 9, 10, 11, 12] [10, 11, 12, 0, 1, 2, 3, 4, 5, 6, 7, 8, 9] rfl rfl rfl rfl (by decide) rfl rfl) 0 rfl rfl ⟨Nat.le_of_ble_eq_true rfl, Nat.le_of_ble_eq_true rfl⟩ rfl hl.1 rfl (Nat.le_of_ble_eq_true rfl) dX11_moves_16 ⟨Nat.le_of_ble_eq_true rfl, Nat.le_of_ble_eq_true rfl⟩ (fun r9 w9 H locs hB hP hD hS => ?_)
    obtain ⟨rfl, rfl⟩ := hB
    refine WG_eq (g2 := F0 m 19 ls [.int r_1]) rfl ?_
    obtain ⟨e1, e2, e3, e4⟩ := inj4 (Option.some.inj hf)
    exact end_i (w' := (lfX ct g x_2 ++ (lfH ct (hsA g 0) g h0 ++ (lfP ct (fun j => (hsA g 0) (16 + j)) ps0)))) hx hb hr hlocks hK hP hD hS dX11_moves_19  ⟨by rw [← e1], by rw [← e2, ← e3, ← e4]⟩
  unfold f_X11_moves at hf
  show WG l G ct sk sv p e (RM 2 87 0 0) s m args below meth c A (Eq2 (some (.int r)) (lfX ct g x' ++ (lfH ct (hsA g 0) g h0' ++ (lfP ct (fun j => (hsA g 0) (16 + j)) ps0')))) s.heap [] (F0 m 0 ls [])
  refine lv_aload_n hx hb dX11_moves_0 rfl (lv_at hl 0 rfl) ?_
  refine lv_iload_n hx hb dX11_moves_1 rfl (lv_at hl 1 rfl) ?_
  obtain ⟨r_3, hc3, hf⟩ := bd_e hf
  refine call_V (As := [.int v1]) (rest := []) hx hb hml hown hts hK hP hD hS hA hZ lkX11_128 (Ctr.up (W := (lfX ct g x ++ (lfH ct (hsA g 0) g h0 ++ (lfP ct (fun j => (hsA g 0) (16 + j)) ps0)))) (W' := (lfX ct g x ++ (lfH ct (hsA g 0) g h0 ++ (lfP ct (fun j => (hsA g 0) (16 + j)) ps0)))) (c_X11_isMember l G ct sk sv g n x h0 v1 hc3) [0, 1, 2, 3, 4, 5, 6, 7, 8, 9, 10] [11, 12] [2, 3, 4, 5, 6, 7, 8, 9, 10, 11, 12, 0, 1] rfl rfl rfl rfl (by decide) rfl rfl) 0 rfl rfl ⟨Nat.le_of_ble_eq_true rfl, Nat.le_of_ble_eq_true rfl⟩ rfl hl.1 rfl (Nat.le_of_ble_eq_true rfl) dX11_moves_2 ⟨Nat.le_of_ble_eq_true rfl, Nat.le_of_ble_eq_true rfl⟩ (fun r9 w9 H locs hB hP hD hS => ?_)
  obtain ⟨rfl, rfl⟩ := hB
  refine WG_eq (g2 := F0 m 5 ls [.int r_3]) rfl ?_
  refine lv_if_eq (tgt := 15) hx hb dX11_moves_5 (by decide) (fun c_4 => ?_) (fun c_4 => ?_)
  · replace hf := bc_t hf c_4
    exact J15 x h0 ps0 _ _ _ hP hD hS (lv_sub hl [0] rfl) hf
  · replace hf := bc_f hf c_4
    refine lv_iload_n hx hb dX11_moves_8 rfl (lv_at hl 2 rfl) ?_
    obtain ⟨r_5, hc5, hf⟩ := bd_e hf
    refine call_S (As := [.int v2]) (rest := []) hx hb hml hown hts hK hP hD hS hA hZ lkX11_79 (Ctr.up (W := (lfX ct g x ++ (lfH ct (hsA g 0) g h0 ++ (lfP ct (fun j => (hsA g 0) (16 + j)) ps0)))) (W' := (lfX ct g x ++ (lfH ct (hsA g 0) g h0 ++ (lfP ct (fun j => (hsA g 0) (16 + j)) ps0)))) (c_X11_isPlace l G ct sk sv  n v2 hc5) [] [0, 1, 2, 3, 4, 5, 6, 7, 8, 9, 10, 11, 12] [0, 1, 2, 3, 4, 5, 6, 7, 8, 9, 10, 11, 12] rfl rfl rfl rfl (by decide) rfl rfl) ⟨Nat.le_of_ble_eq_true rfl, Nat.le_of_ble_eq_true rfl⟩ rfl hl.1 rfl (Nat.le_of_ble_eq_true rfl) dX11_moves_9 ⟨Nat.le_of_ble_eq_true rfl, Nat.le_of_ble_eq_true rfl⟩ (fun r9 w9 H locs hB hP hD hS => ?_)
    obtain ⟨rfl, rfl⟩ := hB
    refine WG_eq (g2 := F0 m 12 ls [.int r_5]) rfl ?_
    refine lv_if_ne (tgt := 20) hx hb dX11_moves_12 (by decide) (fun c_6 => ?_) (fun c_6 => ?_)
    · replace hf := bc_f hf c_6
      refine lv_aload_n hx hb dX11_moves_20 rfl (lv_at hl 0 rfl) ?_
      refine va_get (D := G) (C := RX11) (T := TX11) (N := 11) (v := .ref ((hsA g 0) 0)) hx hb hts iu_X11 hown hK hP 0 rfl rfl 0 (by decide) (hts _ kw262) (fun _ h9 => h9) rfl dX11_moves_21 ?_
      refine va_get (D := G) (C := RX1) (T := TX1) (N := 16) (v := .ref ((hsA g 0) 16)) hx hb hts iu_X1 hown hK hP 3 rfl rfl 15 (by decide) (hts _ kw162) (fun _ h9 => h9) rfl dX11_moves_24 ?_
      refine lv_aload_n hx hb dX11_moves_27 rfl (lv_at hl 0 rfl) ?_
      refine va_get (D := G) (C := RX11) (T := TX11) (N := 11) (v := .ref ((hsA g 0) 0)) hx hb hts iu_X11 hown hK hP 0 rfl rfl 0 (by decide) (hts _ kw262) (fun _ h9 => h9) rfl dX11_moves_28 ?_
      obtain ⟨ps0_7, hc7, hf⟩ := bd_e hf
      refine call_V (As := [.ref ((hsA g 0) 0)]) (rest := []) hx hb hml hown hts hK hP hD hS hA hZ lkX11_138 (Ctr.up (W := (lfX ct g x ++ (lfH ct (hsA g 0) g h0 ++ (lfP ct (fun j => (hsA g 0) (16 + j)) ps0)))) (W' := (lfX ct g x ++ (lfH ct (hsA g 0) g h0 ++ (lfP ct (fun j => (hsA g 0) (16 + j)) ps0_7)))) (c_X4_keep l G ct sk sv (hsA g 0) g n h0 ps0 hc7) [3, 4, 5, 6, 7, 8, 9, 10, 11, 12] [0, 1, 2] [0, 1, 2, 3, 4, 5, 6, 7, 8, 9, 10, 11, 12] rfl rfl rfl rfl (by decide) rfl rfl) 11 rfl rfl ⟨Nat.le_of_ble_eq_true rfl, Nat.le_of_ble_eq_true rfl⟩ rfl hl.1 rfl (Nat.le_of_ble_eq_true rfl) dX11_moves_31 ⟨Nat.le_of_ble_eq_true rfl, Nat.le_of_ble_eq_true rfl⟩ (fun r9 w9 H locs hB hP hD hS => ?_)
      obtain ⟨rfl, rfl⟩ := hB
      refine WG_eq (g2 := F0 m 34 ls []) rfl ?_
      refine lv_aload_n hx hb dX11_moves_34 rfl (lv_at hl 0 rfl) ?_
      refine va_get (D := G) (C := RX11) (T := TX11) (N := 11) (v := .ref ((hsA g 0) 0)) hx hb hts iu_X11 hown hK hP 0 rfl rfl 0 (by decide) (hts _ kw262) (fun _ h9 => h9) rfl dX11_moves_35 ?_
      refine va_get (D := G) (C := RX1) (T := TX1) (N := 16) (v := .ref ((hsA g 0) 2)) hx hb hts iu_X1 hown hK hP 3 rfl rfl 3 (by decide) (hts _ kw131) (fun _ h9 => h9) rfl dX11_moves_38 ?_
      refine lv_iload_n hx hb dX11_moves_41 rfl (lv_at hl 1 rfl) ?_
      obtain ⟨g_8, hf⟩ := gd_e hf
      refine va_iald (f := h0.2.1 1) hx hb hK hP 5 0 rfl rfl g_8 dX11_moves_42 ?_
      refine lv_topi (fun v3_9 ev3_9 => ?_)
      replace hf := bl_i hf ev3_9
      refine lv_istore_n (lv' := [(3, .int v3_9), (0, .ref (g 7)), (1, .int v1), (2, .int v2)]) hx hb dX11_moves_43 rfl hl (by decide) rfl (fun ls hl => ?_)
      refine lv_aload_n hx hb dX11_moves_44 rfl (lv_at hl 1 rfl) ?_
      refine va_get (D := G) (C := RX11) (T := TX11) (N := 11) (v := .ref ((hsA g 0) 0)) hx hb hts iu_X11 hown hK hP 0 rfl rfl 0 (by decide) (hts _ kw262) (fun _ h9 => h9) rfl dX11_moves_45 ?_
      refine va_get (D := G) (C := RX1) (T := TX1) (N := 16) (v := .ref ((hsA g 0) 2)) hx hb hts iu_X1 hown hK hP 3 rfl rfl 3 (by decide) (hts _ kw131) (fun _ h9 => h9) rfl dX11_moves_48 ?_
      refine lv_iload_n hx hb dX11_moves_51 rfl (lv_at hl 2 rfl) ?_
      refine lv_iload_n hx hb dX11_moves_52 rfl (lv_at hl 3 rfl) ?_
      obtain ⟨g_10, hf⟩ := gd_e hf
      obtain ⟨h0_11, eh0_11, hf⟩ := bl_e hf
      refine va_iast hx hb hK hP hD hS 5 0 rfl rfl g_10 dX11_moves_53 (fun H locs hP hD hS => ?_)
      have hP : va_P G classes (lfX ct g x ++ (lfH ct (hsA g 0) g h0_11 ++ (lfP ct (fun j => (hsA g 0) (16 + j)) ps0_7))) H := by rw [← eh0_11]; exact hP
      have hD : va_D A (lfX ct g x ++ (lfH ct (hsA g 0) g h0_11 ++ (lfP ct (fun j => (hsA g 0) (16 + j)) ps0_7))) := by rw [← eh0_11]; exact hD
      refine lv_iload_n hx hb dX11_moves_54 rfl (lv_at hl 0 rfl) ?_
      obtain ⟨e1, e2, e3, e4⟩ := inj4 (Option.some.inj hf)
      exact end_i (w' := (lfX ct g x ++ (lfH ct (hsA g 0) g h0_11 ++ (lfP ct (fun j => (hsA g 0) (16 + j)) ps0_7)))) hx hb hr hlocks hK hP hD hS dX11_moves_55  ⟨by rw [← e1], by rw [← e2, ← e3, ← e4]⟩
    · replace hf := bc_t hf c_6
      exact J15 x h0 ps0 _ _ _ hP hD hS (lv_sub hl [0] rfl) hf
noncomputable def f_X11_nextX (n : Nat) (v0 : Int64) : Option (Int64) :=
  bl ((v0 * 1103515245) + 12345) fun w_1 =>
  some (w_1 - w_1 / 2147483648 * 2147483648)
set_option maxHeartbeats 4000000 in
set_option maxRecDepth 100000 in
theorem c_X11_nextX (l : Launch) (G : va_G) (ct : Nat → ClassId) (sk sv : Nat → Nat)  (n : Nat) (v0 : Int64) {r : Int64} (hf : f_X11_nextX n v0 = some r) : Ctr (l, G, ct, sk, sv) mX11_nextX 0 0 [.long v0] ([] : va_W) ([] : va_W) (some (.long r)) := by
  refine ctr_intro (by decide) (Nat.le_of_ble_eq_true rfl) ?_
  intro p e s m args below meth c A C hP hD hS hA ls hl
  obtain ⟨hx, hb, hml, hown, hts, hr, hlocks, hK, hnm, hZ⟩ := C
  have hb : c.code = cX11_nextX := hb
  have hml : c.maxLocals = 2 := hml
  have hown : s.vm.findClass "SignedOutside" = some m.cls := hown
  have hr : meth.sig.returnType = some .long := hr
  have hP : va_P G classes ([] : va_W) s.heap := hP
  have hD : va_D A ([] : va_W) := hD
  have hK : va_K G classes (TYS ct) s := hK
  have hl : lv_has ls 2 [(0, .long v0)] := hl
  unfold f_X11_nextX at hf
  show WG l G ct sk sv p e (RM 0 0 0 0) s m args below meth c A (Eq2 (some (.long r)) ([] : va_W)) s.heap [] (F0 m 0 ls [])
  refine lv_lload_n hx hb dX11_nextX_0 rfl (lv_at hl 0 rfl) ?_
  refine lv_ldc2 (v := 1103515245) hx hb hown (hts _ kw830) dX11_nextX_1 ?_
  refine lv_lmul hx hb dX11_nextX_4 ?_
  refine lv_ldc2 (v := 12345) hx hb hown (hts _ kw831) dX11_nextX_5 ?_
  refine lv_ladd hx hb dX11_nextX_8 ?_
  refine lv_ldc2 (v := 2147483648) hx hb hown (hts _ kw832) dX11_nextX_9 ?_
  obtain ⟨w_1, ew_1, hf⟩ := bl_e hf
  refine W.eq (g2 := F0 m 12 ls ([.long 2147483648, .long w_1])) (by rw [← ew_1]) ?_
  refine lv_lrem hx hb dX11_nextX_12 (by decide) ?_
  have e1 := Option.some.inj hf
  exact end_l (w' := ([] : va_W)) hx hb hr hlocks hK hP hD hS dX11_nextX_13  ⟨by rw [← e1], rfl⟩
noncomputable def f_X11_note_j25 (n : Nat) (x : MV) (h0 : MV) (nt0 : MV) : Option (Int32 × MV × MV) :=
  bd2 (f_X11_refuseBad n x) fun r_1 x_2 =>
  some (r_1, x_2, nt0)
noncomputable def f_X11_note (n : Nat) (x : MV) (h0 : MV) (nt0 : MV) (v1 : Int32) (v2 : Int32) (v3 : Int32) : Option (Int32 × MV × MV) :=
  bd (f_X11_isMember n x h0 v1) fun r_3 =>
  bc (r_3 = 0) (f_X11_note_j25 n x h0 nt0)
  (bd (f_X11_isSlipDay n v2) fun r_5 =>
  bc (r_5 = 0) (f_X11_note_j25 n x h0 nt0)
  (bd (f_X11_within n v3 0 20) fun r_7 =>
  bc (r_7 = 0) (f_X11_note_j25 n x h0 nt0)
  (bd2 (f_X8_add n nt0 v1 v2 v3) fun r_9 nt0_10 =>
  bc (r_9 = 0) (bd2 (f_X11_refuseFull n x) fun r_12 x_13 =>
  some (r_12, x_13, nt0_10))
  (some (nt0_10.1 0, x, nt0_10)))))
set_option maxHeartbeats 4000000 in
set_option maxRecDepth 100000 in
theorem c_X11_note (l : Launch) (G : va_G) (ct : Nat → ClassId) (sk sv : Nat → Nat) (g : Nat → Nat) (n : Nat) (x : MV) (h0 : MV) (nt0 : MV) (v1 : Int32) (v2 : Int32) (v3 : Int32) {r : Int32} {x' : MV} {nt0' : MV} (hf : f_X11_note n x h0 nt0 v1 v2 v3 = some (r, x', nt0')) : Ctr (l, G, ct, sk, sv) mX11_note 2 43 [.ref (g 7), .int v1, .int v2, .int v3] (lfX ct g x ++ (lfH ct (hsA g 0) g h0 ++ (lfS ct (fun j => (hsA g 0) (12 + j)) nt0))) (lfX ct g x' ++ (lfH ct (hsA g 0) g h0 ++ (lfS ct (fun j => (hsA g 0) (12 + j)) nt0'))) (some (.int r)) := by
  refine ctr_intro (by decide) (Nat.le_of_ble_eq_true rfl) ?_
  intro p e s m args below meth c A C hP hD hS hA ls hl
  obtain ⟨hx, hb, hml, hown, hts, hr, hlocks, hK, hnm, hZ⟩ := C
  have hb : c.code = cX11_note := hb
  have hml : c.maxLocals = 4 := hml
  have hown : s.vm.findClass "SignedOutside" = some m.cls := hown
  have hr : meth.sig.returnType = some .int := hr
  have hP : va_P G classes (lfX ct g x ++ (lfH ct (hsA g 0) g h0 ++ (lfS ct (fun j => (hsA g 0) (12 + j)) nt0))) s.heap := hP
  have hD : va_D A (lfX ct g x ++ (lfH ct (hsA g 0) g h0 ++ (lfS ct (fun j => (hsA g 0) (12 + j)) nt0))) := hD
  have hK : va_K G classes (TYS ct) s := hK
  have hl : lv_has ls 4 [(0, .ref (g 7)), (1, .int v1), (2, .int v2), (3, .int v3)] := hl
  have J25 : ∀ (x : MV) (nt0 : MV) (H : Heap) (locs : List Loc) (ls : Array Slot), va_P G classes (lfX ct g x ++ (lfH ct (hsA g 0) g h0 ++ (lfS ct (fun j => (hsA g 0) (12 + j)) nt0))) H → va_D A (lfX ct g x ++ (lfH ct (hsA g 0) g h0 ++ (lfS ct (fun j => (hsA g 0) (12 + j)) nt0))) → va_S A s.heap H locs → lv_has ls 4 [(0, .ref (g 7))] → f_X11_note_j25 n x h0 nt0 = some (r, x', nt0') → WG l G ct sk sv p e (RM 2 43 0 0) s m args below meth c A (Eq2 (some (.int r)) (lfX ct g x' ++ (lfH ct (hsA g 0) g h0 ++ (lfS ct (fun j => (hsA g 0) (12 + j)) nt0')))) H locs (F0 m 25 ls []) := by
    intro x nt0 H locs ls hP hD hS hl hf
    unfold f_X11_note_j25 at hf
    refine lv_aload_n hx hb dX11_note_25 rfl (lv_at hl 0 rfl) ?_
    obtain ⟨r_1, x_2, hc2, hf⟩ := bd2_e hf
    refine call_V (As := []) (rest := []) hx hb hml hown hts hK hP hD hS hA hZ lkX11_83 (Ctr.up (W := (lfX ct g x ++ (lfH ct (hsA g 0) g h0 ++ (lfS ct (fun j => (hsA g 0) (12 + j)) nt0)))) (W' := (lfX ct g x_2 ++ (lfH ct (hsA g 0) g h0 ++ (lfS ct (fun j => (hsA g 0) (12 + j)) nt0)))) (c_X11_refuseBad l G ct sk sv g n x hc2) [0, 1, 2] [3, 4, 5, 6, 7, 8, 9, 10, 11, 12, 13, 14] [12, 13, 14, 0, 1, 2, 3, 4, 5, 6, 7, 8, 9, 10, 11] rfl rfl rfl rfl (by decide) rfl rfl) 0 rfl rfl ⟨Nat.le_of_ble_eq_true rfl, Nat.le_of_ble_eq_true rfl⟩ rfl hl.1 rfl (Nat.le_of_ble_eq_true rfl) dX11_note_26 ⟨Nat.le_of_ble_eq_true rfl, Nat.le_of_ble_eq_true rfl⟩ (fun r9 w9 H locs hB hP hD hS => ?_)
    obtain ⟨rfl, rfl⟩ := hB
    refine WG_eq (g2 := F0 m 29 ls [.int r_1]) rfl ?_
    obtain ⟨e1, e2, e3⟩ := inj3 (Option.some.inj hf)
    exact end_i (w' := (lfX ct g x_2 ++ (lfH ct (hsA g 0) g h0 ++ (lfS ct (fun j => (hsA g 0) (12 + j)) nt0)))) hx hb hr hlocks hK hP hD hS dX11_note_29  ⟨by rw [← e1], by rw [← e2, ← e3]⟩
  unfold f_X11_note at hf
  show WG l G ct sk sv p e (RM 2 43 0 0) s m args below meth c A (Eq2 (some (.int r)) (lfX ct g x' ++ (lfH ct (hsA g 0) g h0 ++ (lfS ct (fun j => (hsA g 0) (12 + j)) nt0')))) s.heap [] (F0 m 0 ls [])
  refine lv_aload_n hx hb dX11_note_0 rfl (lv_at hl 0 rfl) ?_
  refine lv_iload_n hx hb dX11_note_1 rfl (lv_at hl 1 rfl) ?_
  obtain ⟨r_3, hc3, hf⟩ := bd_e hf
  refine call_V (As := [.int v1]) (rest := []) hx hb hml hown hts hK hP hD hS hA hZ lkX11_128 (Ctr.up (W := (lfX ct g x ++ (lfH ct (hsA g 0) g h0 ++ (lfS ct (fun j => (hsA g 0) (12 + j)) nt0)))) (W' := (lfX ct g x ++ (lfH ct (hsA g 0) g h0 ++ (lfS ct (fun j => (hsA g 0) (12 + j)) nt0)))) (c_X11_isMember l G ct sk sv g n x h0 v1 hc3) [0, 1, 2, 3, 4, 5, 6, 7, 8, 9, 10] [11, 12, 13, 14] [4, 5, 6, 7, 8, 9, 10, 11, 12, 13, 14, 0, 1, 2, 3] rfl rfl rfl rfl (by decide) rfl rfl) 0 rfl rfl ⟨Nat.le_of_ble_eq_true rfl, Nat.le_of_ble_eq_true rfl⟩ rfl hl.1 rfl (Nat.le_of_ble_eq_true rfl) dX11_note_2 ⟨Nat.le_of_ble_eq_true rfl, Nat.le_of_ble_eq_true rfl⟩ (fun r9 w9 H locs hB hP hD hS => ?_)
  obtain ⟨rfl, rfl⟩ := hB
  refine WG_eq (g2 := F0 m 5 ls [.int r_3]) rfl ?_
  refine lv_if_eq (tgt := 25) hx hb dX11_note_5 (by decide) (fun c_4 => ?_) (fun c_4 => ?_)
  · replace hf := bc_t hf c_4
    exact J25 x nt0 _ _ _ hP hD hS (lv_sub hl [0] rfl) hf
  · replace hf := bc_f hf c_4
    refine lv_iload_n hx hb dX11_note_8 rfl (lv_at hl 2 rfl) ?_
    obtain ⟨r_5, hc5, hf⟩ := bd_e hf
    refine call_S (As := [.int v2]) (rest := []) hx hb hml hown hts hK hP hD hS hA hZ lkX11_247 (Ctr.up (W := (lfX ct g x ++ (lfH ct (hsA g 0) g h0 ++ (lfS ct (fun j => (hsA g 0) (12 + j)) nt0)))) (W' := (lfX ct g x ++ (lfH ct (hsA g 0) g h0 ++ (lfS ct (fun j => (hsA g 0) (12 + j)) nt0)))) (c_X11_isSlipDay l G ct sk sv  n v2 hc5) [] [0, 1, 2, 3, 4, 5, 6, 7, 8, 9, 10, 11, 12, 13, 14] [0, 1, 2, 3, 4, 5, 6, 7, 8, 9, 10, 11, 12, 13, 14] rfl rfl rfl rfl (by decide) rfl rfl) ⟨Nat.le_of_ble_eq_true rfl, Nat.le_of_ble_eq_true rfl⟩ rfl hl.1 rfl (Nat.le_of_ble_eq_true rfl) dX11_note_9 ⟨Nat.le_of_ble_eq_true rfl, Nat.le_of_ble_eq_true rfl⟩ (fun r9 w9 H locs hB hP hD hS => ?_)
    obtain ⟨rfl, rfl⟩ := hB
    refine WG_eq (g2 := F0 m 12 ls [.int r_5]) rfl ?_
    refine lv_if_eq (tgt := 25) hx hb dX11_note_12 (by decide) (fun c_6 => ?_) (fun c_6 => ?_)
    · replace hf := bc_t hf c_6
      exact J25 x nt0 _ _ _ hP hD hS (lv_sub hl [0] rfl) hf
    · replace hf := bc_f hf c_6
      refine lv_iload_n hx hb dX11_note_15 rfl (lv_at hl 3 rfl) ?_
      refine lv_iconst (v := 0) hx hb dX11_note_16 (by decide) ?_
      refine lv_bipush (v := 20) hx hb dX11_note_17 (by decide) ?_
      obtain ⟨r_7, hc7, hf⟩ := bd_e hf
      refine call_S (As := [.int v3, .int 0, .int 20]) (rest := []) hx hb hml hown hts hK hP hD hS hA hZ lkX11_75 (Ctr.up (W := (lfX ct g x ++ (lfH ct (hsA g 0) g h0 ++ (lfS ct (fun j => (hsA g 0) (12 + j)) nt0)))) (W' := (lfX ct g x ++ (lfH ct (hsA g 0) g h0 ++ (lfS ct (fun j => (hsA g 0) (12 + j)) nt0)))) (c_X11_within l G ct sk sv  n v3 0 20 hc7) [] [0, 1, 2, 3, 4, 5, 6, 7, 8, 9, 10, 11, 12, 13, 14] [0, 1, 2, 3, 4, 5, 6, 7, 8, 9, 10, 11, 12, 13, 14] rfl rfl rfl rfl (by decide) rfl rfl) ⟨Nat.le_of_ble_eq_true rfl, Nat.le_of_ble_eq_true rfl⟩ rfl hl.1 rfl (Nat.le_of_ble_eq_true rfl) dX11_note_19 ⟨Nat.le_of_ble_eq_true rfl, Nat.le_of_ble_eq_true rfl⟩ (fun r9 w9 H locs hB hP hD hS => ?_)
      obtain ⟨rfl, rfl⟩ := hB
      refine WG_eq (g2 := F0 m 22 ls [.int r_7]) rfl ?_
      refine lv_if_ne (tgt := 30) hx hb dX11_note_22 (by decide) (fun c_8 => ?_) (fun c_8 => ?_)
      · replace hf := bc_f hf c_8
        refine lv_aload_n hx hb dX11_note_30 rfl (lv_at hl 0 rfl) ?_
        refine va_get (D := G) (C := RX11) (T := TX11) (N := 11) (v := .ref ((hsA g 0) 0)) hx hb hts iu_X11 hown hK hP 0 rfl rfl 0 (by decide) (hts _ kw262) (fun _ h9 => h9) rfl dX11_note_31 ?_
        refine va_get (D := G) (C := RX1) (T := TX1) (N := 16) (v := .ref ((hsA g 0) 12)) hx hb hts iu_X1 hown hK hP 3 rfl rfl 14 (by decide) (hts _ kw160) (fun _ h9 => h9) rfl dX11_note_34 ?_
        refine lv_iload_n hx hb dX11_note_37 rfl (lv_at hl 1 rfl) ?_
        refine lv_iload_n hx hb dX11_note_38 rfl (lv_at hl 2 rfl) ?_
        refine lv_iload_n hx hb dX11_note_39 rfl (lv_at hl 3 rfl) ?_
        obtain ⟨r_9, nt0_10, hc10, hf⟩ := bd2_e hf
        refine call_V (As := [.int v1, .int v2, .int v3]) (rest := []) hx hb hml hown hts hK hP hD hS hA hZ lkX11_254 (Ctr.up (W := (lfX ct g x ++ (lfH ct (hsA g 0) g h0 ++ (lfS ct (fun j => (hsA g 0) (12 + j)) nt0)))) (W' := (lfX ct g x ++ (lfH ct (hsA g 0) g h0 ++ (lfS ct (fun j => (hsA g 0) (12 + j)) nt0_10)))) (c_X8_add l G ct sk sv (fun j => (hsA g 0) (12 + j)) n nt0 v1 v2 v3 hc10) [11, 12, 13, 14] [0, 1, 2, 3, 4, 5, 6, 7, 8, 9, 10] [0, 1, 2, 3, 4, 5, 6, 7, 8, 9, 10, 11, 12, 13, 14] rfl rfl rfl rfl (by decide) rfl rfl) 11 rfl rfl ⟨Nat.le_of_ble_eq_true rfl, Nat.le_of_ble_eq_true rfl⟩ rfl hl.1 rfl (Nat.le_of_ble_eq_true rfl) dX11_note_40 ⟨Nat.le_of_ble_eq_true rfl, Nat.le_of_ble_eq_true rfl⟩ (fun r9 w9 H locs hB hP hD hS => ?_)
        obtain ⟨rfl, rfl⟩ := hB
        refine WG_eq (g2 := F0 m 43 ls [.int r_9]) rfl ?_
        refine lv_if_ne (tgt := 51) hx hb dX11_note_43 (by decide) (fun c_11 => ?_) (fun c_11 => ?_)
        · replace hf := bc_f hf c_11
          refine lv_aload_n hx hb dX11_note_51 rfl (lv_at hl 0 rfl) ?_
          refine va_get (D := G) (C := RX11) (T := TX11) (N := 11) (v := .ref ((hsA g 0) 0)) hx hb hts iu_X11 hown hK hP 0 rfl rfl 0 (by decide) (hts _ kw262) (fun _ h9 => h9) rfl dX11_note_52 ?_
          refine va_get (D := G) (C := RX1) (T := TX1) (N := 16) (v := .ref ((hsA g 0) 12)) hx hb hts iu_X1 hown hK hP 3 rfl rfl 14 (by decide) (hts _ kw160) (fun _ h9 => h9) rfl dX11_note_55 ?_
          refine va_get (D := G) (C := RX8) (T := TX8) (N := 4) (v := .int (nt0_10.1 0)) hx hb hts iu_X8 hown hK hP 11 rfl rfl 0 (by decide) (hts _ kw87) (fun _ h9 => h9) rfl dX11_note_58 ?_
          obtain ⟨e1, e2, e3⟩ := inj3 (Option.some.inj hf)
          exact end_i (w' := (lfX ct g x ++ (lfH ct (hsA g 0) g h0 ++ (lfS ct (fun j => (hsA g 0) (12 + j)) nt0_10)))) hx hb hr hlocks hK hP hD hS dX11_note_61  ⟨by rw [← e1], by rw [← e2, ← e3]⟩
        · replace hf := bc_t hf c_11
          refine lv_aload_n hx hb dX11_note_46 rfl (lv_at hl 0 rfl) ?_
          obtain ⟨r_12, x_13, hc13, hf⟩ := bd2_e hf
          refine call_V (As := []) (rest := []) hx hb hml hown hts hK hP hD hS hA hZ lkX11_87 (Ctr.up (W := (lfX ct g x ++ (lfH ct (hsA g 0) g h0 ++ (lfS ct (fun j => (hsA g 0) (12 + j)) nt0_10)))) (W' := (lfX ct g x_13 ++ (lfH ct (hsA g 0) g h0 ++ (lfS ct (fun j => (hsA g 0) (12 + j)) nt0_10)))) (c_X11_refuseFull l G ct sk sv g n x hc13) [0, 1, 2] [3, 4, 5, 6, 7, 8, 9, 10, 11, 12, 13, 14] [12, 13, 14, 0, 1, 2, 3, 4, 5, 6, 7, 8, 9, 10, 11] rfl rfl rfl rfl (by decide) rfl rfl) 0 rfl rfl ⟨Nat.le_of_ble_eq_true rfl, Nat.le_of_ble_eq_true rfl⟩ rfl hl.1 rfl (Nat.le_of_ble_eq_true rfl) dX11_note_47 ⟨Nat.le_of_ble_eq_true rfl, Nat.le_of_ble_eq_true rfl⟩ (fun r9 w9 H locs hB hP hD hS => ?_)
          obtain ⟨rfl, rfl⟩ := hB
          refine WG_eq (g2 := F0 m 50 ls [.int r_12]) rfl ?_
          obtain ⟨e1, e2, e3⟩ := inj3 (Option.some.inj hf)
          exact end_i (w' := (lfX ct g x_13 ++ (lfH ct (hsA g 0) g h0 ++ (lfS ct (fun j => (hsA g 0) (12 + j)) nt0_10)))) hx hb hr hlocks hK hP hD hS dX11_note_50  ⟨by rw [← e1], by rw [← e2, ← e3]⟩
      · replace hf := bc_t hf c_8
        exact J25 x nt0 _ _ _ hP hD hS (lv_sub hl [0] rfl) hf
noncomputable def f_X11_now (n : Nat) (x : MV) (h0 : MV) (v1 : Int32) : Option (Int32 × MV) :=
  bc (v1 = 0) (some (h0.1 3, x)) <|
  bc (v1 = 1) (some (h0.1 4, x)) <|
  bc (v1 = 2) (bd (f_X1_postageDue n h0) fun r_4 =>
  some (r_4, x)) <|
  bd2 (f_X11_refuseBad n x) fun r_5 x_6 =>
  some (r_5, x_6)
set_option maxHeartbeats 4000000 in
set_option maxRecDepth 100000 in
theorem c_X11_now (l : Launch) (G : va_G) (ct : Nat → ClassId) (sk sv : Nat → Nat) (g : Nat → Nat) (n : Nat) (x : MV) (h0 : MV) (v1 : Int32) {r : Int32} {x' : MV} (hf : f_X11_now n x h0 v1 = some (r, x')) : Ctr (l, G, ct, sk, sv) mX11_now 3 107 [.ref (g 7), .int v1] (lfX ct g x ++ (lfH ct (hsA g 0) g h0)) (lfX ct g x' ++ (lfH ct (hsA g 0) g h0)) (some (.int r)) := by
  refine ctr_intro (by decide) (Nat.le_of_ble_eq_true rfl) ?_
  intro p e s m args below meth c A C hP hD hS hA ls hl
  obtain ⟨hx, hb, hml, hown, hts, hr, hlocks, hK, hnm, hZ⟩ := C
  have hb : c.code = cX11_now := hb
  have hml : c.maxLocals = 2 := hml
  have hown : s.vm.findClass "SignedOutside" = some m.cls := hown
  have hr : meth.sig.returnType = some .int := hr
  have hP : va_P G classes (lfX ct g x ++ (lfH ct (hsA g 0) g h0)) s.heap := hP
  have hD : va_D A (lfX ct g x ++ (lfH ct (hsA g 0) g h0)) := hD
  have hK : va_K G classes (TYS ct) s := hK
  have hl : lv_has ls 2 [(0, .ref (g 7)), (1, .int v1)] := hl
  unfold f_X11_now at hf
  show WG l G ct sk sv p e (RM 3 107 0 0) s m args below meth c A (Eq2 (some (.int r)) (lfX ct g x' ++ (lfH ct (hsA g 0) g h0))) s.heap [] (F0 m 0 ls [])
  refine lv_iload_n hx hb dX11_now_0 rfl (lv_at hl 1 rfl) ?_
  rcases Classical.em (v1 = 0) with c_1 | c_1
  · replace hf := bc_t hf c_1
    refine lv_tableIn (tgt := 28) hx hb dX11_now_1 (by rw [c_1]; decide) (by rw [c_1]; decide) (by rw [c_1]; rfl) (by decide) ?_
    refine lv_aload_n hx hb dX11_now_28 rfl (lv_at hl 0 rfl) ?_
    refine va_get (D := G) (C := RX11) (T := TX11) (N := 11) (v := .ref ((hsA g 0) 0)) hx hb hts iu_X11 hown hK hP 0 rfl rfl 0 (by decide) (hts _ kw262) (fun _ h9 => h9) rfl dX11_now_29 ?_
    refine va_get (D := G) (C := RX1) (T := TX1) (N := 16) (v := .int (h0.1 3)) hx hb hts iu_X1 hown hK hP 3 rfl rfl 11 (by decide) (hts _ kw153) (fun _ h9 => h9) rfl dX11_now_32 ?_
    obtain ⟨e1, e2⟩ := inj2 (Option.some.inj hf)
    exact end_i (w' := (lfX ct g x ++ (lfH ct (hsA g 0) g h0))) hx hb hr hlocks hK hP hD hS dX11_now_35  ⟨by rw [← e1], by rw [← e2]⟩
  replace hf := bc_f hf c_1
  rcases Classical.em (v1 = 1) with c_2 | c_2
  · replace hf := bc_t hf c_2
    refine lv_tableIn (tgt := 36) hx hb dX11_now_1 (by rw [c_2]; decide) (by rw [c_2]; decide) (by rw [c_2]; rfl) (by decide) ?_
    refine lv_aload_n hx hb dX11_now_36 rfl (lv_at hl 0 rfl) ?_
    refine va_get (D := G) (C := RX11) (T := TX11) (N := 11) (v := .ref ((hsA g 0) 0)) hx hb hts iu_X11 hown hK hP 0 rfl rfl 0 (by decide) (hts _ kw262) (fun _ h9 => h9) rfl dX11_now_37 ?_
    refine va_get (D := G) (C := RX1) (T := TX1) (N := 16) (v := .int (h0.1 4)) hx hb hts iu_X1 hown hK hP 3 rfl rfl 12 (by decide) (hts _ kw156) (fun _ h9 => h9) rfl dX11_now_40 ?_
    obtain ⟨e1, e2⟩ := inj2 (Option.some.inj hf)
    exact end_i (w' := (lfX ct g x ++ (lfH ct (hsA g 0) g h0))) hx hb hr hlocks hK hP hD hS dX11_now_43  ⟨by rw [← e1], by rw [← e2]⟩
  replace hf := bc_f hf c_2
  rcases Classical.em (v1 = 2) with c_3 | c_3
  · replace hf := bc_t hf c_3
    refine lv_tableIn (tgt := 44) hx hb dX11_now_1 (by rw [c_3]; decide) (by rw [c_3]; decide) (by rw [c_3]; rfl) (by decide) ?_
    refine lv_aload_n hx hb dX11_now_44 rfl (lv_at hl 0 rfl) ?_
    refine va_get (D := G) (C := RX11) (T := TX11) (N := 11) (v := .ref ((hsA g 0) 0)) hx hb hts iu_X11 hown hK hP 0 rfl rfl 0 (by decide) (hts _ kw262) (fun _ h9 => h9) rfl dX11_now_45 ?_
    obtain ⟨r_4, hc4, hf⟩ := bd_e hf
    refine call_V (As := []) (rest := []) hx hb hml hown hts hK hP hD hS hA hZ lkX11_210 (Ctr.up (W := (lfX ct g x ++ (lfH ct (hsA g 0) g h0))) (W' := (lfX ct g x ++ (lfH ct (hsA g 0) g h0))) (c_X1_postageDue l G ct sk sv (hsA g 0) g n h0 hc4) [3, 4, 5, 6, 7, 8, 9, 10] [0, 1, 2] [0, 1, 2, 3, 4, 5, 6, 7, 8, 9, 10] rfl rfl rfl rfl (by decide) rfl rfl) 3 rfl rfl ⟨Nat.le_of_ble_eq_true rfl, Nat.le_of_ble_eq_true rfl⟩ rfl hl.1 rfl (Nat.le_of_ble_eq_true rfl) dX11_now_48 ⟨Nat.le_of_ble_eq_true rfl, Nat.le_of_ble_eq_true rfl⟩ (fun r9 w9 H locs hB hP hD hS => ?_)
    obtain ⟨rfl, rfl⟩ := hB
    refine WG_eq (g2 := F0 m 51 ls [.int r_4]) rfl ?_
    obtain ⟨e1, e2⟩ := inj2 (Option.some.inj hf)
    exact end_i (w' := (lfX ct g x ++ (lfH ct (hsA g 0) g h0))) hx hb hr hlocks hK hP hD hS dX11_now_51  ⟨by rw [← e1], by rw [← e2]⟩
  replace hf := bc_f hf c_3
  have tc_1 := lv_neT (a := 0) c_1 (by decide)
  have tc_2 := lv_neT (a := 1) c_2 (by decide)
  have tc_3 := lv_neT (a := 2) c_3 (by decide)
  refine lv_tableOut (tgt := 52) hx hb dX11_now_1 (by omega) (by decide) ?_
  refine lv_aload_n hx hb dX11_now_52 rfl (lv_at hl 0 rfl) ?_
  obtain ⟨r_5, x_6, hc6, hf⟩ := bd2_e hf
  refine call_V (As := []) (rest := []) hx hb hml hown hts hK hP hD hS hA hZ lkX11_83 (Ctr.up (W := (lfX ct g x ++ (lfH ct (hsA g 0) g h0))) (W' := (lfX ct g x_6 ++ (lfH ct (hsA g 0) g h0))) (c_X11_refuseBad l G ct sk sv g n x hc6) [0, 1, 2] [3, 4, 5, 6, 7, 8, 9, 10] [8, 9, 10, 0, 1, 2, 3, 4, 5, 6, 7] rfl rfl rfl rfl (by decide) rfl rfl) 0 rfl rfl ⟨Nat.le_of_ble_eq_true rfl, Nat.le_of_ble_eq_true rfl⟩ rfl hl.1 rfl (Nat.le_of_ble_eq_true rfl) dX11_now_53 ⟨Nat.le_of_ble_eq_true rfl, Nat.le_of_ble_eq_true rfl⟩ (fun r9 w9 H locs hB hP hD hS => ?_)
  obtain ⟨rfl, rfl⟩ := hB
  refine WG_eq (g2 := F0 m 56 ls [.int r_5]) rfl ?_
  obtain ⟨e1, e2⟩ := inj2 (Option.some.inj hf)
  exact end_i (w' := (lfX ct g x_6 ++ (lfH ct (hsA g 0) g h0))) hx hb hr hlocks hK hP hD hS dX11_now_56  ⟨by rw [← e1], by rw [← e2]⟩
noncomputable def f_X11_of (n : Nat) (x : MV) (h0 : MV) (v1 : Int32) (v2 : Int32) : Option (Int32 × MV) :=
  bd (f_X11_isMember n x h0 v1) fun r_1 =>
  bc (r_1 = 0) (bd2 (f_X11_refuseBad n x) fun r_18 x_19 =>
  some (r_18, x_19))
  (bd (f_X1_kindAt n h0 v1) fun i_3 =>
  bc (v2 = 0) (gd (vp_in v1 5) <|
  some (h0.2.1 0 (ix v1), x)) <|
  bc (v2 = 1) (gd (vp_in v1 5) <|
  some (h0.2.1 1 (ix v1), x)) <|
  bc (v2 = 2) (gd (vp_in v1 5) <|
  some (h0.2.1 2 (ix v1), x)) <|
  bc (v2 = 3) (bd (f_K_signs n i_3 (h0.1 2)) fun r_11 =>
  some (r_11, x)) <|
  bc (v2 = 4) (bd (f_K_reach n i_3 ) fun r_13 =>
  some (r_13, x)) <|
  bc (v2 = 5) (bd (f_K_bears n i_3 ) fun r_15 =>
  some (r_15, x)) <|
  bd2 (f_X11_refuseBad n x) fun r_16 x_17 =>
  some (r_16, x_17))
set_option maxHeartbeats 4000000 in
set_option maxRecDepth 100000 in
theorem c_X11_of (l : Launch) (G : va_G) (ct : Nat → ClassId) (sk sv : Nat → Nat) (g : Nat → Nat) (n : Nat) (x : MV) (h0 : MV) (v1 : Int32) (v2 : Int32) {r : Int32} {x' : MV} (hf : f_X11_of n x h0 v1 v2 = some (r, x')) : Ctr (l, G, ct, sk, sv) mX11_of 4 160 [.ref (g 7), .int v1, .int v2] (lfX ct g x ++ (lfH ct (hsA g 0) g h0 ++ (lfK ct g))) (lfX ct g x' ++ (lfH ct (hsA g 0) g h0 ++ (lfK ct g))) (some (.int r)) := by
  refine ctr_intro (by decide) (Nat.le_of_ble_eq_true rfl) ?_
  intro p e s m args below meth c A C hP hD hS hA ls hl
  obtain ⟨hx, hb, hml, hown, hts, hr, hlocks, hK, hnm, hZ⟩ := C
  have hb : c.code = cX11_of := hb
  have hml : c.maxLocals = 4 := hml
  have hown : s.vm.findClass "SignedOutside" = some m.cls := hown
  have hr : meth.sig.returnType = some .int := hr
  have hP : va_P G classes (lfX ct g x ++ (lfH ct (hsA g 0) g h0 ++ (lfK ct g))) s.heap := hP
  have hD : va_D A (lfX ct g x ++ (lfH ct (hsA g 0) g h0 ++ (lfK ct g))) := hD
  have hK : va_K G classes (TYS ct) s := hK
  have hl : lv_has ls 4 [(0, .ref (g 7)), (1, .int v1), (2, .int v2)] := hl
  unfold f_X11_of at hf
  show WG l G ct sk sv p e (RM 4 160 0 0) s m args below meth c A (Eq2 (some (.int r)) (lfX ct g x' ++ (lfH ct (hsA g 0) g h0 ++ (lfK ct g)))) s.heap [] (F0 m 0 ls [])
  refine lv_aload_n hx hb dX11_of_0 rfl (lv_at hl 0 rfl) ?_
  refine lv_iload_n hx hb dX11_of_1 rfl (lv_at hl 1 rfl) ?_
  obtain ⟨r_1, hc1, hf⟩ := bd_e hf
  refine call_V (As := [.int v1]) (rest := []) hx hb hml hown hts hK hP hD hS hA hZ lkX11_128 (Ctr.up (W := (lfX ct g x ++ (lfH ct (hsA g 0) g h0 ++ (lfK ct g)))) (W' := (lfX ct g x ++ (lfH ct (hsA g 0) g h0 ++ (lfK ct g)))) (c_X11_isMember l G ct sk sv g n x h0 v1 hc1) [0, 1, 2, 3, 4, 5, 6, 7, 8, 9, 10] [11, 12, 13, 14, 15, 16, 17] [7, 8, 9, 10, 11, 12, 13, 14, 15, 16, 17, 0, 1, 2, 3, 4, 5, 6] rfl rfl rfl rfl (by decide) rfl rfl) 0 rfl rfl ⟨Nat.le_of_ble_eq_true rfl, Nat.le_of_ble_eq_true rfl⟩ rfl hl.1 rfl (Nat.le_of_ble_eq_true rfl) dX11_of_2 ⟨Nat.le_of_ble_eq_true rfl, Nat.le_of_ble_eq_true rfl⟩ (fun r9 w9 H locs hB hP hD hS => ?_)
  obtain ⟨rfl, rfl⟩ := hB
  refine WG_eq (g2 := F0 m 5 ls [.int r_1]) rfl ?_
  refine lv_if_ne (tgt := 13) hx hb dX11_of_5 (by decide) (fun c_2 => ?_) (fun c_2 => ?_)
  · replace hf := bc_f hf c_2
    refine lv_aload_n hx hb dX11_of_13 rfl (lv_at hl 0 rfl) ?_
    refine va_get (D := G) (C := RX11) (T := TX11) (N := 11) (v := .ref ((hsA g 0) 0)) hx hb hts iu_X11 hown hK hP 0 rfl rfl 0 (by decide) (hts _ kw262) (fun _ h9 => h9) rfl dX11_of_14 ?_
    refine lv_iload_n hx hb dX11_of_17 rfl (lv_at hl 1 rfl) ?_
    obtain ⟨i_3, hc3, hf⟩ := bd_e hf
    refine call_V (As := [.int v1]) (rest := []) hx hb hml hown hts hK hP hD hS hA hZ lkX11_170 (Ctr.up (W := (lfX ct g x ++ (lfH ct (hsA g 0) g h0 ++ (lfK ct g)))) (W' := (lfX ct g x ++ (lfH ct (hsA g 0) g h0 ++ (lfK ct g)))) (c_X1_kindAt l G ct sk sv (hsA g 0) g n h0 v1 hc3) [3, 4, 5, 6, 7, 8, 9, 10, 11, 12, 13, 14, 15, 16, 17] [0, 1, 2] [0, 1, 2, 3, 4, 5, 6, 7, 8, 9, 10, 11, 12, 13, 14, 15, 16, 17] rfl rfl rfl rfl (by decide) rfl rfl) 3 rfl rfl ⟨Nat.le_of_ble_eq_true rfl, Nat.le_of_ble_eq_true rfl⟩ rfl hl.1 rfl (Nat.le_of_ble_eq_true rfl) dX11_of_18 ⟨Nat.le_of_ble_eq_true rfl, Nat.le_of_ble_eq_true rfl⟩ (fun r9 w9 H locs hB hP hD hS => ?_)
    obtain ⟨rfl, rfl⟩ := hB
    refine WG_eq (g2 := F0 m 21 ls [.ref (g (1 + i_3))]) rfl ?_
    refine lv_astore_n (lv' := [(3, .ref (g (1 + i_3))), (0, .ref (g 7)), (1, .int v1), (2, .int v2)]) hx hb dX11_of_21 rfl hl (by decide) rfl (fun ls hl => ?_)
    refine lv_iload_n hx hb dX11_of_22 rfl (lv_at hl 3 rfl) ?_
    rcases Classical.em (v2 = 0) with c_4 | c_4
    · replace hf := bc_t hf c_4
      refine lv_tableIn (tgt := 60) hx hb dX11_of_23 (by rw [c_4]; decide) (by rw [c_4]; decide) (by rw [c_4]; rfl) (by decide) ?_
      refine lv_aload_n hx hb dX11_of_60 rfl (lv_at hl 1 rfl) ?_
      refine va_get (D := G) (C := RX11) (T := TX11) (N := 11) (v := .ref ((hsA g 0) 0)) hx hb hts iu_X11 hown hK hP 0 rfl rfl 0 (by decide) (hts _ kw262) (fun _ h9 => h9) rfl dX11_of_61 ?_
      refine va_get (D := G) (C := RX1) (T := TX1) (N := 16) (v := .ref ((hsA g 0) 1)) hx hb hts iu_X1 hown hK hP 3 rfl rfl 2 (by decide) (hts _ kw128) (fun _ h9 => h9) rfl dX11_of_64 ?_
      refine lv_iload_n hx hb dX11_of_67 rfl (lv_at hl 2 rfl) ?_
      obtain ⟨g_5, hf⟩ := gd_e hf
      refine va_iald (f := h0.2.1 0) hx hb hK hP 4 0 rfl rfl g_5 dX11_of_68 ?_
      obtain ⟨e1, e2⟩ := inj2 (Option.some.inj hf)
      exact end_i (w' := (lfX ct g x ++ (lfH ct (hsA g 0) g h0 ++ (lfK ct g)))) hx hb hr hlocks hK hP hD hS dX11_of_69  ⟨by rw [← e1], by rw [← e2]⟩
    replace hf := bc_f hf c_4
    rcases Classical.em (v2 = 1) with c_6 | c_6
    · replace hf := bc_t hf c_6
      refine lv_tableIn (tgt := 70) hx hb dX11_of_23 (by rw [c_6]; decide) (by rw [c_6]; decide) (by rw [c_6]; rfl) (by decide) ?_
      refine lv_aload_n hx hb dX11_of_70 rfl (lv_at hl 1 rfl) ?_
      refine va_get (D := G) (C := RX11) (T := TX11) (N := 11) (v := .ref ((hsA g 0) 0)) hx hb hts iu_X11 hown hK hP 0 rfl rfl 0 (by decide) (hts _ kw262) (fun _ h9 => h9) rfl dX11_of_71 ?_
      refine va_get (D := G) (C := RX1) (T := TX1) (N := 16) (v := .ref ((hsA g 0) 2)) hx hb hts iu_X1 hown hK hP 3 rfl rfl 3 (by decide) (hts _ kw131) (fun _ h9 => h9) rfl dX11_of_74 ?_
      refine lv_iload_n hx hb dX11_of_77 rfl (lv_at hl 2 rfl) ?_
      obtain ⟨g_7, hf⟩ := gd_e hf
      refine va_iald (f := h0.2.1 1) hx hb hK hP 5 0 rfl rfl g_7 dX11_of_78 ?_
      obtain ⟨e1, e2⟩ := inj2 (Option.some.inj hf)
      exact end_i (w' := (lfX ct g x ++ (lfH ct (hsA g 0) g h0 ++ (lfK ct g)))) hx hb hr hlocks hK hP hD hS dX11_of_79  ⟨by rw [← e1], by rw [← e2]⟩
    replace hf := bc_f hf c_6
    rcases Classical.em (v2 = 2) with c_8 | c_8
    · replace hf := bc_t hf c_8
      refine lv_tableIn (tgt := 80) hx hb dX11_of_23 (by rw [c_8]; decide) (by rw [c_8]; decide) (by rw [c_8]; rfl) (by decide) ?_
      refine lv_aload_n hx hb dX11_of_80 rfl (lv_at hl 1 rfl) ?_
      refine va_get (D := G) (C := RX11) (T := TX11) (N := 11) (v := .ref ((hsA g 0) 0)) hx hb hts iu_X11 hown hK hP 0 rfl rfl 0 (by decide) (hts _ kw262) (fun _ h9 => h9) rfl dX11_of_81 ?_
      refine va_get (D := G) (C := RX1) (T := TX1) (N := 16) (v := .ref ((hsA g 0) 3)) hx hb hts iu_X1 hown hK hP 3 rfl rfl 4 (by decide) (hts _ kw134) (fun _ h9 => h9) rfl dX11_of_84 ?_
      refine lv_iload_n hx hb dX11_of_87 rfl (lv_at hl 2 rfl) ?_
      obtain ⟨g_9, hf⟩ := gd_e hf
      refine va_iald (f := h0.2.1 2) hx hb hK hP 6 0 rfl rfl g_9 dX11_of_88 ?_
      obtain ⟨e1, e2⟩ := inj2 (Option.some.inj hf)
      exact end_i (w' := (lfX ct g x ++ (lfH ct (hsA g 0) g h0 ++ (lfK ct g)))) hx hb hr hlocks hK hP hD hS dX11_of_89  ⟨by rw [← e1], by rw [← e2]⟩
    replace hf := bc_f hf c_8
    rcases Classical.em (v2 = 3) with c_10 | c_10
    · replace hf := bc_t hf c_10
      refine lv_tableIn (tgt := 90) hx hb dX11_of_23 (by rw [c_10]; decide) (by rw [c_10]; decide) (by rw [c_10]; rfl) (by decide) ?_
      refine lv_aload_n hx hb dX11_of_90 rfl (lv_at hl 0 rfl) ?_
      refine lv_aload_n hx hb dX11_of_91 rfl (lv_at hl 1 rfl) ?_
      refine va_get (D := G) (C := RX11) (T := TX11) (N := 11) (v := .ref ((hsA g 0) 0)) hx hb hts iu_X11 hown hK hP 0 rfl rfl 0 (by decide) (hts _ kw262) (fun _ h9 => h9) rfl dX11_of_92 ?_
      refine va_get (D := G) (C := RX1) (T := TX1) (N := 16) (v := .int (h0.1 2)) hx hb hts iu_X1 hown hK hP 3 rfl rfl 10 (by decide) (hts _ kw150) (fun _ h9 => h9) rfl dX11_of_95 ?_
      obtain ⟨r_11, hc11, hf⟩ := bd_e hf
      refine disp_X11_180 n (k := g) i_3 hx hb hml hown hts hK hP hD hS hA hZ hc11 12 rfl rfl rfl rfl rfl rfl (Nat.le_of_ble_eq_true rfl) (Nat.le_of_ble_eq_true rfl) hl.1 (Nat.le_of_ble_eq_true rfl) dX11_of_98 ⟨Nat.zero_le _, Nat.zero_le _⟩ (fun H locs hP hD hS => ?_)
      refine WG_eq (g2 := F0 m 101 ls [.int r_11]) rfl ?_
      obtain ⟨e1, e2⟩ := inj2 (Option.some.inj hf)
      exact end_i (w' := (lfX ct g x ++ (lfH ct (hsA g 0) g h0 ++ (lfK ct g)))) hx hb hr hlocks hK hP hD hS dX11_of_101  ⟨by rw [← e1], by rw [← e2]⟩
    replace hf := bc_f hf c_10
    rcases Classical.em (v2 = 4) with c_12 | c_12
    · replace hf := bc_t hf c_12
      refine lv_tableIn (tgt := 102) hx hb dX11_of_23 (by rw [c_12]; decide) (by rw [c_12]; decide) (by rw [c_12]; rfl) (by decide) ?_
      refine lv_aload_n hx hb dX11_of_102 rfl (lv_at hl 0 rfl) ?_
      obtain ⟨r_13, hc13, hf⟩ := bd_e hf
      refine disp_X11_183 n (k := g) i_3 hx hb hml hown hts hK hP hD hS hA hZ hc13 12 rfl rfl rfl rfl rfl rfl (Nat.le_of_ble_eq_true rfl) (Nat.le_of_ble_eq_true rfl) hl.1 (Nat.le_of_ble_eq_true rfl) dX11_of_103 ⟨Nat.zero_le _, Nat.zero_le _⟩ (fun H locs hP hD hS => ?_)
      refine WG_eq (g2 := F0 m 106 ls [.int r_13]) rfl ?_
      obtain ⟨e1, e2⟩ := inj2 (Option.some.inj hf)
      exact end_i (w' := (lfX ct g x ++ (lfH ct (hsA g 0) g h0 ++ (lfK ct g)))) hx hb hr hlocks hK hP hD hS dX11_of_106  ⟨by rw [← e1], by rw [← e2]⟩
    replace hf := bc_f hf c_12
    rcases Classical.em (v2 = 5) with c_14 | c_14
    · replace hf := bc_t hf c_14
      refine lv_tableIn (tgt := 107) hx hb dX11_of_23 (by rw [c_14]; decide) (by rw [c_14]; decide) (by rw [c_14]; rfl) (by decide) ?_
      refine lv_aload_n hx hb dX11_of_107 rfl (lv_at hl 0 rfl) ?_
      obtain ⟨r_15, hc15, hf⟩ := bd_e hf
      refine disp_X11_186 n (k := g) i_3 hx hb hml hown hts hK hP hD hS hA hZ hc15 12 rfl rfl rfl rfl rfl rfl (Nat.le_of_ble_eq_true rfl) (Nat.le_of_ble_eq_true rfl) hl.1 (Nat.le_of_ble_eq_true rfl) dX11_of_108 ⟨Nat.zero_le _, Nat.zero_le _⟩ (fun H locs hP hD hS => ?_)
      refine WG_eq (g2 := F0 m 111 ls [.int r_15]) rfl ?_
      obtain ⟨e1, e2⟩ := inj2 (Option.some.inj hf)
      exact end_i (w' := (lfX ct g x ++ (lfH ct (hsA g 0) g h0 ++ (lfK ct g)))) hx hb hr hlocks hK hP hD hS dX11_of_111  ⟨by rw [← e1], by rw [← e2]⟩
    replace hf := bc_f hf c_14
    have tc_4 := lv_neT (a := 0) c_4 (by decide)
    have tc_6 := lv_neT (a := 1) c_6 (by decide)
    have tc_8 := lv_neT (a := 2) c_8 (by decide)
    have tc_10 := lv_neT (a := 3) c_10 (by decide)
    have tc_12 := lv_neT (a := 4) c_12 (by decide)
    have tc_14 := lv_neT (a := 5) c_14 (by decide)
    refine lv_tableOut (tgt := 112) hx hb dX11_of_23 (by omega) (by decide) ?_
    refine lv_aload_n hx hb dX11_of_112 rfl (lv_at hl 1 rfl) ?_
    obtain ⟨r_16, x_17, hc17, hf⟩ := bd2_e hf
    refine call_V (As := []) (rest := []) hx hb hml hown hts hK hP hD hS hA hZ lkX11_83 (Ctr.up (W := (lfX ct g x ++ (lfH ct (hsA g 0) g h0 ++ (lfK ct g)))) (W' := (lfX ct g x_17 ++ (lfH ct (hsA g 0) g h0 ++ (lfK ct g)))) (c_X11_refuseBad l G ct sk sv g n x hc17) [0, 1, 2] [3, 4, 5, 6, 7, 8, 9, 10, 11, 12, 13, 14, 15, 16, 17] [15, 16, 17, 0, 1, 2, 3, 4, 5, 6, 7, 8, 9, 10, 11, 12, 13, 14] rfl rfl rfl rfl (by decide) rfl rfl) 0 rfl rfl ⟨Nat.le_of_ble_eq_true rfl, Nat.le_of_ble_eq_true rfl⟩ rfl hl.1 rfl (Nat.le_of_ble_eq_true rfl) dX11_of_113 ⟨Nat.le_of_ble_eq_true rfl, Nat.le_of_ble_eq_true rfl⟩ (fun r9 w9 H locs hB hP hD hS => ?_)
    obtain ⟨rfl, rfl⟩ := hB
    refine WG_eq (g2 := F0 m 116 ls [.int r_16]) rfl ?_
    obtain ⟨e1, e2⟩ := inj2 (Option.some.inj hf)
    exact end_i (w' := (lfX ct g x_17 ++ (lfH ct (hsA g 0) g h0 ++ (lfK ct g)))) hx hb hr hlocks hK hP hD hS dX11_of_116  ⟨by rw [← e1], by rw [← e2]⟩
  · replace hf := bc_t hf c_2
    refine lv_aload_n hx hb dX11_of_8 rfl (lv_at hl 0 rfl) ?_
    obtain ⟨r_18, x_19, hc19, hf⟩ := bd2_e hf
    refine call_V (As := []) (rest := []) hx hb hml hown hts hK hP hD hS hA hZ lkX11_83 (Ctr.up (W := (lfX ct g x ++ (lfH ct (hsA g 0) g h0 ++ (lfK ct g)))) (W' := (lfX ct g x_19 ++ (lfH ct (hsA g 0) g h0 ++ (lfK ct g)))) (c_X11_refuseBad l G ct sk sv g n x hc19) [0, 1, 2] [3, 4, 5, 6, 7, 8, 9, 10, 11, 12, 13, 14, 15, 16, 17] [15, 16, 17, 0, 1, 2, 3, 4, 5, 6, 7, 8, 9, 10, 11, 12, 13, 14] rfl rfl rfl rfl (by decide) rfl rfl) 0 rfl rfl ⟨Nat.le_of_ble_eq_true rfl, Nat.le_of_ble_eq_true rfl⟩ rfl hl.1 rfl (Nat.le_of_ble_eq_true rfl) dX11_of_9 ⟨Nat.le_of_ble_eq_true rfl, Nat.le_of_ble_eq_true rfl⟩ (fun r9 w9 H locs hB hP hD hS => ?_)
    obtain ⟨rfl, rfl⟩ := hB
    refine WG_eq (g2 := F0 m 12 ls [.int r_18]) rfl ?_
    obtain ⟨e1, e2⟩ := inj2 (Option.some.inj hf)
    exact end_i (w' := (lfX ct g x_19 ++ (lfH ct (hsA g 0) g h0 ++ (lfK ct g)))) hx hb hr hlocks hK hP hD hS dX11_of_12  ⟨by rw [← e1], by rw [← e2]⟩
noncomputable def f_X11_part (n : Nat) (x : MV) (v1 : Int32) : Option (Int64 × MV) :=
  bc (v1 = 0) (some (x.2.2 0, x)) <|
  bc (v1 = 1) (some (x.2.2 1, x)) <|
  bd2 (f_X11_refuseBad n x) fun r_3 x_4 =>
  some ((r_3 : Int32).toInt64, x_4)
set_option maxHeartbeats 4000000 in
set_option maxRecDepth 100000 in
theorem c_X11_part (l : Launch) (G : va_G) (ct : Nat → ClassId) (sk sv : Nat → Nat) (g : Nat → Nat) (n : Nat) (x : MV) (v1 : Int32) {r : Int64} {x' : MV} (hf : f_X11_part n x v1 = some (r, x')) : Ctr (l, G, ct, sk, sv) mX11_part 1 20 [.ref (g 7), .int v1] (lfX ct g x) (lfX ct g x') (some (.long r)) := by
  refine ctr_intro (by decide) (Nat.le_of_ble_eq_true rfl) ?_
  intro p e s m args below meth c A C hP hD hS hA ls hl
  obtain ⟨hx, hb, hml, hown, hts, hr, hlocks, hK, hnm, hZ⟩ := C
  have hb : c.code = cX11_part := hb
  have hml : c.maxLocals = 2 := hml
  have hown : s.vm.findClass "SignedOutside" = some m.cls := hown
  have hr : meth.sig.returnType = some .long := hr
  have hP : va_P G classes (lfX ct g x) s.heap := hP
  have hD : va_D A (lfX ct g x) := hD
  have hK : va_K G classes (TYS ct) s := hK
  have hl : lv_has ls 2 [(0, .ref (g 7)), (1, .int v1)] := hl
  unfold f_X11_part at hf
  show WG l G ct sk sv p e (RM 1 20 0 0) s m args below meth c A (Eq2 (some (.long r)) (lfX ct g x')) s.heap [] (F0 m 0 ls [])
  refine lv_iload_n hx hb dX11_part_0 rfl (lv_at hl 1 rfl) ?_
  rcases Classical.em (v1 = 0) with c_1 | c_1
  · replace hf := bc_t hf c_1
    refine lv_lookup (tgt := 28) hx hb dX11_part_1 (by decide) (by rw [c_1]; rfl) (by decide) ?_
    refine lv_aload_n hx hb dX11_part_28 rfl (lv_at hl 0 rfl) ?_
    refine va_get (D := G) (C := RX11) (T := TX11) (N := 11) (v := .long (x.2.2 0)) hx hb hts iu_X11 hown hK hP 0 rfl rfl 6 (by decide) (hts _ kw268) (fun _ h9 => h9) rfl dX11_part_29 ?_
    obtain ⟨e1, e2⟩ := inj2 (Option.some.inj hf)
    exact end_l (w' := (lfX ct g x)) hx hb hr hlocks hK hP hD hS dX11_part_32  ⟨by rw [← e1], by rw [← e2]⟩
  replace hf := bc_f hf c_1
  rcases Classical.em (v1 = 1) with c_2 | c_2
  · replace hf := bc_t hf c_2
    refine lv_lookup (tgt := 33) hx hb dX11_part_1 (by decide) (by rw [c_2]; rfl) (by decide) ?_
    refine lv_aload_n hx hb dX11_part_33 rfl (lv_at hl 0 rfl) ?_
    refine va_get (D := G) (C := RX11) (T := TX11) (N := 11) (v := .long (x.2.2 1)) hx hb hts iu_X11 hown hK hP 0 rfl rfl 7 (by decide) (hts _ kw269) (fun _ h9 => h9) rfl dX11_part_34 ?_
    obtain ⟨e1, e2⟩ := inj2 (Option.some.inj hf)
    exact end_l (w' := (lfX ct g x)) hx hb hr hlocks hK hP hD hS dX11_part_37  ⟨by rw [← e1], by rw [← e2]⟩
  replace hf := bc_f hf c_2
  refine lv_lookup (tgt := 38) hx hb dX11_part_1 (by decide) (by rw [lv_osw (k := 0) c_1 (by decide)]; rw [lv_osw (k := 1) c_2 (by decide)]; rfl) (by decide) ?_
  refine lv_aload_n hx hb dX11_part_38 rfl (lv_at hl 0 rfl) ?_
  obtain ⟨r_3, x_4, hc4, hf⟩ := bd2_e hf
  refine call_V (As := []) (rest := []) hx hb hml hown hts hK hP hD hS hA hZ lkX11_83 (c_X11_refuseBad l G ct sk sv g n x hc4) 0 rfl rfl ⟨Nat.le_of_ble_eq_true rfl, Nat.le_of_ble_eq_true rfl⟩ rfl hl.1 rfl (Nat.le_of_ble_eq_true rfl) dX11_part_39 ⟨Nat.le_of_ble_eq_true rfl, Nat.le_of_ble_eq_true rfl⟩ (fun r9 w9 H locs hB hP hD hS => ?_)
  obtain ⟨rfl, rfl⟩ := hB
  refine WG_eq (g2 := F0 m 42 ls [.int r_3]) rfl ?_
  refine lv_i2l (v := (r_3 : Int32).toInt64) hx hb dX11_part_42 rfl ?_
  obtain ⟨e1, e2⟩ := inj2 (Option.some.inj hf)
  exact end_l (w' := (lfX ct g x_4)) hx hb hr hlocks hK hP hD hS dX11_part_43  ⟨by rw [← e1], by rw [← e2]⟩
noncomputable def f_X11_pay (n : Nat) (x : MV) (h0 : MV) (ps0 : MV) (v1 : Int32) : Option (Int32 × MV × MV × MV) :=
  bd (f_X11_isLetter n x h0 v1) fun r_1 =>
  bc (r_1 = 0) (bd2 (f_X11_refuseBad n x) fun r_10 x_11 =>
  some (r_10, x_11, h0, ps0))
  (bd (f_X1_lies n h0 v1) fun r_3 =>
  bc (r_3 = 0) (bd2 (f_X11_refuseNo n x) fun r_8 x_9 =>
  some (r_8, x_9, h0, ps0))
  (bd (f_X4_keep n h0 ps0) fun ps0_5 =>
  bd (f_X1_settle n h0 v1) fun h0_6 =>
  bd (f_X1_postage n h0_6 v1) fun r_7 =>
  some (r_7, x, h0_6, ps0_5)))
set_option maxHeartbeats 4000000 in
set_option maxRecDepth 100000 in
theorem c_X11_pay (l : Launch) (G : va_G) (ct : Nat → ClassId) (sk sv : Nat → Nat) (g : Nat → Nat) (n : Nat) (x : MV) (h0 : MV) (ps0 : MV) (v1 : Int32) {r : Int32} {x' : MV} {h0' : MV} {ps0' : MV} (hf : f_X11_pay n x h0 ps0 v1 = some (r, x', h0', ps0')) : Ctr (l, G, ct, sk, sv) mX11_pay 3 106 [.ref (g 7), .int v1] (lfX ct g x ++ (lfH ct (hsA g 0) g h0 ++ (lfP ct (fun j => (hsA g 0) (16 + j)) ps0))) (lfX ct g x' ++ (lfH ct (hsA g 0) g h0' ++ (lfP ct (fun j => (hsA g 0) (16 + j)) ps0'))) (some (.int r)) := by
  refine ctr_intro (by decide) (Nat.le_of_ble_eq_true rfl) ?_
  intro p e s m args below meth c A C hP hD hS hA ls hl
  obtain ⟨hx, hb, hml, hown, hts, hr, hlocks, hK, hnm, hZ⟩ := C
  have hb : c.code = cX11_pay := hb
  have hml : c.maxLocals = 2 := hml
  have hown : s.vm.findClass "SignedOutside" = some m.cls := hown
  have hr : meth.sig.returnType = some .int := hr
  have hP : va_P G classes (lfX ct g x ++ (lfH ct (hsA g 0) g h0 ++ (lfP ct (fun j => (hsA g 0) (16 + j)) ps0))) s.heap := hP
  have hD : va_D A (lfX ct g x ++ (lfH ct (hsA g 0) g h0 ++ (lfP ct (fun j => (hsA g 0) (16 + j)) ps0))) := hD
  have hK : va_K G classes (TYS ct) s := hK
  have hl : lv_has ls 2 [(0, .ref (g 7)), (1, .int v1)] := hl
  unfold f_X11_pay at hf
  show WG l G ct sk sv p e (RM 3 106 0 0) s m args below meth c A (Eq2 (some (.int r)) (lfX ct g x' ++ (lfH ct (hsA g 0) g h0' ++ (lfP ct (fun j => (hsA g 0) (16 + j)) ps0')))) s.heap [] (F0 m 0 ls [])
  refine lv_aload_n hx hb dX11_pay_0 rfl (lv_at hl 0 rfl) ?_
  refine lv_iload_n hx hb dX11_pay_1 rfl (lv_at hl 1 rfl) ?_
  obtain ⟨r_1, hc1, hf⟩ := bd_e hf
  refine call_V (As := [.int v1]) (rest := []) hx hb hml hown hts hK hP hD hS hA hZ lkX11_125 (Ctr.up (W := (lfX ct g x ++ (lfH ct (hsA g 0) g h0 ++ (lfP ct (fun j => (hsA g 0) (16 + j)) ps0)))) (W' := (lfX ct g x ++ (lfH ct (hsA g 0) g h0 ++ (lfP ct (fun j => (hsA g 0) (16 + j)) ps0)))) (c_X11_isLetter l G ct sk sv g n x h0 v1 hc1) [0, 1, 2, 3, 4, 5, 6, 7, 8, 9, 10] [11, 12] [2, 3, 4, 5, 6, 7, 8, 9, 10, 11, 12, 0, 1] rfl rfl rfl rfl (by decide) rfl rfl) 0 rfl rfl ⟨Nat.le_of_ble_eq_true rfl, Nat.le_of_ble_eq_true rfl⟩ rfl hl.1 rfl (Nat.le_of_ble_eq_true rfl) dX11_pay_2 ⟨Nat.le_of_ble_eq_true rfl, Nat.le_of_ble_eq_true rfl⟩ (fun r9 w9 H locs hB hP hD hS => ?_)
  obtain ⟨rfl, rfl⟩ := hB
  refine WG_eq (g2 := F0 m 5 ls [.int r_1]) rfl ?_
  refine lv_if_ne (tgt := 13) hx hb dX11_pay_5 (by decide) (fun c_2 => ?_) (fun c_2 => ?_)
  · replace hf := bc_f hf c_2
    refine lv_aload_n hx hb dX11_pay_13 rfl (lv_at hl 0 rfl) ?_
    refine va_get (D := G) (C := RX11) (T := TX11) (N := 11) (v := .ref ((hsA g 0) 0)) hx hb hts iu_X11 hown hK hP 0 rfl rfl 0 (by decide) (hts _ kw262) (fun _ h9 => h9) rfl dX11_pay_14 ?_
    refine lv_iload_n hx hb dX11_pay_17 rfl (lv_at hl 1 rfl) ?_
    obtain ⟨r_3, hc3, hf⟩ := bd_e hf
    refine call_V (As := [.int v1]) (rest := []) hx hb hml hown hts hK hP hD hS hA hZ lkX11_149 (Ctr.up (W := (lfX ct g x ++ (lfH ct (hsA g 0) g h0 ++ (lfP ct (fun j => (hsA g 0) (16 + j)) ps0)))) (W' := (lfX ct g x ++ (lfH ct (hsA g 0) g h0 ++ (lfP ct (fun j => (hsA g 0) (16 + j)) ps0)))) (c_X1_lies l G ct sk sv (hsA g 0) g n h0 v1 hc3) [3, 4, 5, 6, 7, 8, 9, 10] [0, 1, 2, 11, 12] [0, 1, 2, 5, 6, 7, 8, 9, 10, 11, 12, 3, 4] rfl rfl rfl rfl (by decide) rfl rfl) 3 rfl rfl ⟨Nat.le_of_ble_eq_true rfl, Nat.le_of_ble_eq_true rfl⟩ rfl hl.1 rfl (Nat.le_of_ble_eq_true rfl) dX11_pay_18 ⟨Nat.le_of_ble_eq_true rfl, Nat.le_of_ble_eq_true rfl⟩ (fun r9 w9 H locs hB hP hD hS => ?_)
    obtain ⟨rfl, rfl⟩ := hB
    refine WG_eq (g2 := F0 m 21 ls [.int r_3]) rfl ?_
    refine lv_if_ne (tgt := 29) hx hb dX11_pay_21 (by decide) (fun c_4 => ?_) (fun c_4 => ?_)
    · replace hf := bc_f hf c_4
      refine lv_aload_n hx hb dX11_pay_29 rfl (lv_at hl 0 rfl) ?_
      refine va_get (D := G) (C := RX11) (T := TX11) (N := 11) (v := .ref ((hsA g 0) 0)) hx hb hts iu_X11 hown hK hP 0 rfl rfl 0 (by decide) (hts _ kw262) (fun _ h9 => h9) rfl dX11_pay_30 ?_
      refine va_get (D := G) (C := RX1) (T := TX1) (N := 16) (v := .ref ((hsA g 0) 16)) hx hb hts iu_X1 hown hK hP 3 rfl rfl 15 (by decide) (hts _ kw162) (fun _ h9 => h9) rfl dX11_pay_33 ?_
      refine lv_aload_n hx hb dX11_pay_36 rfl (lv_at hl 0 rfl) ?_
      refine va_get (D := G) (C := RX11) (T := TX11) (N := 11) (v := .ref ((hsA g 0) 0)) hx hb hts iu_X11 hown hK hP 0 rfl rfl 0 (by decide) (hts _ kw262) (fun _ h9 => h9) rfl dX11_pay_37 ?_
      obtain ⟨ps0_5, hc5, hf⟩ := bd_e hf
      refine call_V (As := [.ref ((hsA g 0) 0)]) (rest := []) hx hb hml hown hts hK hP hD hS hA hZ lkX11_138 (Ctr.up (W := (lfX ct g x ++ (lfH ct (hsA g 0) g h0 ++ (lfP ct (fun j => (hsA g 0) (16 + j)) ps0)))) (W' := (lfX ct g x ++ (lfH ct (hsA g 0) g h0 ++ (lfP ct (fun j => (hsA g 0) (16 + j)) ps0_5)))) (c_X4_keep l G ct sk sv (hsA g 0) g n h0 ps0 hc5) [3, 4, 5, 6, 7, 8, 9, 10, 11, 12] [0, 1, 2] [0, 1, 2, 3, 4, 5, 6, 7, 8, 9, 10, 11, 12] rfl rfl rfl rfl (by decide) rfl rfl) 11 rfl rfl ⟨Nat.le_of_ble_eq_true rfl, Nat.le_of_ble_eq_true rfl⟩ rfl hl.1 rfl (Nat.le_of_ble_eq_true rfl) dX11_pay_40 ⟨Nat.le_of_ble_eq_true rfl, Nat.le_of_ble_eq_true rfl⟩ (fun r9 w9 H locs hB hP hD hS => ?_)
      obtain ⟨rfl, rfl⟩ := hB
      refine WG_eq (g2 := F0 m 43 ls []) rfl ?_
      refine lv_aload_n hx hb dX11_pay_43 rfl (lv_at hl 0 rfl) ?_
      refine va_get (D := G) (C := RX11) (T := TX11) (N := 11) (v := .ref ((hsA g 0) 0)) hx hb hts iu_X11 hown hK hP 0 rfl rfl 0 (by decide) (hts _ kw262) (fun _ h9 => h9) rfl dX11_pay_44 ?_
      refine lv_iload_n hx hb dX11_pay_47 rfl (lv_at hl 1 rfl) ?_
      obtain ⟨h0_6, hc6, hf⟩ := bd_e hf
      refine call_V (As := [.int v1]) (rest := []) hx hb hml hown hts hK hP hD hS hA hZ lkX11_152 (Ctr.up (W := (lfX ct g x ++ (lfH ct (hsA g 0) g h0 ++ (lfP ct (fun j => (hsA g 0) (16 + j)) ps0_5)))) (W' := (lfX ct g x ++ (lfH ct (hsA g 0) g h0_6 ++ (lfP ct (fun j => (hsA g 0) (16 + j)) ps0_5)))) (c_X1_settle l G ct sk sv (hsA g 0) g n h0 v1 hc6) [3, 4, 5, 6, 7, 8, 9, 10] [0, 1, 2, 11, 12] [0, 1, 2, 5, 6, 7, 8, 9, 10, 11, 12, 3, 4] rfl rfl rfl rfl (by decide) rfl rfl) 3 rfl rfl ⟨Nat.le_of_ble_eq_true rfl, Nat.le_of_ble_eq_true rfl⟩ rfl hl.1 rfl (Nat.le_of_ble_eq_true rfl) dX11_pay_48 ⟨Nat.le_of_ble_eq_true rfl, Nat.le_of_ble_eq_true rfl⟩ (fun r9 w9 H locs hB hP hD hS => ?_)
      obtain ⟨rfl, rfl⟩ := hB
      refine WG_eq (g2 := F0 m 51 ls []) rfl ?_
      refine lv_aload_n hx hb dX11_pay_51 rfl (lv_at hl 0 rfl) ?_
      refine va_get (D := G) (C := RX11) (T := TX11) (N := 11) (v := .ref ((hsA g 0) 0)) hx hb hts iu_X11 hown hK hP 0 rfl rfl 0 (by decide) (hts _ kw262) (fun _ h9 => h9) rfl dX11_pay_52 ?_
      refine lv_iload_n hx hb dX11_pay_55 rfl (lv_at hl 1 rfl) ?_
      obtain ⟨r_7, hc7, hf⟩ := bd_e hf
      refine call_V (As := [.int v1]) (rest := []) hx hb hml hown hts hK hP hD hS hA hZ lkX11_145 (Ctr.up (W := (lfX ct g x ++ (lfH ct (hsA g 0) g h0_6 ++ (lfP ct (fun j => (hsA g 0) (16 + j)) ps0_5)))) (W' := (lfX ct g x ++ (lfH ct (hsA g 0) g h0_6 ++ (lfP ct (fun j => (hsA g 0) (16 + j)) ps0_5)))) (c_X1_postage l G ct sk sv (hsA g 0) g n h0_6 v1 hc7) [3, 4, 5, 6, 7, 8, 9, 10] [0, 1, 2, 11, 12] [0, 1, 2, 5, 6, 7, 8, 9, 10, 11, 12, 3, 4] rfl rfl rfl rfl (by decide) rfl rfl) 3 rfl rfl ⟨Nat.le_of_ble_eq_true rfl, Nat.le_of_ble_eq_true rfl⟩ rfl hl.1 rfl (Nat.le_of_ble_eq_true rfl) dX11_pay_56 ⟨Nat.le_of_ble_eq_true rfl, Nat.le_of_ble_eq_true rfl⟩ (fun r9 w9 H locs hB hP hD hS => ?_)
      obtain ⟨rfl, rfl⟩ := hB
      refine WG_eq (g2 := F0 m 59 ls [.int r_7]) rfl ?_
      obtain ⟨e1, e2, e3, e4⟩ := inj4 (Option.some.inj hf)
      exact end_i (w' := (lfX ct g x ++ (lfH ct (hsA g 0) g h0_6 ++ (lfP ct (fun j => (hsA g 0) (16 + j)) ps0_5)))) hx hb hr hlocks hK hP hD hS dX11_pay_59  ⟨by rw [← e1], by rw [← e2, ← e3, ← e4]⟩
    · replace hf := bc_t hf c_4
      refine lv_aload_n hx hb dX11_pay_24 rfl (lv_at hl 0 rfl) ?_
      obtain ⟨r_8, x_9, hc9, hf⟩ := bd2_e hf
      refine call_V (As := []) (rest := []) hx hb hml hown hts hK hP hD hS hA hZ lkX11_135 (Ctr.up (W := (lfX ct g x ++ (lfH ct (hsA g 0) g h0 ++ (lfP ct (fun j => (hsA g 0) (16 + j)) ps0)))) (W' := (lfX ct g x_9 ++ (lfH ct (hsA g 0) g h0 ++ (lfP ct (fun j => (hsA g 0) (16 + j)) ps0)))) (c_X11_refuseNo l G ct sk sv g n x hc9) [0, 1, 2] [3, 4, 5, 6, 7, 8, 9, 10, 11, 12] [10, 11, 12, 0, 1, 2, 3, 4, 5, 6, 7, 8, 9] rfl rfl rfl rfl (by decide) rfl rfl) 0 rfl rfl ⟨Nat.le_of_ble_eq_true rfl, Nat.le_of_ble_eq_true rfl⟩ rfl hl.1 rfl (Nat.le_of_ble_eq_true rfl) dX11_pay_25 ⟨Nat.le_of_ble_eq_true rfl, Nat.le_of_ble_eq_true rfl⟩ (fun r9 w9 H locs hB hP hD hS => ?_)
      obtain ⟨rfl, rfl⟩ := hB
      refine WG_eq (g2 := F0 m 28 ls [.int r_8]) rfl ?_
      obtain ⟨e1, e2, e3, e4⟩ := inj4 (Option.some.inj hf)
      exact end_i (w' := (lfX ct g x_9 ++ (lfH ct (hsA g 0) g h0 ++ (lfP ct (fun j => (hsA g 0) (16 + j)) ps0)))) hx hb hr hlocks hK hP hD hS dX11_pay_28  ⟨by rw [← e1], by rw [← e2, ← e3, ← e4]⟩
  · replace hf := bc_t hf c_2
    refine lv_aload_n hx hb dX11_pay_8 rfl (lv_at hl 0 rfl) ?_
    obtain ⟨r_10, x_11, hc11, hf⟩ := bd2_e hf
    refine call_V (As := []) (rest := []) hx hb hml hown hts hK hP hD hS hA hZ lkX11_83 (Ctr.up (W := (lfX ct g x ++ (lfH ct (hsA g 0) g h0 ++ (lfP ct (fun j => (hsA g 0) (16 + j)) ps0)))) (W' := (lfX ct g x_11 ++ (lfH ct (hsA g 0) g h0 ++ (lfP ct (fun j => (hsA g 0) (16 + j)) ps0)))) (c_X11_refuseBad l G ct sk sv g n x hc11) [0, 1, 2] [3, 4, 5, 6, 7, 8, 9, 10, 11, 12] [10, 11, 12, 0, 1, 2, 3, 4, 5, 6, 7, 8, 9] rfl rfl rfl rfl (by decide) rfl rfl) 0 rfl rfl ⟨Nat.le_of_ble_eq_true rfl, Nat.le_of_ble_eq_true rfl⟩ rfl hl.1 rfl (Nat.le_of_ble_eq_true rfl) dX11_pay_9 ⟨Nat.le_of_ble_eq_true rfl, Nat.le_of_ble_eq_true rfl⟩ (fun r9 w9 H locs hB hP hD hS => ?_)
    obtain ⟨rfl, rfl⟩ := hB
    refine WG_eq (g2 := F0 m 12 ls [.int r_10]) rfl ?_
    obtain ⟨e1, e2, e3, e4⟩ := inj4 (Option.some.inj hf)
    exact end_i (w' := (lfX ct g x_11 ++ (lfH ct (hsA g 0) g h0 ++ (lfP ct (fun j => (hsA g 0) (16 + j)) ps0)))) hx hb hr hlocks hK hP hD hS dX11_pay_12  ⟨by rw [← e1], by rw [← e2, ← e3, ← e4]⟩
noncomputable def f_X11_penny (n : Nat) (x : MV) (h0 : MV) : Option (Int32 × MV) :=
  bd (f_X1_postageOfEvery n h0) fun r_1 =>
  bd (f_X1_weightOfEvery n h0) fun r_2 =>
  bc (0 < r_2) (bd (f_X11_setFraction n x ((r_1 : Int32).toInt64) ((r_2 : Int32).toInt64)) fun x_4 =>
  gd (¬ r_2 = 0) <|
  some (((r_1 + r_2) - 1) / r_2, x_4))
  (bd (f_X11_setFraction n x 0 1) fun x_6 =>
  some (0, x_6))
set_option maxHeartbeats 4000000 in
set_option maxRecDepth 100000 in
theorem c_X11_penny (l : Launch) (G : va_G) (ct : Nat → ClassId) (sk sv : Nat → Nat) (g : Nat → Nat) (n : Nat) (x : MV) (h0 : MV) {r : Int32} {x' : MV} (hf : f_X11_penny n x h0 = some (r, x')) : Ctr (l, G, ct, sk, sv) mX11_penny 3 107 [.ref (g 7)] (lfX ct g x ++ (lfH ct (hsA g 0) g h0)) (lfX ct g x' ++ (lfH ct (hsA g 0) g h0)) (some (.int r)) := by
  refine ctr_intro (by decide) (Nat.le_of_ble_eq_true rfl) ?_
  intro p e s m args below meth c A C hP hD hS hA ls hl
  obtain ⟨hx, hb, hml, hown, hts, hr, hlocks, hK, hnm, hZ⟩ := C
  have hb : c.code = cX11_penny := hb
  have hml : c.maxLocals = 3 := hml
  have hown : s.vm.findClass "SignedOutside" = some m.cls := hown
  have hr : meth.sig.returnType = some .int := hr
  have hP : va_P G classes (lfX ct g x ++ (lfH ct (hsA g 0) g h0)) s.heap := hP
  have hD : va_D A (lfX ct g x ++ (lfH ct (hsA g 0) g h0)) := hD
  have hK : va_K G classes (TYS ct) s := hK
  have hl : lv_has ls 3 [(0, .ref (g 7))] := hl
  unfold f_X11_penny at hf
  show WG l G ct sk sv p e (RM 3 107 0 0) s m args below meth c A (Eq2 (some (.int r)) (lfX ct g x' ++ (lfH ct (hsA g 0) g h0))) s.heap [] (F0 m 0 ls [])
  refine lv_aload_n hx hb dX11_penny_0 rfl (lv_at hl 0 rfl) ?_
  refine va_get (D := G) (C := RX11) (T := TX11) (N := 11) (v := .ref ((hsA g 0) 0)) hx hb hts iu_X11 hown hK hP 0 rfl rfl 0 (by decide) (hts _ kw262) (fun _ h9 => h9) rfl dX11_penny_1 ?_
  obtain ⟨r_1, hc1, hf⟩ := bd_e hf
  refine call_V (As := []) (rest := []) hx hb hml hown hts hK hP hD hS hA hZ lkX11_237 (Ctr.up (W := (lfX ct g x ++ (lfH ct (hsA g 0) g h0))) (W' := (lfX ct g x ++ (lfH ct (hsA g 0) g h0))) (c_X1_postageOfEvery l G ct sk sv (hsA g 0) g n h0 hc1) [3, 4, 5, 6, 7, 8, 9, 10] [0, 1, 2] [0, 1, 2, 3, 4, 5, 6, 7, 8, 9, 10] rfl rfl rfl rfl (by decide) rfl rfl) 3 rfl rfl ⟨Nat.le_of_ble_eq_true rfl, Nat.le_of_ble_eq_true rfl⟩ rfl hl.1 rfl (Nat.le_of_ble_eq_true rfl) dX11_penny_4 ⟨Nat.le_of_ble_eq_true rfl, Nat.le_of_ble_eq_true rfl⟩ (fun r9 w9 H locs hB hP hD hS => ?_)
  obtain ⟨rfl, rfl⟩ := hB
  refine WG_eq (g2 := F0 m 7 ls [.int r_1]) rfl ?_
  refine lv_istore_n (lv' := [(1, .int r_1), (0, .ref (g 7))]) hx hb dX11_penny_7 rfl hl (by decide) rfl (fun ls hl => ?_)
  refine lv_aload_n hx hb dX11_penny_8 rfl (lv_at hl 1 rfl) ?_
  refine va_get (D := G) (C := RX11) (T := TX11) (N := 11) (v := .ref ((hsA g 0) 0)) hx hb hts iu_X11 hown hK hP 0 rfl rfl 0 (by decide) (hts _ kw262) (fun _ h9 => h9) rfl dX11_penny_9 ?_
  obtain ⟨r_2, hc2, hf⟩ := bd_e hf
  refine call_V (As := []) (rest := []) hx hb hml hown hts hK hP hD hS hA hZ lkX11_240 (Ctr.up (W := (lfX ct g x ++ (lfH ct (hsA g 0) g h0))) (W' := (lfX ct g x ++ (lfH ct (hsA g 0) g h0))) (c_X1_weightOfEvery l G ct sk sv (hsA g 0) g n h0 hc2) [3, 4, 5, 6, 7, 8, 9, 10] [0, 1, 2] [0, 1, 2, 3, 4, 5, 6, 7, 8, 9, 10] rfl rfl rfl rfl (by decide) rfl rfl) 3 rfl rfl ⟨Nat.le_of_ble_eq_true rfl, Nat.le_of_ble_eq_true rfl⟩ rfl hl.1 rfl (Nat.le_of_ble_eq_true rfl) dX11_penny_12 ⟨Nat.le_of_ble_eq_true rfl, Nat.le_of_ble_eq_true rfl⟩ (fun r9 w9 H locs hB hP hD hS => ?_)
  obtain ⟨rfl, rfl⟩ := hB
  refine WG_eq (g2 := F0 m 15 ls [.int r_2]) rfl ?_
  refine lv_istore_n (lv' := [(2, .int r_2), (1, .int r_1), (0, .ref (g 7))]) hx hb dX11_penny_15 rfl hl (by decide) rfl (fun ls hl => ?_)
  refine lv_iload_n hx hb dX11_penny_16 rfl (lv_at hl 0 rfl) ?_
  refine lv_if_gt (tgt := 28) hx hb dX11_penny_17 (by decide) (fun c_3 => ?_) (fun c_3 => ?_)
  · replace hf := bc_t hf c_3
    refine lv_aload_n hx hb dX11_penny_28 rfl (lv_at hl 2 rfl) ?_
    refine lv_iload_n hx hb dX11_penny_29 rfl (lv_at hl 1 rfl) ?_
    refine lv_i2l (v := (r_1 : Int32).toInt64) hx hb dX11_penny_30 rfl ?_
    refine lv_iload_n hx hb dX11_penny_31 rfl (lv_at hl 0 rfl) ?_
    refine lv_i2l (v := (r_2 : Int32).toInt64) hx hb dX11_penny_32 rfl ?_
    obtain ⟨x_4, hc4, hf⟩ := bd_e hf
    refine call_V (As := [.long ((r_1 : Int32).toInt64), .long ((r_2 : Int32).toInt64)]) (rest := []) hx hb hml hown hts hK hP hD hS hA hZ lkX11_243 (Ctr.up (W := (lfX ct g x ++ (lfH ct (hsA g 0) g h0))) (W' := (lfX ct g x_4 ++ (lfH ct (hsA g 0) g h0))) (c_X11_setFraction l G ct sk sv g n x ((r_1 : Int32).toInt64) ((r_2 : Int32).toInt64) hc4) [0, 1, 2] [3, 4, 5, 6, 7, 8, 9, 10] [8, 9, 10, 0, 1, 2, 3, 4, 5, 6, 7] rfl rfl rfl rfl (by decide) rfl rfl) 0 rfl rfl ⟨Nat.le_of_ble_eq_true rfl, Nat.le_of_ble_eq_true rfl⟩ rfl hl.1 rfl (Nat.le_of_ble_eq_true rfl) dX11_penny_33 ⟨Nat.le_of_ble_eq_true rfl, Nat.le_of_ble_eq_true rfl⟩ (fun r9 w9 H locs hB hP hD hS => ?_)
    obtain ⟨rfl, rfl⟩ := hB
    refine WG_eq (g2 := F0 m 36 ls []) rfl ?_
    refine lv_iload_n hx hb dX11_penny_36 rfl (lv_at hl 1 rfl) ?_
    refine lv_iload_n hx hb dX11_penny_37 rfl (lv_at hl 0 rfl) ?_
    refine lv_iadd hx hb dX11_penny_38 ?_
    refine lv_iconst (v := 1) hx hb dX11_penny_39 (by decide) ?_
    refine lv_isub hx hb dX11_penny_40 ?_
    refine lv_iload_n hx hb dX11_penny_41 rfl (lv_at hl 0 rfl) ?_
    obtain ⟨g_5, hf⟩ := gd_e hf
    refine lv_idiv hx hb dX11_penny_42 g_5 ?_
    obtain ⟨e1, e2⟩ := inj2 (Option.some.inj hf)
    exact end_i (w' := (lfX ct g x_4 ++ (lfH ct (hsA g 0) g h0))) hx hb hr hlocks hK hP hD hS dX11_penny_43  ⟨by rw [← e1], by rw [← e2]⟩
  · replace hf := bc_f hf c_3
    refine lv_aload_n hx hb dX11_penny_20 rfl (lv_at hl 2 rfl) ?_
    refine lv_lconst (v := 0) hx hb dX11_penny_21 (by decide) ?_
    refine lv_lconst (v := 1) hx hb dX11_penny_22 (by decide) ?_
    obtain ⟨x_6, hc6, hf⟩ := bd_e hf
    refine call_V (As := [.long 0, .long 1]) (rest := []) hx hb hml hown hts hK hP hD hS hA hZ lkX11_243 (Ctr.up (W := (lfX ct g x ++ (lfH ct (hsA g 0) g h0))) (W' := (lfX ct g x_6 ++ (lfH ct (hsA g 0) g h0))) (c_X11_setFraction l G ct sk sv g n x 0 1 hc6) [0, 1, 2] [3, 4, 5, 6, 7, 8, 9, 10] [8, 9, 10, 0, 1, 2, 3, 4, 5, 6, 7] rfl rfl rfl rfl (by decide) rfl rfl) 0 rfl rfl ⟨Nat.le_of_ble_eq_true rfl, Nat.le_of_ble_eq_true rfl⟩ rfl hl.1 rfl (Nat.le_of_ble_eq_true rfl) dX11_penny_23 ⟨Nat.le_of_ble_eq_true rfl, Nat.le_of_ble_eq_true rfl⟩ (fun r9 w9 H locs hB hP hD hS => ?_)
    obtain ⟨rfl, rfl⟩ := hB
    refine WG_eq (g2 := F0 m 26 ls []) rfl ?_
    refine lv_iconst (v := 0) hx hb dX11_penny_26 (by decide) ?_
    obtain ⟨e1, e2⟩ := inj2 (Option.some.inj hf)
    exact end_i (w' := (lfX ct g x_6 ++ (lfH ct (hsA g 0) g h0))) hx hb hr hlocks hK hP hD hS dX11_penny_27  ⟨by rw [← e1], by rw [← e2]⟩
noncomputable def f_X11_sell_j29 (n : Nat) (x : MV) (nv : MV) (h0 : MV) : Option (Int32 × MV) :=
  bd2 (f_X11_refuseBad n x) fun r_1 x_2 =>
  some (r_1, x_2)
noncomputable def f_X11_sell (n : Nat) (x : MV) (nv : MV) (h0 : MV) (v1 : Int32) (v2 : Int32) (v3 : Int32) : Option (Int32 × MV) :=
  bd (f_X11_isMember n x h0 v1) fun r_3 =>
  bc (r_3 = 0) (f_X11_sell_j29 n x nv h0)
  (bd (f_X11_isMember n x h0 v2) fun r_5 =>
  bc (r_5 = 0) (f_X11_sell_j29 n x nv h0)
  (bc (v1 = v2) (f_X11_sell_j29 n x nv h0)
  (bd (f_X11_isLetter n x h0 v3) fun r_8 =>
  bc (r_8 = 0) (f_X11_sell_j29 n x nv h0)
  (bd (f_X1_lies n h0 v3) fun r_10 =>
  bc (r_10 = 0) (bd2 (f_X11_refuseNo n x) fun r_16 x_17 =>
  some (r_16, x_17))
  (bd (f_X1_mayFrank n h0 v3 v1) fun r_12 =>
  bd (f_X1_mayFrank n h0 v3 v2) fun r_13 =>
  bd (f_X1_postage n h0 v3) fun r_14 =>
  bd (f_X3_pairsThatRest n r_12 r_13 r_14) fun r_15 =>
  some (r_15, x))))))
set_option maxHeartbeats 4000000 in
set_option maxRecDepth 100000 in
theorem c_X11_sell (l : Launch) (G : va_G) (ct : Nat → ClassId) (sk sv : Nat → Nat) (g : Nat → Nat) (n : Nat) (x : MV) (nv : MV) (h0 : MV) (v1 : Int32) (v2 : Int32) (v3 : Int32) {r : Int32} {x' : MV} (hf : f_X11_sell n x nv h0 v1 v2 v3 = some (r, x')) : Ctr (l, G, ct, sk, sv) mX11_sell 6 206 [.ref (g 7), .int v1, .int v2, .int v3] (lfX ct g x ++ (lfN ct (fun j => g (10 + j)) nv ++ (lfH ct (hsA g 0) g h0 ++ (lfK ct g)))) (lfX ct g x' ++ (lfN ct (fun j => g (10 + j)) nv ++ (lfH ct (hsA g 0) g h0 ++ (lfK ct g)))) (some (.int r)) := by
  refine ctr_intro (by decide) (Nat.le_of_ble_eq_true rfl) ?_
  intro p e s m args below meth c A C hP hD hS hA ls hl
  obtain ⟨hx, hb, hml, hown, hts, hr, hlocks, hK, hnm, hZ⟩ := C
  have hb : c.code = cX11_sell := hb
  have hml : c.maxLocals = 4 := hml
  have hown : s.vm.findClass "SignedOutside" = some m.cls := hown
  have hr : meth.sig.returnType = some .int := hr
  have hP : va_P G classes (lfX ct g x ++ (lfN ct (fun j => g (10 + j)) nv ++ (lfH ct (hsA g 0) g h0 ++ (lfK ct g)))) s.heap := hP
  have hD : va_D A (lfX ct g x ++ (lfN ct (fun j => g (10 + j)) nv ++ (lfH ct (hsA g 0) g h0 ++ (lfK ct g)))) := hD
  have hK : va_K G classes (TYS ct) s := hK
  have hl : lv_has ls 4 [(0, .ref (g 7)), (1, .int v1), (2, .int v2), (3, .int v3)] := hl
  have J29 : ∀ (x : MV) (H : Heap) (locs : List Loc) (ls : Array Slot), va_P G classes (lfX ct g x ++ (lfN ct (fun j => g (10 + j)) nv ++ (lfH ct (hsA g 0) g h0 ++ (lfK ct g)))) H → va_D A (lfX ct g x ++ (lfN ct (fun j => g (10 + j)) nv ++ (lfH ct (hsA g 0) g h0 ++ (lfK ct g)))) → va_S A s.heap H locs → lv_has ls 4 [(0, .ref (g 7))] → f_X11_sell_j29 n x nv h0 = some (r, x') → WG l G ct sk sv p e (RM 6 206 0 0) s m args below meth c A (Eq2 (some (.int r)) (lfX ct g x' ++ (lfN ct (fun j => g (10 + j)) nv ++ (lfH ct (hsA g 0) g h0 ++ (lfK ct g))))) H locs (F0 m 29 ls []) := by
    intro x H locs ls hP hD hS hl hf
    unfold f_X11_sell_j29 at hf
    refine lv_aload_n hx hb dX11_sell_29 rfl (lv_at hl 0 rfl) ?_
    obtain ⟨r_1, x_2, hc2, hf⟩ := bd2_e hf
    refine call_V (As := []) (rest := []) hx hb hml hown hts hK hP hD hS hA hZ lkX11_83 (Ctr.up (W := (lfX ct g x ++ (lfN ct (fun j => g (10 + j)) nv ++ (lfH ct (hsA g 0) g h0 ++ (lfK ct g))))) (W' := (lfX ct g x_2 ++ (lfN ct (fun j => g (10 + j)) nv ++ (lfH ct (hsA g 0) g h0 ++ (lfK ct g))))) (c_X11_refuseBad l G ct sk sv g n x hc2) [0, 1, 2] [3, 4, 5, 6, 7, 8, 9, 10, 11, 12, 13, 14, 15, 16, 17, 18, 19, 20, 21, 22, 23, 24, 25] [23, 24, 25, 0, 1, 2, 3, 4, 5, 6, 7, 8, 9, 10, 11, 12, 13, 14, 15, 16, 17, 18, 19, 20, 21, 22] rfl rfl rfl rfl (by decide) rfl rfl) 0 rfl rfl ⟨Nat.le_of_ble_eq_true rfl, Nat.le_of_ble_eq_true rfl⟩ rfl hl.1 rfl (Nat.le_of_ble_eq_true rfl) dX11_sell_30 ⟨Nat.le_of_ble_eq_true rfl, Nat.le_of_ble_eq_true rfl⟩ (fun r9 w9 H locs hB hP hD hS => ?_)
    obtain ⟨rfl, rfl⟩ := hB
    refine WG_eq (g2 := F0 m 33 ls [.int r_1]) rfl ?_
    obtain ⟨e1, e2⟩ := inj2 (Option.some.inj hf)
    exact end_i (w' := (lfX ct g x_2 ++ (lfN ct (fun j => g (10 + j)) nv ++ (lfH ct (hsA g 0) g h0 ++ (lfK ct g))))) hx hb hr hlocks hK hP hD hS dX11_sell_33  ⟨by rw [← e1], by rw [← e2]⟩
  unfold f_X11_sell at hf
  show WG l G ct sk sv p e (RM 6 206 0 0) s m args below meth c A (Eq2 (some (.int r)) (lfX ct g x' ++ (lfN ct (fun j => g (10 + j)) nv ++ (lfH ct (hsA g 0) g h0 ++ (lfK ct g))))) s.heap [] (F0 m 0 ls [])
  refine lv_aload_n hx hb dX11_sell_0 rfl (lv_at hl 0 rfl) ?_
  refine lv_iload_n hx hb dX11_sell_1 rfl (lv_at hl 1 rfl) ?_
  obtain ⟨r_3, hc3, hf⟩ := bd_e hf
  refine call_V (As := [.int v1]) (rest := []) hx hb hml hown hts hK hP hD hS hA hZ lkX11_128 (Ctr.up (W := (lfX ct g x ++ (lfN ct (fun j => g (10 + j)) nv ++ (lfH ct (hsA g 0) g h0 ++ (lfK ct g))))) (W' := (lfX ct g x ++ (lfN ct (fun j => g (10 + j)) nv ++ (lfH ct (hsA g 0) g h0 ++ (lfK ct g))))) (c_X11_isMember l G ct sk sv g n x h0 v1 hc3) [0, 1, 2, 11, 12, 13, 14, 15, 16, 17, 18] [3, 4, 5, 6, 7, 8, 9, 10, 19, 20, 21, 22, 23, 24, 25] [15, 16, 17, 0, 1, 2, 3, 4, 5, 6, 7, 18, 19, 20, 21, 22, 23, 24, 25, 8, 9, 10, 11, 12, 13, 14] rfl rfl rfl rfl (by decide) rfl rfl) 0 rfl rfl ⟨Nat.le_of_ble_eq_true rfl, Nat.le_of_ble_eq_true rfl⟩ rfl hl.1 rfl (Nat.le_of_ble_eq_true rfl) dX11_sell_2 ⟨Nat.le_of_ble_eq_true rfl, Nat.le_of_ble_eq_true rfl⟩ (fun r9 w9 H locs hB hP hD hS => ?_)
  obtain ⟨rfl, rfl⟩ := hB
  refine WG_eq (g2 := F0 m 5 ls [.int r_3]) rfl ?_
  refine lv_if_eq (tgt := 29) hx hb dX11_sell_5 (by decide) (fun c_4 => ?_) (fun c_4 => ?_)
  · replace hf := bc_t hf c_4
    exact J29 x _ _ _ hP hD hS (lv_sub hl [0] rfl) hf
  · replace hf := bc_f hf c_4
    refine lv_aload_n hx hb dX11_sell_8 rfl (lv_at hl 0 rfl) ?_
    refine lv_iload_n hx hb dX11_sell_9 rfl (lv_at hl 2 rfl) ?_
    obtain ⟨r_5, hc5, hf⟩ := bd_e hf
    refine call_V (As := [.int v2]) (rest := []) hx hb hml hown hts hK hP hD hS hA hZ lkX11_128 (Ctr.up (W := (lfX ct g x ++ (lfN ct (fun j => g (10 + j)) nv ++ (lfH ct (hsA g 0) g h0 ++ (lfK ct g))))) (W' := (lfX ct g x ++ (lfN ct (fun j => g (10 + j)) nv ++ (lfH ct (hsA g 0) g h0 ++ (lfK ct g))))) (c_X11_isMember l G ct sk sv g n x h0 v2 hc5) [0, 1, 2, 11, 12, 13, 14, 15, 16, 17, 18] [3, 4, 5, 6, 7, 8, 9, 10, 19, 20, 21, 22, 23, 24, 25] [15, 16, 17, 0, 1, 2, 3, 4, 5, 6, 7, 18, 19, 20, 21, 22, 23, 24, 25, 8, 9, 10, 11, 12, 13, 14] rfl rfl rfl rfl (by decide) rfl rfl) 0 rfl rfl ⟨Nat.le_of_ble_eq_true rfl, Nat.le_of_ble_eq_true rfl⟩ rfl hl.1 rfl (Nat.le_of_ble_eq_true rfl) dX11_sell_10 ⟨Nat.le_of_ble_eq_true rfl, Nat.le_of_ble_eq_true rfl⟩ (fun r9 w9 H locs hB hP hD hS => ?_)
    obtain ⟨rfl, rfl⟩ := hB
    refine WG_eq (g2 := F0 m 13 ls [.int r_5]) rfl ?_
    refine lv_if_eq (tgt := 29) hx hb dX11_sell_13 (by decide) (fun c_6 => ?_) (fun c_6 => ?_)
    · replace hf := bc_t hf c_6
      exact J29 x _ _ _ hP hD hS (lv_sub hl [0] rfl) hf
    · replace hf := bc_f hf c_6
      refine lv_iload_n hx hb dX11_sell_16 rfl (lv_at hl 1 rfl) ?_
      refine lv_iload_n hx hb dX11_sell_17 rfl (lv_at hl 2 rfl) ?_
      refine lv_icmp_eq (tgt := 29) hx hb dX11_sell_18 (by decide) (fun c_7 => ?_) (fun c_7 => ?_)
      · replace hf := bc_t hf c_7
        exact J29 x _ _ _ hP hD hS (lv_sub hl [0] rfl) hf
      · replace hf := bc_f hf c_7
        refine lv_aload_n hx hb dX11_sell_21 rfl (lv_at hl 0 rfl) ?_
        refine lv_iload_n hx hb dX11_sell_22 rfl (lv_at hl 3 rfl) ?_
        obtain ⟨r_8, hc8, hf⟩ := bd_e hf
        refine call_V (As := [.int v3]) (rest := []) hx hb hml hown hts hK hP hD hS hA hZ lkX11_125 (Ctr.up (W := (lfX ct g x ++ (lfN ct (fun j => g (10 + j)) nv ++ (lfH ct (hsA g 0) g h0 ++ (lfK ct g))))) (W' := (lfX ct g x ++ (lfN ct (fun j => g (10 + j)) nv ++ (lfH ct (hsA g 0) g h0 ++ (lfK ct g))))) (c_X11_isLetter l G ct sk sv g n x h0 v3 hc8) [0, 1, 2, 11, 12, 13, 14, 15, 16, 17, 18] [3, 4, 5, 6, 7, 8, 9, 10, 19, 20, 21, 22, 23, 24, 25] [15, 16, 17, 0, 1, 2, 3, 4, 5, 6, 7, 18, 19, 20, 21, 22, 23, 24, 25, 8, 9, 10, 11, 12, 13, 14] rfl rfl rfl rfl (by decide) rfl rfl) 0 rfl rfl ⟨Nat.le_of_ble_eq_true rfl, Nat.le_of_ble_eq_true rfl⟩ rfl hl.1 rfl (Nat.le_of_ble_eq_true rfl) dX11_sell_23 ⟨Nat.le_of_ble_eq_true rfl, Nat.le_of_ble_eq_true rfl⟩ (fun r9 w9 H locs hB hP hD hS => ?_)
        obtain ⟨rfl, rfl⟩ := hB
        refine WG_eq (g2 := F0 m 26 ls [.int r_8]) rfl ?_
        refine lv_if_ne (tgt := 34) hx hb dX11_sell_26 (by decide) (fun c_9 => ?_) (fun c_9 => ?_)
        · replace hf := bc_f hf c_9
          refine lv_aload_n hx hb dX11_sell_34 rfl (lv_at hl 0 rfl) ?_
          refine va_get (D := G) (C := RX11) (T := TX11) (N := 11) (v := .ref ((hsA g 0) 0)) hx hb hts iu_X11 hown hK hP 0 rfl rfl 0 (by decide) (hts _ kw262) (fun _ h9 => h9) rfl dX11_sell_35 ?_
          refine lv_iload_n hx hb dX11_sell_38 rfl (lv_at hl 3 rfl) ?_
          obtain ⟨r_10, hc10, hf⟩ := bd_e hf
          refine call_V (As := [.int v3]) (rest := []) hx hb hml hown hts hK hP hD hS hA hZ lkX11_149 (Ctr.up (W := (lfX ct g x ++ (lfN ct (fun j => g (10 + j)) nv ++ (lfH ct (hsA g 0) g h0 ++ (lfK ct g))))) (W' := (lfX ct g x ++ (lfN ct (fun j => g (10 + j)) nv ++ (lfH ct (hsA g 0) g h0 ++ (lfK ct g))))) (c_X1_lies l G ct sk sv (hsA g 0) g n h0 v3 hc10) [11, 12, 13, 14, 15, 16, 17, 18] [0, 1, 2, 3, 4, 5, 6, 7, 8, 9, 10, 19, 20, 21, 22, 23, 24, 25] [0, 1, 2, 3, 4, 5, 6, 7, 8, 9, 10, 18, 19, 20, 21, 22, 23, 24, 25, 11, 12, 13, 14, 15, 16, 17] rfl rfl rfl rfl (by decide) rfl rfl) 11 rfl rfl ⟨Nat.le_of_ble_eq_true rfl, Nat.le_of_ble_eq_true rfl⟩ rfl hl.1 rfl (Nat.le_of_ble_eq_true rfl) dX11_sell_39 ⟨Nat.le_of_ble_eq_true rfl, Nat.le_of_ble_eq_true rfl⟩ (fun r9 w9 H locs hB hP hD hS => ?_)
          obtain ⟨rfl, rfl⟩ := hB
          refine WG_eq (g2 := F0 m 42 ls [.int r_10]) rfl ?_
          refine lv_if_ne (tgt := 50) hx hb dX11_sell_42 (by decide) (fun c_11 => ?_) (fun c_11 => ?_)
          · replace hf := bc_f hf c_11
            refine lv_aload_n hx hb dX11_sell_50 rfl (lv_at hl 0 rfl) ?_
            refine va_get (D := G) (C := RX11) (T := TX11) (N := 11) (v := .ref (g 10)) hx hb hts iu_X11 hown hK hP 0 rfl rfl 4 (by decide) (hts _ kw266) (fun _ h9 => h9) rfl dX11_sell_51 ?_
            refine lv_aload_n hx hb dX11_sell_54 rfl (lv_at hl 0 rfl) ?_
            refine va_get (D := G) (C := RX11) (T := TX11) (N := 11) (v := .ref ((hsA g 0) 0)) hx hb hts iu_X11 hown hK hP 0 rfl rfl 0 (by decide) (hts _ kw262) (fun _ h9 => h9) rfl dX11_sell_55 ?_
            refine lv_iload_n hx hb dX11_sell_58 rfl (lv_at hl 3 rfl) ?_
            refine lv_iload_n hx hb dX11_sell_59 rfl (lv_at hl 1 rfl) ?_
            obtain ⟨r_12, hc12, hf⟩ := bd_e hf
            refine call_V (As := [.int v3, .int v1]) (rest := [.ref (g 10)]) hx hb hml hown hts hK hP hD hS hA hZ lkX11_131 (Ctr.up (W := (lfX ct g x ++ (lfN ct (fun j => g (10 + j)) nv ++ (lfH ct (hsA g 0) g h0 ++ (lfK ct g))))) (W' := (lfX ct g x ++ (lfN ct (fun j => g (10 + j)) nv ++ (lfH ct (hsA g 0) g h0 ++ (lfK ct g))))) (c_X1_mayFrank l G ct sk sv (hsA g 0) g n h0 v3 v1 hc12) [11, 12, 13, 14, 15, 16, 17, 18, 19, 20, 21, 22, 23, 24, 25] [0, 1, 2, 3, 4, 5, 6, 7, 8, 9, 10] [0, 1, 2, 3, 4, 5, 6, 7, 8, 9, 10, 11, 12, 13, 14, 15, 16, 17, 18, 19, 20, 21, 22, 23, 24, 25] rfl rfl rfl rfl (by decide) rfl rfl) 11 rfl rfl ⟨Nat.le_of_ble_eq_true rfl, Nat.le_of_ble_eq_true rfl⟩ rfl hl.1 rfl (Nat.le_of_ble_eq_true rfl) dX11_sell_60 ⟨Nat.le_of_ble_eq_true rfl, Nat.le_of_ble_eq_true rfl⟩ (fun r9 w9 H locs hB hP hD hS => ?_)
            obtain ⟨rfl, rfl⟩ := hB
            refine WG_eq (g2 := F0 m 63 ls [.int r_12, .ref (g 10)]) rfl ?_
            refine lv_aload_n hx hb dX11_sell_63 rfl (lv_at hl 0 rfl) ?_
            refine va_get (D := G) (C := RX11) (T := TX11) (N := 11) (v := .ref ((hsA g 0) 0)) hx hb hts iu_X11 hown hK hP 0 rfl rfl 0 (by decide) (hts _ kw262) (fun _ h9 => h9) rfl dX11_sell_64 ?_
            refine lv_iload_n hx hb dX11_sell_67 rfl (lv_at hl 3 rfl) ?_
            refine lv_iload_n hx hb dX11_sell_68 rfl (lv_at hl 2 rfl) ?_
            obtain ⟨r_13, hc13, hf⟩ := bd_e hf
            refine call_V (As := [.int v3, .int v2]) (rest := [.int r_12, .ref (g 10)]) hx hb hml hown hts hK hP hD hS hA hZ lkX11_131 (Ctr.up (W := (lfX ct g x ++ (lfN ct (fun j => g (10 + j)) nv ++ (lfH ct (hsA g 0) g h0 ++ (lfK ct g))))) (W' := (lfX ct g x ++ (lfN ct (fun j => g (10 + j)) nv ++ (lfH ct (hsA g 0) g h0 ++ (lfK ct g))))) (c_X1_mayFrank l G ct sk sv (hsA g 0) g n h0 v3 v2 hc13) [11, 12, 13, 14, 15, 16, 17, 18, 19, 20, 21, 22, 23, 24, 25] [0, 1, 2, 3, 4, 5, 6, 7, 8, 9, 10] [0, 1, 2, 3, 4, 5, 6, 7, 8, 9, 10, 11, 12, 13, 14, 15, 16, 17, 18, 19, 20, 21, 22, 23, 24, 25] rfl rfl rfl rfl (by decide) rfl rfl) 11 rfl rfl ⟨Nat.le_of_ble_eq_true rfl, Nat.le_of_ble_eq_true rfl⟩ rfl hl.1 rfl (Nat.le_of_ble_eq_true rfl) dX11_sell_69 ⟨Nat.le_of_ble_eq_true rfl, Nat.le_of_ble_eq_true rfl⟩ (fun r9 w9 H locs hB hP hD hS => ?_)
            obtain ⟨rfl, rfl⟩ := hB
            refine WG_eq (g2 := F0 m 72 ls [.int r_13, .int r_12, .ref (g 10)]) rfl ?_
            refine lv_aload_n hx hb dX11_sell_72 rfl (lv_at hl 0 rfl) ?_
            refine va_get (D := G) (C := RX11) (T := TX11) (N := 11) (v := .ref ((hsA g 0) 0)) hx hb hts iu_X11 hown hK hP 0 rfl rfl 0 (by decide) (hts _ kw262) (fun _ h9 => h9) rfl dX11_sell_73 ?_
            refine lv_iload_n hx hb dX11_sell_76 rfl (lv_at hl 3 rfl) ?_
            obtain ⟨r_14, hc14, hf⟩ := bd_e hf
            refine call_V (As := [.int v3]) (rest := [.int r_13, .int r_12, .ref (g 10)]) hx hb hml hown hts hK hP hD hS hA hZ lkX11_145 (Ctr.up (W := (lfX ct g x ++ (lfN ct (fun j => g (10 + j)) nv ++ (lfH ct (hsA g 0) g h0 ++ (lfK ct g))))) (W' := (lfX ct g x ++ (lfN ct (fun j => g (10 + j)) nv ++ (lfH ct (hsA g 0) g h0 ++ (lfK ct g))))) (c_X1_postage l G ct sk sv (hsA g 0) g n h0 v3 hc14) [11, 12, 13, 14, 15, 16, 17, 18] [0, 1, 2, 3, 4, 5, 6, 7, 8, 9, 10, 19, 20, 21, 22, 23, 24, 25] [0, 1, 2, 3, 4, 5, 6, 7, 8, 9, 10, 18, 19, 20, 21, 22, 23, 24, 25, 11, 12, 13, 14, 15, 16, 17] rfl rfl rfl rfl (by decide) rfl rfl) 11 rfl rfl ⟨Nat.le_of_ble_eq_true rfl, Nat.le_of_ble_eq_true rfl⟩ rfl hl.1 rfl (Nat.le_of_ble_eq_true rfl) dX11_sell_77 ⟨Nat.le_of_ble_eq_true rfl, Nat.le_of_ble_eq_true rfl⟩ (fun r9 w9 H locs hB hP hD hS => ?_)
            obtain ⟨rfl, rfl⟩ := hB
            refine WG_eq (g2 := F0 m 80 ls [.int r_14, .int r_13, .int r_12, .ref (g 10)]) rfl ?_
            obtain ⟨r_15, hc15, hf⟩ := bd_e hf
            refine call_V (As := [.int r_12, .int r_13, .int r_14]) (rest := []) hx hb hml hown hts hK hP hD hS hA hZ lkX11_289 (Ctr.up (W := (lfX ct g x ++ (lfN ct (fun j => g (10 + j)) nv ++ (lfH ct (hsA g 0) g h0 ++ (lfK ct g))))) (W' := (lfX ct g x ++ (lfN ct (fun j => g (10 + j)) nv ++ (lfH ct (hsA g 0) g h0 ++ (lfK ct g))))) (c_X3_pairsThatRest l G ct sk sv (fun j => g (10 + j)) n r_12 r_13 r_14 hc15) [] [0, 1, 2, 3, 4, 5, 6, 7, 8, 9, 10, 11, 12, 13, 14, 15, 16, 17, 18, 19, 20, 21, 22, 23, 24, 25] [0, 1, 2, 3, 4, 5, 6, 7, 8, 9, 10, 11, 12, 13, 14, 15, 16, 17, 18, 19, 20, 21, 22, 23, 24, 25] rfl rfl rfl rfl (by decide) rfl rfl) 3 rfl rfl ⟨Nat.le_of_ble_eq_true rfl, Nat.le_of_ble_eq_true rfl⟩ rfl hl.1 rfl (Nat.le_of_ble_eq_true rfl) dX11_sell_80 ⟨Nat.le_of_ble_eq_true rfl, Nat.le_of_ble_eq_true rfl⟩ (fun r9 w9 H locs hB hP hD hS => ?_)
            obtain ⟨rfl, rfl⟩ := hB
            refine WG_eq (g2 := F0 m 83 ls [.int r_15]) rfl ?_
            obtain ⟨e1, e2⟩ := inj2 (Option.some.inj hf)
            exact end_i (w' := (lfX ct g x ++ (lfN ct (fun j => g (10 + j)) nv ++ (lfH ct (hsA g 0) g h0 ++ (lfK ct g))))) hx hb hr hlocks hK hP hD hS dX11_sell_83  ⟨by rw [← e1], by rw [← e2]⟩
          · replace hf := bc_t hf c_11
            refine lv_aload_n hx hb dX11_sell_45 rfl (lv_at hl 0 rfl) ?_
            obtain ⟨r_16, x_17, hc17, hf⟩ := bd2_e hf
            refine call_V (As := []) (rest := []) hx hb hml hown hts hK hP hD hS hA hZ lkX11_135 (Ctr.up (W := (lfX ct g x ++ (lfN ct (fun j => g (10 + j)) nv ++ (lfH ct (hsA g 0) g h0 ++ (lfK ct g))))) (W' := (lfX ct g x_17 ++ (lfN ct (fun j => g (10 + j)) nv ++ (lfH ct (hsA g 0) g h0 ++ (lfK ct g))))) (c_X11_refuseNo l G ct sk sv g n x hc17) [0, 1, 2] [3, 4, 5, 6, 7, 8, 9, 10, 11, 12, 13, 14, 15, 16, 17, 18, 19, 20, 21, 22, 23, 24, 25] [23, 24, 25, 0, 1, 2, 3, 4, 5, 6, 7, 8, 9, 10, 11, 12, 13, 14, 15, 16, 17, 18, 19, 20, 21, 22] rfl rfl rfl rfl (by decide) rfl rfl) 0 rfl rfl ⟨Nat.le_of_ble_eq_true rfl, Nat.le_of_ble_eq_true rfl⟩ rfl hl.1 rfl (Nat.le_of_ble_eq_true rfl) dX11_sell_46 ⟨Nat.le_of_ble_eq_true rfl, Nat.le_of_ble_eq_true rfl⟩ (fun r9 w9 H locs hB hP hD hS => ?_)
            obtain ⟨rfl, rfl⟩ := hB
            refine WG_eq (g2 := F0 m 49 ls [.int r_16]) rfl ?_
            obtain ⟨e1, e2⟩ := inj2 (Option.some.inj hf)
            exact end_i (w' := (lfX ct g x_17 ++ (lfN ct (fun j => g (10 + j)) nv ++ (lfH ct (hsA g 0) g h0 ++ (lfK ct g))))) hx hb hr hlocks hK hP hD hS dX11_sell_49  ⟨by rw [← e1], by rw [← e2]⟩
        · replace hf := bc_t hf c_9
          exact J29 x _ _ _ hP hD hS (lv_sub hl [0] rfl) hf
noncomputable def f_X11_sessions_j153 (n : Nat) (x : MV) (h0 : MV) (h1 : MV) (nt0 : MV) (cv0 : MV) (nt1 : MV) (cv1 : MV) (ps0 : MV) (ps1 : MV) (v3 : Int64) (v5 : Int32) (v2 : Int32) : Option ((Int32 × Int64 × MV) ⊕ (MV)) :=
  bl (v5 + 1) fun v5_1 =>
  some (.inl (v5_1, v3, h1))
noncomputable def f_X11_sessions_j132 (n : Nat) (x : MV) (h0 : MV) (h1 : MV) (nt0 : MV) (cv0 : MV) (nt1 : MV) (cv1 : MV) (ps0 : MV) (ps1 : MV) (v3 : Int64) (v5 : Int32) (v2 : Int32) : Option ((Int32 × Int64 × MV) ⊕ (MV)) :=
  bl (v3 / 1048576) fun w_2 =>
  bc ((lg_cmp (w_2 - w_2 / 4 * 4) 0) = 0) (bd (f_X1_passDay n h1) fun h1_4 =>
  f_X11_sessions_j153 n x h0 h1_4 nt0 cv0 nt1 cv1 ps0 ps1 v3 v5 v2)
  (f_X11_sessions_j153 n x h0 h1 nt0 cv0 nt1 cv1 ps0 ps1 v3 v5 v2)
noncomputable def f_X11_sessions_b43 (n : Nat) (x : MV) (h0 : MV) (h1 : MV) (nt0 : MV) (cv0 : MV) (nt1 : MV) (cv1 : MV) (ps0 : MV) (ps1 : MV) (v5 : Int32) (v3 : Int64) (v2 : Int32) : Option ((Int32 × Int64 × MV) ⊕ (MV)) :=
  bc (v2 ≤ v5) (some (.inr h1))
  (bd (f_X11_nextX n v3) fun r_6 =>
  bl (r_6 / 65536) fun w_7 =>
  bl ((w_7 - w_7 / 6 * 6 : Int64).toInt32) fun v6_8 =>
  bd (f_X11_nextX n r_6) fun r_9 =>
  bl (r_9 / 65536) fun w_10 =>
  bl ((w_10 - w_10 / 5 * 5 : Int64).toInt32) fun v7_11 =>
  bc ((h1.1 1) ≤ v6_8) (f_X11_sessions_j132 n x h0 h1 nt0 cv0 nt1 cv1 ps0 ps1 r_9 v5 v2)
  (bc ((h1.1 0) ≤ v7_11) (f_X11_sessions_j132 n x h0 h1 nt0 cv0 nt1 cv1 ps0 ps1 r_9 v5 v2)
  (bd (f_X1_mayFrank n h1 v6_8 v7_11) fun r_14 =>
  bc (r_14 = 0) (f_X11_sessions_j132 n x h0 h1 nt0 cv0 nt1 cv1 ps0 ps1 r_9 v5 v2)
  (bd (f_X1_sign n h1 v6_8 v7_11) fun h1_16 =>
  f_X11_sessions_j132 n x h0 h1_16 nt0 cv0 nt1 cv1 ps0 ps1 r_9 v5 v2))))
noncomputable def f_X11_sessions_l43 (fu : Nat) (n : Nat) (x : MV) (h0 : MV) (h1 : MV) (nt0 : MV) (cv0 : MV) (nt1 : MV) (cv1 : MV) (ps0 : MV) (ps1 : MV) (v2 : Int32) (v5 : Int32) (v3 : Int64) : Option (MV) :=
  lp (fun q => f_X11_sessions_b43 n x h0 q.2.2 nt0 cv0 nt1 cv1 ps0 ps1 q.1 q.2.1 v2) fu (v5, v3, h1)
noncomputable def f_X11_sessions_j21 (n : Nat) (x : MV) (h0 : MV) (h1 : MV) (nt0 : MV) (cv0 : MV) (nt1 : MV) (cv1 : MV) (ps0 : MV) (ps1 : MV) : Option (Int32 × MV × MV × MV × MV × MV) :=
  bd2 (f_X11_refuseBad n x) fun r_17 x_18 =>
  some (r_17, x_18, h1, nt1, cv1, ps1)
noncomputable def f_X11_sessions (n : Nat) (x : MV) (h0 : MV) (h1 : MV) (nt0 : MV) (cv0 : MV) (nt1 : MV) (cv1 : MV) (ps0 : MV) (ps1 : MV) (v1 : Int32) (v2 : Int32) : Option (Int32 × MV × MV × MV × MV × MV) :=
  bd (f_X11_within n v1 0 999999) fun r_19 =>
  bc (r_19 = 0) (f_X11_sessions_j21 n x h0 h1 nt0 cv0 nt1 cv1 ps0 ps1)
  (bd (f_X11_within n v2 0 60) fun r_21 =>
  bc (r_21 = 0) (f_X11_sessions_j21 n x h0 h1 nt0 cv0 nt1 cv1 ps0 ps1)
  (bd4 (f_X1_takeOver n h1 h0 nt1 cv1 nt0 cv0 ps1 ps0) fun h1_23 nt1_24 cv1_25 ps1_26 =>
  bl ((v1 : Int32).toInt64) fun v3_27 =>
  bd (f_X11_sessions_l43 n n x h0 h1_23 nt0 cv0 nt1_24 cv1_25 ps0 ps1_26 v2 0 v3_27) fun h1_28 =>
  some ((h1_28.1 3) - (h0.1 3), x, h1_28, nt1_24, cv1_25, ps1_26)))
set_option maxHeartbeats 4000000 in
set_option maxRecDepth 100000 in
theorem c_X11_sessions (l : Launch) (G : va_G) (ct : Nat → ClassId) (sk sv : Nat → Nat) (g : Nat → Nat) (n : Nat) (x : MV) (h0 : MV) (h1 : MV) (nt0 : MV) (cv0 : MV) (nt1 : MV) (cv1 : MV) (ps0 : MV) (ps1 : MV) (v1 : Int32) (v2 : Int32) {r : Int32} {x' : MV} {h1' : MV} {nt1' : MV} {cv1' : MV} {ps1' : MV} (hf : f_X11_sessions n x h0 h1 nt0 cv0 nt1 cv1 ps0 ps1 v1 v2 = some (r, x', h1', nt1', cv1', ps1')) : Ctr (l, G, ct, sk, sv) mX11_sessions 6 206 [.ref (g 7), .int v1, .int v2] (lfX ct g x ++ (lfH ct (hsA g 0) g h0 ++ (lfH ct (hsA g 1) g h1 ++ (lfS ct (fun j => (hsA g 0) (12 + j)) nt0 ++ (lfS ct (fun j => (hsA g 0) (8 + j)) cv0 ++ (lfS ct (fun j => (hsA g 1) (12 + j)) nt1 ++ (lfS ct (fun j => (hsA g 1) (8 + j)) cv1 ++ (lfP ct (fun j => (hsA g 0) (16 + j)) ps0 ++ (lfP ct (fun j => (hsA g 1) (16 + j)) ps1 ++ (lfK ct g)))))))))) (lfX ct g x' ++ (lfH ct (hsA g 0) g h0 ++ (lfH ct (hsA g 1) g h1' ++ (lfS ct (fun j => (hsA g 0) (12 + j)) nt0 ++ (lfS ct (fun j => (hsA g 0) (8 + j)) cv0 ++ (lfS ct (fun j => (hsA g 1) (12 + j)) nt1' ++ (lfS ct (fun j => (hsA g 1) (8 + j)) cv1' ++ (lfP ct (fun j => (hsA g 0) (16 + j)) ps0 ++ (lfP ct (fun j => (hsA g 1) (16 + j)) ps1' ++ (lfK ct g)))))))))) (some (.int r)) := by
  refine ctr_intro (by decide) (Nat.le_of_ble_eq_true rfl) ?_
  intro p e s m args below meth c A C hP hD hS hA ls hl
  obtain ⟨hx, hb, hml, hown, hts, hr, hlocks, hK, hnm, hZ⟩ := C
  have hb : c.code = cX11_sessions := hb
  have hml : c.maxLocals = 8 := hml
  have hown : s.vm.findClass "SignedOutside" = some m.cls := hown
  have hr : meth.sig.returnType = some .int := hr
  have hP : va_P G classes (lfX ct g x ++ (lfH ct (hsA g 0) g h0 ++ (lfH ct (hsA g 1) g h1 ++ (lfS ct (fun j => (hsA g 0) (12 + j)) nt0 ++ (lfS ct (fun j => (hsA g 0) (8 + j)) cv0 ++ (lfS ct (fun j => (hsA g 1) (12 + j)) nt1 ++ (lfS ct (fun j => (hsA g 1) (8 + j)) cv1 ++ (lfP ct (fun j => (hsA g 0) (16 + j)) ps0 ++ (lfP ct (fun j => (hsA g 1) (16 + j)) ps1 ++ (lfK ct g)))))))))) s.heap := hP
  have hD : va_D A (lfX ct g x ++ (lfH ct (hsA g 0) g h0 ++ (lfH ct (hsA g 1) g h1 ++ (lfS ct (fun j => (hsA g 0) (12 + j)) nt0 ++ (lfS ct (fun j => (hsA g 0) (8 + j)) cv0 ++ (lfS ct (fun j => (hsA g 1) (12 + j)) nt1 ++ (lfS ct (fun j => (hsA g 1) (8 + j)) cv1 ++ (lfP ct (fun j => (hsA g 0) (16 + j)) ps0 ++ (lfP ct (fun j => (hsA g 1) (16 + j)) ps1 ++ (lfK ct g)))))))))) := hD
  have hK : va_K G classes (TYS ct) s := hK
  have hl : lv_has ls 8 [(0, .ref (g 7)), (1, .int v1), (2, .int v2)] := hl
  have L43 : ∀ (fu : Nat) (x : MV) (h1 : MV) (nt1 : MV) (cv1 : MV) (ps1 : MV) (v2 : Int32) (v5 : Int32) (v3 : Int64) (ex : MV) (H : Heap) (locs : List Loc) (ls : Array Slot), va_P G classes (lfX ct g x ++ (lfH ct (hsA g 0) g h0 ++ (lfH ct (hsA g 1) g h1 ++ (lfS ct (fun j => (hsA g 0) (12 + j)) nt0 ++ (lfS ct (fun j => (hsA g 0) (8 + j)) cv0 ++ (lfS ct (fun j => (hsA g 1) (12 + j)) nt1 ++ (lfS ct (fun j => (hsA g 1) (8 + j)) cv1 ++ (lfP ct (fun j => (hsA g 0) (16 + j)) ps0 ++ (lfP ct (fun j => (hsA g 1) (16 + j)) ps1 ++ (lfK ct g)))))))))) H → va_D A (lfX ct g x ++ (lfH ct (hsA g 0) g h0 ++ (lfH ct (hsA g 1) g h1 ++ (lfS ct (fun j => (hsA g 0) (12 + j)) nt0 ++ (lfS ct (fun j => (hsA g 0) (8 + j)) cv0 ++ (lfS ct (fun j => (hsA g 1) (12 + j)) nt1 ++ (lfS ct (fun j => (hsA g 1) (8 + j)) cv1 ++ (lfP ct (fun j => (hsA g 0) (16 + j)) ps0 ++ (lfP ct (fun j => (hsA g 1) (16 + j)) ps1 ++ (lfK ct g)))))))))) → va_S A s.heap H locs → lv_has ls 8 [(5, .int v5), (3, .long v3), (0, .ref (g 7)), (2, .int v2)] → f_X11_sessions_l43 fu n x h0 h1 nt0 cv0 nt1 cv1 ps0 ps1 v2 v5 v3 = some ex → (∀ (x : MV), ex = x → ∀ (H : Heap) (locs : List Loc) (ls : Array Slot), va_P G classes (lfX ct g x ++ (lfH ct (hsA g 0) g h0 ++ (lfH ct (hsA g 1) g x ++ (lfS ct (fun j => (hsA g 0) (12 + j)) nt0 ++ (lfS ct (fun j => (hsA g 0) (8 + j)) cv0 ++ (lfS ct (fun j => (hsA g 1) (12 + j)) nt1 ++ (lfS ct (fun j => (hsA g 1) (8 + j)) cv1 ++ (lfP ct (fun j => (hsA g 0) (16 + j)) ps0 ++ (lfP ct (fun j => (hsA g 1) (16 + j)) ps1 ++ (lfK ct g)))))))))) H → va_D A (lfX ct g x ++ (lfH ct (hsA g 0) g h0 ++ (lfH ct (hsA g 1) g x ++ (lfS ct (fun j => (hsA g 0) (12 + j)) nt0 ++ (lfS ct (fun j => (hsA g 0) (8 + j)) cv0 ++ (lfS ct (fun j => (hsA g 1) (12 + j)) nt1 ++ (lfS ct (fun j => (hsA g 1) (8 + j)) cv1 ++ (lfP ct (fun j => (hsA g 0) (16 + j)) ps0 ++ (lfP ct (fun j => (hsA g 1) (16 + j)) ps1 ++ (lfK ct g)))))))))) → va_S A s.heap H locs → lv_has ls 8 [(0, .ref (g 7))] → WG l G ct sk sv p e (RM 6 206 0 0) s m args below meth c A (Eq2 (some (.int r)) (lfX ct g x' ++ (lfH ct (hsA g 0) g h0 ++ (lfH ct (hsA g 1) g h1' ++ (lfS ct (fun j => (hsA g 0) (12 + j)) nt0 ++ (lfS ct (fun j => (hsA g 0) (8 + j)) cv0 ++ (lfS ct (fun j => (hsA g 1) (12 + j)) nt1' ++ (lfS ct (fun j => (hsA g 1) (8 + j)) cv1' ++ (lfP ct (fun j => (hsA g 0) (16 + j)) ps0 ++ (lfP ct (fun j => (hsA g 1) (16 + j)) ps1' ++ (lfK ct g))))))))))) H locs (F0 m 159 ls [])) → WG l G ct sk sv p e (RM 6 206 0 0) s m args below meth c A (Eq2 (some (.int r)) (lfX ct g x' ++ (lfH ct (hsA g 0) g h0 ++ (lfH ct (hsA g 1) g h1' ++ (lfS ct (fun j => (hsA g 0) (12 + j)) nt0 ++ (lfS ct (fun j => (hsA g 0) (8 + j)) cv0 ++ (lfS ct (fun j => (hsA g 1) (12 + j)) nt1' ++ (lfS ct (fun j => (hsA g 1) (8 + j)) cv1' ++ (lfP ct (fun j => (hsA g 0) (16 + j)) ps0 ++ (lfP ct (fun j => (hsA g 1) (16 + j)) ps1' ++ (lfK ct g))))))))))) H locs (F0 m 43 ls []) := by
    intro fu
    induction fu with
    | zero =>
      intro x h1 nt1 cv1 ps1 v2 v5 v3 ex H locs ls hP hD hS hl hf
      exact absurd hf (by unfold f_X11_sessions_l43 lp; exact fun h => by cases h)
    | succ fu ih =>
      intro x h1 nt1 cv1 ps1 v2 v5 v3 ex H locs ls hP hD hS hl hf hE
      unfold f_X11_sessions_l43 at hf
      obtain ⟨q, hf, hor⟩ := lp_e hf
      have J153 : ∀ (h1 : MV) (v3 : Int64) (v5 : Int32) (H : Heap) (locs : List Loc) (ls : Array Slot), va_P G classes (lfX ct g x ++ (lfH ct (hsA g 0) g h0 ++ (lfH ct (hsA g 1) g h1 ++ (lfS ct (fun j => (hsA g 0) (12 + j)) nt0 ++ (lfS ct (fun j => (hsA g 0) (8 + j)) cv0 ++ (lfS ct (fun j => (hsA g 1) (12 + j)) nt1 ++ (lfS ct (fun j => (hsA g 1) (8 + j)) cv1 ++ (lfP ct (fun j => (hsA g 0) (16 + j)) ps0 ++ (lfP ct (fun j => (hsA g 1) (16 + j)) ps1 ++ (lfK ct g)))))))))) H → va_D A (lfX ct g x ++ (lfH ct (hsA g 0) g h0 ++ (lfH ct (hsA g 1) g h1 ++ (lfS ct (fun j => (hsA g 0) (12 + j)) nt0 ++ (lfS ct (fun j => (hsA g 0) (8 + j)) cv0 ++ (lfS ct (fun j => (hsA g 1) (12 + j)) nt1 ++ (lfS ct (fun j => (hsA g 1) (8 + j)) cv1 ++ (lfP ct (fun j => (hsA g 0) (16 + j)) ps0 ++ (lfP ct (fun j => (hsA g 1) (16 + j)) ps1 ++ (lfK ct g)))))))))) → va_S A s.heap H locs → lv_has ls 8 [(3, .long v3), (5, .int v5), (0, .ref (g 7)), (2, .int v2)] → f_X11_sessions_j153 n x h0 h1 nt0 cv0 nt1 cv1 ps0 ps1 v3 v5 v2 = some q → WG l G ct sk sv p e (RM 6 206 0 0) s m args below meth c A (Eq2 (some (.int r)) (lfX ct g x' ++ (lfH ct (hsA g 0) g h0 ++ (lfH ct (hsA g 1) g h1' ++ (lfS ct (fun j => (hsA g 0) (12 + j)) nt0 ++ (lfS ct (fun j => (hsA g 0) (8 + j)) cv0 ++ (lfS ct (fun j => (hsA g 1) (12 + j)) nt1' ++ (lfS ct (fun j => (hsA g 1) (8 + j)) cv1' ++ (lfP ct (fun j => (hsA g 0) (16 + j)) ps0 ++ (lfP ct (fun j => (hsA g 1) (16 + j)) ps1' ++ (lfK ct g))))))))))) H locs (F0 m 153 ls []) := by
        intro h1 v3 v5 H locs ls hP hD hS hl hf
        unfold f_X11_sessions_j153 at hf
        obtain ⟨v5_1, ev5_1, hf⟩ := bl_e hf
        refine lv_iinc (v := v5_1) (lv' := [(5, .int v5_1), (3, .long v3), (0, .ref (g 7)), (2, .int v2)]) hx hb dX11_sessions_153 hl (k := 1) rfl ev5_1 (by decide) rfl (fun ls hl => ?_)
        refine lv_goto (tgt := 43) hx hb dX11_sessions_156 (by decide) ?_
        exact ih x h1 nt1 cv1 ps1 v2 v5_1 v3 ex _ _ _ hP hD hS hl (lp_inl hor hf) hE
      have J132 : ∀ (h1 : MV) (v3 : Int64) (v5 : Int32) (H : Heap) (locs : List Loc) (ls : Array Slot), va_P G classes (lfX ct g x ++ (lfH ct (hsA g 0) g h0 ++ (lfH ct (hsA g 1) g h1 ++ (lfS ct (fun j => (hsA g 0) (12 + j)) nt0 ++ (lfS ct (fun j => (hsA g 0) (8 + j)) cv0 ++ (lfS ct (fun j => (hsA g 1) (12 + j)) nt1 ++ (lfS ct (fun j => (hsA g 1) (8 + j)) cv1 ++ (lfP ct (fun j => (hsA g 0) (16 + j)) ps0 ++ (lfP ct (fun j => (hsA g 1) (16 + j)) ps1 ++ (lfK ct g)))))))))) H → va_D A (lfX ct g x ++ (lfH ct (hsA g 0) g h0 ++ (lfH ct (hsA g 1) g h1 ++ (lfS ct (fun j => (hsA g 0) (12 + j)) nt0 ++ (lfS ct (fun j => (hsA g 0) (8 + j)) cv0 ++ (lfS ct (fun j => (hsA g 1) (12 + j)) nt1 ++ (lfS ct (fun j => (hsA g 1) (8 + j)) cv1 ++ (lfP ct (fun j => (hsA g 0) (16 + j)) ps0 ++ (lfP ct (fun j => (hsA g 1) (16 + j)) ps1 ++ (lfK ct g)))))))))) → va_S A s.heap H locs → lv_has ls 8 [(3, .long v3), (5, .int v5), (0, .ref (g 7)), (2, .int v2)] → f_X11_sessions_j132 n x h0 h1 nt0 cv0 nt1 cv1 ps0 ps1 v3 v5 v2 = some q → WG l G ct sk sv p e (RM 6 206 0 0) s m args below meth c A (Eq2 (some (.int r)) (lfX ct g x' ++ (lfH ct (hsA g 0) g h0 ++ (lfH ct (hsA g 1) g h1' ++ (lfS ct (fun j => (hsA g 0) (12 + j)) nt0 ++ (lfS ct (fun j => (hsA g 0) (8 + j)) cv0 ++ (lfS ct (fun j => (hsA g 1) (12 + j)) nt1' ++ (lfS ct (fun j => (hsA g 1) (8 + j)) cv1' ++ (lfP ct (fun j => (hsA g 0) (16 + j)) ps0 ++ (lfP ct (fun j => (hsA g 1) (16 + j)) ps1' ++ (lfK ct g))))))))))) H locs (F0 m 132 ls []) := by
        intro h1 v3 v5 H locs ls hP hD hS hl hf
        unfold f_X11_sessions_j132 at hf
        refine lv_lload_n hx hb dX11_sessions_132 rfl (lv_at hl 0 rfl) ?_
        refine lv_ldc2 (v := 1048576) hx hb hown (hts _ kw836) dX11_sessions_133 ?_
        refine lv_ldiv hx hb dX11_sessions_136 (by decide) ?_
        refine lv_ldc2 (v := 4) hx hb hown (hts _ kw837) dX11_sessions_137 ?_
        obtain ⟨w_2, ew_2, hf⟩ := bl_e hf
        refine W.eq (g2 := F0 m 140 ls ([.long 4, .long w_2])) (by rw [← ew_2]) ?_
        refine lv_lrem hx hb dX11_sessions_140 (by decide) ?_
        refine lv_lconst (v := 0) hx hb dX11_sessions_141 (by decide) ?_
        refine W.lcmp hx hb dX11_sessions_142 ?_
        refine lv_if_ne (tgt := 153) hx hb dX11_sessions_143 (by decide) (fun c_3 => ?_) (fun c_3 => ?_)
        · replace hf := bc_f hf c_3
          exact J153 h1 v3 v5 _ _ _ hP hD hS hl hf
        · replace hf := bc_t hf c_3
          refine lv_aload_n hx hb dX11_sessions_146 rfl (lv_at hl 2 rfl) ?_
          refine va_get (D := G) (C := RX11) (T := TX11) (N := 11) (v := .ref ((hsA g 1) 0)) hx hb hts iu_X11 hown hK hP 0 rfl rfl 1 (by decide) (hts _ kw263) (fun _ h9 => h9) rfl dX11_sessions_147 ?_
          obtain ⟨h1_4, hc4, hf⟩ := bd_e hf
          refine call_V (As := []) (rest := []) hx hb hml hown hts hK hP hD hS hA hZ lkX11_160 (Ctr.up (W := (lfX ct g x ++ (lfH ct (hsA g 0) g h0 ++ (lfH ct (hsA g 1) g h1 ++ (lfS ct (fun j => (hsA g 0) (12 + j)) nt0 ++ (lfS ct (fun j => (hsA g 0) (8 + j)) cv0 ++ (lfS ct (fun j => (hsA g 1) (12 + j)) nt1 ++ (lfS ct (fun j => (hsA g 1) (8 + j)) cv1 ++ (lfP ct (fun j => (hsA g 0) (16 + j)) ps0 ++ (lfP ct (fun j => (hsA g 1) (16 + j)) ps1 ++ (lfK ct g))))))))))) (W' := (lfX ct g x ++ (lfH ct (hsA g 0) g h0 ++ (lfH ct (hsA g 1) g h1_4 ++ (lfS ct (fun j => (hsA g 0) (12 + j)) nt0 ++ (lfS ct (fun j => (hsA g 0) (8 + j)) cv0 ++ (lfS ct (fun j => (hsA g 1) (12 + j)) nt1 ++ (lfS ct (fun j => (hsA g 1) (8 + j)) cv1 ++ (lfP ct (fun j => (hsA g 0) (16 + j)) ps0 ++ (lfP ct (fun j => (hsA g 1) (16 + j)) ps1 ++ (lfK ct g))))))))))) (c_X1_passDay l G ct sk sv (hsA g 1) g n h1 hc4) [11, 12, 13, 14, 15, 16, 17, 18] [0, 1, 2, 3, 4, 5, 6, 7, 8, 9, 10, 19, 20, 21, 22, 23, 24, 25, 26, 27, 28, 29, 30, 31, 32, 33, 34, 35, 36, 37, 38, 39, 40, 41, 42, 43, 44, 45] [0, 1, 2, 3, 4, 5, 6, 7, 8, 9, 10, 38, 39, 40, 41, 42, 43, 44, 45, 11, 12, 13, 14, 15, 16, 17, 18, 19, 20, 21, 22, 23, 24, 25, 26, 27, 28, 29, 30, 31, 32, 33, 34, 35, 36, 37] rfl rfl rfl rfl (by decide) rfl rfl) 11 rfl rfl ⟨Nat.le_of_ble_eq_true rfl, Nat.le_of_ble_eq_true rfl⟩ rfl hl.1 rfl (Nat.le_of_ble_eq_true rfl) dX11_sessions_150 ⟨Nat.le_of_ble_eq_true rfl, Nat.le_of_ble_eq_true rfl⟩ (fun r9 w9 H locs hB hP hD hS => ?_)
          obtain ⟨rfl, rfl⟩ := hB
          refine WG_eq (g2 := F0 m 153 ls []) rfl ?_
          exact J153 h1_4 v3 v5 _ _ _ hP hD hS hl hf
      replace hf : f_X11_sessions_b43 n x h0 h1 nt0 cv0 nt1 cv1 ps0 ps1 v5 v3 v2 = some q := hf
      unfold f_X11_sessions_b43 at hf
      refine lv_iload hx hb dX11_sessions_43 (lv_at hl 0 rfl) ?_
      refine lv_iload_n hx hb dX11_sessions_45 rfl (lv_at hl 3 rfl) ?_
      refine lv_icmp_ge (tgt := 159) hx hb dX11_sessions_46 (by decide) (fun c_5 => ?_) (fun c_5 => ?_)
      · replace hf := bc_t hf c_5
        exact hE h1 (lp_inr hor hf).symm _ _ _ hP hD hS (lv_sub hl [2] rfl)
      · replace hf := bc_f hf c_5
        refine lv_lload_n hx hb dX11_sessions_49 rfl (lv_at hl 1 rfl) ?_
        obtain ⟨r_6, hc6, hf⟩ := bd_e hf
        refine call_S (As := [.long v3]) (rest := []) hx hb hml hown hts hK hP hD hS hA hZ lkX11_299 (Ctr.up (W := (lfX ct g x ++ (lfH ct (hsA g 0) g h0 ++ (lfH ct (hsA g 1) g h1 ++ (lfS ct (fun j => (hsA g 0) (12 + j)) nt0 ++ (lfS ct (fun j => (hsA g 0) (8 + j)) cv0 ++ (lfS ct (fun j => (hsA g 1) (12 + j)) nt1 ++ (lfS ct (fun j => (hsA g 1) (8 + j)) cv1 ++ (lfP ct (fun j => (hsA g 0) (16 + j)) ps0 ++ (lfP ct (fun j => (hsA g 1) (16 + j)) ps1 ++ (lfK ct g))))))))))) (W' := (lfX ct g x ++ (lfH ct (hsA g 0) g h0 ++ (lfH ct (hsA g 1) g h1 ++ (lfS ct (fun j => (hsA g 0) (12 + j)) nt0 ++ (lfS ct (fun j => (hsA g 0) (8 + j)) cv0 ++ (lfS ct (fun j => (hsA g 1) (12 + j)) nt1 ++ (lfS ct (fun j => (hsA g 1) (8 + j)) cv1 ++ (lfP ct (fun j => (hsA g 0) (16 + j)) ps0 ++ (lfP ct (fun j => (hsA g 1) (16 + j)) ps1 ++ (lfK ct g))))))))))) (c_X11_nextX l G ct sk sv  n v3 hc6) [] [0, 1, 2, 3, 4, 5, 6, 7, 8, 9, 10, 11, 12, 13, 14, 15, 16, 17, 18, 19, 20, 21, 22, 23, 24, 25, 26, 27, 28, 29, 30, 31, 32, 33, 34, 35, 36, 37, 38, 39, 40, 41, 42, 43, 44, 45] [0, 1, 2, 3, 4, 5, 6, 7, 8, 9, 10, 11, 12, 13, 14, 15, 16, 17, 18, 19, 20, 21, 22, 23, 24, 25, 26, 27, 28, 29, 30, 31, 32, 33, 34, 35, 36, 37, 38, 39, 40, 41, 42, 43, 44, 45] rfl rfl rfl rfl (by decide) rfl rfl) ⟨Nat.le_of_ble_eq_true rfl, Nat.le_of_ble_eq_true rfl⟩ rfl hl.1 rfl (Nat.le_of_ble_eq_true rfl) dX11_sessions_50 ⟨Nat.le_of_ble_eq_true rfl, Nat.le_of_ble_eq_true rfl⟩ (fun r9 w9 H locs hB hP hD hS => ?_)
        obtain ⟨rfl, rfl⟩ := hB
        refine WG_eq (g2 := F0 m 53 ls [.long r_6]) rfl ?_
        refine lv_lstore_n (lv' := [(3, .long r_6), (5, .int v5), (0, .ref (g 7)), (2, .int v2)]) hx hb dX11_sessions_53 rfl hl (by decide) rfl (fun ls hl => ?_)
        refine lv_lload_n hx hb dX11_sessions_54 rfl (lv_at hl 0 rfl) ?_
        refine lv_ldc2 (v := 65536) hx hb hown (hts _ kw833) dX11_sessions_55 ?_
        refine lv_ldiv hx hb dX11_sessions_58 (by decide) ?_
        refine lv_ldc2 (v := 6) hx hb hown (hts _ kw834) dX11_sessions_59 ?_
        obtain ⟨w_7, ew_7, hf⟩ := bl_e hf
        refine W.eq (g2 := F0 m 62 ls ([.long 6, .long w_7])) (by rw [← ew_7]) ?_
        refine lv_lrem hx hb dX11_sessions_62 (by decide) ?_
        refine lv_l2i (v := (w_7 - w_7 / 6 * 6 : Int64).toInt32) hx hb dX11_sessions_63 rfl ?_
        refine lv_topi (fun v6_8 ev6_8 => ?_)
        replace hf := bl_i hf ev6_8
        refine lv_istore (lv' := [(6, .int v6_8), (3, .long r_6), (5, .int v5), (0, .ref (g 7)), (2, .int v2)]) hx hb dX11_sessions_64 hl (by decide) rfl (fun ls hl => ?_)
        refine lv_lload_n hx hb dX11_sessions_66 rfl (lv_at hl 1 rfl) ?_
        obtain ⟨r_9, hc9, hf⟩ := bd_e hf
        refine call_S (As := [.long r_6]) (rest := []) hx hb hml hown hts hK hP hD hS hA hZ lkX11_299 (Ctr.up (W := (lfX ct g x ++ (lfH ct (hsA g 0) g h0 ++ (lfH ct (hsA g 1) g h1 ++ (lfS ct (fun j => (hsA g 0) (12 + j)) nt0 ++ (lfS ct (fun j => (hsA g 0) (8 + j)) cv0 ++ (lfS ct (fun j => (hsA g 1) (12 + j)) nt1 ++ (lfS ct (fun j => (hsA g 1) (8 + j)) cv1 ++ (lfP ct (fun j => (hsA g 0) (16 + j)) ps0 ++ (lfP ct (fun j => (hsA g 1) (16 + j)) ps1 ++ (lfK ct g))))))))))) (W' := (lfX ct g x ++ (lfH ct (hsA g 0) g h0 ++ (lfH ct (hsA g 1) g h1 ++ (lfS ct (fun j => (hsA g 0) (12 + j)) nt0 ++ (lfS ct (fun j => (hsA g 0) (8 + j)) cv0 ++ (lfS ct (fun j => (hsA g 1) (12 + j)) nt1 ++ (lfS ct (fun j => (hsA g 1) (8 + j)) cv1 ++ (lfP ct (fun j => (hsA g 0) (16 + j)) ps0 ++ (lfP ct (fun j => (hsA g 1) (16 + j)) ps1 ++ (lfK ct g))))))))))) (c_X11_nextX l G ct sk sv  n r_6 hc9) [] [0, 1, 2, 3, 4, 5, 6, 7, 8, 9, 10, 11, 12, 13, 14, 15, 16, 17, 18, 19, 20, 21, 22, 23, 24, 25, 26, 27, 28, 29, 30, 31, 32, 33, 34, 35, 36, 37, 38, 39, 40, 41, 42, 43, 44, 45] [0, 1, 2, 3, 4, 5, 6, 7, 8, 9, 10, 11, 12, 13, 14, 15, 16, 17, 18, 19, 20, 21, 22, 23, 24, 25, 26, 27, 28, 29, 30, 31, 32, 33, 34, 35, 36, 37, 38, 39, 40, 41, 42, 43, 44, 45] rfl rfl rfl rfl (by decide) rfl rfl) ⟨Nat.le_of_ble_eq_true rfl, Nat.le_of_ble_eq_true rfl⟩ rfl hl.1 rfl (Nat.le_of_ble_eq_true rfl) dX11_sessions_67 ⟨Nat.le_of_ble_eq_true rfl, Nat.le_of_ble_eq_true rfl⟩ (fun r9 w9 H locs hB hP hD hS => ?_)
        obtain ⟨rfl, rfl⟩ := hB
        refine WG_eq (g2 := F0 m 70 ls [.long r_9]) rfl ?_
        refine lv_lstore_n (lv' := [(3, .long r_9), (6, .int v6_8), (5, .int v5), (0, .ref (g 7)), (2, .int v2)]) hx hb dX11_sessions_70 rfl hl (by decide) rfl (fun ls hl => ?_)
        refine lv_lload_n hx hb dX11_sessions_71 rfl (lv_at hl 0 rfl) ?_
        refine lv_ldc2 (v := 65536) hx hb hown (hts _ kw833) dX11_sessions_72 ?_
        refine lv_ldiv hx hb dX11_sessions_75 (by decide) ?_
        refine lv_ldc2 (v := 5) hx hb hown (hts _ kw835) dX11_sessions_76 ?_
        obtain ⟨w_10, ew_10, hf⟩ := bl_e hf
        refine W.eq (g2 := F0 m 79 ls ([.long 5, .long w_10])) (by rw [← ew_10]) ?_
        refine lv_lrem hx hb dX11_sessions_79 (by decide) ?_
        refine lv_l2i (v := (w_10 - w_10 / 5 * 5 : Int64).toInt32) hx hb dX11_sessions_80 rfl ?_
        refine lv_topi (fun v7_11 ev7_11 => ?_)
        replace hf := bl_i hf ev7_11
        refine lv_istore (lv' := [(7, .int v7_11), (3, .long r_9), (6, .int v6_8), (5, .int v5), (0, .ref (g 7)), (2, .int v2)]) hx hb dX11_sessions_81 hl (by decide) rfl (fun ls hl => ?_)
        refine lv_iload hx hb dX11_sessions_83 (lv_at hl 2 rfl) ?_
        refine lv_aload_n hx hb dX11_sessions_85 rfl (lv_at hl 4 rfl) ?_
        refine va_get (D := G) (C := RX11) (T := TX11) (N := 11) (v := .ref ((hsA g 1) 0)) hx hb hts iu_X11 hown hK hP 0 rfl rfl 1 (by decide) (hts _ kw263) (fun _ h9 => h9) rfl dX11_sessions_86 ?_
        refine va_get (D := G) (C := RX1) (T := TX1) (N := 16) (v := .int (h1.1 1)) hx hb hts iu_X1 hown hK hP 11 rfl rfl 5 (by decide) (hts _ kw137) (fun _ h9 => h9) rfl dX11_sessions_89 ?_
        refine lv_icmp_ge (tgt := 132) hx hb dX11_sessions_92 (by decide) (fun c_12 => ?_) (fun c_12 => ?_)
        · replace hf := bc_t hf c_12
          exact J132 h1 r_9 v5 _ _ _ hP hD hS (lv_sub hl [1, 3, 4, 5] rfl) hf
        · replace hf := bc_f hf c_12
          refine lv_iload hx hb dX11_sessions_95 (lv_at hl 0 rfl) ?_
          refine lv_aload_n hx hb dX11_sessions_97 rfl (lv_at hl 4 rfl) ?_
          refine va_get (D := G) (C := RX11) (T := TX11) (N := 11) (v := .ref ((hsA g 1) 0)) hx hb hts iu_X11 hown hK hP 0 rfl rfl 1 (by decide) (hts _ kw263) (fun _ h9 => h9) rfl dX11_sessions_98 ?_
          refine va_get (D := G) (C := RX1) (T := TX1) (N := 16) (v := .int (h1.1 0)) hx hb hts iu_X1 hown hK hP 11 rfl rfl 1 (by decide) (hts _ kw124) (fun _ h9 => h9) rfl dX11_sessions_101 ?_
          refine lv_icmp_ge (tgt := 132) hx hb dX11_sessions_104 (by decide) (fun c_13 => ?_) (fun c_13 => ?_)
          · replace hf := bc_t hf c_13
            exact J132 h1 r_9 v5 _ _ _ hP hD hS (lv_sub hl [1, 3, 4, 5] rfl) hf
          · replace hf := bc_f hf c_13
            refine lv_aload_n hx hb dX11_sessions_107 rfl (lv_at hl 4 rfl) ?_
            refine va_get (D := G) (C := RX11) (T := TX11) (N := 11) (v := .ref ((hsA g 1) 0)) hx hb hts iu_X11 hown hK hP 0 rfl rfl 1 (by decide) (hts _ kw263) (fun _ h9 => h9) rfl dX11_sessions_108 ?_
            refine lv_iload hx hb dX11_sessions_111 (lv_at hl 2 rfl) ?_
            refine lv_iload hx hb dX11_sessions_113 (lv_at hl 0 rfl) ?_
            obtain ⟨r_14, hc14, hf⟩ := bd_e hf
            refine call_V (As := [.int v6_8, .int v7_11]) (rest := []) hx hb hml hown hts hK hP hD hS hA hZ lkX11_131 (Ctr.up (W := (lfX ct g x ++ (lfH ct (hsA g 0) g h0 ++ (lfH ct (hsA g 1) g h1 ++ (lfS ct (fun j => (hsA g 0) (12 + j)) nt0 ++ (lfS ct (fun j => (hsA g 0) (8 + j)) cv0 ++ (lfS ct (fun j => (hsA g 1) (12 + j)) nt1 ++ (lfS ct (fun j => (hsA g 1) (8 + j)) cv1 ++ (lfP ct (fun j => (hsA g 0) (16 + j)) ps0 ++ (lfP ct (fun j => (hsA g 1) (16 + j)) ps1 ++ (lfK ct g))))))))))) (W' := (lfX ct g x ++ (lfH ct (hsA g 0) g h0 ++ (lfH ct (hsA g 1) g h1 ++ (lfS ct (fun j => (hsA g 0) (12 + j)) nt0 ++ (lfS ct (fun j => (hsA g 0) (8 + j)) cv0 ++ (lfS ct (fun j => (hsA g 1) (12 + j)) nt1 ++ (lfS ct (fun j => (hsA g 1) (8 + j)) cv1 ++ (lfP ct (fun j => (hsA g 0) (16 + j)) ps0 ++ (lfP ct (fun j => (hsA g 1) (16 + j)) ps1 ++ (lfK ct g))))))))))) (c_X1_mayFrank l G ct sk sv (hsA g 1) g n h1 v6_8 v7_11 hc14) [11, 12, 13, 14, 15, 16, 17, 18, 39, 40, 41, 42, 43, 44, 45] [0, 1, 2, 3, 4, 5, 6, 7, 8, 9, 10, 19, 20, 21, 22, 23, 24, 25, 26, 27, 28, 29, 30, 31, 32, 33, 34, 35, 36, 37, 38] [0, 1, 2, 3, 4, 5, 6, 7, 8, 9, 10, 31, 32, 33, 34, 35, 36, 37, 38, 11, 12, 13, 14, 15, 16, 17, 18, 19, 20, 21, 22, 23, 24, 25, 26, 27, 28, 29, 30, 39, 40, 41, 42, 43, 44, 45] rfl rfl rfl rfl (by decide) rfl rfl) 11 rfl rfl ⟨Nat.le_of_ble_eq_true rfl, Nat.le_of_ble_eq_true rfl⟩ rfl hl.1 rfl (Nat.le_of_ble_eq_true rfl) dX11_sessions_115 ⟨Nat.le_of_ble_eq_true rfl, Nat.le_of_ble_eq_true rfl⟩ (fun r9 w9 H locs hB hP hD hS => ?_)
            obtain ⟨rfl, rfl⟩ := hB
            refine WG_eq (g2 := F0 m 118 ls [.int r_14]) rfl ?_
            refine lv_if_eq (tgt := 132) hx hb dX11_sessions_118 (by decide) (fun c_15 => ?_) (fun c_15 => ?_)
            · replace hf := bc_t hf c_15
              exact J132 h1 r_9 v5 _ _ _ hP hD hS (lv_sub hl [1, 3, 4, 5] rfl) hf
            · replace hf := bc_f hf c_15
              refine lv_aload_n hx hb dX11_sessions_121 rfl (lv_at hl 4 rfl) ?_
              refine va_get (D := G) (C := RX11) (T := TX11) (N := 11) (v := .ref ((hsA g 1) 0)) hx hb hts iu_X11 hown hK hP 0 rfl rfl 1 (by decide) (hts _ kw263) (fun _ h9 => h9) rfl dX11_sessions_122 ?_
              refine lv_iload hx hb dX11_sessions_125 (lv_at hl 2 rfl) ?_
              refine lv_iload hx hb dX11_sessions_127 (lv_at hl 0 rfl) ?_
              obtain ⟨h1_16, hc16, hf⟩ := bd_e hf
              refine call_V (As := [.int v6_8, .int v7_11]) (rest := []) hx hb hml hown hts hK hP hD hS hA hZ lkX11_141 (Ctr.up (W := (lfX ct g x ++ (lfH ct (hsA g 0) g h0 ++ (lfH ct (hsA g 1) g h1 ++ (lfS ct (fun j => (hsA g 0) (12 + j)) nt0 ++ (lfS ct (fun j => (hsA g 0) (8 + j)) cv0 ++ (lfS ct (fun j => (hsA g 1) (12 + j)) nt1 ++ (lfS ct (fun j => (hsA g 1) (8 + j)) cv1 ++ (lfP ct (fun j => (hsA g 0) (16 + j)) ps0 ++ (lfP ct (fun j => (hsA g 1) (16 + j)) ps1 ++ (lfK ct g))))))))))) (W' := (lfX ct g x ++ (lfH ct (hsA g 0) g h0 ++ (lfH ct (hsA g 1) g h1_16 ++ (lfS ct (fun j => (hsA g 0) (12 + j)) nt0 ++ (lfS ct (fun j => (hsA g 0) (8 + j)) cv0 ++ (lfS ct (fun j => (hsA g 1) (12 + j)) nt1 ++ (lfS ct (fun j => (hsA g 1) (8 + j)) cv1 ++ (lfP ct (fun j => (hsA g 0) (16 + j)) ps0 ++ (lfP ct (fun j => (hsA g 1) (16 + j)) ps1 ++ (lfK ct g))))))))))) (c_X1_sign l G ct sk sv (hsA g 1) g n h1 v6_8 v7_11 hc16) [11, 12, 13, 14, 15, 16, 17, 18] [0, 1, 2, 3, 4, 5, 6, 7, 8, 9, 10, 19, 20, 21, 22, 23, 24, 25, 26, 27, 28, 29, 30, 31, 32, 33, 34, 35, 36, 37, 38, 39, 40, 41, 42, 43, 44, 45] [0, 1, 2, 3, 4, 5, 6, 7, 8, 9, 10, 38, 39, 40, 41, 42, 43, 44, 45, 11, 12, 13, 14, 15, 16, 17, 18, 19, 20, 21, 22, 23, 24, 25, 26, 27, 28, 29, 30, 31, 32, 33, 34, 35, 36, 37] rfl rfl rfl rfl (by decide) rfl rfl) 11 rfl rfl ⟨Nat.le_of_ble_eq_true rfl, Nat.le_of_ble_eq_true rfl⟩ rfl hl.1 rfl (Nat.le_of_ble_eq_true rfl) dX11_sessions_129 ⟨Nat.le_of_ble_eq_true rfl, Nat.le_of_ble_eq_true rfl⟩ (fun r9 w9 H locs hB hP hD hS => ?_)
              obtain ⟨rfl, rfl⟩ := hB
              refine WG_eq (g2 := F0 m 132 ls []) rfl ?_
              exact J132 h1_16 r_9 v5 _ _ _ hP hD hS (lv_sub hl [1, 3, 4, 5] rfl) hf
  have J21 : ∀ (x : MV) (h1 : MV) (nt1 : MV) (cv1 : MV) (ps1 : MV) (H : Heap) (locs : List Loc) (ls : Array Slot), va_P G classes (lfX ct g x ++ (lfH ct (hsA g 0) g h0 ++ (lfH ct (hsA g 1) g h1 ++ (lfS ct (fun j => (hsA g 0) (12 + j)) nt0 ++ (lfS ct (fun j => (hsA g 0) (8 + j)) cv0 ++ (lfS ct (fun j => (hsA g 1) (12 + j)) nt1 ++ (lfS ct (fun j => (hsA g 1) (8 + j)) cv1 ++ (lfP ct (fun j => (hsA g 0) (16 + j)) ps0 ++ (lfP ct (fun j => (hsA g 1) (16 + j)) ps1 ++ (lfK ct g)))))))))) H → va_D A (lfX ct g x ++ (lfH ct (hsA g 0) g h0 ++ (lfH ct (hsA g 1) g h1 ++ (lfS ct (fun j => (hsA g 0) (12 + j)) nt0 ++ (lfS ct (fun j => (hsA g 0) (8 + j)) cv0 ++ (lfS ct (fun j => (hsA g 1) (12 + j)) nt1 ++ (lfS ct (fun j => (hsA g 1) (8 + j)) cv1 ++ (lfP ct (fun j => (hsA g 0) (16 + j)) ps0 ++ (lfP ct (fun j => (hsA g 1) (16 + j)) ps1 ++ (lfK ct g)))))))))) → va_S A s.heap H locs → lv_has ls 8 [(0, .ref (g 7))] → f_X11_sessions_j21 n x h0 h1 nt0 cv0 nt1 cv1 ps0 ps1 = some (r, x', h1', nt1', cv1', ps1') → WG l G ct sk sv p e (RM 6 206 0 0) s m args below meth c A (Eq2 (some (.int r)) (lfX ct g x' ++ (lfH ct (hsA g 0) g h0 ++ (lfH ct (hsA g 1) g h1' ++ (lfS ct (fun j => (hsA g 0) (12 + j)) nt0 ++ (lfS ct (fun j => (hsA g 0) (8 + j)) cv0 ++ (lfS ct (fun j => (hsA g 1) (12 + j)) nt1' ++ (lfS ct (fun j => (hsA g 1) (8 + j)) cv1' ++ (lfP ct (fun j => (hsA g 0) (16 + j)) ps0 ++ (lfP ct (fun j => (hsA g 1) (16 + j)) ps1' ++ (lfK ct g))))))))))) H locs (F0 m 21 ls []) := by
    intro x h1 nt1 cv1 ps1 H locs ls hP hD hS hl hf
    unfold f_X11_sessions_j21 at hf
    refine lv_aload_n hx hb dX11_sessions_21 rfl (lv_at hl 0 rfl) ?_
    obtain ⟨r_17, x_18, hc18, hf⟩ := bd2_e hf
    refine call_V (As := []) (rest := []) hx hb hml hown hts hK hP hD hS hA hZ lkX11_83 (Ctr.up (W := (lfX ct g x ++ (lfH ct (hsA g 0) g h0 ++ (lfH ct (hsA g 1) g h1 ++ (lfS ct (fun j => (hsA g 0) (12 + j)) nt0 ++ (lfS ct (fun j => (hsA g 0) (8 + j)) cv0 ++ (lfS ct (fun j => (hsA g 1) (12 + j)) nt1 ++ (lfS ct (fun j => (hsA g 1) (8 + j)) cv1 ++ (lfP ct (fun j => (hsA g 0) (16 + j)) ps0 ++ (lfP ct (fun j => (hsA g 1) (16 + j)) ps1 ++ (lfK ct g))))))))))) (W' := (lfX ct g x_18 ++ (lfH ct (hsA g 0) g h0 ++ (lfH ct (hsA g 1) g h1 ++ (lfS ct (fun j => (hsA g 0) (12 + j)) nt0 ++ (lfS ct (fun j => (hsA g 0) (8 + j)) cv0 ++ (lfS ct (fun j => (hsA g 1) (12 + j)) nt1 ++ (lfS ct (fun j => (hsA g 1) (8 + j)) cv1 ++ (lfP ct (fun j => (hsA g 0) (16 + j)) ps0 ++ (lfP ct (fun j => (hsA g 1) (16 + j)) ps1 ++ (lfK ct g))))))))))) (c_X11_refuseBad l G ct sk sv g n x hc18) [0, 1, 2] [3, 4, 5, 6, 7, 8, 9, 10, 11, 12, 13, 14, 15, 16, 17, 18, 19, 20, 21, 22, 23, 24, 25, 26, 27, 28, 29, 30, 31, 32, 33, 34, 35, 36, 37, 38, 39, 40, 41, 42, 43, 44, 45] [43, 44, 45, 0, 1, 2, 3, 4, 5, 6, 7, 8, 9, 10, 11, 12, 13, 14, 15, 16, 17, 18, 19, 20, 21, 22, 23, 24, 25, 26, 27, 28, 29, 30, 31, 32, 33, 34, 35, 36, 37, 38, 39, 40, 41, 42] rfl rfl rfl rfl (by decide) rfl rfl) 0 rfl rfl ⟨Nat.le_of_ble_eq_true rfl, Nat.le_of_ble_eq_true rfl⟩ rfl hl.1 rfl (Nat.le_of_ble_eq_true rfl) dX11_sessions_22 ⟨Nat.le_of_ble_eq_true rfl, Nat.le_of_ble_eq_true rfl⟩ (fun r9 w9 H locs hB hP hD hS => ?_)
    obtain ⟨rfl, rfl⟩ := hB
    refine WG_eq (g2 := F0 m 25 ls [.int r_17]) rfl ?_
    obtain ⟨e1, e2, e3, e4, e5, e6⟩ := inj6 (Option.some.inj hf)
    exact end_i (w' := (lfX ct g x_18 ++ (lfH ct (hsA g 0) g h0 ++ (lfH ct (hsA g 1) g h1 ++ (lfS ct (fun j => (hsA g 0) (12 + j)) nt0 ++ (lfS ct (fun j => (hsA g 0) (8 + j)) cv0 ++ (lfS ct (fun j => (hsA g 1) (12 + j)) nt1 ++ (lfS ct (fun j => (hsA g 1) (8 + j)) cv1 ++ (lfP ct (fun j => (hsA g 0) (16 + j)) ps0 ++ (lfP ct (fun j => (hsA g 1) (16 + j)) ps1 ++ (lfK ct g))))))))))) hx hb hr hlocks hK hP hD hS dX11_sessions_25  ⟨by rw [← e1], by rw [← e2, ← e3, ← e4, ← e5, ← e6]⟩
  unfold f_X11_sessions at hf
  show WG l G ct sk sv p e (RM 6 206 0 0) s m args below meth c A (Eq2 (some (.int r)) (lfX ct g x' ++ (lfH ct (hsA g 0) g h0 ++ (lfH ct (hsA g 1) g h1' ++ (lfS ct (fun j => (hsA g 0) (12 + j)) nt0 ++ (lfS ct (fun j => (hsA g 0) (8 + j)) cv0 ++ (lfS ct (fun j => (hsA g 1) (12 + j)) nt1' ++ (lfS ct (fun j => (hsA g 1) (8 + j)) cv1' ++ (lfP ct (fun j => (hsA g 0) (16 + j)) ps0 ++ (lfP ct (fun j => (hsA g 1) (16 + j)) ps1' ++ (lfK ct g))))))))))) s.heap [] (F0 m 0 ls [])
  refine lv_iload_n hx hb dX11_sessions_0 rfl (lv_at hl 1 rfl) ?_
  refine lv_iconst (v := 0) hx hb dX11_sessions_1 (by decide) ?_
  refine lv_ldcw (v := 999999) hx hb hown (hts _ kw826) dX11_sessions_2 ?_
  obtain ⟨r_19, hc19, hf⟩ := bd_e hf
  refine call_S (As := [.int v1, .int 0, .int 999999]) (rest := []) hx hb hml hown hts hK hP hD hS hA hZ lkX11_75 (Ctr.up (W := (lfX ct g x ++ (lfH ct (hsA g 0) g h0 ++ (lfH ct (hsA g 1) g h1 ++ (lfS ct (fun j => (hsA g 0) (12 + j)) nt0 ++ (lfS ct (fun j => (hsA g 0) (8 + j)) cv0 ++ (lfS ct (fun j => (hsA g 1) (12 + j)) nt1 ++ (lfS ct (fun j => (hsA g 1) (8 + j)) cv1 ++ (lfP ct (fun j => (hsA g 0) (16 + j)) ps0 ++ (lfP ct (fun j => (hsA g 1) (16 + j)) ps1 ++ (lfK ct g))))))))))) (W' := (lfX ct g x ++ (lfH ct (hsA g 0) g h0 ++ (lfH ct (hsA g 1) g h1 ++ (lfS ct (fun j => (hsA g 0) (12 + j)) nt0 ++ (lfS ct (fun j => (hsA g 0) (8 + j)) cv0 ++ (lfS ct (fun j => (hsA g 1) (12 + j)) nt1 ++ (lfS ct (fun j => (hsA g 1) (8 + j)) cv1 ++ (lfP ct (fun j => (hsA g 0) (16 + j)) ps0 ++ (lfP ct (fun j => (hsA g 1) (16 + j)) ps1 ++ (lfK ct g))))))))))) (c_X11_within l G ct sk sv  n v1 0 999999 hc19) [] [0, 1, 2, 3, 4, 5, 6, 7, 8, 9, 10, 11, 12, 13, 14, 15, 16, 17, 18, 19, 20, 21, 22, 23, 24, 25, 26, 27, 28, 29, 30, 31, 32, 33, 34, 35, 36, 37, 38, 39, 40, 41, 42, 43, 44, 45] [0, 1, 2, 3, 4, 5, 6, 7, 8, 9, 10, 11, 12, 13, 14, 15, 16, 17, 18, 19, 20, 21, 22, 23, 24, 25, 26, 27, 28, 29, 30, 31, 32, 33, 34, 35, 36, 37, 38, 39, 40, 41, 42, 43, 44, 45] rfl rfl rfl rfl (by decide) rfl rfl) ⟨Nat.le_of_ble_eq_true rfl, Nat.le_of_ble_eq_true rfl⟩ rfl hl.1 rfl (Nat.le_of_ble_eq_true rfl) dX11_sessions_5 ⟨Nat.le_of_ble_eq_true rfl, Nat.le_of_ble_eq_true rfl⟩ (fun r9 w9 H locs hB hP hD hS => ?_)
  obtain ⟨rfl, rfl⟩ := hB
  refine WG_eq (g2 := F0 m 8 ls [.int r_19]) rfl ?_
  refine lv_if_eq (tgt := 21) hx hb dX11_sessions_8 (by decide) (fun c_20 => ?_) (fun c_20 => ?_)
  · replace hf := bc_t hf c_20
    exact J21 x h1 nt1 cv1 ps1 _ _ _ hP hD hS (lv_sub hl [0] rfl) hf
  · replace hf := bc_f hf c_20
    refine lv_iload_n hx hb dX11_sessions_11 rfl (lv_at hl 2 rfl) ?_
    refine lv_iconst (v := 0) hx hb dX11_sessions_12 (by decide) ?_
    refine lv_bipush (v := 60) hx hb dX11_sessions_13 (by decide) ?_
    obtain ⟨r_21, hc21, hf⟩ := bd_e hf
    refine call_S (As := [.int v2, .int 0, .int 60]) (rest := []) hx hb hml hown hts hK hP hD hS hA hZ lkX11_75 (Ctr.up (W := (lfX ct g x ++ (lfH ct (hsA g 0) g h0 ++ (lfH ct (hsA g 1) g h1 ++ (lfS ct (fun j => (hsA g 0) (12 + j)) nt0 ++ (lfS ct (fun j => (hsA g 0) (8 + j)) cv0 ++ (lfS ct (fun j => (hsA g 1) (12 + j)) nt1 ++ (lfS ct (fun j => (hsA g 1) (8 + j)) cv1 ++ (lfP ct (fun j => (hsA g 0) (16 + j)) ps0 ++ (lfP ct (fun j => (hsA g 1) (16 + j)) ps1 ++ (lfK ct g))))))))))) (W' := (lfX ct g x ++ (lfH ct (hsA g 0) g h0 ++ (lfH ct (hsA g 1) g h1 ++ (lfS ct (fun j => (hsA g 0) (12 + j)) nt0 ++ (lfS ct (fun j => (hsA g 0) (8 + j)) cv0 ++ (lfS ct (fun j => (hsA g 1) (12 + j)) nt1 ++ (lfS ct (fun j => (hsA g 1) (8 + j)) cv1 ++ (lfP ct (fun j => (hsA g 0) (16 + j)) ps0 ++ (lfP ct (fun j => (hsA g 1) (16 + j)) ps1 ++ (lfK ct g))))))))))) (c_X11_within l G ct sk sv  n v2 0 60 hc21) [] [0, 1, 2, 3, 4, 5, 6, 7, 8, 9, 10, 11, 12, 13, 14, 15, 16, 17, 18, 19, 20, 21, 22, 23, 24, 25, 26, 27, 28, 29, 30, 31, 32, 33, 34, 35, 36, 37, 38, 39, 40, 41, 42, 43, 44, 45] [0, 1, 2, 3, 4, 5, 6, 7, 8, 9, 10, 11, 12, 13, 14, 15, 16, 17, 18, 19, 20, 21, 22, 23, 24, 25, 26, 27, 28, 29, 30, 31, 32, 33, 34, 35, 36, 37, 38, 39, 40, 41, 42, 43, 44, 45] rfl rfl rfl rfl (by decide) rfl rfl) ⟨Nat.le_of_ble_eq_true rfl, Nat.le_of_ble_eq_true rfl⟩ rfl hl.1 rfl (Nat.le_of_ble_eq_true rfl) dX11_sessions_15 ⟨Nat.le_of_ble_eq_true rfl, Nat.le_of_ble_eq_true rfl⟩ (fun r9 w9 H locs hB hP hD hS => ?_)
    obtain ⟨rfl, rfl⟩ := hB
    refine WG_eq (g2 := F0 m 18 ls [.int r_21]) rfl ?_
    refine lv_if_ne (tgt := 26) hx hb dX11_sessions_18 (by decide) (fun c_22 => ?_) (fun c_22 => ?_)
    · replace hf := bc_f hf c_22
      refine lv_aload_n hx hb dX11_sessions_26 rfl (lv_at hl 0 rfl) ?_
      refine va_get (D := G) (C := RX11) (T := TX11) (N := 11) (v := .ref ((hsA g 1) 0)) hx hb hts iu_X11 hown hK hP 0 rfl rfl 1 (by decide) (hts _ kw263) (fun _ h9 => h9) rfl dX11_sessions_27 ?_
      refine lv_aload_n hx hb dX11_sessions_30 rfl (lv_at hl 0 rfl) ?_
      refine va_get (D := G) (C := RX11) (T := TX11) (N := 11) (v := .ref ((hsA g 0) 0)) hx hb hts iu_X11 hown hK hP 0 rfl rfl 0 (by decide) (hts _ kw262) (fun _ h9 => h9) rfl dX11_sessions_31 ?_
      obtain ⟨h1_23, nt1_24, cv1_25, ps1_26, hc26, hf⟩ := bd4_e hf
      refine call_V (As := [.ref ((hsA g 0) 0)]) (rest := []) hx hb hml hown hts hK hP hD hS hA hZ lkX11_121 (Ctr.up (W := (lfX ct g x ++ (lfH ct (hsA g 0) g h0 ++ (lfH ct (hsA g 1) g h1 ++ (lfS ct (fun j => (hsA g 0) (12 + j)) nt0 ++ (lfS ct (fun j => (hsA g 0) (8 + j)) cv0 ++ (lfS ct (fun j => (hsA g 1) (12 + j)) nt1 ++ (lfS ct (fun j => (hsA g 1) (8 + j)) cv1 ++ (lfP ct (fun j => (hsA g 0) (16 + j)) ps0 ++ (lfP ct (fun j => (hsA g 1) (16 + j)) ps1 ++ (lfK ct g))))))))))) (W' := (lfX ct g x ++ (lfH ct (hsA g 0) g h0 ++ (lfH ct (hsA g 1) g h1_23 ++ (lfS ct (fun j => (hsA g 0) (12 + j)) nt0 ++ (lfS ct (fun j => (hsA g 0) (8 + j)) cv0 ++ (lfS ct (fun j => (hsA g 1) (12 + j)) nt1_24 ++ (lfS ct (fun j => (hsA g 1) (8 + j)) cv1_25 ++ (lfP ct (fun j => (hsA g 0) (16 + j)) ps0 ++ (lfP ct (fun j => (hsA g 1) (16 + j)) ps1_26 ++ (lfK ct g))))))))))) (c_X1_takeOver l G ct sk sv (hsA g 1) (hsA g 0) g n h1 h0 nt1 cv1 nt0 cv0 ps1 ps0 hc26) [11, 12, 13, 14, 15, 16, 17, 18, 3, 4, 5, 6, 7, 8, 9, 10, 27, 28, 29, 30, 31, 32, 33, 34, 19, 20, 21, 22, 23, 24, 25, 26, 37, 38, 35, 36] [0, 1, 2, 39, 40, 41, 42, 43, 44, 45] [0, 1, 2, 18, 19, 20, 21, 22, 23, 24, 25, 10, 11, 12, 13, 14, 15, 16, 17, 34, 35, 36, 37, 38, 39, 40, 41, 26, 27, 28, 29, 30, 31, 32, 33, 44, 45, 42, 43, 3, 4, 5, 6, 7, 8, 9] rfl rfl rfl rfl (by decide) rfl rfl) 11 rfl rfl ⟨Nat.le_of_ble_eq_true rfl, Nat.le_of_ble_eq_true rfl⟩ rfl hl.1 rfl (Nat.le_of_ble_eq_true rfl) dX11_sessions_34 ⟨Nat.le_of_ble_eq_true rfl, Nat.le_of_ble_eq_true rfl⟩ (fun r9 w9 H locs hB hP hD hS => ?_)
      obtain ⟨rfl, rfl⟩ := hB
      refine WG_eq (g2 := F0 m 37 ls []) rfl ?_
      refine lv_iload_n hx hb dX11_sessions_37 rfl (lv_at hl 1 rfl) ?_
      refine lv_i2l (v := (v1 : Int32).toInt64) hx hb dX11_sessions_38 rfl ?_
      refine lv_topl (fun v3_27 ev3_27 => ?_)
      replace hf := bl_i hf ev3_27
      refine lv_lstore_n (lv' := [(3, .long v3_27), (0, .ref (g 7)), (1, .int v1), (2, .int v2)]) hx hb dX11_sessions_39 rfl hl (by decide) rfl (fun ls hl => ?_)
      refine lv_iconst (v := 0) hx hb dX11_sessions_40 (by decide) ?_
      refine lv_istore (lv' := [(5, .int 0), (3, .long v3_27), (0, .ref (g 7)), (1, .int v1), (2, .int v2)]) hx hb dX11_sessions_41 hl (by decide) rfl (fun ls hl => ?_)
      obtain ⟨h1_28, hx_29, hf⟩ := bd_e hf
      refine L43 n x h1_23 nt1_24 cv1_25 ps1_26 v2 0 v3_27 h1_28 _ _ _ hP hD hS (lv_sub hl [0, 1, 2, 4] rfl) hx_29 ?_
      intro x9 e9 H locs ls hP hD hS hl
      subst e9
      have hP : va_P G classes (lfX ct g x ++ (lfH ct (hsA g 0) g h0 ++ (lfH ct (hsA g 1) g h1_28 ++ (lfS ct (fun j => (hsA g 0) (12 + j)) nt0 ++ (lfS ct (fun j => (hsA g 0) (8 + j)) cv0 ++ (lfS ct (fun j => (hsA g 1) (12 + j)) nt1_24 ++ (lfS ct (fun j => (hsA g 1) (8 + j)) cv1_25 ++ (lfP ct (fun j => (hsA g 0) (16 + j)) ps0 ++ (lfP ct (fun j => (hsA g 1) (16 + j)) ps1_26 ++ (lfK ct g)))))))))) H := hP
      have hD : va_D A (lfX ct g x ++ (lfH ct (hsA g 0) g h0 ++ (lfH ct (hsA g 1) g h1_28 ++ (lfS ct (fun j => (hsA g 0) (12 + j)) nt0 ++ (lfS ct (fun j => (hsA g 0) (8 + j)) cv0 ++ (lfS ct (fun j => (hsA g 1) (12 + j)) nt1_24 ++ (lfS ct (fun j => (hsA g 1) (8 + j)) cv1_25 ++ (lfP ct (fun j => (hsA g 0) (16 + j)) ps0 ++ (lfP ct (fun j => (hsA g 1) (16 + j)) ps1_26 ++ (lfK ct g)))))))))) := hD
      have hl : lv_has ls 8 [(0, .ref (g 7))] := hl
      refine lv_aload_n hx hb dX11_sessions_159 rfl (lv_at hl 0 rfl) ?_
      refine va_get (D := G) (C := RX11) (T := TX11) (N := 11) (v := .ref ((hsA g 1) 0)) hx hb hts iu_X11 hown hK hP 0 rfl rfl 1 (by decide) (hts _ kw263) (fun _ h9 => h9) rfl dX11_sessions_160 ?_
      refine va_get (D := G) (C := RX1) (T := TX1) (N := 16) (v := .int (h1_28.1 3)) hx hb hts iu_X1 hown hK hP 11 rfl rfl 11 (by decide) (hts _ kw153) (fun _ h9 => h9) rfl dX11_sessions_163 ?_
      refine lv_aload_n hx hb dX11_sessions_166 rfl (lv_at hl 0 rfl) ?_
      refine va_get (D := G) (C := RX11) (T := TX11) (N := 11) (v := .ref ((hsA g 0) 0)) hx hb hts iu_X11 hown hK hP 0 rfl rfl 0 (by decide) (hts _ kw262) (fun _ h9 => h9) rfl dX11_sessions_167 ?_
      refine va_get (D := G) (C := RX1) (T := TX1) (N := 16) (v := .int (h0.1 3)) hx hb hts iu_X1 hown hK hP 3 rfl rfl 11 (by decide) (hts _ kw153) (fun _ h9 => h9) rfl dX11_sessions_170 ?_
      refine lv_isub hx hb dX11_sessions_173 ?_
      obtain ⟨e1, e2, e3, e4, e5, e6⟩ := inj6 (Option.some.inj hf)
      exact end_i (w' := (lfX ct g x ++ (lfH ct (hsA g 0) g h0 ++ (lfH ct (hsA g 1) g h1_28 ++ (lfS ct (fun j => (hsA g 0) (12 + j)) nt0 ++ (lfS ct (fun j => (hsA g 0) (8 + j)) cv0 ++ (lfS ct (fun j => (hsA g 1) (12 + j)) nt1_24 ++ (lfS ct (fun j => (hsA g 1) (8 + j)) cv1_25 ++ (lfP ct (fun j => (hsA g 0) (16 + j)) ps0 ++ (lfP ct (fun j => (hsA g 1) (16 + j)) ps1_26 ++ (lfK ct g))))))))))) hx hb hr hlocks hK hP hD hS dX11_sessions_174  ⟨by rw [← e1], by rw [← e2, ← e3, ← e4, ← e5, ← e6]⟩
    · replace hf := bc_t hf c_22
      exact J21 x h1 nt1 cv1 ps1 _ _ _ hP hD hS (lv_sub hl [0] rfl) hf
noncomputable def f_X11_stand_j50 (n : Nat) (x : MV) (nv : MV) (h0 : MV) (s0 : Int32) : Option (Int32 × MV × MV) :=
  some (s0, x, nv)
noncomputable def f_X11_stand_j17 (n : Nat) (x : MV) (nv : MV) (h0 : MV) : Option (Int32 × MV × MV) :=
  bd2 (f_X11_refuseBad n x) fun r_1 x_2 =>
  some (r_1, x_2, nv)
noncomputable def f_X11_stand (n : Nat) (x : MV) (nv : MV) (h0 : MV) (v1 : Int32) (v2 : Int32) : Option (Int32 × MV × MV) :=
  bd (f_X11_isMember n x h0 v1) fun r_3 =>
  bc (r_3 = 0) (f_X11_stand_j17 n x nv h0)
  (bd (f_X11_within n v2 0 1) fun r_5 =>
  bc (r_5 = 0) (f_X11_stand_j17 n x nv h0)
  (bd2 (f_X3_bestPlace n nv h0 v1) fun r_7 nv_8 =>
  bc (v2 = 0) (f_X11_stand_j50 n x nv_8 h0 r_7)
  (f_X11_stand_j50 n x nv_8 h0 (nv_8.1 1))))
set_option maxHeartbeats 4000000 in
set_option maxRecDepth 100000 in
theorem c_X11_stand (l : Launch) (G : va_G) (ct : Nat → ClassId) (sk sv : Nat → Nat) (g : Nat → Nat) (n : Nat) (x : MV) (nv : MV) (h0 : MV) (v1 : Int32) (v2 : Int32) {r : Int32} {x' : MV} {nv' : MV} (hf : f_X11_stand n x nv h0 v1 v2 = some (r, x', nv')) : Ctr (l, G, ct, sk, sv) mX11_stand 7 238 [.ref (g 7), .int v1, .int v2] (lfX ct g x ++ (lfN ct (fun j => g (10 + j)) nv ++ (lfH ct (hsA g 0) g h0 ++ (lfK ct g)))) (lfX ct g x' ++ (lfN ct (fun j => g (10 + j)) nv' ++ (lfH ct (hsA g 0) g h0 ++ (lfK ct g)))) (some (.int r)) := by
  refine ctr_intro (by decide) (Nat.le_of_ble_eq_true rfl) ?_
  intro p e s m args below meth c A C hP hD hS hA ls hl
  obtain ⟨hx, hb, hml, hown, hts, hr, hlocks, hK, hnm, hZ⟩ := C
  have hb : c.code = cX11_stand := hb
  have hml : c.maxLocals = 4 := hml
  have hown : s.vm.findClass "SignedOutside" = some m.cls := hown
  have hr : meth.sig.returnType = some .int := hr
  have hP : va_P G classes (lfX ct g x ++ (lfN ct (fun j => g (10 + j)) nv ++ (lfH ct (hsA g 0) g h0 ++ (lfK ct g)))) s.heap := hP
  have hD : va_D A (lfX ct g x ++ (lfN ct (fun j => g (10 + j)) nv ++ (lfH ct (hsA g 0) g h0 ++ (lfK ct g)))) := hD
  have hK : va_K G classes (TYS ct) s := hK
  have hl : lv_has ls 4 [(0, .ref (g 7)), (1, .int v1), (2, .int v2)] := hl
  have J50 : ∀ (x : MV) (nv : MV) (s0 : Int32) (H : Heap) (locs : List Loc) (ls : Array Slot), va_P G classes (lfX ct g x ++ (lfN ct (fun j => g (10 + j)) nv ++ (lfH ct (hsA g 0) g h0 ++ (lfK ct g)))) H → va_D A (lfX ct g x ++ (lfN ct (fun j => g (10 + j)) nv ++ (lfH ct (hsA g 0) g h0 ++ (lfK ct g)))) → va_S A s.heap H locs → lv_has ls 4 [] → f_X11_stand_j50 n x nv h0 s0 = some (r, x', nv') → WG l G ct sk sv p e (RM 7 238 0 0) s m args below meth c A (Eq2 (some (.int r)) (lfX ct g x' ++ (lfN ct (fun j => g (10 + j)) nv' ++ (lfH ct (hsA g 0) g h0 ++ (lfK ct g))))) H locs (F0 m 50 ls [.int s0]) := by
    intro x nv s0 H locs ls hP hD hS hl hf
    unfold f_X11_stand_j50 at hf
    obtain ⟨e1, e2, e3⟩ := inj3 (Option.some.inj hf)
    exact end_i (w' := (lfX ct g x ++ (lfN ct (fun j => g (10 + j)) nv ++ (lfH ct (hsA g 0) g h0 ++ (lfK ct g))))) hx hb hr hlocks hK hP hD hS dX11_stand_50  ⟨by rw [← e1], by rw [← e2, ← e3]⟩
  have J17 : ∀ (x : MV) (nv : MV) (H : Heap) (locs : List Loc) (ls : Array Slot), va_P G classes (lfX ct g x ++ (lfN ct (fun j => g (10 + j)) nv ++ (lfH ct (hsA g 0) g h0 ++ (lfK ct g)))) H → va_D A (lfX ct g x ++ (lfN ct (fun j => g (10 + j)) nv ++ (lfH ct (hsA g 0) g h0 ++ (lfK ct g)))) → va_S A s.heap H locs → lv_has ls 4 [(0, .ref (g 7))] → f_X11_stand_j17 n x nv h0 = some (r, x', nv') → WG l G ct sk sv p e (RM 7 238 0 0) s m args below meth c A (Eq2 (some (.int r)) (lfX ct g x' ++ (lfN ct (fun j => g (10 + j)) nv' ++ (lfH ct (hsA g 0) g h0 ++ (lfK ct g))))) H locs (F0 m 17 ls []) := by
    intro x nv H locs ls hP hD hS hl hf
    unfold f_X11_stand_j17 at hf
    refine lv_aload_n hx hb dX11_stand_17 rfl (lv_at hl 0 rfl) ?_
    obtain ⟨r_1, x_2, hc2, hf⟩ := bd2_e hf
    refine call_V (As := []) (rest := []) hx hb hml hown hts hK hP hD hS hA hZ lkX11_83 (Ctr.up (W := (lfX ct g x ++ (lfN ct (fun j => g (10 + j)) nv ++ (lfH ct (hsA g 0) g h0 ++ (lfK ct g))))) (W' := (lfX ct g x_2 ++ (lfN ct (fun j => g (10 + j)) nv ++ (lfH ct (hsA g 0) g h0 ++ (lfK ct g))))) (c_X11_refuseBad l G ct sk sv g n x hc2) [0, 1, 2] [3, 4, 5, 6, 7, 8, 9, 10, 11, 12, 13, 14, 15, 16, 17, 18, 19, 20, 21, 22, 23, 24, 25] [23, 24, 25, 0, 1, 2, 3, 4, 5, 6, 7, 8, 9, 10, 11, 12, 13, 14, 15, 16, 17, 18, 19, 20, 21, 22] rfl rfl rfl rfl (by decide) rfl rfl) 0 rfl rfl ⟨Nat.le_of_ble_eq_true rfl, Nat.le_of_ble_eq_true rfl⟩ rfl hl.1 rfl (Nat.le_of_ble_eq_true rfl) dX11_stand_18 ⟨Nat.le_of_ble_eq_true rfl, Nat.le_of_ble_eq_true rfl⟩ (fun r9 w9 H locs hB hP hD hS => ?_)
    obtain ⟨rfl, rfl⟩ := hB
    refine WG_eq (g2 := F0 m 21 ls [.int r_1]) rfl ?_
    obtain ⟨e1, e2, e3⟩ := inj3 (Option.some.inj hf)
    exact end_i (w' := (lfX ct g x_2 ++ (lfN ct (fun j => g (10 + j)) nv ++ (lfH ct (hsA g 0) g h0 ++ (lfK ct g))))) hx hb hr hlocks hK hP hD hS dX11_stand_21  ⟨by rw [← e1], by rw [← e2, ← e3]⟩
  unfold f_X11_stand at hf
  show WG l G ct sk sv p e (RM 7 238 0 0) s m args below meth c A (Eq2 (some (.int r)) (lfX ct g x' ++ (lfN ct (fun j => g (10 + j)) nv' ++ (lfH ct (hsA g 0) g h0 ++ (lfK ct g))))) s.heap [] (F0 m 0 ls [])
  refine lv_aload_n hx hb dX11_stand_0 rfl (lv_at hl 0 rfl) ?_
  refine lv_iload_n hx hb dX11_stand_1 rfl (lv_at hl 1 rfl) ?_
  obtain ⟨r_3, hc3, hf⟩ := bd_e hf
  refine call_V (As := [.int v1]) (rest := []) hx hb hml hown hts hK hP hD hS hA hZ lkX11_128 (Ctr.up (W := (lfX ct g x ++ (lfN ct (fun j => g (10 + j)) nv ++ (lfH ct (hsA g 0) g h0 ++ (lfK ct g))))) (W' := (lfX ct g x ++ (lfN ct (fun j => g (10 + j)) nv ++ (lfH ct (hsA g 0) g h0 ++ (lfK ct g))))) (c_X11_isMember l G ct sk sv g n x h0 v1 hc3) [0, 1, 2, 11, 12, 13, 14, 15, 16, 17, 18] [3, 4, 5, 6, 7, 8, 9, 10, 19, 20, 21, 22, 23, 24, 25] [15, 16, 17, 0, 1, 2, 3, 4, 5, 6, 7, 18, 19, 20, 21, 22, 23, 24, 25, 8, 9, 10, 11, 12, 13, 14] rfl rfl rfl rfl (by decide) rfl rfl) 0 rfl rfl ⟨Nat.le_of_ble_eq_true rfl, Nat.le_of_ble_eq_true rfl⟩ rfl hl.1 rfl (Nat.le_of_ble_eq_true rfl) dX11_stand_2 ⟨Nat.le_of_ble_eq_true rfl, Nat.le_of_ble_eq_true rfl⟩ (fun r9 w9 H locs hB hP hD hS => ?_)
  obtain ⟨rfl, rfl⟩ := hB
  refine WG_eq (g2 := F0 m 5 ls [.int r_3]) rfl ?_
  refine lv_if_eq (tgt := 17) hx hb dX11_stand_5 (by decide) (fun c_4 => ?_) (fun c_4 => ?_)
  · replace hf := bc_t hf c_4
    exact J17 x nv _ _ _ hP hD hS (lv_sub hl [0] rfl) hf
  · replace hf := bc_f hf c_4
    refine lv_iload_n hx hb dX11_stand_8 rfl (lv_at hl 2 rfl) ?_
    refine lv_iconst (v := 0) hx hb dX11_stand_9 (by decide) ?_
    refine lv_iconst (v := 1) hx hb dX11_stand_10 (by decide) ?_
    obtain ⟨r_5, hc5, hf⟩ := bd_e hf
    refine call_S (As := [.int v2, .int 0, .int 1]) (rest := []) hx hb hml hown hts hK hP hD hS hA hZ lkX11_75 (Ctr.up (W := (lfX ct g x ++ (lfN ct (fun j => g (10 + j)) nv ++ (lfH ct (hsA g 0) g h0 ++ (lfK ct g))))) (W' := (lfX ct g x ++ (lfN ct (fun j => g (10 + j)) nv ++ (lfH ct (hsA g 0) g h0 ++ (lfK ct g))))) (c_X11_within l G ct sk sv  n v2 0 1 hc5) [] [0, 1, 2, 3, 4, 5, 6, 7, 8, 9, 10, 11, 12, 13, 14, 15, 16, 17, 18, 19, 20, 21, 22, 23, 24, 25] [0, 1, 2, 3, 4, 5, 6, 7, 8, 9, 10, 11, 12, 13, 14, 15, 16, 17, 18, 19, 20, 21, 22, 23, 24, 25] rfl rfl rfl rfl (by decide) rfl rfl) ⟨Nat.le_of_ble_eq_true rfl, Nat.le_of_ble_eq_true rfl⟩ rfl hl.1 rfl (Nat.le_of_ble_eq_true rfl) dX11_stand_11 ⟨Nat.le_of_ble_eq_true rfl, Nat.le_of_ble_eq_true rfl⟩ (fun r9 w9 H locs hB hP hD hS => ?_)
    obtain ⟨rfl, rfl⟩ := hB
    refine WG_eq (g2 := F0 m 14 ls [.int r_5]) rfl ?_
    refine lv_if_ne (tgt := 22) hx hb dX11_stand_14 (by decide) (fun c_6 => ?_) (fun c_6 => ?_)
    · replace hf := bc_f hf c_6
      refine lv_aload_n hx hb dX11_stand_22 rfl (lv_at hl 0 rfl) ?_
      refine va_get (D := G) (C := RX11) (T := TX11) (N := 11) (v := .ref (g 10)) hx hb hts iu_X11 hown hK hP 0 rfl rfl 4 (by decide) (hts _ kw266) (fun _ h9 => h9) rfl dX11_stand_23 ?_
      refine lv_aload_n hx hb dX11_stand_26 rfl (lv_at hl 0 rfl) ?_
      refine va_get (D := G) (C := RX11) (T := TX11) (N := 11) (v := .ref ((hsA g 0) 0)) hx hb hts iu_X11 hown hK hP 0 rfl rfl 0 (by decide) (hts _ kw262) (fun _ h9 => h9) rfl dX11_stand_27 ?_
      refine lv_iload_n hx hb dX11_stand_30 rfl (lv_at hl 1 rfl) ?_
      obtain ⟨r_7, nv_8, hc8, hf⟩ := bd2_e hf
      refine call_V (As := [.ref ((hsA g 0) 0), .int v1]) (rest := []) hx hb hml hown hts hK hP hD hS hA hZ lkX11_231 (Ctr.up (W := (lfX ct g x ++ (lfN ct (fun j => g (10 + j)) nv ++ (lfH ct (hsA g 0) g h0 ++ (lfK ct g))))) (W' := (lfX ct g x ++ (lfN ct (fun j => g (10 + j)) nv_8 ++ (lfH ct (hsA g 0) g h0 ++ (lfK ct g))))) (c_X3_bestPlace l G ct sk sv (fun j => g (10 + j)) (hsA g 0) g n nv h0 v1 hc8) [3, 4, 5, 6, 7, 8, 9, 10, 11, 12, 13, 14, 15, 16, 17, 18, 19, 20, 21, 22, 23, 24, 25] [0, 1, 2] [0, 1, 2, 3, 4, 5, 6, 7, 8, 9, 10, 11, 12, 13, 14, 15, 16, 17, 18, 19, 20, 21, 22, 23, 24, 25] rfl rfl rfl rfl (by decide) rfl rfl) 3 rfl rfl ⟨Nat.le_of_ble_eq_true rfl, Nat.le_of_ble_eq_true rfl⟩ rfl hl.1 rfl (Nat.le_of_ble_eq_true rfl) dX11_stand_31 ⟨Nat.le_of_ble_eq_true rfl, Nat.le_of_ble_eq_true rfl⟩ (fun r9 w9 H locs hB hP hD hS => ?_)
      obtain ⟨rfl, rfl⟩ := hB
      refine WG_eq (g2 := F0 m 34 ls [.int r_7]) rfl ?_
      refine lv_istore_n (lv' := [(3, .int r_7), (0, .ref (g 7)), (1, .int v1), (2, .int v2)]) hx hb dX11_stand_34 rfl hl (by decide) rfl (fun ls hl => ?_)
      refine lv_iload_n hx hb dX11_stand_35 rfl (lv_at hl 3 rfl) ?_
      refine lv_if_ne (tgt := 43) hx hb dX11_stand_36 (by decide) (fun c_9 => ?_) (fun c_9 => ?_)
      · replace hf := bc_f hf c_9
        refine lv_aload_n hx hb dX11_stand_43 rfl (lv_at hl 1 rfl) ?_
        refine va_get (D := G) (C := RX11) (T := TX11) (N := 11) (v := .ref (g 10)) hx hb hts iu_X11 hown hK hP 0 rfl rfl 4 (by decide) (hts _ kw266) (fun _ h9 => h9) rfl dX11_stand_44 ?_
        refine va_get (D := G) (C := RX3) (T := TX3) (N := 9) (v := .int (nv_8.1 1)) hx hb hts iu_X3 hown hK hP 3 rfl rfl 8 (by decide) (hts _ kw213) (fun _ h9 => h9) rfl dX11_stand_47 ?_
        exact J50 x nv_8 (nv_8.1 1) _ _ _ hP hD hS (lv_sub hl [] rfl) hf
      · replace hf := bc_t hf c_9
        refine lv_iload_n hx hb dX11_stand_39 rfl (lv_at hl 0 rfl) ?_
        refine lv_goto (tgt := 50) hx hb dX11_stand_40 (by decide) ?_
        exact J50 x nv_8 r_7 _ _ _ hP hD hS (lv_sub hl [] rfl) hf
    · replace hf := bc_t hf c_6
      exact J17 x nv _ _ _ hP hD hS (lv_sub hl [0] rfl) hf
noncomputable def f_X11_status (n : Nat) (x : MV) (v1 : Int32) : Option (Int32 × MV) :=
  bc (v1 = 0) (some (x.1 0, x)) <|
  bc (v1 = 1) (some (x.1 1, x)) <|
  bc (v1 = 2) (some (x.1 2, x)) <|
  bd2 (f_X11_refuseBad n x) fun r_4 x_5 =>
  some ((-1), x_5)
set_option maxHeartbeats 4000000 in
set_option maxRecDepth 100000 in
theorem c_X11_status (l : Launch) (G : va_G) (ct : Nat → ClassId) (sk sv : Nat → Nat) (g : Nat → Nat) (n : Nat) (x : MV) (v1 : Int32) {r : Int32} {x' : MV} (hf : f_X11_status n x v1 = some (r, x')) : Ctr (l, G, ct, sk, sv) mX11_status 1 20 [.ref (g 7), .int v1] (lfX ct g x) (lfX ct g x') (some (.int r)) := by
  refine ctr_intro (by decide) (Nat.le_of_ble_eq_true rfl) ?_
  intro p e s m args below meth c A C hP hD hS hA ls hl
  obtain ⟨hx, hb, hml, hown, hts, hr, hlocks, hK, hnm, hZ⟩ := C
  have hb : c.code = cX11_status := hb
  have hml : c.maxLocals = 2 := hml
  have hown : s.vm.findClass "SignedOutside" = some m.cls := hown
  have hr : meth.sig.returnType = some .int := hr
  have hP : va_P G classes (lfX ct g x) s.heap := hP
  have hD : va_D A (lfX ct g x) := hD
  have hK : va_K G classes (TYS ct) s := hK
  have hl : lv_has ls 2 [(0, .ref (g 7)), (1, .int v1)] := hl
  unfold f_X11_status at hf
  show WG l G ct sk sv p e (RM 1 20 0 0) s m args below meth c A (Eq2 (some (.int r)) (lfX ct g x')) s.heap [] (F0 m 0 ls [])
  refine lv_iload_n hx hb dX11_status_0 rfl (lv_at hl 1 rfl) ?_
  rcases Classical.em (v1 = 0) with c_1 | c_1
  · replace hf := bc_t hf c_1
    refine lv_tableIn (tgt := 28) hx hb dX11_status_1 (by rw [c_1]; decide) (by rw [c_1]; decide) (by rw [c_1]; rfl) (by decide) ?_
    refine lv_aload_n hx hb dX11_status_28 rfl (lv_at hl 0 rfl) ?_
    refine va_get (D := G) (C := RX11) (T := TX11) (N := 11) (v := .int (x.1 0)) hx hb hts iu_X11 hown hK hP 0 rfl rfl 8 (by decide) (hts _ kw270) (fun _ h9 => h9) rfl dX11_status_29 ?_
    obtain ⟨e1, e2⟩ := inj2 (Option.some.inj hf)
    exact end_i (w' := (lfX ct g x)) hx hb hr hlocks hK hP hD hS dX11_status_32  ⟨by rw [← e1], by rw [← e2]⟩
  replace hf := bc_f hf c_1
  rcases Classical.em (v1 = 1) with c_2 | c_2
  · replace hf := bc_t hf c_2
    refine lv_tableIn (tgt := 33) hx hb dX11_status_1 (by rw [c_2]; decide) (by rw [c_2]; decide) (by rw [c_2]; rfl) (by decide) ?_
    refine lv_aload_n hx hb dX11_status_33 rfl (lv_at hl 0 rfl) ?_
    refine va_get (D := G) (C := RX11) (T := TX11) (N := 11) (v := .int (x.1 1)) hx hb hts iu_X11 hown hK hP 0 rfl rfl 9 (by decide) (hts _ kw271) (fun _ h9 => h9) rfl dX11_status_34 ?_
    obtain ⟨e1, e2⟩ := inj2 (Option.some.inj hf)
    exact end_i (w' := (lfX ct g x)) hx hb hr hlocks hK hP hD hS dX11_status_37  ⟨by rw [← e1], by rw [← e2]⟩
  replace hf := bc_f hf c_2
  rcases Classical.em (v1 = 2) with c_3 | c_3
  · replace hf := bc_t hf c_3
    refine lv_tableIn (tgt := 38) hx hb dX11_status_1 (by rw [c_3]; decide) (by rw [c_3]; decide) (by rw [c_3]; rfl) (by decide) ?_
    refine lv_aload_n hx hb dX11_status_38 rfl (lv_at hl 0 rfl) ?_
    refine va_get (D := G) (C := RX11) (T := TX11) (N := 11) (v := .int (x.1 2)) hx hb hts iu_X11 hown hK hP 0 rfl rfl 10 (by decide) (hts _ kw272) (fun _ h9 => h9) rfl dX11_status_39 ?_
    obtain ⟨e1, e2⟩ := inj2 (Option.some.inj hf)
    exact end_i (w' := (lfX ct g x)) hx hb hr hlocks hK hP hD hS dX11_status_42  ⟨by rw [← e1], by rw [← e2]⟩
  replace hf := bc_f hf c_3
  have tc_1 := lv_neT (a := 0) c_1 (by decide)
  have tc_2 := lv_neT (a := 1) c_2 (by decide)
  have tc_3 := lv_neT (a := 2) c_3 (by decide)
  refine lv_tableOut (tgt := 43) hx hb dX11_status_1 (by omega) (by decide) ?_
  refine lv_aload_n hx hb dX11_status_43 rfl (lv_at hl 0 rfl) ?_
  obtain ⟨r_4, x_5, hc5, hf⟩ := bd2_e hf
  refine call_V (As := []) (rest := []) hx hb hml hown hts hK hP hD hS hA hZ lkX11_83 (c_X11_refuseBad l G ct sk sv g n x hc5) 0 rfl rfl ⟨Nat.le_of_ble_eq_true rfl, Nat.le_of_ble_eq_true rfl⟩ rfl hl.1 rfl (Nat.le_of_ble_eq_true rfl) dX11_status_44 ⟨Nat.le_of_ble_eq_true rfl, Nat.le_of_ble_eq_true rfl⟩ (fun r9 w9 H locs hB hP hD hS => ?_)
  obtain ⟨rfl, rfl⟩ := hB
  refine WG_eq (g2 := F0 m 47 ls [.int r_4]) rfl ?_
  refine lv_pop hx hb dX11_status_47 rfl ?_
  refine lv_iconst (v := (-1)) hx hb dX11_status_48 (by decide) ?_
  obtain ⟨e1, e2⟩ := inj2 (Option.some.inj hf)
  exact end_i (w' := (lfX ct g x_5)) hx hb hr hlocks hK hP hD hS dX11_status_49  ⟨by rw [← e1], by rw [← e2]⟩
noncomputable def f_X11_type (n : Nat) (x : MV) (rv : MV) (v1 : Int32) : Option (Int32 × MV × MV) :=
  bd (f_X11_within n v1 0 127) fun r_1 =>
  bc (r_1 = 0) (bd2 (f_X11_refuseBad n x) fun r_8 x_9 =>
  some (r_8, x_9, rv))
  (bd2 (f_X6_append n rv v1) fun r_3 rv_4 =>
  bc (r_3 = 0) (bd2 (f_X11_refuseFull n x) fun r_6 x_7 =>
  some (r_6, x_7, rv_4))
  (some (rv_4.1 0, x, rv_4)))
set_option maxHeartbeats 4000000 in
set_option maxRecDepth 100000 in
theorem c_X11_type (l : Launch) (G : va_G) (ct : Nat → ClassId) (sk sv : Nat → Nat) (g : Nat → Nat) (n : Nat) (x : MV) (rv : MV) (v1 : Int32) {r : Int32} {x' : MV} {rv' : MV} (hf : f_X11_type n x rv v1 = some (r, x', rv')) : Ctr (l, G, ct, sk, sv) mX11_type 1 22 [.ref (g 7), .int v1] (lfX ct g x ++ (lfR ct (fun j => g (18 + j)) rv)) (lfX ct g x' ++ (lfR ct (fun j => g (18 + j)) rv')) (some (.int r)) := by
  refine ctr_intro (by decide) (Nat.le_of_ble_eq_true rfl) ?_
  intro p e s m args below meth c A C hP hD hS hA ls hl
  obtain ⟨hx, hb, hml, hown, hts, hr, hlocks, hK, hnm, hZ⟩ := C
  have hb : c.code = cX11_type := hb
  have hml : c.maxLocals = 2 := hml
  have hown : s.vm.findClass "SignedOutside" = some m.cls := hown
  have hr : meth.sig.returnType = some .int := hr
  have hP : va_P G classes (lfX ct g x ++ (lfR ct (fun j => g (18 + j)) rv)) s.heap := hP
  have hD : va_D A (lfX ct g x ++ (lfR ct (fun j => g (18 + j)) rv)) := hD
  have hK : va_K G classes (TYS ct) s := hK
  have hl : lv_has ls 2 [(0, .ref (g 7)), (1, .int v1)] := hl
  unfold f_X11_type at hf
  show WG l G ct sk sv p e (RM 1 22 0 0) s m args below meth c A (Eq2 (some (.int r)) (lfX ct g x' ++ (lfR ct (fun j => g (18 + j)) rv'))) s.heap [] (F0 m 0 ls [])
  refine lv_iload_n hx hb dX11_type_0 rfl (lv_at hl 1 rfl) ?_
  refine lv_iconst (v := 0) hx hb dX11_type_1 (by decide) ?_
  refine lv_bipush (v := 127) hx hb dX11_type_2 (by decide) ?_
  obtain ⟨r_1, hc1, hf⟩ := bd_e hf
  refine call_S (As := [.int v1, .int 0, .int 127]) (rest := []) hx hb hml hown hts hK hP hD hS hA hZ lkX11_75 (Ctr.up (W := (lfX ct g x ++ (lfR ct (fun j => g (18 + j)) rv))) (W' := (lfX ct g x ++ (lfR ct (fun j => g (18 + j)) rv))) (c_X11_within l G ct sk sv  n v1 0 127 hc1) [] [0, 1, 2, 3, 4] [0, 1, 2, 3, 4] rfl rfl rfl rfl (by decide) rfl rfl) ⟨Nat.le_of_ble_eq_true rfl, Nat.le_of_ble_eq_true rfl⟩ rfl hl.1 rfl (Nat.le_of_ble_eq_true rfl) dX11_type_4 ⟨Nat.le_of_ble_eq_true rfl, Nat.le_of_ble_eq_true rfl⟩ (fun r9 w9 H locs hB hP hD hS => ?_)
  obtain ⟨rfl, rfl⟩ := hB
  refine WG_eq (g2 := F0 m 7 ls [.int r_1]) rfl ?_
  refine lv_if_ne (tgt := 15) hx hb dX11_type_7 (by decide) (fun c_2 => ?_) (fun c_2 => ?_)
  · replace hf := bc_f hf c_2
    refine lv_aload_n hx hb dX11_type_15 rfl (lv_at hl 0 rfl) ?_
    refine va_get (D := G) (C := RX11) (T := TX11) (N := 11) (v := .ref (g 18)) hx hb hts iu_X11 hown hK hP 0 rfl rfl 5 (by decide) (hts _ kw267) (fun _ h9 => h9) rfl dX11_type_16 ?_
    refine lv_iload_n hx hb dX11_type_19 rfl (lv_at hl 1 rfl) ?_
    obtain ⟨r_3, rv_4, hc4, hf⟩ := bd2_e hf
    refine call_V (As := [.int v1]) (rest := []) hx hb hml hown hts hK hP hD hS hA hZ lkX11_108 (Ctr.up (W := (lfX ct g x ++ (lfR ct (fun j => g (18 + j)) rv))) (W' := (lfX ct g x ++ (lfR ct (fun j => g (18 + j)) rv_4))) (c_X6_append l G ct sk sv (fun j => g (18 + j)) n rv v1 hc4) [3, 4] [0, 1, 2] [0, 1, 2, 3, 4] rfl rfl rfl rfl (by decide) rfl rfl) 3 rfl rfl ⟨Nat.le_of_ble_eq_true rfl, Nat.le_of_ble_eq_true rfl⟩ rfl hl.1 rfl (Nat.le_of_ble_eq_true rfl) dX11_type_20 ⟨Nat.le_of_ble_eq_true rfl, Nat.le_of_ble_eq_true rfl⟩ (fun r9 w9 H locs hB hP hD hS => ?_)
    obtain ⟨rfl, rfl⟩ := hB
    refine WG_eq (g2 := F0 m 23 ls [.int r_3]) rfl ?_
    refine lv_if_ne (tgt := 31) hx hb dX11_type_23 (by decide) (fun c_5 => ?_) (fun c_5 => ?_)
    · replace hf := bc_f hf c_5
      refine lv_aload_n hx hb dX11_type_31 rfl (lv_at hl 0 rfl) ?_
      refine va_get (D := G) (C := RX11) (T := TX11) (N := 11) (v := .ref (g 18)) hx hb hts iu_X11 hown hK hP 0 rfl rfl 5 (by decide) (hts _ kw267) (fun _ h9 => h9) rfl dX11_type_32 ?_
      refine va_get (D := G) (C := RX6) (T := TX6) (N := 6) (v := .int (rv_4.1 0)) hx hb hts iu_X6 hown hK hP 3 rfl rfl 1 (by decide) (hts _ kw242) (fun _ h9 => h9) rfl dX11_type_35 ?_
      obtain ⟨e1, e2, e3⟩ := inj3 (Option.some.inj hf)
      exact end_i (w' := (lfX ct g x ++ (lfR ct (fun j => g (18 + j)) rv_4))) hx hb hr hlocks hK hP hD hS dX11_type_38  ⟨by rw [← e1], by rw [← e2, ← e3]⟩
    · replace hf := bc_t hf c_5
      refine lv_aload_n hx hb dX11_type_26 rfl (lv_at hl 0 rfl) ?_
      obtain ⟨r_6, x_7, hc7, hf⟩ := bd2_e hf
      refine call_V (As := []) (rest := []) hx hb hml hown hts hK hP hD hS hA hZ lkX11_87 (Ctr.up (W := (lfX ct g x ++ (lfR ct (fun j => g (18 + j)) rv_4))) (W' := (lfX ct g x_7 ++ (lfR ct (fun j => g (18 + j)) rv_4))) (c_X11_refuseFull l G ct sk sv g n x hc7) [0, 1, 2] [3, 4] [2, 3, 4, 0, 1] rfl rfl rfl rfl (by decide) rfl rfl) 0 rfl rfl ⟨Nat.le_of_ble_eq_true rfl, Nat.le_of_ble_eq_true rfl⟩ rfl hl.1 rfl (Nat.le_of_ble_eq_true rfl) dX11_type_27 ⟨Nat.le_of_ble_eq_true rfl, Nat.le_of_ble_eq_true rfl⟩ (fun r9 w9 H locs hB hP hD hS => ?_)
      obtain ⟨rfl, rfl⟩ := hB
      refine WG_eq (g2 := F0 m 30 ls [.int r_6]) rfl ?_
      obtain ⟨e1, e2, e3⟩ := inj3 (Option.some.inj hf)
      exact end_i (w' := (lfX ct g x_7 ++ (lfR ct (fun j => g (18 + j)) rv_4))) hx hb hr hlocks hK hP hD hS dX11_type_30  ⟨by rw [← e1], by rw [← e2, ← e3]⟩
  · replace hf := bc_t hf c_2
    refine lv_aload_n hx hb dX11_type_10 rfl (lv_at hl 0 rfl) ?_
    obtain ⟨r_8, x_9, hc9, hf⟩ := bd2_e hf
    refine call_V (As := []) (rest := []) hx hb hml hown hts hK hP hD hS hA hZ lkX11_83 (Ctr.up (W := (lfX ct g x ++ (lfR ct (fun j => g (18 + j)) rv))) (W' := (lfX ct g x_9 ++ (lfR ct (fun j => g (18 + j)) rv))) (c_X11_refuseBad l G ct sk sv g n x hc9) [0, 1, 2] [3, 4] [2, 3, 4, 0, 1] rfl rfl rfl rfl (by decide) rfl rfl) 0 rfl rfl ⟨Nat.le_of_ble_eq_true rfl, Nat.le_of_ble_eq_true rfl⟩ rfl hl.1 rfl (Nat.le_of_ble_eq_true rfl) dX11_type_11 ⟨Nat.le_of_ble_eq_true rfl, Nat.le_of_ble_eq_true rfl⟩ (fun r9 w9 H locs hB hP hD hS => ?_)
    obtain ⟨rfl, rfl⟩ := hB
    refine WG_eq (g2 := F0 m 14 ls [.int r_8]) rfl ?_
    obtain ⟨e1, e2, e3⟩ := inj3 (Option.some.inj hf)
    exact end_i (w' := (lfX ct g x_9 ++ (lfR ct (fun j => g (18 + j)) rv))) hx hb hr hlocks hK hP hD hS dX11_type_14  ⟨by rw [← e1], by rw [← e2, ← e3]⟩
noncomputable def f_X11_undo (n : Nat) (x : MV) (h0 : MV) (ps0 : MV) : Option (Int32 × MV × MV × MV) :=
  bd3 (f_X4_giveBack n h0 ps0) fun r_1 h0_2 ps0_3 =>
  bc (r_1 = 0) (bd2 (f_X11_refuseNo n x) fun r_5 x_6 =>
  some (r_5, x_6, h0_2, ps0_3))
  (some (h0_2.1 2, x, h0_2, ps0_3))
set_option maxHeartbeats 4000000 in
set_option maxRecDepth 100000 in
theorem c_X11_undo (l : Launch) (G : va_G) (ct : Nat → ClassId) (sk sv : Nat → Nat) (g : Nat → Nat) (n : Nat) (x : MV) (h0 : MV) (ps0 : MV) {r : Int32} {x' : MV} {h0' : MV} {ps0' : MV} (hf : f_X11_undo n x h0 ps0 = some (r, x', h0', ps0')) : Ctr (l, G, ct, sk, sv) mX11_undo 2 87 [.ref (g 7)] (lfX ct g x ++ (lfH ct (hsA g 0) g h0 ++ (lfP ct (fun j => (hsA g 0) (16 + j)) ps0))) (lfX ct g x' ++ (lfH ct (hsA g 0) g h0' ++ (lfP ct (fun j => (hsA g 0) (16 + j)) ps0'))) (some (.int r)) := by
  refine ctr_intro (by decide) (Nat.le_of_ble_eq_true rfl) ?_
  intro p e s m args below meth c A C hP hD hS hA ls hl
  obtain ⟨hx, hb, hml, hown, hts, hr, hlocks, hK, hnm, hZ⟩ := C
  have hb : c.code = cX11_undo := hb
  have hml : c.maxLocals = 1 := hml
  have hown : s.vm.findClass "SignedOutside" = some m.cls := hown
  have hr : meth.sig.returnType = some .int := hr
  have hP : va_P G classes (lfX ct g x ++ (lfH ct (hsA g 0) g h0 ++ (lfP ct (fun j => (hsA g 0) (16 + j)) ps0))) s.heap := hP
  have hD : va_D A (lfX ct g x ++ (lfH ct (hsA g 0) g h0 ++ (lfP ct (fun j => (hsA g 0) (16 + j)) ps0))) := hD
  have hK : va_K G classes (TYS ct) s := hK
  have hl : lv_has ls 1 [(0, .ref (g 7))] := hl
  unfold f_X11_undo at hf
  show WG l G ct sk sv p e (RM 2 87 0 0) s m args below meth c A (Eq2 (some (.int r)) (lfX ct g x' ++ (lfH ct (hsA g 0) g h0' ++ (lfP ct (fun j => (hsA g 0) (16 + j)) ps0')))) s.heap [] (F0 m 0 ls [])
  refine lv_aload_n hx hb dX11_undo_0 rfl (lv_at hl 0 rfl) ?_
  refine va_get (D := G) (C := RX11) (T := TX11) (N := 11) (v := .ref ((hsA g 0) 0)) hx hb hts iu_X11 hown hK hP 0 rfl rfl 0 (by decide) (hts _ kw262) (fun _ h9 => h9) rfl dX11_undo_1 ?_
  refine va_get (D := G) (C := RX1) (T := TX1) (N := 16) (v := .ref ((hsA g 0) 16)) hx hb hts iu_X1 hown hK hP 3 rfl rfl 15 (by decide) (hts _ kw162) (fun _ h9 => h9) rfl dX11_undo_4 ?_
  refine lv_aload_n hx hb dX11_undo_7 rfl (lv_at hl 0 rfl) ?_
  refine va_get (D := G) (C := RX11) (T := TX11) (N := 11) (v := .ref ((hsA g 0) 0)) hx hb hts iu_X11 hown hK hP 0 rfl rfl 0 (by decide) (hts _ kw262) (fun _ h9 => h9) rfl dX11_undo_8 ?_
  obtain ⟨r_1, h0_2, ps0_3, hc3, hf⟩ := bd3_e hf
  refine call_V (As := [.ref ((hsA g 0) 0)]) (rest := []) hx hb hml hown hts hK hP hD hS hA hZ lkX11_166 (Ctr.up (W := (lfX ct g x ++ (lfH ct (hsA g 0) g h0 ++ (lfP ct (fun j => (hsA g 0) (16 + j)) ps0)))) (W' := (lfX ct g x ++ (lfH ct (hsA g 0) g h0_2 ++ (lfP ct (fun j => (hsA g 0) (16 + j)) ps0_3)))) (c_X4_giveBack l G ct sk sv (hsA g 0) g n h0 ps0 hc3) [3, 4, 5, 6, 7, 8, 9, 10, 11, 12] [0, 1, 2] [0, 1, 2, 3, 4, 5, 6, 7, 8, 9, 10, 11, 12] rfl rfl rfl rfl (by decide) rfl rfl) 11 rfl rfl ⟨Nat.le_of_ble_eq_true rfl, Nat.le_of_ble_eq_true rfl⟩ rfl hl.1 rfl (Nat.le_of_ble_eq_true rfl) dX11_undo_11 ⟨Nat.le_of_ble_eq_true rfl, Nat.le_of_ble_eq_true rfl⟩ (fun r9 w9 H locs hB hP hD hS => ?_)
  obtain ⟨rfl, rfl⟩ := hB
  refine WG_eq (g2 := F0 m 14 ls [.int r_1]) rfl ?_
  refine lv_if_ne (tgt := 22) hx hb dX11_undo_14 (by decide) (fun c_4 => ?_) (fun c_4 => ?_)
  · replace hf := bc_f hf c_4
    refine lv_aload_n hx hb dX11_undo_22 rfl (lv_at hl 0 rfl) ?_
    refine va_get (D := G) (C := RX11) (T := TX11) (N := 11) (v := .ref ((hsA g 0) 0)) hx hb hts iu_X11 hown hK hP 0 rfl rfl 0 (by decide) (hts _ kw262) (fun _ h9 => h9) rfl dX11_undo_23 ?_
    refine va_get (D := G) (C := RX1) (T := TX1) (N := 16) (v := .int (h0_2.1 2)) hx hb hts iu_X1 hown hK hP 3 rfl rfl 10 (by decide) (hts _ kw150) (fun _ h9 => h9) rfl dX11_undo_26 ?_
    obtain ⟨e1, e2, e3, e4⟩ := inj4 (Option.some.inj hf)
    exact end_i (w' := (lfX ct g x ++ (lfH ct (hsA g 0) g h0_2 ++ (lfP ct (fun j => (hsA g 0) (16 + j)) ps0_3)))) hx hb hr hlocks hK hP hD hS dX11_undo_29  ⟨by rw [← e1], by rw [← e2, ← e3, ← e4]⟩
  · replace hf := bc_t hf c_4
    refine lv_aload_n hx hb dX11_undo_17 rfl (lv_at hl 0 rfl) ?_
    obtain ⟨r_5, x_6, hc6, hf⟩ := bd2_e hf
    refine call_V (As := []) (rest := []) hx hb hml hown hts hK hP hD hS hA hZ lkX11_135 (Ctr.up (W := (lfX ct g x ++ (lfH ct (hsA g 0) g h0_2 ++ (lfP ct (fun j => (hsA g 0) (16 + j)) ps0_3)))) (W' := (lfX ct g x_6 ++ (lfH ct (hsA g 0) g h0_2 ++ (lfP ct (fun j => (hsA g 0) (16 + j)) ps0_3)))) (c_X11_refuseNo l G ct sk sv g n x hc6) [0, 1, 2] [3, 4, 5, 6, 7, 8, 9, 10, 11, 12] [10, 11, 12, 0, 1, 2, 3, 4, 5, 6, 7, 8, 9] rfl rfl rfl rfl (by decide) rfl rfl) 0 rfl rfl ⟨Nat.le_of_ble_eq_true rfl, Nat.le_of_ble_eq_true rfl⟩ rfl hl.1 rfl (Nat.le_of_ble_eq_true rfl) dX11_undo_18 ⟨Nat.le_of_ble_eq_true rfl, Nat.le_of_ble_eq_true rfl⟩ (fun r9 w9 H locs hB hP hD hS => ?_)
    obtain ⟨rfl, rfl⟩ := hB
    refine WG_eq (g2 := F0 m 21 ls [.int r_5]) rfl ?_
    obtain ⟨e1, e2, e3, e4⟩ := inj4 (Option.some.inj hf)
    exact end_i (w' := (lfX ct g x_6 ++ (lfH ct (hsA g 0) g h0_2 ++ (lfP ct (fun j => (hsA g 0) (16 + j)) ps0_3)))) hx hb hr hlocks hK hP hD hS dX11_undo_21  ⟨by rw [← e1], by rw [← e2, ← e3, ← e4]⟩
noncomputable def f_X11_where_j102 (n : Nat) (x : MV) (h0 : MV) (cv0 : MV) (s0 : Int32) : Option (Int32 × MV) :=
  some (s0, x)
noncomputable def f_X11_where_j24 (n : Nat) (x : MV) (h0 : MV) (cv0 : MV) : Option (Int32 × MV) :=
  bd2 (f_X11_refuseBad n x) fun r_1 x_2 =>
  some (r_1, x_2)
noncomputable def f_X11_where (n : Nat) (x : MV) (h0 : MV) (cv0 : MV) (v1 : Int32) (v2 : Int32) (v3 : Int32) : Option (Int32 × MV) :=
  bd (f_X11_isMember n x h0 v1) fun r_3 =>
  bc (r_3 = 0) (f_X11_where_j24 n x h0 cv0)
  (bd (f_X11_isSlipDay n v2) fun r_5 =>
  bc (r_5 = 0) (f_X11_where_j24 n x h0 cv0)
  (bd (f_X11_within n v3 0 1) fun r_7 =>
  bc (r_7 = 0) (f_X11_where_j24 n x h0 cv0)
  (bd (f_X8_onDay n cv0 v1 v2) fun r_9 =>
  bd (f_X1_kindAt n h0 v1) fun i_10 =>
  bd (f_K_reach n i_10 ) fun r_11 =>
  bd (f_X8_placesFor n cv0 r_9 r_11) fun r_12 =>
  bc (v3 = 0) (some (r_12, x))
  (bc (r_12 = 0) (f_X11_where_j102 n x h0 cv0 (-1))
  (bd (f_X8_lowest n cv0 r_9 r_11) fun r_15 =>
  f_X11_where_j102 n x h0 cv0 r_15)))))
set_option maxHeartbeats 4000000 in
set_option maxRecDepth 100000 in
theorem c_X11_where (l : Launch) (G : va_G) (ct : Nat → ClassId) (sk sv : Nat → Nat) (g : Nat → Nat) (n : Nat) (x : MV) (h0 : MV) (cv0 : MV) (v1 : Int32) (v2 : Int32) (v3 : Int32) {r : Int32} {x' : MV} (hf : f_X11_where n x h0 cv0 v1 v2 v3 = some (r, x')) : Ctr (l, G, ct, sk, sv) mX11_where 4 160 [.ref (g 7), .int v1, .int v2, .int v3] (lfX ct g x ++ (lfH ct (hsA g 0) g h0 ++ (lfS ct (fun j => (hsA g 0) (8 + j)) cv0 ++ (lfK ct g)))) (lfX ct g x' ++ (lfH ct (hsA g 0) g h0 ++ (lfS ct (fun j => (hsA g 0) (8 + j)) cv0 ++ (lfK ct g)))) (some (.int r)) := by
  refine ctr_intro (by decide) (Nat.le_of_ble_eq_true rfl) ?_
  intro p e s m args below meth c A C hP hD hS hA ls hl
  obtain ⟨hx, hb, hml, hown, hts, hr, hlocks, hK, hnm, hZ⟩ := C
  have hb : c.code = cX11_where := hb
  have hml : c.maxLocals = 7 := hml
  have hown : s.vm.findClass "SignedOutside" = some m.cls := hown
  have hr : meth.sig.returnType = some .int := hr
  have hP : va_P G classes (lfX ct g x ++ (lfH ct (hsA g 0) g h0 ++ (lfS ct (fun j => (hsA g 0) (8 + j)) cv0 ++ (lfK ct g)))) s.heap := hP
  have hD : va_D A (lfX ct g x ++ (lfH ct (hsA g 0) g h0 ++ (lfS ct (fun j => (hsA g 0) (8 + j)) cv0 ++ (lfK ct g)))) := hD
  have hK : va_K G classes (TYS ct) s := hK
  have hl : lv_has ls 7 [(0, .ref (g 7)), (1, .int v1), (2, .int v2), (3, .int v3)] := hl
  have J102 : ∀ (x : MV) (s0 : Int32) (H : Heap) (locs : List Loc) (ls : Array Slot), va_P G classes (lfX ct g x ++ (lfH ct (hsA g 0) g h0 ++ (lfS ct (fun j => (hsA g 0) (8 + j)) cv0 ++ (lfK ct g)))) H → va_D A (lfX ct g x ++ (lfH ct (hsA g 0) g h0 ++ (lfS ct (fun j => (hsA g 0) (8 + j)) cv0 ++ (lfK ct g)))) → va_S A s.heap H locs → lv_has ls 7 [] → f_X11_where_j102 n x h0 cv0 s0 = some (r, x') → WG l G ct sk sv p e (RM 4 160 0 0) s m args below meth c A (Eq2 (some (.int r)) (lfX ct g x' ++ (lfH ct (hsA g 0) g h0 ++ (lfS ct (fun j => (hsA g 0) (8 + j)) cv0 ++ (lfK ct g))))) H locs (F0 m 102 ls [.int s0]) := by
    intro x s0 H locs ls hP hD hS hl hf
    unfold f_X11_where_j102 at hf
    obtain ⟨e1, e2⟩ := inj2 (Option.some.inj hf)
    exact end_i (w' := (lfX ct g x ++ (lfH ct (hsA g 0) g h0 ++ (lfS ct (fun j => (hsA g 0) (8 + j)) cv0 ++ (lfK ct g))))) hx hb hr hlocks hK hP hD hS dX11_where_102  ⟨by rw [← e1], by rw [← e2]⟩
  have J24 : ∀ (x : MV) (H : Heap) (locs : List Loc) (ls : Array Slot), va_P G classes (lfX ct g x ++ (lfH ct (hsA g 0) g h0 ++ (lfS ct (fun j => (hsA g 0) (8 + j)) cv0 ++ (lfK ct g)))) H → va_D A (lfX ct g x ++ (lfH ct (hsA g 0) g h0 ++ (lfS ct (fun j => (hsA g 0) (8 + j)) cv0 ++ (lfK ct g)))) → va_S A s.heap H locs → lv_has ls 7 [(0, .ref (g 7))] → f_X11_where_j24 n x h0 cv0 = some (r, x') → WG l G ct sk sv p e (RM 4 160 0 0) s m args below meth c A (Eq2 (some (.int r)) (lfX ct g x' ++ (lfH ct (hsA g 0) g h0 ++ (lfS ct (fun j => (hsA g 0) (8 + j)) cv0 ++ (lfK ct g))))) H locs (F0 m 24 ls []) := by
    intro x H locs ls hP hD hS hl hf
    unfold f_X11_where_j24 at hf
    refine lv_aload_n hx hb dX11_where_24 rfl (lv_at hl 0 rfl) ?_
    obtain ⟨r_1, x_2, hc2, hf⟩ := bd2_e hf
    refine call_V (As := []) (rest := []) hx hb hml hown hts hK hP hD hS hA hZ lkX11_83 (Ctr.up (W := (lfX ct g x ++ (lfH ct (hsA g 0) g h0 ++ (lfS ct (fun j => (hsA g 0) (8 + j)) cv0 ++ (lfK ct g))))) (W' := (lfX ct g x_2 ++ (lfH ct (hsA g 0) g h0 ++ (lfS ct (fun j => (hsA g 0) (8 + j)) cv0 ++ (lfK ct g))))) (c_X11_refuseBad l G ct sk sv g n x hc2) [0, 1, 2] [3, 4, 5, 6, 7, 8, 9, 10, 11, 12, 13, 14, 15, 16, 17, 18, 19, 20, 21] [19, 20, 21, 0, 1, 2, 3, 4, 5, 6, 7, 8, 9, 10, 11, 12, 13, 14, 15, 16, 17, 18] rfl rfl rfl rfl (by decide) rfl rfl) 0 rfl rfl ⟨Nat.le_of_ble_eq_true rfl, Nat.le_of_ble_eq_true rfl⟩ rfl hl.1 rfl (Nat.le_of_ble_eq_true rfl) dX11_where_25 ⟨Nat.le_of_ble_eq_true rfl, Nat.le_of_ble_eq_true rfl⟩ (fun r9 w9 H locs hB hP hD hS => ?_)
    obtain ⟨rfl, rfl⟩ := hB
    refine WG_eq (g2 := F0 m 28 ls [.int r_1]) rfl ?_
    obtain ⟨e1, e2⟩ := inj2 (Option.some.inj hf)
    exact end_i (w' := (lfX ct g x_2 ++ (lfH ct (hsA g 0) g h0 ++ (lfS ct (fun j => (hsA g 0) (8 + j)) cv0 ++ (lfK ct g))))) hx hb hr hlocks hK hP hD hS dX11_where_28  ⟨by rw [← e1], by rw [← e2]⟩
  unfold f_X11_where at hf
  show WG l G ct sk sv p e (RM 4 160 0 0) s m args below meth c A (Eq2 (some (.int r)) (lfX ct g x' ++ (lfH ct (hsA g 0) g h0 ++ (lfS ct (fun j => (hsA g 0) (8 + j)) cv0 ++ (lfK ct g))))) s.heap [] (F0 m 0 ls [])
  refine lv_aload_n hx hb dX11_where_0 rfl (lv_at hl 0 rfl) ?_
  refine lv_iload_n hx hb dX11_where_1 rfl (lv_at hl 1 rfl) ?_
  obtain ⟨r_3, hc3, hf⟩ := bd_e hf
  refine call_V (As := [.int v1]) (rest := []) hx hb hml hown hts hK hP hD hS hA hZ lkX11_128 (Ctr.up (W := (lfX ct g x ++ (lfH ct (hsA g 0) g h0 ++ (lfS ct (fun j => (hsA g 0) (8 + j)) cv0 ++ (lfK ct g))))) (W' := (lfX ct g x ++ (lfH ct (hsA g 0) g h0 ++ (lfS ct (fun j => (hsA g 0) (8 + j)) cv0 ++ (lfK ct g))))) (c_X11_isMember l G ct sk sv g n x h0 v1 hc3) [0, 1, 2, 3, 4, 5, 6, 7, 8, 9, 10] [11, 12, 13, 14, 15, 16, 17, 18, 19, 20, 21] [11, 12, 13, 14, 15, 16, 17, 18, 19, 20, 21, 0, 1, 2, 3, 4, 5, 6, 7, 8, 9, 10] rfl rfl rfl rfl (by decide) rfl rfl) 0 rfl rfl ⟨Nat.le_of_ble_eq_true rfl, Nat.le_of_ble_eq_true rfl⟩ rfl hl.1 rfl (Nat.le_of_ble_eq_true rfl) dX11_where_2 ⟨Nat.le_of_ble_eq_true rfl, Nat.le_of_ble_eq_true rfl⟩ (fun r9 w9 H locs hB hP hD hS => ?_)
  obtain ⟨rfl, rfl⟩ := hB
  refine WG_eq (g2 := F0 m 5 ls [.int r_3]) rfl ?_
  refine lv_if_eq (tgt := 24) hx hb dX11_where_5 (by decide) (fun c_4 => ?_) (fun c_4 => ?_)
  · replace hf := bc_t hf c_4
    exact J24 x _ _ _ hP hD hS (lv_sub hl [0] rfl) hf
  · replace hf := bc_f hf c_4
    refine lv_iload_n hx hb dX11_where_8 rfl (lv_at hl 2 rfl) ?_
    obtain ⟨r_5, hc5, hf⟩ := bd_e hf
    refine call_S (As := [.int v2]) (rest := []) hx hb hml hown hts hK hP hD hS hA hZ lkX11_247 (Ctr.up (W := (lfX ct g x ++ (lfH ct (hsA g 0) g h0 ++ (lfS ct (fun j => (hsA g 0) (8 + j)) cv0 ++ (lfK ct g))))) (W' := (lfX ct g x ++ (lfH ct (hsA g 0) g h0 ++ (lfS ct (fun j => (hsA g 0) (8 + j)) cv0 ++ (lfK ct g))))) (c_X11_isSlipDay l G ct sk sv  n v2 hc5) [] [0, 1, 2, 3, 4, 5, 6, 7, 8, 9, 10, 11, 12, 13, 14, 15, 16, 17, 18, 19, 20, 21] [0, 1, 2, 3, 4, 5, 6, 7, 8, 9, 10, 11, 12, 13, 14, 15, 16, 17, 18, 19, 20, 21] rfl rfl rfl rfl (by decide) rfl rfl) ⟨Nat.le_of_ble_eq_true rfl, Nat.le_of_ble_eq_true rfl⟩ rfl hl.1 rfl (Nat.le_of_ble_eq_true rfl) dX11_where_9 ⟨Nat.le_of_ble_eq_true rfl, Nat.le_of_ble_eq_true rfl⟩ (fun r9 w9 H locs hB hP hD hS => ?_)
    obtain ⟨rfl, rfl⟩ := hB
    refine WG_eq (g2 := F0 m 12 ls [.int r_5]) rfl ?_
    refine lv_if_eq (tgt := 24) hx hb dX11_where_12 (by decide) (fun c_6 => ?_) (fun c_6 => ?_)
    · replace hf := bc_t hf c_6
      exact J24 x _ _ _ hP hD hS (lv_sub hl [0] rfl) hf
    · replace hf := bc_f hf c_6
      refine lv_iload_n hx hb dX11_where_15 rfl (lv_at hl 3 rfl) ?_
      refine lv_iconst (v := 0) hx hb dX11_where_16 (by decide) ?_
      refine lv_iconst (v := 1) hx hb dX11_where_17 (by decide) ?_
      obtain ⟨r_7, hc7, hf⟩ := bd_e hf
      refine call_S (As := [.int v3, .int 0, .int 1]) (rest := []) hx hb hml hown hts hK hP hD hS hA hZ lkX11_75 (Ctr.up (W := (lfX ct g x ++ (lfH ct (hsA g 0) g h0 ++ (lfS ct (fun j => (hsA g 0) (8 + j)) cv0 ++ (lfK ct g))))) (W' := (lfX ct g x ++ (lfH ct (hsA g 0) g h0 ++ (lfS ct (fun j => (hsA g 0) (8 + j)) cv0 ++ (lfK ct g))))) (c_X11_within l G ct sk sv  n v3 0 1 hc7) [] [0, 1, 2, 3, 4, 5, 6, 7, 8, 9, 10, 11, 12, 13, 14, 15, 16, 17, 18, 19, 20, 21] [0, 1, 2, 3, 4, 5, 6, 7, 8, 9, 10, 11, 12, 13, 14, 15, 16, 17, 18, 19, 20, 21] rfl rfl rfl rfl (by decide) rfl rfl) ⟨Nat.le_of_ble_eq_true rfl, Nat.le_of_ble_eq_true rfl⟩ rfl hl.1 rfl (Nat.le_of_ble_eq_true rfl) dX11_where_18 ⟨Nat.le_of_ble_eq_true rfl, Nat.le_of_ble_eq_true rfl⟩ (fun r9 w9 H locs hB hP hD hS => ?_)
      obtain ⟨rfl, rfl⟩ := hB
      refine WG_eq (g2 := F0 m 21 ls [.int r_7]) rfl ?_
      refine lv_if_ne (tgt := 29) hx hb dX11_where_21 (by decide) (fun c_8 => ?_) (fun c_8 => ?_)
      · replace hf := bc_f hf c_8
        refine lv_aload_n hx hb dX11_where_29 rfl (lv_at hl 0 rfl) ?_
        refine va_get (D := G) (C := RX11) (T := TX11) (N := 11) (v := .ref ((hsA g 0) 0)) hx hb hts iu_X11 hown hK hP 0 rfl rfl 0 (by decide) (hts _ kw262) (fun _ h9 => h9) rfl dX11_where_30 ?_
        refine va_get (D := G) (C := RX1) (T := TX1) (N := 16) (v := .ref ((hsA g 0) 8)) hx hb hts iu_X1 hown hK hP 3 rfl rfl 13 (by decide) (hts _ kw158) (fun _ h9 => h9) rfl dX11_where_33 ?_
        refine lv_iload_n hx hb dX11_where_36 rfl (lv_at hl 1 rfl) ?_
        refine lv_iload_n hx hb dX11_where_37 rfl (lv_at hl 2 rfl) ?_
        obtain ⟨r_9, hc9, hf⟩ := bd_e hf
        refine call_V (As := [.int v1, .int v2]) (rest := []) hx hb hml hown hts hK hP hD hS hA hZ lkX11_265 (Ctr.up (W := (lfX ct g x ++ (lfH ct (hsA g 0) g h0 ++ (lfS ct (fun j => (hsA g 0) (8 + j)) cv0 ++ (lfK ct g))))) (W' := (lfX ct g x ++ (lfH ct (hsA g 0) g h0 ++ (lfS ct (fun j => (hsA g 0) (8 + j)) cv0 ++ (lfK ct g))))) (c_X8_onDay l G ct sk sv (fun j => (hsA g 0) (8 + j)) n cv0 v1 v2 hc9) [11, 12, 13, 14] [0, 1, 2, 3, 4, 5, 6, 7, 8, 9, 10, 15, 16, 17, 18, 19, 20, 21] [0, 1, 2, 3, 4, 5, 6, 7, 8, 9, 10, 18, 19, 20, 21, 11, 12, 13, 14, 15, 16, 17] rfl rfl rfl rfl (by decide) rfl rfl) 11 rfl rfl ⟨Nat.le_of_ble_eq_true rfl, Nat.le_of_ble_eq_true rfl⟩ rfl hl.1 rfl (Nat.le_of_ble_eq_true rfl) dX11_where_38 ⟨Nat.le_of_ble_eq_true rfl, Nat.le_of_ble_eq_true rfl⟩ (fun r9 w9 H locs hB hP hD hS => ?_)
        obtain ⟨rfl, rfl⟩ := hB
        refine WG_eq (g2 := F0 m 41 ls [.int r_9]) rfl ?_
        refine lv_istore (lv' := [(4, .int r_9), (0, .ref (g 7)), (1, .int v1), (2, .int v2), (3, .int v3)]) hx hb dX11_where_41 hl (by decide) rfl (fun ls hl => ?_)
        refine lv_aload_n hx hb dX11_where_43 rfl (lv_at hl 1 rfl) ?_
        refine va_get (D := G) (C := RX11) (T := TX11) (N := 11) (v := .ref ((hsA g 0) 0)) hx hb hts iu_X11 hown hK hP 0 rfl rfl 0 (by decide) (hts _ kw262) (fun _ h9 => h9) rfl dX11_where_44 ?_
        refine lv_iload_n hx hb dX11_where_47 rfl (lv_at hl 2 rfl) ?_
        obtain ⟨i_10, hc10, hf⟩ := bd_e hf
        refine call_V (As := [.int v1]) (rest := []) hx hb hml hown hts hK hP hD hS hA hZ lkX11_170 (Ctr.up (W := (lfX ct g x ++ (lfH ct (hsA g 0) g h0 ++ (lfS ct (fun j => (hsA g 0) (8 + j)) cv0 ++ (lfK ct g))))) (W' := (lfX ct g x ++ (lfH ct (hsA g 0) g h0 ++ (lfS ct (fun j => (hsA g 0) (8 + j)) cv0 ++ (lfK ct g))))) (c_X1_kindAt l G ct sk sv (hsA g 0) g n h0 v1 hc10) [3, 4, 5, 6, 7, 8, 9, 10, 15, 16, 17, 18, 19, 20, 21] [0, 1, 2, 11, 12, 13, 14] [0, 1, 2, 7, 8, 9, 10, 11, 12, 13, 14, 3, 4, 5, 6, 15, 16, 17, 18, 19, 20, 21] rfl rfl rfl rfl (by decide) rfl rfl) 3 rfl rfl ⟨Nat.le_of_ble_eq_true rfl, Nat.le_of_ble_eq_true rfl⟩ rfl hl.1 rfl (Nat.le_of_ble_eq_true rfl) dX11_where_48 ⟨Nat.le_of_ble_eq_true rfl, Nat.le_of_ble_eq_true rfl⟩ (fun r9 w9 H locs hB hP hD hS => ?_)
        obtain ⟨rfl, rfl⟩ := hB
        refine WG_eq (g2 := F0 m 51 ls [.ref (g (1 + i_10))]) rfl ?_
        obtain ⟨r_11, hc11, hf⟩ := bd_e hf
        refine disp_X11_183 n (k := g) i_10 hx hb hml hown hts hK hP hD hS hA hZ hc11 16 rfl rfl rfl rfl rfl rfl (Nat.le_of_ble_eq_true rfl) (Nat.le_of_ble_eq_true rfl) hl.1 (Nat.le_of_ble_eq_true rfl) dX11_where_51 ⟨Nat.zero_le _, Nat.zero_le _⟩ (fun H locs hP hD hS => ?_)
        refine WG_eq (g2 := F0 m 54 ls [.int r_11]) rfl ?_
        refine lv_istore (lv' := [(5, .int r_11), (4, .int r_9), (0, .ref (g 7)), (1, .int v1), (2, .int v2), (3, .int v3)]) hx hb dX11_where_54 hl (by decide) rfl (fun ls hl => ?_)
        refine lv_aload_n hx hb dX11_where_56 rfl (lv_at hl 2 rfl) ?_
        refine va_get (D := G) (C := RX11) (T := TX11) (N := 11) (v := .ref ((hsA g 0) 0)) hx hb hts iu_X11 hown hK hP 0 rfl rfl 0 (by decide) (hts _ kw262) (fun _ h9 => h9) rfl dX11_where_57 ?_
        refine va_get (D := G) (C := RX1) (T := TX1) (N := 16) (v := .ref ((hsA g 0) 8)) hx hb hts iu_X1 hown hK hP 3 rfl rfl 13 (by decide) (hts _ kw158) (fun _ h9 => h9) rfl dX11_where_60 ?_
        refine lv_iload hx hb dX11_where_63 (lv_at hl 1 rfl) ?_
        refine lv_iload hx hb dX11_where_65 (lv_at hl 0 rfl) ?_
        obtain ⟨r_12, hc12, hf⟩ := bd_e hf
        refine call_V (As := [.int r_9, .int r_11]) (rest := []) hx hb hml hown hts hK hP hD hS hA hZ lkX11_268 (Ctr.up (W := (lfX ct g x ++ (lfH ct (hsA g 0) g h0 ++ (lfS ct (fun j => (hsA g 0) (8 + j)) cv0 ++ (lfK ct g))))) (W' := (lfX ct g x ++ (lfH ct (hsA g 0) g h0 ++ (lfS ct (fun j => (hsA g 0) (8 + j)) cv0 ++ (lfK ct g))))) (c_X8_placesFor l G ct sk sv (fun j => (hsA g 0) (8 + j)) n cv0 r_9 r_11 hc12) [11, 12, 13, 14] [0, 1, 2, 3, 4, 5, 6, 7, 8, 9, 10, 15, 16, 17, 18, 19, 20, 21] [0, 1, 2, 3, 4, 5, 6, 7, 8, 9, 10, 18, 19, 20, 21, 11, 12, 13, 14, 15, 16, 17] rfl rfl rfl rfl (by decide) rfl rfl) 11 rfl rfl ⟨Nat.le_of_ble_eq_true rfl, Nat.le_of_ble_eq_true rfl⟩ rfl hl.1 rfl (Nat.le_of_ble_eq_true rfl) dX11_where_67 ⟨Nat.le_of_ble_eq_true rfl, Nat.le_of_ble_eq_true rfl⟩ (fun r9 w9 H locs hB hP hD hS => ?_)
        obtain ⟨rfl, rfl⟩ := hB
        refine WG_eq (g2 := F0 m 70 ls [.int r_12]) rfl ?_
        refine lv_istore (lv' := [(6, .int r_12), (5, .int r_11), (4, .int r_9), (0, .ref (g 7)), (1, .int v1), (2, .int v2), (3, .int v3)]) hx hb dX11_where_70 hl (by decide) rfl (fun ls hl => ?_)
        refine lv_iload_n hx hb dX11_where_72 rfl (lv_at hl 6 rfl) ?_
        refine lv_if_ne (tgt := 79) hx hb dX11_where_73 (by decide) (fun c_13 => ?_) (fun c_13 => ?_)
        · replace hf := bc_f hf c_13
          refine lv_iload hx hb dX11_where_79 (lv_at hl 0 rfl) ?_
          refine lv_if_ne (tgt := 88) hx hb dX11_where_81 (by decide) (fun c_14 => ?_) (fun c_14 => ?_)
          · replace hf := bc_f hf c_14
            refine lv_aload_n hx hb dX11_where_88 rfl (lv_at hl 3 rfl) ?_
            refine va_get (D := G) (C := RX11) (T := TX11) (N := 11) (v := .ref ((hsA g 0) 0)) hx hb hts iu_X11 hown hK hP 0 rfl rfl 0 (by decide) (hts _ kw262) (fun _ h9 => h9) rfl dX11_where_89 ?_
            refine va_get (D := G) (C := RX1) (T := TX1) (N := 16) (v := .ref ((hsA g 0) 8)) hx hb hts iu_X1 hown hK hP 3 rfl rfl 13 (by decide) (hts _ kw158) (fun _ h9 => h9) rfl dX11_where_92 ?_
            refine lv_iload hx hb dX11_where_95 (lv_at hl 2 rfl) ?_
            refine lv_iload hx hb dX11_where_97 (lv_at hl 1 rfl) ?_
            obtain ⟨r_15, hc15, hf⟩ := bd_e hf
            refine call_V (As := [.int r_9, .int r_11]) (rest := []) hx hb hml hown hts hK hP hD hS hA hZ lkX11_271 (Ctr.up (W := (lfX ct g x ++ (lfH ct (hsA g 0) g h0 ++ (lfS ct (fun j => (hsA g 0) (8 + j)) cv0 ++ (lfK ct g))))) (W' := (lfX ct g x ++ (lfH ct (hsA g 0) g h0 ++ (lfS ct (fun j => (hsA g 0) (8 + j)) cv0 ++ (lfK ct g))))) (c_X8_lowest l G ct sk sv (fun j => (hsA g 0) (8 + j)) n cv0 r_9 r_11 hc15) [11, 12, 13, 14] [0, 1, 2, 3, 4, 5, 6, 7, 8, 9, 10, 15, 16, 17, 18, 19, 20, 21] [0, 1, 2, 3, 4, 5, 6, 7, 8, 9, 10, 18, 19, 20, 21, 11, 12, 13, 14, 15, 16, 17] rfl rfl rfl rfl (by decide) rfl rfl) 11 rfl rfl ⟨Nat.le_of_ble_eq_true rfl, Nat.le_of_ble_eq_true rfl⟩ rfl hl.1 rfl (Nat.le_of_ble_eq_true rfl) dX11_where_99 ⟨Nat.le_of_ble_eq_true rfl, Nat.le_of_ble_eq_true rfl⟩ (fun r9 w9 H locs hB hP hD hS => ?_)
            obtain ⟨rfl, rfl⟩ := hB
            refine WG_eq (g2 := F0 m 102 ls [.int r_15]) rfl ?_
            exact J102 x r_15 _ _ _ hP hD hS (lv_sub hl [] rfl) hf
          · replace hf := bc_t hf c_14
            refine lv_iconst (v := (-1)) hx hb dX11_where_84 (by decide) ?_
            refine lv_goto (tgt := 102) hx hb dX11_where_85 (by decide) ?_
            exact J102 x (-1) _ _ _ hP hD hS (lv_sub hl [] rfl) hf
        · replace hf := bc_t hf c_13
          refine lv_iload hx hb dX11_where_76 (lv_at hl 0 rfl) ?_
          obtain ⟨e1, e2⟩ := inj2 (Option.some.inj hf)
          exact end_i (w' := (lfX ct g x ++ (lfH ct (hsA g 0) g h0 ++ (lfS ct (fun j => (hsA g 0) (8 + j)) cv0 ++ (lfK ct g))))) hx hb hr hlocks hK hP hD hS dX11_where_78  ⟨by rw [← e1], by rw [← e2]⟩
      · replace hf := bc_t hf c_8
        exact J24 x _ _ _ hP hD hS (lv_sub hl [0] rfl) hf
