noncomputable def f_X11_isLetter (n : Nat) (xo : MV) (h0 : MV) (v1 : Int32) : Option (Int32) :=
  bd (f_X11_within n v1 0 ((h0.1 1) - 1)) fun r_1 =>
  gd (r_1 = 0 ∨ r_1 = 1) <| some r_1
set_option maxHeartbeats 4000000 in
set_option maxRecDepth 100000 in
theorem c_X11_isLetter (l : Launch) (G : va_G) (ct : Nat → ClassId) (sk sv : Nat → Nat) (g : Nat → Nat) (n : Nat) (xo : MV) (h0 : MV) (v1 : Int32) {r : Int32} (hf : f_X11_isLetter n xo h0 v1 = some r) : Ctr (l, G, ct, sk, sv) mX11_isLetter 1 22 [.ref (g 7), .int v1] (wl [lfX ct g xo, lfH ct (hsA g 0) g h0]) (wl [lfX ct g xo, lfH ct (hsA g 0) g h0]) (some (.int r)) := by
  refine ctr_intro (by decide) (Nat.le_of_ble_eq_true rfl) ?_
  intro p e s m args below meth c A C hP hD hS hA ls hl
  obtain ⟨hx, hb, hml, hown, hts, hr, hlocks, hK, hnm, hZ⟩ := C
  have hb : c.code = cX11_isLetter := hb
  have hml : c.maxLocals = 2 := hml
  have hown : s.vm.findClass "SignedOutside" = some m.cls := hown
  have hr : meth.sig.returnType = some .boolean := hr
  have hP : va_P G classes (wl [lfX ct g xo, lfH ct (hsA g 0) g h0]) s.heap := hP
  have hD : va_D A (wl [lfX ct g xo, lfH ct (hsA g 0) g h0]) := hD
  have hK : va_K G classes (TYS ct) s := hK
  have hl : lv_has ls 2 [(0, .ref (g 7)), (1, .int v1)] := hl
  unfold f_X11_isLetter at hf
  show WG l G ct sk sv p e (RM 1 22 0 0) s m args below meth c A (Eq2 (some (.int r)) (wl [lfX ct g xo, lfH ct (hsA g 0) g h0])) s.heap [] (F0 m 0 ls [])
  refine lv_iload_n hx hb dX11_isLetter_0 rfl (lv_at hl 1 rfl) ?_
  refine lv_iconst (v := 0) hx hb dX11_isLetter_1 (by decide) ?_
  refine lv_aload_n hx hb dX11_isLetter_2 rfl (lv_at hl 0 rfl) ?_
  refine va_get (D := G) (C := RX11) (T := TX11) (N := 11) (v := .ref ((hsA g 0) 0)) hx hb hts iu_X11 hown hK hP 0 rfl rfl 0 (by decide) (hts _ kw262) (fun _ h9 => h9) rfl dX11_isLetter_3 ?_
  refine va_get (D := G) (C := RX1) (T := TX1) (N := 16) (v := .int (h0.1 1)) hx hb hts iu_X1 hown hK hP 3 rfl rfl 5 (by decide) (hts _ kw137) (fun _ h9 => h9) rfl dX11_isLetter_6 ?_
  refine lv_iconst (v := 1) hx hb dX11_isLetter_9 (by decide) ?_
  refine lv_isub hx hb dX11_isLetter_10 ?_
  obtain ⟨r_1, hc1, hf⟩ := bd_e hf
  refine call_S (As := [.int v1, .int 0, .int ((h0.1 1) - 1)]) (rest := []) hx hb hml hown hts hK hP hD hS hA hZ lkX11_75 (Ctr.upL (c_X11_within l G ct sk sv  n v1 0 ((h0.1 1) - 1) hc1) [lfX ct g xo, lfH ct (hsA g 0) g h0] [lfX ct g xo, lfH ct (hsA g 0) g h0] [lfX ct g xo, lfH ct (hsA g 0) g h0] [0, 1] 2 (by decide) rfl rfl rfl rfl) ⟨Nat.le_of_ble_eq_true rfl, Nat.le_of_ble_eq_true rfl⟩ rfl hl.1 rfl (Nat.le_of_ble_eq_true rfl) dX11_isLetter_11 ⟨Nat.le_of_ble_eq_true rfl, Nat.le_of_ble_eq_true rfl⟩ (fun r9 w9 H locs hB hP hD hS => ?_)
  obtain ⟨rfl, rfl⟩ := hB
  refine WG_eq (g2 := F0 m 14 ls [.int r_1]) rfl ?_
  obtain ⟨g_2, hf⟩ := gd_e hf
  have e1 := Option.some.inj hf
  exact end_z (w' := (wl [lfX ct g xo, lfH ct (hsA g 0) g h0])) hx hb hr hlocks hK hP hD hS dX11_isLetter_14 g_2 ⟨by rw [← e1], rfl⟩
noncomputable def f_X11_refuseOtherBad (n : Nat) (xo : MV) : Option (Int32 × MV) :=
  bl (setS xo 0 ((xo.1 0) + 1)) fun xo_1 =>
  some ((-10), xo_1)
set_option maxHeartbeats 4000000 in
set_option maxRecDepth 100000 in
theorem c_X11_refuseOtherBad (l : Launch) (G : va_G) (ct : Nat → ClassId) (sk sv : Nat → Nat) (g : Nat → Nat) (n : Nat) (xo : MV) {r : Int32} {xo' : MV} (hf : f_X11_refuseOtherBad n xo = some (r, xo')) : Ctr (l, G, ct, sk, sv) mX11_refuseOtherBad 0 0 [.ref (g 7)] (wl [lfX ct g xo]) (wl [lfX ct g xo']) (some (.int r)) := by
  refine ctr_intro (by decide) (Nat.le_of_ble_eq_true rfl) ?_
  intro p e s m args below meth c A C hP hD hS hA ls hl
  obtain ⟨hx, hb, hml, hown, hts, hr, hlocks, hK, hnm, hZ⟩ := C
  have hb : c.code = cX11_refuseOtherBad := hb
  have hml : c.maxLocals = 1 := hml
  have hown : s.vm.findClass "SignedOutside" = some m.cls := hown
  have hr : meth.sig.returnType = some .int := hr
  have hP : va_P G classes (wl [lfX ct g xo]) s.heap := hP
  have hD : va_D A (wl [lfX ct g xo]) := hD
  have hK : va_K G classes (TYS ct) s := hK
  have hl : lv_has ls 1 [(0, .ref (g 7))] := hl
  unfold f_X11_refuseOtherBad at hf
  show WG l G ct sk sv p e (RM 0 0 0 0) s m args below meth c A (Eq2 (some (.int r)) (wl [lfX ct g xo'])) s.heap [] (F0 m 0 ls [])
  refine lv_aload_n hx hb dX11_refuseOtherBad_0 rfl (lv_at hl 0 rfl) ?_
  refine lv_dup hx hb dX11_refuseOtherBad_1 rfl ?_
  refine va_get (D := G) (C := RX11) (T := TX11) (N := 11) (v := .int (xo.1 0)) hx hb hts iu_X11 hown hK hP 0 rfl rfl 8 (by decide) (hts _ kw270) (fun _ h9 => h9) rfl dX11_refuseOtherBad_2 ?_
  refine lv_iconst (v := 1) hx hb dX11_refuseOtherBad_5 (by decide) ?_
  refine lv_iadd hx hb dX11_refuseOtherBad_6 ?_
  obtain ⟨xo_1, exo_1, hf⟩ := bl_e hf
  refine va_put (D := G) (C := RX11) (T := TX11) (N := 11) (ty := .int) hx hb hts iu_X11 tyX11 tyX11_ok nmX11 hown hK hP hD hS 0 rfl rfl 8 (by decide) (hts _ kw270) (fun _ h9 => h9) rfl (by decide +kernel) rfl rfl (Nat.le_of_ble_eq_true rfl) dX11_refuseOtherBad_7 (fun H locs hP hD hS => ?_)
  have hP : va_P G classes (wl [lfX ct g xo_1]) H := by rw [← exo_1]; exact hP
  have hD : va_D A (wl [lfX ct g xo_1]) := by rw [← exo_1]; exact hD
  refine lv_bipush (v := (-10)) hx hb dX11_refuseOtherBad_10 (by decide) ?_
  obtain ⟨e1, e2⟩ := inj2 (Option.some.inj hf)
  exact end_i (w' := (wl [lfX ct g xo_1])) hx hb hr hlocks hK hP hD hS dX11_refuseOtherBad_12  ⟨by rw [← e1], by rw [← e2]⟩
noncomputable def f_X11_about (n : Nat) (xo : MV) (h0 : MV) (v1 : Int32) (v2 : Int32) : Option (Int32 × MV) :=
  bd (f_X11_isLetter n xo h0 v1) fun r_1 =>
  bc (r_1 = 0) (bd2 (f_X11_refuseOtherBad n xo) fun r_15 xo_16 =>
  some (r_15, xo_16))
  (bc (v2 = 0) (gd (vp_in v1 6) <|
  some (h0.2.1 3 (ix v1), xo)) <|
  bc (v2 = 1) (gd (vp_in v1 6) <|
  some (h0.2.1 4 (ix v1), xo)) <|
  bc (v2 = 2) (gd (vp_in v1 6) <|
  some (h0.2.1 5 (ix v1), xo)) <|
  bc (v2 = 3) (bd (f_X1_postage n h0 v1) fun r_10 =>
  some (r_10, xo)) <|
  bc (v2 = 4) (gd (vp_in v1 6) <|
  some (h0.2.1 6 (ix v1), xo)) <|
  bd2 (f_X11_refuseOtherBad n xo) fun r_13 xo_14 =>
  some (r_13, xo_14))
set_option maxHeartbeats 4000000 in
set_option maxRecDepth 100000 in
theorem c_X11_about (l : Launch) (G : va_G) (ct : Nat → ClassId) (sk sv : Nat → Nat) (g : Nat → Nat) (n : Nat) (xo : MV) (h0 : MV) (v1 : Int32) (v2 : Int32) {r : Int32} {xo' : MV} (hf : f_X11_about n xo h0 v1 v2 = some (r, xo')) : Ctr (l, G, ct, sk, sv) mX11_about 2 85 [.ref (g 7), .int v1, .int v2] (wl [lfX ct g xo, lfH ct (hsA g 0) g h0]) (wl [lfX ct g xo', lfH ct (hsA g 0) g h0]) (some (.int r)) := by
  refine ctr_intro (by decide) (Nat.le_of_ble_eq_true rfl) ?_
  intro p e s m args below meth c A C hP hD hS hA ls hl
  obtain ⟨hx, hb, hml, hown, hts, hr, hlocks, hK, hnm, hZ⟩ := C
  have hb : c.code = cX11_about := hb
  have hml : c.maxLocals = 3 := hml
  have hown : s.vm.findClass "SignedOutside" = some m.cls := hown
  have hr : meth.sig.returnType = some .int := hr
  have hP : va_P G classes (wl [lfX ct g xo, lfH ct (hsA g 0) g h0]) s.heap := hP
  have hD : va_D A (wl [lfX ct g xo, lfH ct (hsA g 0) g h0]) := hD
  have hK : va_K G classes (TYS ct) s := hK
  have hl : lv_has ls 3 [(0, .ref (g 7)), (1, .int v1), (2, .int v2)] := hl
  unfold f_X11_about at hf
  show WG l G ct sk sv p e (RM 2 85 0 0) s m args below meth c A (Eq2 (some (.int r)) (wl [lfX ct g xo', lfH ct (hsA g 0) g h0])) s.heap [] (F0 m 0 ls [])
  refine lv_aload_n hx hb dX11_about_0 rfl (lv_at hl 0 rfl) ?_
  refine lv_iload_n hx hb dX11_about_1 rfl (lv_at hl 1 rfl) ?_
  obtain ⟨r_1, hc1, hf⟩ := bd_e hf
  refine call_V (As := [.int v1]) (rest := []) hx hb hml hown hts hK hP hD hS hA hZ lkX11_125 (c_X11_isLetter l G ct sk sv g n xo h0 v1 hc1) 0 rfl rfl ⟨Nat.le_of_ble_eq_true rfl, Nat.le_of_ble_eq_true rfl⟩ rfl hl.1 rfl (Nat.le_of_ble_eq_true rfl) dX11_about_2 ⟨Nat.le_of_ble_eq_true rfl, Nat.le_of_ble_eq_true rfl⟩ (fun r9 w9 H locs hB hP hD hS => ?_)
  obtain ⟨rfl, rfl⟩ := hB
  refine WG_eq (g2 := F0 m 5 ls [.int r_1]) rfl ?_
  refine lv_if_ne (tgt := 13) hx hb dX11_about_5 (by decide) (fun c_2 => ?_) (fun c_2 => ?_)
  · replace hf := bc_f hf c_2
    refine lv_iload_n hx hb dX11_about_13 rfl (lv_at hl 2 rfl) ?_
    rcases Classical.em (v2 = 0) with c_3 | c_3
    · replace hf := bc_t hf c_3
      refine lv_tableIn (tgt := 48) hx hb dX11_about_14 (by rw [c_3]; decide) (by rw [c_3]; decide) (by rw [c_3]; rfl) (by decide) ?_
      refine lv_aload_n hx hb dX11_about_48 rfl (lv_at hl 0 rfl) ?_
      refine va_get (D := G) (C := RX11) (T := TX11) (N := 11) (v := .ref ((hsA g 0) 0)) hx hb hts iu_X11 hown hK hP 0 rfl rfl 0 (by decide) (hts _ kw262) (fun _ h9 => h9) rfl dX11_about_49 ?_
      refine va_get (D := G) (C := RX1) (T := TX1) (N := 16) (v := .ref ((hsA g 0) 4)) hx hb hts iu_X1 hown hK hP 3 rfl rfl 6 (by decide) (hts _ kw140) (fun _ h9 => h9) rfl dX11_about_52 ?_
      refine lv_iload_n hx hb dX11_about_55 rfl (lv_at hl 1 rfl) ?_
      obtain ⟨g_4, hf⟩ := gd_e hf
      refine va_iald (f := h0.2.1 3) hx hb hK hP 7 0 rfl rfl g_4 dX11_about_56 ?_
      obtain ⟨e1, e2⟩ := inj2 (Option.some.inj hf)
      exact end_i (w' := (wl [lfX ct g xo, lfH ct (hsA g 0) g h0])) hx hb hr hlocks hK hP hD hS dX11_about_57  ⟨by rw [← e1], by rw [← e2]⟩
    replace hf := bc_f hf c_3
    rcases Classical.em (v2 = 1) with c_5 | c_5
    · replace hf := bc_t hf c_5
      refine lv_tableIn (tgt := 58) hx hb dX11_about_14 (by rw [c_5]; decide) (by rw [c_5]; decide) (by rw [c_5]; rfl) (by decide) ?_
      refine lv_aload_n hx hb dX11_about_58 rfl (lv_at hl 0 rfl) ?_
      refine va_get (D := G) (C := RX11) (T := TX11) (N := 11) (v := .ref ((hsA g 0) 0)) hx hb hts iu_X11 hown hK hP 0 rfl rfl 0 (by decide) (hts _ kw262) (fun _ h9 => h9) rfl dX11_about_59 ?_
      refine va_get (D := G) (C := RX1) (T := TX1) (N := 16) (v := .ref ((hsA g 0) 5)) hx hb hts iu_X1 hown hK hP 3 rfl rfl 7 (by decide) (hts _ kw142) (fun _ h9 => h9) rfl dX11_about_62 ?_
      refine lv_iload_n hx hb dX11_about_65 rfl (lv_at hl 1 rfl) ?_
      obtain ⟨g_6, hf⟩ := gd_e hf
      refine va_iald (f := h0.2.1 4) hx hb hK hP 8 0 rfl rfl g_6 dX11_about_66 ?_
      obtain ⟨e1, e2⟩ := inj2 (Option.some.inj hf)
      exact end_i (w' := (wl [lfX ct g xo, lfH ct (hsA g 0) g h0])) hx hb hr hlocks hK hP hD hS dX11_about_67  ⟨by rw [← e1], by rw [← e2]⟩
    replace hf := bc_f hf c_5
    rcases Classical.em (v2 = 2) with c_7 | c_7
    · replace hf := bc_t hf c_7
      refine lv_tableIn (tgt := 68) hx hb dX11_about_14 (by rw [c_7]; decide) (by rw [c_7]; decide) (by rw [c_7]; rfl) (by decide) ?_
      refine lv_aload_n hx hb dX11_about_68 rfl (lv_at hl 0 rfl) ?_
      refine va_get (D := G) (C := RX11) (T := TX11) (N := 11) (v := .ref ((hsA g 0) 0)) hx hb hts iu_X11 hown hK hP 0 rfl rfl 0 (by decide) (hts _ kw262) (fun _ h9 => h9) rfl dX11_about_69 ?_
      refine va_get (D := G) (C := RX1) (T := TX1) (N := 16) (v := .ref ((hsA g 0) 6)) hx hb hts iu_X1 hown hK hP 3 rfl rfl 8 (by decide) (hts _ kw144) (fun _ h9 => h9) rfl dX11_about_72 ?_
      refine lv_iload_n hx hb dX11_about_75 rfl (lv_at hl 1 rfl) ?_
      obtain ⟨g_8, hf⟩ := gd_e hf
      refine va_iald (f := h0.2.1 5) hx hb hK hP 9 0 rfl rfl g_8 dX11_about_76 ?_
      obtain ⟨e1, e2⟩ := inj2 (Option.some.inj hf)
      exact end_i (w' := (wl [lfX ct g xo, lfH ct (hsA g 0) g h0])) hx hb hr hlocks hK hP hD hS dX11_about_77  ⟨by rw [← e1], by rw [← e2]⟩
    replace hf := bc_f hf c_7
    rcases Classical.em (v2 = 3) with c_9 | c_9
    · replace hf := bc_t hf c_9
      refine lv_tableIn (tgt := 78) hx hb dX11_about_14 (by rw [c_9]; decide) (by rw [c_9]; decide) (by rw [c_9]; rfl) (by decide) ?_
      refine lv_aload_n hx hb dX11_about_78 rfl (lv_at hl 0 rfl) ?_
      refine va_get (D := G) (C := RX11) (T := TX11) (N := 11) (v := .ref ((hsA g 0) 0)) hx hb hts iu_X11 hown hK hP 0 rfl rfl 0 (by decide) (hts _ kw262) (fun _ h9 => h9) rfl dX11_about_79 ?_
      refine lv_iload_n hx hb dX11_about_82 rfl (lv_at hl 1 rfl) ?_
      obtain ⟨r_10, hc10, hf⟩ := bd_e hf
      refine call_V (As := [.int v1]) (rest := []) hx hb hml hown hts hK hP hD hS hA hZ lkX11_145 (Ctr.upL (c_X1_postage l G ct sk sv (hsA g 0) g n h0 v1 hc10) [lfX ct g xo] [lfX ct g xo, lfH ct (hsA g 0) g h0] [lfX ct g xo, lfH ct (hsA g 0) g h0] [1, 0] 2 (by decide) rfl rfl rfl rfl) 3 rfl rfl ⟨Nat.le_of_ble_eq_true rfl, Nat.le_of_ble_eq_true rfl⟩ rfl hl.1 rfl (Nat.le_of_ble_eq_true rfl) dX11_about_83 ⟨Nat.le_of_ble_eq_true rfl, Nat.le_of_ble_eq_true rfl⟩ (fun r9 w9 H locs hB hP hD hS => ?_)
      obtain ⟨rfl, rfl⟩ := hB
      refine WG_eq (g2 := F0 m 86 ls [.int r_10]) rfl ?_
      obtain ⟨e1, e2⟩ := inj2 (Option.some.inj hf)
      exact end_i (w' := (wl [lfX ct g xo, lfH ct (hsA g 0) g h0])) hx hb hr hlocks hK hP hD hS dX11_about_86  ⟨by rw [← e1], by rw [← e2]⟩
    replace hf := bc_f hf c_9
    rcases Classical.em (v2 = 4) with c_11 | c_11
    · replace hf := bc_t hf c_11
      refine lv_tableIn (tgt := 87) hx hb dX11_about_14 (by rw [c_11]; decide) (by rw [c_11]; decide) (by rw [c_11]; rfl) (by decide) ?_
      refine lv_aload_n hx hb dX11_about_87 rfl (lv_at hl 0 rfl) ?_
      refine va_get (D := G) (C := RX11) (T := TX11) (N := 11) (v := .ref ((hsA g 0) 0)) hx hb hts iu_X11 hown hK hP 0 rfl rfl 0 (by decide) (hts _ kw262) (fun _ h9 => h9) rfl dX11_about_88 ?_
      refine va_get (D := G) (C := RX1) (T := TX1) (N := 16) (v := .ref ((hsA g 0) 7)) hx hb hts iu_X1 hown hK hP 3 rfl rfl 9 (by decide) (hts _ kw147) (fun _ h9 => h9) rfl dX11_about_91 ?_
      refine lv_iload_n hx hb dX11_about_94 rfl (lv_at hl 1 rfl) ?_
      obtain ⟨g_12, hf⟩ := gd_e hf
      refine va_iald (f := h0.2.1 6) hx hb hK hP 10 0 rfl rfl g_12 dX11_about_95 ?_
      obtain ⟨e1, e2⟩ := inj2 (Option.some.inj hf)
      exact end_i (w' := (wl [lfX ct g xo, lfH ct (hsA g 0) g h0])) hx hb hr hlocks hK hP hD hS dX11_about_96  ⟨by rw [← e1], by rw [← e2]⟩
    replace hf := bc_f hf c_11
    have tc_3 := lv_neT (a := 0) c_3 (by decide)
    have tc_5 := lv_neT (a := 1) c_5 (by decide)
    have tc_7 := lv_neT (a := 2) c_7 (by decide)
    have tc_9 := lv_neT (a := 3) c_9 (by decide)
    have tc_11 := lv_neT (a := 4) c_11 (by decide)
    refine lv_tableOut (tgt := 97) hx hb dX11_about_14 (by omega) (by decide) ?_
    refine lv_aload_n hx hb dX11_about_97 rfl (lv_at hl 0 rfl) ?_
    obtain ⟨r_13, xo_14, hc14, hf⟩ := bd2_e hf
    refine call_V (As := []) (rest := []) hx hb hml hown hts hK hP hD hS hA hZ lkX11_189 (Ctr.upL (c_X11_refuseOtherBad l G ct sk sv g n xo hc14) [lfH ct (hsA g 0) g h0] [lfX ct g xo, lfH ct (hsA g 0) g h0] [lfX ct g xo_14, lfH ct (hsA g 0) g h0] [0, 1] 2 (by decide) rfl rfl rfl rfl) 0 rfl rfl ⟨Nat.le_of_ble_eq_true rfl, Nat.le_of_ble_eq_true rfl⟩ rfl hl.1 rfl (Nat.le_of_ble_eq_true rfl) dX11_about_98 ⟨Nat.le_of_ble_eq_true rfl, Nat.le_of_ble_eq_true rfl⟩ (fun r9 w9 H locs hB hP hD hS => ?_)
    obtain ⟨rfl, rfl⟩ := hB
    refine WG_eq (g2 := F0 m 101 ls [.int r_13]) rfl ?_
    obtain ⟨e1, e2⟩ := inj2 (Option.some.inj hf)
    exact end_i (w' := (wl [lfX ct g xo_14, lfH ct (hsA g 0) g h0])) hx hb hr hlocks hK hP hD hS dX11_about_101  ⟨by rw [← e1], by rw [← e2]⟩
  · replace hf := bc_t hf c_2
    refine lv_aload_n hx hb dX11_about_8 rfl (lv_at hl 0 rfl) ?_
    obtain ⟨r_15, xo_16, hc16, hf⟩ := bd2_e hf
    refine call_V (As := []) (rest := []) hx hb hml hown hts hK hP hD hS hA hZ lkX11_189 (Ctr.upL (c_X11_refuseOtherBad l G ct sk sv g n xo hc16) [lfH ct (hsA g 0) g h0] [lfX ct g xo, lfH ct (hsA g 0) g h0] [lfX ct g xo_16, lfH ct (hsA g 0) g h0] [0, 1] 2 (by decide) rfl rfl rfl rfl) 0 rfl rfl ⟨Nat.le_of_ble_eq_true rfl, Nat.le_of_ble_eq_true rfl⟩ rfl hl.1 rfl (Nat.le_of_ble_eq_true rfl) dX11_about_9 ⟨Nat.le_of_ble_eq_true rfl, Nat.le_of_ble_eq_true rfl⟩ (fun r9 w9 H locs hB hP hD hS => ?_)
    obtain ⟨rfl, rfl⟩ := hB
    refine WG_eq (g2 := F0 m 12 ls [.int r_15]) rfl ?_
    obtain ⟨e1, e2⟩ := inj2 (Option.some.inj hf)
    exact end_i (w' := (wl [lfX ct g xo_16, lfH ct (hsA g 0) g h0])) hx hb hr hlocks hK hP hD hS dX11_about_12  ⟨by rw [← e1], by rw [← e2]⟩
noncomputable def f_X11_everyMember (n : Nat) (xo : MV) (h0 : MV) : Option (Int32) :=
  some ((1 <<< ((h0.1 0) &&& 31)) - 1)
set_option maxHeartbeats 4000000 in
set_option maxRecDepth 100000 in
theorem c_X11_everyMember (l : Launch) (G : va_G) (ct : Nat → ClassId) (sk sv : Nat → Nat) (g : Nat → Nat) (n : Nat) (xo : MV) (h0 : MV) {r : Int32} (hf : f_X11_everyMember n xo h0 = some r) : Ctr (l, G, ct, sk, sv) mX11_everyMember 0 0 [.ref (g 7)] (wl [lfX ct g xo, lfH ct (hsA g 0) g h0]) (wl [lfX ct g xo, lfH ct (hsA g 0) g h0]) (some (.int r)) := by
  refine ctr_intro (by decide) (Nat.le_of_ble_eq_true rfl) ?_
  intro p e s m args below meth c A C hP hD hS hA ls hl
  obtain ⟨hx, hb, hml, hown, hts, hr, hlocks, hK, hnm, hZ⟩ := C
  have hb : c.code = cX11_everyMember := hb
  have hml : c.maxLocals = 1 := hml
  have hown : s.vm.findClass "SignedOutside" = some m.cls := hown
  have hr : meth.sig.returnType = some .int := hr
  have hP : va_P G classes (wl [lfX ct g xo, lfH ct (hsA g 0) g h0]) s.heap := hP
  have hD : va_D A (wl [lfX ct g xo, lfH ct (hsA g 0) g h0]) := hD
  have hK : va_K G classes (TYS ct) s := hK
  have hl : lv_has ls 1 [(0, .ref (g 7))] := hl
  unfold f_X11_everyMember at hf
  show WG l G ct sk sv p e (RM 0 0 0 0) s m args below meth c A (Eq2 (some (.int r)) (wl [lfX ct g xo, lfH ct (hsA g 0) g h0])) s.heap [] (F0 m 0 ls [])
  refine lv_iconst (v := 1) hx hb dX11_everyMember_0 (by decide) ?_
  refine lv_aload_n hx hb dX11_everyMember_1 rfl (lv_at hl 0 rfl) ?_
  refine va_get (D := G) (C := RX11) (T := TX11) (N := 11) (v := .ref ((hsA g 0) 0)) hx hb hts iu_X11 hown hK hP 0 rfl rfl 0 (by decide) (hts _ kw262) (fun _ h9 => h9) rfl dX11_everyMember_2 ?_
  refine va_get (D := G) (C := RX1) (T := TX1) (N := 16) (v := .int (h0.1 0)) hx hb hts iu_X1 hown hK hP 3 rfl rfl 1 (by decide) (hts _ kw124) (fun _ h9 => h9) rfl dX11_everyMember_5 ?_
  refine lv_ishl hx hb dX11_everyMember_8 ?_
  refine lv_iconst (v := 1) hx hb dX11_everyMember_9 (by decide) ?_
  refine lv_isub hx hb dX11_everyMember_10 ?_
  have e1 := Option.some.inj hf
  exact end_i (w' := (wl [lfX ct g xo, lfH ct (hsA g 0) g h0])) hx hb hr hlocks hK hP hD hS dX11_everyMember_11  ⟨by rw [← e1], rfl⟩
noncomputable def f_X11_all_j52 (n : Nat) (xo : MV) (nv : MV) (h0 : MV) (s0 : Int32) : Option (Int32 × MV × MV) :=
  some (s0, xo, nv)
noncomputable def f_X11_all_j18 (n : Nat) (xo : MV) (nv : MV) (h0 : MV) (v1 : Int32) : Option (Int32 × MV × MV) :=
  bd (f_X11_everyMember n xo h0) fun r_1 =>
  bd2 (f_X3_solve n nv h0 r_1) fun r_2 nv_3 =>
  bc (v1 = (-1)) (f_X11_all_j52 n xo nv_3 h0 r_2)
  (gd (vp_in v1 6) <|
  f_X11_all_j52 n xo nv_3 h0 (nv_3.2.1 5 (ix v1)))
noncomputable def f_X11_all (n : Nat) (xo : MV) (nv : MV) (h0 : MV) (v1 : Int32) : Option (Int32 × MV × MV) :=
  bc (v1 = (-1)) (f_X11_all_j18 n xo nv h0 v1)
  (bd (f_X11_isLetter n xo h0 v1) fun r_7 =>
  bc (r_7 = 0) (bd2 (f_X11_refuseOtherBad n xo) fun r_9 xo_10 =>
  some (r_9, xo_10, nv))
  (f_X11_all_j18 n xo nv h0 v1))
set_option maxHeartbeats 4000000 in
set_option maxRecDepth 100000 in
theorem c_X11_all (l : Launch) (G : va_G) (ct : Nat → ClassId) (sk sv : Nat → Nat) (g : Nat → Nat) (n : Nat) (xo : MV) (nv : MV) (h0 : MV) (v1 : Int32) {r : Int32} {xo' : MV} {nv' : MV} (hf : f_X11_all n xo nv h0 v1 = some (r, xo', nv')) : Ctr (l, G, ct, sk, sv) mX11_all 11 304 [.ref (g 7), .int v1] (wl [lfX ct g xo, lfN ct (fun j => g (10 + j)) nv, lfH ct (hsA g 0) g h0, lfK ct g]) (wl [lfX ct g xo', lfN ct (fun j => g (10 + j)) nv', lfH ct (hsA g 0) g h0, lfK ct g]) (some (.int r)) := by
  refine ctr_intro (by decide) (Nat.le_of_ble_eq_true rfl) ?_
  intro p e s m args below meth c A C hP hD hS hA ls hl
  obtain ⟨hx, hb, hml, hown, hts, hr, hlocks, hK, hnm, hZ⟩ := C
  have hb : c.code = cX11_all := hb
  have hml : c.maxLocals = 3 := hml
  have hown : s.vm.findClass "SignedOutside" = some m.cls := hown
  have hr : meth.sig.returnType = some .int := hr
  have hP : va_P G classes (wl [lfX ct g xo, lfN ct (fun j => g (10 + j)) nv, lfH ct (hsA g 0) g h0, lfK ct g]) s.heap := hP
  have hD : va_D A (wl [lfX ct g xo, lfN ct (fun j => g (10 + j)) nv, lfH ct (hsA g 0) g h0, lfK ct g]) := hD
  have hK : va_K G classes (TYS ct) s := hK
  have hl : lv_has ls 3 [(0, .ref (g 7)), (1, .int v1)] := hl
  have J52 : ∀ (xo : MV) (nv : MV) (s0 : Int32) (H : Heap) (locs : List Loc) (ls : Array Slot), va_P G classes (wl [lfX ct g xo, lfN ct (fun j => g (10 + j)) nv, lfH ct (hsA g 0) g h0, lfK ct g]) H → va_D A (wl [lfX ct g xo, lfN ct (fun j => g (10 + j)) nv, lfH ct (hsA g 0) g h0, lfK ct g]) → va_S A s.heap H locs → lv_has ls 3 [] → f_X11_all_j52 n xo nv h0 s0 = some (r, xo', nv') → WG l G ct sk sv p e (RM 11 304 0 0) s m args below meth c A (Eq2 (some (.int r)) (wl [lfX ct g xo', lfN ct (fun j => g (10 + j)) nv', lfH ct (hsA g 0) g h0, lfK ct g])) H locs (F0 m 52 ls [.int s0]) := by
    intro xo nv s0 H locs ls hP hD hS hl hf
    unfold f_X11_all_j52 at hf
    obtain ⟨e1, e2, e3⟩ := inj3 (Option.some.inj hf)
    exact end_i (w' := (wl [lfX ct g xo, lfN ct (fun j => g (10 + j)) nv, lfH ct (hsA g 0) g h0, lfK ct g])) hx hb hr hlocks hK hP hD hS dX11_all_52  ⟨by rw [← e1], by rw [← e2, ← e3]⟩
  have J18 : ∀ (xo : MV) (nv : MV) (v1 : Int32) (H : Heap) (locs : List Loc) (ls : Array Slot), va_P G classes (wl [lfX ct g xo, lfN ct (fun j => g (10 + j)) nv, lfH ct (hsA g 0) g h0, lfK ct g]) H → va_D A (wl [lfX ct g xo, lfN ct (fun j => g (10 + j)) nv, lfH ct (hsA g 0) g h0, lfK ct g]) → va_S A s.heap H locs → lv_has ls 3 [(0, .ref (g 7)), (1, .int v1)] → f_X11_all_j18 n xo nv h0 v1 = some (r, xo', nv') → WG l G ct sk sv p e (RM 11 304 0 0) s m args below meth c A (Eq2 (some (.int r)) (wl [lfX ct g xo', lfN ct (fun j => g (10 + j)) nv', lfH ct (hsA g 0) g h0, lfK ct g])) H locs (F0 m 18 ls []) := by
    intro xo nv v1 H locs ls hP hD hS hl hf
    unfold f_X11_all_j18 at hf
    refine lv_aload_n hx hb dX11_all_18 rfl (lv_at hl 0 rfl) ?_
    refine va_get (D := G) (C := RX11) (T := TX11) (N := 11) (v := .ref (g 10)) hx hb hts iu_X11 hown hK hP 0 rfl rfl 4 (by decide) (hts _ kw266) (fun _ h9 => h9) rfl dX11_all_19 ?_
    refine lv_aload_n hx hb dX11_all_22 rfl (lv_at hl 0 rfl) ?_
    refine va_get (D := G) (C := RX11) (T := TX11) (N := 11) (v := .ref ((hsA g 0) 0)) hx hb hts iu_X11 hown hK hP 0 rfl rfl 0 (by decide) (hts _ kw262) (fun _ h9 => h9) rfl dX11_all_23 ?_
    refine lv_aload_n hx hb dX11_all_26 rfl (lv_at hl 0 rfl) ?_
    obtain ⟨r_1, hc1, hf⟩ := bd_e hf
    refine call_V (As := []) (rest := [.ref ((hsA g 0) 0), .ref (g 10)]) hx hb hml hown hts hK hP hD hS hA hZ lkX11_216 (Ctr.upL (c_X11_everyMember l G ct sk sv g n xo h0 hc1) [lfN ct (fun j => g (10 + j)) nv, lfK ct g] [lfX ct g xo, lfN ct (fun j => g (10 + j)) nv, lfH ct (hsA g 0) g h0, lfK ct g] [lfX ct g xo, lfN ct (fun j => g (10 + j)) nv, lfH ct (hsA g 0) g h0, lfK ct g] [0, 2, 1, 3] 4 (by decide) rfl rfl rfl rfl) 0 rfl rfl ⟨Nat.le_of_ble_eq_true rfl, Nat.le_of_ble_eq_true rfl⟩ rfl hl.1 rfl (Nat.le_of_ble_eq_true rfl) dX11_all_27 ⟨Nat.le_of_ble_eq_true rfl, Nat.le_of_ble_eq_true rfl⟩ (fun r9 w9 H locs hB hP hD hS => ?_)
    obtain ⟨rfl, rfl⟩ := hB
    refine WG_eq (g2 := F0 m 30 ls [.int r_1, .ref ((hsA g 0) 0), .ref (g 10)]) rfl ?_
    obtain ⟨r_2, nv_3, hc3, hf⟩ := bd2_e hf
    refine call_V (As := [.ref ((hsA g 0) 0), .int r_1]) (rest := []) hx hb hml hown hts hK hP hD hS hA hZ lkX11_219 (Ctr.upL (c_X3_solve l G ct sk sv (fun j => g (10 + j)) (hsA g 0) g n nv h0 r_1 hc3) [lfX ct g xo] [lfX ct g xo, lfN ct (fun j => g (10 + j)) nv, lfH ct (hsA g 0) g h0, lfK ct g] [lfX ct g xo, lfN ct (fun j => g (10 + j)) nv_3, lfH ct (hsA g 0) g h0, lfK ct g] [1, 2, 3, 0] 4 (by decide) rfl rfl rfl rfl) 3 rfl rfl ⟨Nat.le_of_ble_eq_true rfl, Nat.le_of_ble_eq_true rfl⟩ rfl hl.1 rfl (Nat.le_of_ble_eq_true rfl) dX11_all_30 ⟨Nat.le_of_ble_eq_true rfl, Nat.le_of_ble_eq_true rfl⟩ (fun r9 w9 H locs hB hP hD hS => ?_)
    obtain ⟨rfl, rfl⟩ := hB
    refine WG_eq (g2 := F0 m 33 ls [.int r_2]) rfl ?_
    refine lv_istore_n (lv' := [(2, .int r_2), (0, .ref (g 7)), (1, .int v1)]) hx hb dX11_all_33 rfl hl (by decide) rfl (fun ls hl => ?_)
    refine lv_iload_n hx hb dX11_all_34 rfl (lv_at hl 2 rfl) ?_
    refine lv_iconst (v := (-1)) hx hb dX11_all_35 (by decide) ?_
    refine lv_icmp_ne (tgt := 43) hx hb dX11_all_36 (by decide) (fun c_4 => ?_) (fun c_4 => ?_)
    · replace hf := bc_f hf c_4
      refine lv_aload_n hx hb dX11_all_43 rfl (lv_at hl 1 rfl) ?_
      refine va_get (D := G) (C := RX11) (T := TX11) (N := 11) (v := .ref (g 10)) hx hb hts iu_X11 hown hK hP 0 rfl rfl 4 (by decide) (hts _ kw266) (fun _ h9 => h9) rfl dX11_all_44 ?_
      refine va_get (D := G) (C := RX3) (T := TX3) (N := 9) (v := .ref (g 16)) hx hb hts iu_X3 hown hK hP 3 rfl rfl 6 (by decide) (hts _ kw210) (fun _ h9 => h9) rfl dX11_all_47 ?_
      refine lv_iload_n hx hb dX11_all_50 rfl (lv_at hl 2 rfl) ?_
      obtain ⟨g_5, hf⟩ := gd_e hf
      refine va_iald (f := nv_3.2.1 5) hx hb hK hP 9 0 rfl rfl g_5 dX11_all_51 ?_
      exact J52 xo nv_3 (nv_3.2.1 5 (ix v1)) _ _ _ hP hD hS (lv_sub hl [] rfl) hf
    · replace hf := bc_t hf c_4
      refine lv_iload_n hx hb dX11_all_39 rfl (lv_at hl 0 rfl) ?_
      refine lv_goto (tgt := 52) hx hb dX11_all_40 (by decide) ?_
      exact J52 xo nv_3 r_2 _ _ _ hP hD hS (lv_sub hl [] rfl) hf
  unfold f_X11_all at hf
  show WG l G ct sk sv p e (RM 11 304 0 0) s m args below meth c A (Eq2 (some (.int r)) (wl [lfX ct g xo', lfN ct (fun j => g (10 + j)) nv', lfH ct (hsA g 0) g h0, lfK ct g])) s.heap [] (F0 m 0 ls [])
  refine lv_iload_n hx hb dX11_all_0 rfl (lv_at hl 1 rfl) ?_
  refine lv_iconst (v := (-1)) hx hb dX11_all_1 (by decide) ?_
  refine lv_icmp_eq (tgt := 18) hx hb dX11_all_2 (by decide) (fun c_6 => ?_) (fun c_6 => ?_)
  · replace hf := bc_t hf c_6
    exact J18 xo nv v1 _ _ _ hP hD hS hl hf
  · replace hf := bc_f hf c_6
    refine lv_aload_n hx hb dX11_all_5 rfl (lv_at hl 0 rfl) ?_
    refine lv_iload_n hx hb dX11_all_6 rfl (lv_at hl 1 rfl) ?_
    obtain ⟨r_7, hc7, hf⟩ := bd_e hf
    refine call_V (As := [.int v1]) (rest := []) hx hb hml hown hts hK hP hD hS hA hZ lkX11_125 (Ctr.upL (c_X11_isLetter l G ct sk sv g n xo h0 v1 hc7) [lfN ct (fun j => g (10 + j)) nv, lfK ct g] [lfX ct g xo, lfN ct (fun j => g (10 + j)) nv, lfH ct (hsA g 0) g h0, lfK ct g] [lfX ct g xo, lfN ct (fun j => g (10 + j)) nv, lfH ct (hsA g 0) g h0, lfK ct g] [0, 2, 1, 3] 4 (by decide) rfl rfl rfl rfl) 0 rfl rfl ⟨Nat.le_of_ble_eq_true rfl, Nat.le_of_ble_eq_true rfl⟩ rfl hl.1 rfl (Nat.le_of_ble_eq_true rfl) dX11_all_7 ⟨Nat.le_of_ble_eq_true rfl, Nat.le_of_ble_eq_true rfl⟩ (fun r9 w9 H locs hB hP hD hS => ?_)
    obtain ⟨rfl, rfl⟩ := hB
    refine WG_eq (g2 := F0 m 10 ls [.int r_7]) rfl ?_
    refine lv_if_ne (tgt := 18) hx hb dX11_all_10 (by decide) (fun c_8 => ?_) (fun c_8 => ?_)
    · replace hf := bc_f hf c_8
      exact J18 xo nv v1 _ _ _ hP hD hS hl hf
    · replace hf := bc_t hf c_8
      refine lv_aload_n hx hb dX11_all_13 rfl (lv_at hl 0 rfl) ?_
      obtain ⟨r_9, xo_10, hc10, hf⟩ := bd2_e hf
      refine call_V (As := []) (rest := []) hx hb hml hown hts hK hP hD hS hA hZ lkX11_189 (Ctr.upL (c_X11_refuseOtherBad l G ct sk sv g n xo hc10) [lfN ct (fun j => g (10 + j)) nv, lfH ct (hsA g 0) g h0, lfK ct g] [lfX ct g xo, lfN ct (fun j => g (10 + j)) nv, lfH ct (hsA g 0) g h0, lfK ct g] [lfX ct g xo_10, lfN ct (fun j => g (10 + j)) nv, lfH ct (hsA g 0) g h0, lfK ct g] [0, 1, 2, 3] 4 (by decide) rfl rfl rfl rfl) 0 rfl rfl ⟨Nat.le_of_ble_eq_true rfl, Nat.le_of_ble_eq_true rfl⟩ rfl hl.1 rfl (Nat.le_of_ble_eq_true rfl) dX11_all_14 ⟨Nat.le_of_ble_eq_true rfl, Nat.le_of_ble_eq_true rfl⟩ (fun r9 w9 H locs hB hP hD hS => ?_)
      obtain ⟨rfl, rfl⟩ := hB
      refine WG_eq (g2 := F0 m 17 ls [.int r_9]) rfl ?_
      obtain ⟨e1, e2, e3⟩ := inj3 (Option.some.inj hf)
      exact end_i (w' := (wl [lfX ct g xo_10, lfN ct (fun j => g (10 + j)) nv, lfH ct (hsA g 0) g h0, lfK ct g])) hx hb hr hlocks hK hP hD hS dX11_all_17  ⟨by rw [← e1], by rw [← e2, ← e3]⟩
noncomputable def f_X11_clear (n : Nat) (xo : MV) (rv : MV) : Option (Int32 × MV) :=
  bl (rv.1 0) fun v1_1 =>
  bl (setS rv 0 0) fun rv_2 =>
  some (v1_1, rv_2)
set_option maxHeartbeats 4000000 in
set_option maxRecDepth 100000 in
theorem c_X11_clear (l : Launch) (G : va_G) (ct : Nat → ClassId) (sk sv : Nat → Nat) (g : Nat → Nat) (n : Nat) (xo : MV) (rv : MV) {r : Int32} {rv' : MV} (hf : f_X11_clear n xo rv = some (r, rv')) : Ctr (l, G, ct, sk, sv) mX11_clear 0 0 [.ref (g 7)] (wl [lfX ct g xo, lfR ct (fun j => g (18 + j)) rv]) (wl [lfX ct g xo, lfR ct (fun j => g (18 + j)) rv']) (some (.int r)) := by
  refine ctr_intro (by decide) (Nat.le_of_ble_eq_true rfl) ?_
  intro p e s m args below meth c A C hP hD hS hA ls hl
  obtain ⟨hx, hb, hml, hown, hts, hr, hlocks, hK, hnm, hZ⟩ := C
  have hb : c.code = cX11_clear := hb
  have hml : c.maxLocals = 2 := hml
  have hown : s.vm.findClass "SignedOutside" = some m.cls := hown
  have hr : meth.sig.returnType = some .int := hr
  have hP : va_P G classes (wl [lfX ct g xo, lfR ct (fun j => g (18 + j)) rv]) s.heap := hP
  have hD : va_D A (wl [lfX ct g xo, lfR ct (fun j => g (18 + j)) rv]) := hD
  have hK : va_K G classes (TYS ct) s := hK
  have hl : lv_has ls 2 [(0, .ref (g 7))] := hl
  unfold f_X11_clear at hf
  show WG l G ct sk sv p e (RM 0 0 0 0) s m args below meth c A (Eq2 (some (.int r)) (wl [lfX ct g xo, lfR ct (fun j => g (18 + j)) rv'])) s.heap [] (F0 m 0 ls [])
  refine lv_aload_n hx hb dX11_clear_0 rfl (lv_at hl 0 rfl) ?_
  refine va_get (D := G) (C := RX11) (T := TX11) (N := 11) (v := .ref (g 18)) hx hb hts iu_X11 hown hK hP 0 rfl rfl 5 (by decide) (hts _ kw267) (fun _ h9 => h9) rfl dX11_clear_1 ?_
  refine va_get (D := G) (C := RX6) (T := TX6) (N := 6) (v := .int (rv.1 0)) hx hb hts iu_X6 hown hK hP 3 rfl rfl 1 (by decide) (hts _ kw242) (fun _ h9 => h9) rfl dX11_clear_4 ?_
  refine lv_topi (fun v1_1 ev1_1 => ?_)
  replace hf := bl_i hf ev1_1
  refine lv_istore_n (lv' := [(1, .int v1_1), (0, .ref (g 7))]) hx hb dX11_clear_7 rfl hl (by decide) rfl (fun ls hl => ?_)
  refine lv_aload_n hx hb dX11_clear_8 rfl (lv_at hl 1 rfl) ?_
  refine va_get (D := G) (C := RX11) (T := TX11) (N := 11) (v := .ref (g 18)) hx hb hts iu_X11 hown hK hP 0 rfl rfl 5 (by decide) (hts _ kw267) (fun _ h9 => h9) rfl dX11_clear_9 ?_
  refine lv_iconst (v := 0) hx hb dX11_clear_12 (by decide) ?_
  obtain ⟨rv_2, erv_2, hf⟩ := bl_e hf
  refine va_put (D := G) (C := RX6) (T := TX6) (N := 6) (ty := .int) hx hb hts iu_X6 tyX6 tyX6_ok nmX6 hown hK hP hD hS 3 rfl rfl 1 (by decide) (hts _ kw242) (fun _ h9 => h9) rfl (by decide +kernel) rfl rfl (Nat.le_of_ble_eq_true rfl) dX11_clear_13 (fun H locs hP hD hS => ?_)
  have hP : va_P G classes (wl [lfX ct g xo, lfR ct (fun j => g (18 + j)) rv_2]) H := by rw [← erv_2]; exact hP
  have hD : va_D A (wl [lfX ct g xo, lfR ct (fun j => g (18 + j)) rv_2]) := by rw [← erv_2]; exact hD
  refine lv_iload_n hx hb dX11_clear_16 rfl (lv_at hl 0 rfl) ?_
  obtain ⟨e1, e2⟩ := inj2 (Option.some.inj hf)
  exact end_i (w' := (wl [lfX ct g xo, lfR ct (fun j => g (18 + j)) rv_2])) hx hb hr hlocks hK hP hD hS dX11_clear_17  ⟨by rw [← e1], by rw [← e2]⟩
noncomputable def f_X11_commonDivisor_b9 (n : Nat) (v8 : Int32) (v6 : Int64) (v4 : Int64) : Option ((Int32 × Int64 × Int64) ⊕ (Int64)) :=
  bc (100 ≤ v8) (some (.inr v4))
  (bc ((lg_cmp v6 0) = 0) (some (.inr v4))
  (gd (¬ v6 = 0) <|
  bl (v4 - v4 / v6 * v6) fun v9_4 =>
  bl (v8 + 1) fun v8_5 =>
  some (.inl (v8_5, v9_4, v6))))
noncomputable def f_X11_commonDivisor_l9 (fu : Nat) (n : Nat) (v8 : Int32) (v6 : Int64) (v4 : Int64) : Option (Int64) :=
  lp (fun q => f_X11_commonDivisor_b9 n q.1 q.2.1 q.2.2) fu (v8, v6, v4)
noncomputable def f_X11_commonDivisor_j44 (n : Nat) (v4 : Int64) : Option (Int64) :=
  some v4
noncomputable def f_X11_commonDivisor (n : Nat) (v0 : Int64) (v2 : Int64) : Option (Int64) :=
  bd (f_X11_commonDivisor_l9 n n 0 v2 v0) fun v4_6 =>
  f_X11_commonDivisor_j44 n v4_6
set_option maxHeartbeats 4000000 in
set_option maxRecDepth 100000 in
theorem c_X11_commonDivisor (l : Launch) (G : va_G) (ct : Nat → ClassId) (sk sv : Nat → Nat)  (n : Nat) (v0 : Int64) (v2 : Int64) {r : Int64} (hf : f_X11_commonDivisor n v0 v2 = some r) : Ctr (l, G, ct, sk, sv) mX11_commonDivisor 0 0 [.long v0, .long v2] (wl []) (wl []) (some (.long r)) := by
  refine ctr_intro (by decide) (Nat.le_of_ble_eq_true rfl) ?_
  intro p e s m args below meth c A C hP hD hS hA ls hl
  obtain ⟨hx, hb, hml, hown, hts, hr, hlocks, hK, hnm, hZ⟩ := C
  have hb : c.code = cX11_commonDivisor := hb
  have hml : c.maxLocals = 11 := hml
  have hown : s.vm.findClass "SignedOutside" = some m.cls := hown
  have hr : meth.sig.returnType = some .long := hr
  have hP : va_P G classes (wl []) s.heap := hP
  have hD : va_D A (wl []) := hD
  have hK : va_K G classes (TYS ct) s := hK
  have hl : lv_has ls 11 [(0, .long v0), (2, .long v2)] := hl
  have L9 : ∀ (fu : Nat) (v8 : Int32) (v6 : Int64) (v4 : Int64) (ex : Int64) (H : Heap) (locs : List Loc) (ls : Array Slot), va_P G classes (wl []) H → va_D A (wl []) → va_S A s.heap H locs → lv_has ls 11 [(8, .int v8), (6, .long v6), (4, .long v4)] → f_X11_commonDivisor_l9 fu n v8 v6 v4 = some ex → (∀ (x : Int64), ex = x → ∀ (H : Heap) (locs : List Loc) (ls : Array Slot), va_P G classes (wl []) H → va_D A (wl []) → va_S A s.heap H locs → lv_has ls 11 [(4, .long x)] → WG l G ct sk sv p e (RM 0 0 0 0) s m args below meth c A (Eq2 (some (.long r)) (wl [])) H locs (F0 m 44 ls [])) → WG l G ct sk sv p e (RM 0 0 0 0) s m args below meth c A (Eq2 (some (.long r)) (wl [])) H locs (F0 m 9 ls []) := by
    intro fu
    induction fu with
    | zero =>
      intro v8 v6 v4 ex H locs ls hP hD hS hl hf
      exact absurd hf (by unfold f_X11_commonDivisor_l9 lp; exact fun h => by cases h)
    | succ fu ih =>
      intro v8 v6 v4 ex H locs ls hP hD hS hl hf hE
      unfold f_X11_commonDivisor_l9 at hf
      obtain ⟨q, hf, hor⟩ := lp_e hf
      replace hf : f_X11_commonDivisor_b9 n v8 v6 v4 = some q := hf
      unfold f_X11_commonDivisor_b9 at hf
      refine lv_iload hx hb dX11_commonDivisor_9 (lv_at hl 0 rfl) ?_
      refine lv_bipush (v := 100) hx hb dX11_commonDivisor_11 (by decide) ?_
      refine lv_icmp_ge (tgt := 44) hx hb dX11_commonDivisor_13 (by decide) (fun c_1 => ?_) (fun c_1 => ?_)
      · replace hf := bc_t hf c_1
        exact hE v4 (lp_inr hor hf).symm _ _ _ hP hD hS (lv_sub hl [2] rfl)
      · replace hf := bc_f hf c_1
        refine lv_lload hx hb dX11_commonDivisor_16 (lv_at hl 1 rfl) ?_
        refine lv_lconst (v := 0) hx hb dX11_commonDivisor_18 (by decide) ?_
        refine W.lcmp hx hb dX11_commonDivisor_19 ?_
        refine lv_if_eq (tgt := 44) hx hb dX11_commonDivisor_20 (by decide) (fun c_2 => ?_) (fun c_2 => ?_)
        · replace hf := bc_t hf c_2
          exact hE v4 (lp_inr hor hf).symm _ _ _ hP hD hS (lv_sub hl [2] rfl)
        · replace hf := bc_f hf c_2
          refine lv_lload hx hb dX11_commonDivisor_23 (lv_at hl 2 rfl) ?_
          refine lv_lload hx hb dX11_commonDivisor_25 (lv_at hl 1 rfl) ?_
          obtain ⟨g_3, hf⟩ := gd_e hf
          refine lv_lrem hx hb dX11_commonDivisor_27 g_3 ?_
          refine lv_topl (fun v9_4 ev9_4 => ?_)
          replace hf := bl_i hf ev9_4
          refine lv_lstore (lv' := [(9, .long v9_4), (8, .int v8), (6, .long v6), (4, .long v4)]) hx hb dX11_commonDivisor_28 hl (by decide) rfl (fun ls hl => ?_)
          refine lv_lload hx hb dX11_commonDivisor_30 (lv_at hl 2 rfl) ?_
          refine lv_lstore (lv' := [(4, .long v6), (9, .long v9_4), (8, .int v8), (6, .long v6)]) hx hb dX11_commonDivisor_32 hl (by decide) rfl (fun ls hl => ?_)
          refine lv_lload hx hb dX11_commonDivisor_34 (lv_at hl 1 rfl) ?_
          refine lv_lstore (lv' := [(6, .long v9_4), (4, .long v6), (9, .long v9_4), (8, .int v8)]) hx hb dX11_commonDivisor_36 hl (by decide) rfl (fun ls hl => ?_)
          obtain ⟨v8_5, ev8_5, hf⟩ := bl_e hf
          refine lv_iinc (v := v8_5) (lv' := [(8, .int v8_5), (6, .long v9_4), (4, .long v6), (9, .long v9_4)]) hx hb dX11_commonDivisor_38 hl (k := 3) rfl ev8_5 (by decide) rfl (fun ls hl => ?_)
          refine lv_goto (tgt := 9) hx hb dX11_commonDivisor_41 (by decide) ?_
          exact ih v8_5 v9_4 v6 ex _ _ _ hP hD hS (lv_sub hl [0, 1, 2] rfl) (lp_inl hor hf) hE
  have J44 : ∀ (v4 : Int64) (H : Heap) (locs : List Loc) (ls : Array Slot), va_P G classes (wl []) H → va_D A (wl []) → va_S A s.heap H locs → lv_has ls 11 [(4, .long v4)] → f_X11_commonDivisor_j44 n v4 = some r → WG l G ct sk sv p e (RM 0 0 0 0) s m args below meth c A (Eq2 (some (.long r)) (wl [])) H locs (F0 m 44 ls []) := by
    intro v4 H locs ls hP hD hS hl hf
    unfold f_X11_commonDivisor_j44 at hf
    refine lv_lload hx hb dX11_commonDivisor_44 (lv_at hl 0 rfl) ?_
    have e1 := Option.some.inj hf
    exact end_l (w' := (wl [])) hx hb hr hlocks hK hP hD hS dX11_commonDivisor_46  ⟨by rw [← e1], rfl⟩
  unfold f_X11_commonDivisor at hf
  show WG l G ct sk sv p e (RM 0 0 0 0) s m args below meth c A (Eq2 (some (.long r)) (wl [])) s.heap [] (F0 m 0 ls [])
  refine lv_lload_n hx hb dX11_commonDivisor_0 rfl (lv_at hl 0 rfl) ?_
  refine lv_lstore (lv' := [(4, .long v0), (0, .long v0), (2, .long v2)]) hx hb dX11_commonDivisor_1 hl (by decide) rfl (fun ls hl => ?_)
  refine lv_lload_n hx hb dX11_commonDivisor_3 rfl (lv_at hl 2 rfl) ?_
  refine lv_lstore (lv' := [(6, .long v2), (4, .long v0), (0, .long v0), (2, .long v2)]) hx hb dX11_commonDivisor_4 hl (by decide) rfl (fun ls hl => ?_)
  refine lv_iconst (v := 0) hx hb dX11_commonDivisor_6 (by decide) ?_
  refine lv_istore (lv' := [(8, .int 0), (6, .long v2), (4, .long v0), (0, .long v0), (2, .long v2)]) hx hb dX11_commonDivisor_7 hl (by decide) rfl (fun ls hl => ?_)
  obtain ⟨v4_6, hx_7, hf⟩ := bd_e hf
  refine L9 n 0 v2 v0 v4_6 _ _ _ hP hD hS (lv_sub hl [0, 1, 2] rfl) hx_7 ?_
  intro x9 e9 H locs ls hP hD hS hl
  subst e9
  have hP : va_P G classes (wl []) H := hP
  have hD : va_D A (wl []) := hD
  have hl : lv_has ls 11 [(4, .long v4_6)] := hl
  exact J44 v4_6 _ _ _ hP hD hS hl hf
noncomputable def f_X11_howMany (n : Nat) (xo : MV) (rv : MV) (h0 : MV) (nt0 : MV) (cv0 : MV) (ps0 : MV) (v1 : Int32) : Option (Int32) :=
  bc (v1 = 0) (some (h0.1 0)) <|
  bc (v1 = 1) (some (h0.1 1)) <|
  bc (v1 = 2) (some (h0.1 2)) <|
  bc (v1 = 3) (bd (f_X1_howManyLie n h0) fun r_5 =>
  some r_5) <|
  bc (v1 = 4) (some (cv0.1 0)) <|
  bc (v1 = 5) (some (nt0.1 0)) <|
  bc (v1 = 6) (some (ps0.1 1)) <|
  some (rv.1 0)
set_option maxHeartbeats 4000000 in
set_option maxRecDepth 100000 in
theorem c_X11_howMany (l : Launch) (G : va_G) (ct : Nat → ClassId) (sk sv : Nat → Nat) (g : Nat → Nat) (n : Nat) (xo : MV) (rv : MV) (h0 : MV) (nt0 : MV) (cv0 : MV) (ps0 : MV) (v1 : Int32) {r : Int32} (hf : f_X11_howMany n xo rv h0 nt0 cv0 ps0 v1 = some r) : Ctr (l, G, ct, sk, sv) mX11_howMany 2 43 [.ref (g 7), .int v1] (wl [lfX ct g xo, lfR ct (fun j => g (18 + j)) rv, lfH ct (hsA g 0) g h0, lfS ct (fun j => (hsA g 0) (12 + j)) nt0, lfS ct (fun j => (hsA g 0) (8 + j)) cv0, lfP ct (fun j => (hsA g 0) (16 + j)) ps0]) (wl [lfX ct g xo, lfR ct (fun j => g (18 + j)) rv, lfH ct (hsA g 0) g h0, lfS ct (fun j => (hsA g 0) (12 + j)) nt0, lfS ct (fun j => (hsA g 0) (8 + j)) cv0, lfP ct (fun j => (hsA g 0) (16 + j)) ps0]) (some (.int r)) := by
  refine ctr_intro (by decide) (Nat.le_of_ble_eq_true rfl) ?_
  intro p e s m args below meth c A C hP hD hS hA ls hl
  obtain ⟨hx, hb, hml, hown, hts, hr, hlocks, hK, hnm, hZ⟩ := C
  have hb : c.code = cX11_howMany := hb
  have hml : c.maxLocals = 2 := hml
  have hown : s.vm.findClass "SignedOutside" = some m.cls := hown
  have hr : meth.sig.returnType = some .int := hr
  have hP : va_P G classes (wl [lfX ct g xo, lfR ct (fun j => g (18 + j)) rv, lfH ct (hsA g 0) g h0, lfS ct (fun j => (hsA g 0) (12 + j)) nt0, lfS ct (fun j => (hsA g 0) (8 + j)) cv0, lfP ct (fun j => (hsA g 0) (16 + j)) ps0]) s.heap := hP
  have hD : va_D A (wl [lfX ct g xo, lfR ct (fun j => g (18 + j)) rv, lfH ct (hsA g 0) g h0, lfS ct (fun j => (hsA g 0) (12 + j)) nt0, lfS ct (fun j => (hsA g 0) (8 + j)) cv0, lfP ct (fun j => (hsA g 0) (16 + j)) ps0]) := hD
  have hK : va_K G classes (TYS ct) s := hK
  have hl : lv_has ls 2 [(0, .ref (g 7)), (1, .int v1)] := hl
  unfold f_X11_howMany at hf
  show WG l G ct sk sv p e (RM 2 43 0 0) s m args below meth c A (Eq2 (some (.int r)) (wl [lfX ct g xo, lfR ct (fun j => g (18 + j)) rv, lfH ct (hsA g 0) g h0, lfS ct (fun j => (hsA g 0) (12 + j)) nt0, lfS ct (fun j => (hsA g 0) (8 + j)) cv0, lfP ct (fun j => (hsA g 0) (16 + j)) ps0])) s.heap [] (F0 m 0 ls [])
  refine lv_iload_n hx hb dX11_howMany_0 rfl (lv_at hl 1 rfl) ?_
  rcases Classical.em (v1 = 0) with c_1 | c_1
  · replace hf := bc_t hf c_1
    refine lv_tableIn (tgt := 44) hx hb dX11_howMany_1 (by rw [c_1]; decide) (by rw [c_1]; decide) (by rw [c_1]; rfl) (by decide) ?_
    refine lv_aload_n hx hb dX11_howMany_44 rfl (lv_at hl 0 rfl) ?_
    refine va_get (D := G) (C := RX11) (T := TX11) (N := 11) (v := .ref ((hsA g 0) 0)) hx hb hts iu_X11 hown hK hP 0 rfl rfl 0 (by decide) (hts _ kw262) (fun _ h9 => h9) rfl dX11_howMany_45 ?_
    refine va_get (D := G) (C := RX1) (T := TX1) (N := 16) (v := .int (h0.1 0)) hx hb hts iu_X1 hown hK hP 5 rfl rfl 1 (by decide) (hts _ kw124) (fun _ h9 => h9) rfl dX11_howMany_48 ?_
    have e1 := Option.some.inj hf
    exact end_i (w' := (wl [lfX ct g xo, lfR ct (fun j => g (18 + j)) rv, lfH ct (hsA g 0) g h0, lfS ct (fun j => (hsA g 0) (12 + j)) nt0, lfS ct (fun j => (hsA g 0) (8 + j)) cv0, lfP ct (fun j => (hsA g 0) (16 + j)) ps0])) hx hb hr hlocks hK hP hD hS dX11_howMany_51  ⟨by rw [← e1], rfl⟩
  replace hf := bc_f hf c_1
  rcases Classical.em (v1 = 1) with c_2 | c_2
  · replace hf := bc_t hf c_2
    refine lv_tableIn (tgt := 52) hx hb dX11_howMany_1 (by rw [c_2]; decide) (by rw [c_2]; decide) (by rw [c_2]; rfl) (by decide) ?_
    refine lv_aload_n hx hb dX11_howMany_52 rfl (lv_at hl 0 rfl) ?_
    refine va_get (D := G) (C := RX11) (T := TX11) (N := 11) (v := .ref ((hsA g 0) 0)) hx hb hts iu_X11 hown hK hP 0 rfl rfl 0 (by decide) (hts _ kw262) (fun _ h9 => h9) rfl dX11_howMany_53 ?_
    refine va_get (D := G) (C := RX1) (T := TX1) (N := 16) (v := .int (h0.1 1)) hx hb hts iu_X1 hown hK hP 5 rfl rfl 5 (by decide) (hts _ kw137) (fun _ h9 => h9) rfl dX11_howMany_56 ?_
    have e1 := Option.some.inj hf
    exact end_i (w' := (wl [lfX ct g xo, lfR ct (fun j => g (18 + j)) rv, lfH ct (hsA g 0) g h0, lfS ct (fun j => (hsA g 0) (12 + j)) nt0, lfS ct (fun j => (hsA g 0) (8 + j)) cv0, lfP ct (fun j => (hsA g 0) (16 + j)) ps0])) hx hb hr hlocks hK hP hD hS dX11_howMany_59  ⟨by rw [← e1], rfl⟩
  replace hf := bc_f hf c_2
  rcases Classical.em (v1 = 2) with c_3 | c_3
  · replace hf := bc_t hf c_3
    refine lv_tableIn (tgt := 60) hx hb dX11_howMany_1 (by rw [c_3]; decide) (by rw [c_3]; decide) (by rw [c_3]; rfl) (by decide) ?_
    refine lv_aload_n hx hb dX11_howMany_60 rfl (lv_at hl 0 rfl) ?_
    refine va_get (D := G) (C := RX11) (T := TX11) (N := 11) (v := .ref ((hsA g 0) 0)) hx hb hts iu_X11 hown hK hP 0 rfl rfl 0 (by decide) (hts _ kw262) (fun _ h9 => h9) rfl dX11_howMany_61 ?_
    refine va_get (D := G) (C := RX1) (T := TX1) (N := 16) (v := .int (h0.1 2)) hx hb hts iu_X1 hown hK hP 5 rfl rfl 10 (by decide) (hts _ kw150) (fun _ h9 => h9) rfl dX11_howMany_64 ?_
    have e1 := Option.some.inj hf
    exact end_i (w' := (wl [lfX ct g xo, lfR ct (fun j => g (18 + j)) rv, lfH ct (hsA g 0) g h0, lfS ct (fun j => (hsA g 0) (12 + j)) nt0, lfS ct (fun j => (hsA g 0) (8 + j)) cv0, lfP ct (fun j => (hsA g 0) (16 + j)) ps0])) hx hb hr hlocks hK hP hD hS dX11_howMany_67  ⟨by rw [← e1], rfl⟩
  replace hf := bc_f hf c_3
  rcases Classical.em (v1 = 3) with c_4 | c_4
  · replace hf := bc_t hf c_4
    refine lv_tableIn (tgt := 68) hx hb dX11_howMany_1 (by rw [c_4]; decide) (by rw [c_4]; decide) (by rw [c_4]; rfl) (by decide) ?_
    refine lv_aload_n hx hb dX11_howMany_68 rfl (lv_at hl 0 rfl) ?_
    refine va_get (D := G) (C := RX11) (T := TX11) (N := 11) (v := .ref ((hsA g 0) 0)) hx hb hts iu_X11 hown hK hP 0 rfl rfl 0 (by decide) (hts _ kw262) (fun _ h9 => h9) rfl dX11_howMany_69 ?_
    obtain ⟨r_5, hc5, hf⟩ := bd_e hf
    refine call_V (As := []) (rest := []) hx hb hml hown hts hK hP hD hS hA hZ lkX11_335 (Ctr.upL (c_X1_howManyLie l G ct sk sv (hsA g 0) g n h0 hc5) [lfX ct g xo, lfR ct (fun j => g (18 + j)) rv, lfS ct (fun j => (hsA g 0) (12 + j)) nt0, lfS ct (fun j => (hsA g 0) (8 + j)) cv0, lfP ct (fun j => (hsA g 0) (16 + j)) ps0] [lfX ct g xo, lfR ct (fun j => g (18 + j)) rv, lfH ct (hsA g 0) g h0, lfS ct (fun j => (hsA g 0) (12 + j)) nt0, lfS ct (fun j => (hsA g 0) (8 + j)) cv0, lfP ct (fun j => (hsA g 0) (16 + j)) ps0] [lfX ct g xo, lfR ct (fun j => g (18 + j)) rv, lfH ct (hsA g 0) g h0, lfS ct (fun j => (hsA g 0) (12 + j)) nt0, lfS ct (fun j => (hsA g 0) (8 + j)) cv0, lfP ct (fun j => (hsA g 0) (16 + j)) ps0] [2, 0, 1, 3, 4, 5] 6 (by decide) rfl rfl rfl rfl) 5 rfl rfl ⟨Nat.le_of_ble_eq_true rfl, Nat.le_of_ble_eq_true rfl⟩ rfl hl.1 rfl (Nat.le_of_ble_eq_true rfl) dX11_howMany_72 ⟨Nat.le_of_ble_eq_true rfl, Nat.le_of_ble_eq_true rfl⟩ (fun r9 w9 H locs hB hP hD hS => ?_)
    obtain ⟨rfl, rfl⟩ := hB
    refine WG_eq (g2 := F0 m 75 ls [.int r_5]) rfl ?_
    have e1 := Option.some.inj hf
    exact end_i (w' := (wl [lfX ct g xo, lfR ct (fun j => g (18 + j)) rv, lfH ct (hsA g 0) g h0, lfS ct (fun j => (hsA g 0) (12 + j)) nt0, lfS ct (fun j => (hsA g 0) (8 + j)) cv0, lfP ct (fun j => (hsA g 0) (16 + j)) ps0])) hx hb hr hlocks hK hP hD hS dX11_howMany_75  ⟨by rw [← e1], rfl⟩
  replace hf := bc_f hf c_4
  rcases Classical.em (v1 = 4) with c_6 | c_6
  · replace hf := bc_t hf c_6
    refine lv_tableIn (tgt := 76) hx hb dX11_howMany_1 (by rw [c_6]; decide) (by rw [c_6]; decide) (by rw [c_6]; rfl) (by decide) ?_
    refine lv_aload_n hx hb dX11_howMany_76 rfl (lv_at hl 0 rfl) ?_
    refine va_get (D := G) (C := RX11) (T := TX11) (N := 11) (v := .ref ((hsA g 0) 0)) hx hb hts iu_X11 hown hK hP 0 rfl rfl 0 (by decide) (hts _ kw262) (fun _ h9 => h9) rfl dX11_howMany_77 ?_
    refine va_get (D := G) (C := RX1) (T := TX1) (N := 16) (v := .ref ((hsA g 0) 8)) hx hb hts iu_X1 hown hK hP 5 rfl rfl 13 (by decide) (hts _ kw158) (fun _ h9 => h9) rfl dX11_howMany_80 ?_
    refine va_get (D := G) (C := RX8) (T := TX8) (N := 4) (v := .int (cv0.1 0)) hx hb hts iu_X8 hown hK hP 17 rfl rfl 0 (by decide) (hts _ kw87) (fun _ h9 => h9) rfl dX11_howMany_83 ?_
    have e1 := Option.some.inj hf
    exact end_i (w' := (wl [lfX ct g xo, lfR ct (fun j => g (18 + j)) rv, lfH ct (hsA g 0) g h0, lfS ct (fun j => (hsA g 0) (12 + j)) nt0, lfS ct (fun j => (hsA g 0) (8 + j)) cv0, lfP ct (fun j => (hsA g 0) (16 + j)) ps0])) hx hb hr hlocks hK hP hD hS dX11_howMany_86  ⟨by rw [← e1], rfl⟩
  replace hf := bc_f hf c_6
  rcases Classical.em (v1 = 5) with c_7 | c_7
  · replace hf := bc_t hf c_7
    refine lv_tableIn (tgt := 87) hx hb dX11_howMany_1 (by rw [c_7]; decide) (by rw [c_7]; decide) (by rw [c_7]; rfl) (by decide) ?_
    refine lv_aload_n hx hb dX11_howMany_87 rfl (lv_at hl 0 rfl) ?_
    refine va_get (D := G) (C := RX11) (T := TX11) (N := 11) (v := .ref ((hsA g 0) 0)) hx hb hts iu_X11 hown hK hP 0 rfl rfl 0 (by decide) (hts _ kw262) (fun _ h9 => h9) rfl dX11_howMany_88 ?_
    refine va_get (D := G) (C := RX1) (T := TX1) (N := 16) (v := .ref ((hsA g 0) 12)) hx hb hts iu_X1 hown hK hP 5 rfl rfl 14 (by decide) (hts _ kw160) (fun _ h9 => h9) rfl dX11_howMany_91 ?_
    refine va_get (D := G) (C := RX8) (T := TX8) (N := 4) (v := .int (nt0.1 0)) hx hb hts iu_X8 hown hK hP 13 rfl rfl 0 (by decide) (hts _ kw87) (fun _ h9 => h9) rfl dX11_howMany_94 ?_
    have e1 := Option.some.inj hf
    exact end_i (w' := (wl [lfX ct g xo, lfR ct (fun j => g (18 + j)) rv, lfH ct (hsA g 0) g h0, lfS ct (fun j => (hsA g 0) (12 + j)) nt0, lfS ct (fun j => (hsA g 0) (8 + j)) cv0, lfP ct (fun j => (hsA g 0) (16 + j)) ps0])) hx hb hr hlocks hK hP hD hS dX11_howMany_97  ⟨by rw [← e1], rfl⟩
  replace hf := bc_f hf c_7
  rcases Classical.em (v1 = 6) with c_8 | c_8
  · replace hf := bc_t hf c_8
    refine lv_tableIn (tgt := 98) hx hb dX11_howMany_1 (by rw [c_8]; decide) (by rw [c_8]; decide) (by rw [c_8]; rfl) (by decide) ?_
    refine lv_aload_n hx hb dX11_howMany_98 rfl (lv_at hl 0 rfl) ?_
    refine va_get (D := G) (C := RX11) (T := TX11) (N := 11) (v := .ref ((hsA g 0) 0)) hx hb hts iu_X11 hown hK hP 0 rfl rfl 0 (by decide) (hts _ kw262) (fun _ h9 => h9) rfl dX11_howMany_99 ?_
    refine va_get (D := G) (C := RX1) (T := TX1) (N := 16) (v := .ref ((hsA g 0) 16)) hx hb hts iu_X1 hown hK hP 5 rfl rfl 15 (by decide) (hts _ kw162) (fun _ h9 => h9) rfl dX11_howMany_102 ?_
    refine va_get (D := G) (C := RX4) (T := TX4) (N := 3) (v := .int (ps0.1 1)) hx hb hts iu_X4 hown hK hP 21 rfl rfl 2 (by decide) (hts _ kw113) (fun _ h9 => h9) rfl dX11_howMany_105 ?_
    have e1 := Option.some.inj hf
    exact end_i (w' := (wl [lfX ct g xo, lfR ct (fun j => g (18 + j)) rv, lfH ct (hsA g 0) g h0, lfS ct (fun j => (hsA g 0) (12 + j)) nt0, lfS ct (fun j => (hsA g 0) (8 + j)) cv0, lfP ct (fun j => (hsA g 0) (16 + j)) ps0])) hx hb hr hlocks hK hP hD hS dX11_howMany_108  ⟨by rw [← e1], rfl⟩
  replace hf := bc_f hf c_8
  have tc_1 := lv_neT (a := 0) c_1 (by decide)
  have tc_2 := lv_neT (a := 1) c_2 (by decide)
  have tc_3 := lv_neT (a := 2) c_3 (by decide)
  have tc_4 := lv_neT (a := 3) c_4 (by decide)
  have tc_6 := lv_neT (a := 4) c_6 (by decide)
  have tc_7 := lv_neT (a := 5) c_7 (by decide)
  have tc_8 := lv_neT (a := 6) c_8 (by decide)
  refine lv_tableOut (tgt := 109) hx hb dX11_howMany_1 (by omega) (by decide) ?_
  refine lv_aload_n hx hb dX11_howMany_109 rfl (lv_at hl 0 rfl) ?_
  refine va_get (D := G) (C := RX11) (T := TX11) (N := 11) (v := .ref (g 18)) hx hb hts iu_X11 hown hK hP 0 rfl rfl 5 (by decide) (hts _ kw267) (fun _ h9 => h9) rfl dX11_howMany_110 ?_
  refine va_get (D := G) (C := RX6) (T := TX6) (N := 6) (v := .int (rv.1 0)) hx hb hts iu_X6 hown hK hP 3 rfl rfl 1 (by decide) (hts _ kw242) (fun _ h9 => h9) rfl dX11_howMany_113 ?_
  have e1 := Option.some.inj hf
  exact end_i (w' := (wl [lfX ct g xo, lfR ct (fun j => g (18 + j)) rv, lfH ct (hsA g 0) g h0, lfS ct (fun j => (hsA g 0) (12 + j)) nt0, lfS ct (fun j => (hsA g 0) (8 + j)) cv0, lfP ct (fun j => (hsA g 0) (16 + j)) ps0])) hx hb hr hlocks hK hP hD hS dX11_howMany_116  ⟨by rw [← e1], rfl⟩
noncomputable def f_X11_refuseBad (n : Nat) (xo : MV) : Option (Int32 × MV) :=
  bl (setS xo 0 ((xo.1 0) + 1)) fun xo_1 =>
  some ((-2), xo_1)
set_option maxHeartbeats 4000000 in
set_option maxRecDepth 100000 in
theorem c_X11_refuseBad (l : Launch) (G : va_G) (ct : Nat → ClassId) (sk sv : Nat → Nat) (g : Nat → Nat) (n : Nat) (xo : MV) {r : Int32} {xo' : MV} (hf : f_X11_refuseBad n xo = some (r, xo')) : Ctr (l, G, ct, sk, sv) mX11_refuseBad 0 0 [.ref (g 7)] (wl [lfX ct g xo]) (wl [lfX ct g xo']) (some (.int r)) := by
  refine ctr_intro (by decide) (Nat.le_of_ble_eq_true rfl) ?_
  intro p e s m args below meth c A C hP hD hS hA ls hl
  obtain ⟨hx, hb, hml, hown, hts, hr, hlocks, hK, hnm, hZ⟩ := C
  have hb : c.code = cX11_refuseBad := hb
  have hml : c.maxLocals = 1 := hml
  have hown : s.vm.findClass "SignedOutside" = some m.cls := hown
  have hr : meth.sig.returnType = some .int := hr
  have hP : va_P G classes (wl [lfX ct g xo]) s.heap := hP
  have hD : va_D A (wl [lfX ct g xo]) := hD
  have hK : va_K G classes (TYS ct) s := hK
  have hl : lv_has ls 1 [(0, .ref (g 7))] := hl
  unfold f_X11_refuseBad at hf
  show WG l G ct sk sv p e (RM 0 0 0 0) s m args below meth c A (Eq2 (some (.int r)) (wl [lfX ct g xo'])) s.heap [] (F0 m 0 ls [])
  refine lv_aload_n hx hb dX11_refuseBad_0 rfl (lv_at hl 0 rfl) ?_
  refine lv_dup hx hb dX11_refuseBad_1 rfl ?_
  refine va_get (D := G) (C := RX11) (T := TX11) (N := 11) (v := .int (xo.1 0)) hx hb hts iu_X11 hown hK hP 0 rfl rfl 8 (by decide) (hts _ kw270) (fun _ h9 => h9) rfl dX11_refuseBad_2 ?_
  refine lv_iconst (v := 1) hx hb dX11_refuseBad_5 (by decide) ?_
  refine lv_iadd hx hb dX11_refuseBad_6 ?_
  obtain ⟨xo_1, exo_1, hf⟩ := bl_e hf
  refine va_put (D := G) (C := RX11) (T := TX11) (N := 11) (ty := .int) hx hb hts iu_X11 tyX11 tyX11_ok nmX11 hown hK hP hD hS 0 rfl rfl 8 (by decide) (hts _ kw270) (fun _ h9 => h9) rfl (by decide +kernel) rfl rfl (Nat.le_of_ble_eq_true rfl) dX11_refuseBad_7 (fun H locs hP hD hS => ?_)
  have hP : va_P G classes (wl [lfX ct g xo_1]) H := by rw [← exo_1]; exact hP
  have hD : va_D A (wl [lfX ct g xo_1]) := by rw [← exo_1]; exact hD
  refine lv_bipush (v := (-2)) hx hb dX11_refuseBad_10 (by decide) ?_
  obtain ⟨e1, e2⟩ := inj2 (Option.some.inj hf)
  exact end_i (w' := (wl [lfX ct g xo_1])) hx hb hr hlocks hK hP hD hS dX11_refuseBad_12  ⟨by rw [← e1], by rw [← e2]⟩
noncomputable def f_X11_count (n : Nat) (xo : MV) (rv : MV) (h0 : MV) (nt0 : MV) (cv0 : MV) (ps0 : MV) (v1 : Int32) : Option (Int32 × MV) :=
  bd (f_X11_within n v1 0 7) fun r_1 =>
  bc (r_1 = 0) (bd2 (f_X11_refuseBad n xo) fun r_4 xo_5 =>
  some (r_4, xo_5))
  (bd (f_X11_howMany n xo rv h0 nt0 cv0 ps0 v1) fun r_3 =>
  some (r_3, xo))
set_option maxHeartbeats 4000000 in
set_option maxRecDepth 100000 in
theorem c_X11_count (l : Launch) (G : va_G) (ct : Nat → ClassId) (sk sv : Nat → Nat) (g : Nat → Nat) (n : Nat) (xo : MV) (rv : MV) (h0 : MV) (nt0 : MV) (cv0 : MV) (ps0 : MV) (v1 : Int32) {r : Int32} {xo' : MV} (hf : f_X11_count n xo rv h0 nt0 cv0 ps0 v1 = some (r, xo')) : Ctr (l, G, ct, sk, sv) mX11_count 3 64 [.ref (g 7), .int v1] (wl [lfX ct g xo, lfR ct (fun j => g (18 + j)) rv, lfH ct (hsA g 0) g h0, lfS ct (fun j => (hsA g 0) (12 + j)) nt0, lfS ct (fun j => (hsA g 0) (8 + j)) cv0, lfP ct (fun j => (hsA g 0) (16 + j)) ps0]) (wl [lfX ct g xo', lfR ct (fun j => g (18 + j)) rv, lfH ct (hsA g 0) g h0, lfS ct (fun j => (hsA g 0) (12 + j)) nt0, lfS ct (fun j => (hsA g 0) (8 + j)) cv0, lfP ct (fun j => (hsA g 0) (16 + j)) ps0]) (some (.int r)) := by
  refine ctr_intro (by decide) (Nat.le_of_ble_eq_true rfl) ?_
  intro p e s m args below meth c A C hP hD hS hA ls hl
  obtain ⟨hx, hb, hml, hown, hts, hr, hlocks, hK, hnm, hZ⟩ := C
  have hb : c.code = cX11_count := hb
  have hml : c.maxLocals = 2 := hml
  have hown : s.vm.findClass "SignedOutside" = some m.cls := hown
  have hr : meth.sig.returnType = some .int := hr
  have hP : va_P G classes (wl [lfX ct g xo, lfR ct (fun j => g (18 + j)) rv, lfH ct (hsA g 0) g h0, lfS ct (fun j => (hsA g 0) (12 + j)) nt0, lfS ct (fun j => (hsA g 0) (8 + j)) cv0, lfP ct (fun j => (hsA g 0) (16 + j)) ps0]) s.heap := hP
  have hD : va_D A (wl [lfX ct g xo, lfR ct (fun j => g (18 + j)) rv, lfH ct (hsA g 0) g h0, lfS ct (fun j => (hsA g 0) (12 + j)) nt0, lfS ct (fun j => (hsA g 0) (8 + j)) cv0, lfP ct (fun j => (hsA g 0) (16 + j)) ps0]) := hD
  have hK : va_K G classes (TYS ct) s := hK
  have hl : lv_has ls 2 [(0, .ref (g 7)), (1, .int v1)] := hl
  unfold f_X11_count at hf
  show WG l G ct sk sv p e (RM 3 64 0 0) s m args below meth c A (Eq2 (some (.int r)) (wl [lfX ct g xo', lfR ct (fun j => g (18 + j)) rv, lfH ct (hsA g 0) g h0, lfS ct (fun j => (hsA g 0) (12 + j)) nt0, lfS ct (fun j => (hsA g 0) (8 + j)) cv0, lfP ct (fun j => (hsA g 0) (16 + j)) ps0])) s.heap [] (F0 m 0 ls [])
  refine lv_iload_n hx hb dX11_count_0 rfl (lv_at hl 1 rfl) ?_
  refine lv_iconst (v := 0) hx hb dX11_count_1 (by decide) ?_
  refine lv_bipush (v := 7) hx hb dX11_count_2 (by decide) ?_
  obtain ⟨r_1, hc1, hf⟩ := bd_e hf
  refine call_S (As := [.int v1, .int 0, .int 7]) (rest := []) hx hb hml hown hts hK hP hD hS hA hZ lkX11_75 (Ctr.upL (c_X11_within l G ct sk sv  n v1 0 7 hc1) [lfX ct g xo, lfR ct (fun j => g (18 + j)) rv, lfH ct (hsA g 0) g h0, lfS ct (fun j => (hsA g 0) (12 + j)) nt0, lfS ct (fun j => (hsA g 0) (8 + j)) cv0, lfP ct (fun j => (hsA g 0) (16 + j)) ps0] [lfX ct g xo, lfR ct (fun j => g (18 + j)) rv, lfH ct (hsA g 0) g h0, lfS ct (fun j => (hsA g 0) (12 + j)) nt0, lfS ct (fun j => (hsA g 0) (8 + j)) cv0, lfP ct (fun j => (hsA g 0) (16 + j)) ps0] [lfX ct g xo, lfR ct (fun j => g (18 + j)) rv, lfH ct (hsA g 0) g h0, lfS ct (fun j => (hsA g 0) (12 + j)) nt0, lfS ct (fun j => (hsA g 0) (8 + j)) cv0, lfP ct (fun j => (hsA g 0) (16 + j)) ps0] [0, 1, 2, 3, 4, 5] 6 (by decide) rfl rfl rfl rfl) ⟨Nat.le_of_ble_eq_true rfl, Nat.le_of_ble_eq_true rfl⟩ rfl hl.1 rfl (Nat.le_of_ble_eq_true rfl) dX11_count_4 ⟨Nat.le_of_ble_eq_true rfl, Nat.le_of_ble_eq_true rfl⟩ (fun r9 w9 H locs hB hP hD hS => ?_)
  obtain ⟨rfl, rfl⟩ := hB
  refine WG_eq (g2 := F0 m 7 ls [.int r_1]) rfl ?_
  refine lv_if_ne (tgt := 15) hx hb dX11_count_7 (by decide) (fun c_2 => ?_) (fun c_2 => ?_)
  · replace hf := bc_f hf c_2
    refine lv_aload_n hx hb dX11_count_15 rfl (lv_at hl 0 rfl) ?_
    refine lv_iload_n hx hb dX11_count_16 rfl (lv_at hl 1 rfl) ?_
    obtain ⟨r_3, hc3, hf⟩ := bd_e hf
    refine call_V (As := [.int v1]) (rest := []) hx hb hml hown hts hK hP hD hS hA hZ lkX11_322 (c_X11_howMany l G ct sk sv g n xo rv h0 nt0 cv0 ps0 v1 hc3) 0 rfl rfl ⟨Nat.le_of_ble_eq_true rfl, Nat.le_of_ble_eq_true rfl⟩ rfl hl.1 rfl (Nat.le_of_ble_eq_true rfl) dX11_count_17 ⟨Nat.le_of_ble_eq_true rfl, Nat.le_of_ble_eq_true rfl⟩ (fun r9 w9 H locs hB hP hD hS => ?_)
    obtain ⟨rfl, rfl⟩ := hB
    refine WG_eq (g2 := F0 m 20 ls [.int r_3]) rfl ?_
    obtain ⟨e1, e2⟩ := inj2 (Option.some.inj hf)
    exact end_i (w' := (wl [lfX ct g xo, lfR ct (fun j => g (18 + j)) rv, lfH ct (hsA g 0) g h0, lfS ct (fun j => (hsA g 0) (12 + j)) nt0, lfS ct (fun j => (hsA g 0) (8 + j)) cv0, lfP ct (fun j => (hsA g 0) (16 + j)) ps0])) hx hb hr hlocks hK hP hD hS dX11_count_20  ⟨by rw [← e1], by rw [← e2]⟩
  · replace hf := bc_t hf c_2
    refine lv_aload_n hx hb dX11_count_10 rfl (lv_at hl 0 rfl) ?_
    obtain ⟨r_4, xo_5, hc5, hf⟩ := bd2_e hf
    refine call_V (As := []) (rest := []) hx hb hml hown hts hK hP hD hS hA hZ lkX11_83 (Ctr.upL (c_X11_refuseBad l G ct sk sv g n xo hc5) [lfR ct (fun j => g (18 + j)) rv, lfH ct (hsA g 0) g h0, lfS ct (fun j => (hsA g 0) (12 + j)) nt0, lfS ct (fun j => (hsA g 0) (8 + j)) cv0, lfP ct (fun j => (hsA g 0) (16 + j)) ps0] [lfX ct g xo, lfR ct (fun j => g (18 + j)) rv, lfH ct (hsA g 0) g h0, lfS ct (fun j => (hsA g 0) (12 + j)) nt0, lfS ct (fun j => (hsA g 0) (8 + j)) cv0, lfP ct (fun j => (hsA g 0) (16 + j)) ps0] [lfX ct g xo_5, lfR ct (fun j => g (18 + j)) rv, lfH ct (hsA g 0) g h0, lfS ct (fun j => (hsA g 0) (12 + j)) nt0, lfS ct (fun j => (hsA g 0) (8 + j)) cv0, lfP ct (fun j => (hsA g 0) (16 + j)) ps0] [0, 1, 2, 3, 4, 5] 6 (by decide) rfl rfl rfl rfl) 0 rfl rfl ⟨Nat.le_of_ble_eq_true rfl, Nat.le_of_ble_eq_true rfl⟩ rfl hl.1 rfl (Nat.le_of_ble_eq_true rfl) dX11_count_11 ⟨Nat.le_of_ble_eq_true rfl, Nat.le_of_ble_eq_true rfl⟩ (fun r9 w9 H locs hB hP hD hS => ?_)
    obtain ⟨rfl, rfl⟩ := hB
    refine WG_eq (g2 := F0 m 14 ls [.int r_4]) rfl ?_
    obtain ⟨e1, e2⟩ := inj2 (Option.some.inj hf)
    exact end_i (w' := (wl [lfX ct g xo_5, lfR ct (fun j => g (18 + j)) rv, lfH ct (hsA g 0) g h0, lfS ct (fun j => (hsA g 0) (12 + j)) nt0, lfS ct (fun j => (hsA g 0) (8 + j)) cv0, lfP ct (fun j => (hsA g 0) (16 + j)) ps0])) hx hb hr hlocks hK hP hD hS dX11_count_14  ⟨by rw [← e1], by rw [← e2]⟩
noncomputable def f_X11_isMember (n : Nat) (xo : MV) (h0 : MV) (v1 : Int32) : Option (Int32) :=
  bd (f_X11_within n v1 0 ((h0.1 0) - 1)) fun r_1 =>
  gd (r_1 = 0 ∨ r_1 = 1) <| some r_1
set_option maxHeartbeats 4000000 in
set_option maxRecDepth 100000 in
theorem c_X11_isMember (l : Launch) (G : va_G) (ct : Nat → ClassId) (sk sv : Nat → Nat) (g : Nat → Nat) (n : Nat) (xo : MV) (h0 : MV) (v1 : Int32) {r : Int32} (hf : f_X11_isMember n xo h0 v1 = some r) : Ctr (l, G, ct, sk, sv) mX11_isMember 1 22 [.ref (g 7), .int v1] (wl [lfX ct g xo, lfH ct (hsA g 0) g h0]) (wl [lfX ct g xo, lfH ct (hsA g 0) g h0]) (some (.int r)) := by
  refine ctr_intro (by decide) (Nat.le_of_ble_eq_true rfl) ?_
  intro p e s m args below meth c A C hP hD hS hA ls hl
  obtain ⟨hx, hb, hml, hown, hts, hr, hlocks, hK, hnm, hZ⟩ := C
  have hb : c.code = cX11_isMember := hb
  have hml : c.maxLocals = 2 := hml
  have hown : s.vm.findClass "SignedOutside" = some m.cls := hown
  have hr : meth.sig.returnType = some .boolean := hr
  have hP : va_P G classes (wl [lfX ct g xo, lfH ct (hsA g 0) g h0]) s.heap := hP
  have hD : va_D A (wl [lfX ct g xo, lfH ct (hsA g 0) g h0]) := hD
  have hK : va_K G classes (TYS ct) s := hK
  have hl : lv_has ls 2 [(0, .ref (g 7)), (1, .int v1)] := hl
  unfold f_X11_isMember at hf
  show WG l G ct sk sv p e (RM 1 22 0 0) s m args below meth c A (Eq2 (some (.int r)) (wl [lfX ct g xo, lfH ct (hsA g 0) g h0])) s.heap [] (F0 m 0 ls [])
  refine lv_iload_n hx hb dX11_isMember_0 rfl (lv_at hl 1 rfl) ?_
  refine lv_iconst (v := 0) hx hb dX11_isMember_1 (by decide) ?_
  refine lv_aload_n hx hb dX11_isMember_2 rfl (lv_at hl 0 rfl) ?_
  refine va_get (D := G) (C := RX11) (T := TX11) (N := 11) (v := .ref ((hsA g 0) 0)) hx hb hts iu_X11 hown hK hP 0 rfl rfl 0 (by decide) (hts _ kw262) (fun _ h9 => h9) rfl dX11_isMember_3 ?_
  refine va_get (D := G) (C := RX1) (T := TX1) (N := 16) (v := .int (h0.1 0)) hx hb hts iu_X1 hown hK hP 3 rfl rfl 1 (by decide) (hts _ kw124) (fun _ h9 => h9) rfl dX11_isMember_6 ?_
  refine lv_iconst (v := 1) hx hb dX11_isMember_9 (by decide) ?_
  refine lv_isub hx hb dX11_isMember_10 ?_
  obtain ⟨r_1, hc1, hf⟩ := bd_e hf
  refine call_S (As := [.int v1, .int 0, .int ((h0.1 0) - 1)]) (rest := []) hx hb hml hown hts hK hP hD hS hA hZ lkX11_75 (Ctr.upL (c_X11_within l G ct sk sv  n v1 0 ((h0.1 0) - 1) hc1) [lfX ct g xo, lfH ct (hsA g 0) g h0] [lfX ct g xo, lfH ct (hsA g 0) g h0] [lfX ct g xo, lfH ct (hsA g 0) g h0] [0, 1] 2 (by decide) rfl rfl rfl rfl) ⟨Nat.le_of_ble_eq_true rfl, Nat.le_of_ble_eq_true rfl⟩ rfl hl.1 rfl (Nat.le_of_ble_eq_true rfl) dX11_isMember_11 ⟨Nat.le_of_ble_eq_true rfl, Nat.le_of_ble_eq_true rfl⟩ (fun r9 w9 H locs hB hP hD hS => ?_)
  obtain ⟨rfl, rfl⟩ := hB
  refine WG_eq (g2 := F0 m 14 ls [.int r_1]) rfl ?_
  obtain ⟨g_2, hf⟩ := gd_e hf
  have e1 := Option.some.inj hf
  exact end_z (w' := (wl [lfX ct g xo, lfH ct (hsA g 0) g h0])) hx hb hr hlocks hK hP hD hS dX11_isMember_14 g_2 ⟨by rw [← e1], rfl⟩
