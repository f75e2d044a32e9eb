noncomputable def f_X11_setFraction_j30 (n : Nat) (xo : MV) : Option (MV) :=
  some xo
noncomputable def f_X11_setFraction (n : Nat) (xo : MV) (v1 : Int64) (v3 : Int64) : Option (MV) :=
  bd (f_X11_commonDivisor n v1 v3) fun r_1 =>
  bc ((lg_cmp r_1 0) ≤ 0) (f_X11_setFraction_j30 n xo)
  (gd (¬ r_1 = 0) <|
  bl (setL xo 0 (v1 / r_1)) fun xo_4 =>
  gd (¬ r_1 = 0) <|
  bl (setL xo_4 1 (v3 / r_1)) fun xo_6 =>
  f_X11_setFraction_j30 n xo_6)
set_option maxHeartbeats 4000000 in
set_option maxRecDepth 100000 in
theorem c_X11_setFraction (l : Launch) (G : va_G) (ct : Nat → ClassId) (sk sv : Nat → Nat) (g : Nat → Nat) (n : Nat) (xo : MV) (v1 : Int64) (v3 : Int64) {xo' : MV} (hf : f_X11_setFraction n xo v1 v3 = some xo') : Ctr (l, G, ct, sk, sv) mX11_setFraction 1 30 [.ref (g 7), .long v1, .long v3] (wl [lfX ct g xo]) (wl [lfX ct g xo']) (none) := by
  refine ctr_intro (by decide) (Nat.le_of_ble_eq_true rfl) ?_
  intro p e s m args below meth c A C hP hD hS hA ls hl
  obtain ⟨hx, hb, hml, hown, hts, hr, hlocks, hK, hnm, hZ⟩ := C
  have hb : c.code = cX11_setFraction := hb
  have hml : c.maxLocals = 7 := hml
  have hown : s.vm.findClass "SignedOutside" = some m.cls := hown
  have hr : meth.sig.returnType = none := hr
  have hP : va_P G classes (wl [lfX ct g xo]) s.heap := hP
  have hD : va_D A (wl [lfX ct g xo]) := hD
  have hK : va_K G classes (TYS ct) s := hK
  have hl : lv_has ls 7 [(0, .ref (g 7)), (1, .long v1), (3, .long v3)] := hl
  have J30 : ∀ (xo : MV) (H : Heap) (locs : List Loc) (ls : Array Slot), va_P G classes (wl [lfX ct g xo]) H → va_D A (wl [lfX ct g xo]) → va_S A s.heap H locs → lv_has ls 7 [] → f_X11_setFraction_j30 n xo = some xo' → WG l G ct sk sv p e (RM 1 30 0 0) s m args below meth c A (Eq2 (none) (wl [lfX ct g xo'])) H locs (F0 m 30 ls []) := by
    intro xo H locs ls hP hD hS hl hf
    unfold f_X11_setFraction_j30 at hf
    have e1 := Option.some.inj hf
    exact end_v (w' := (wl [lfX ct g xo])) hx hb hr hlocks hK hP hD hS dX11_setFraction_30  ⟨rfl, by rw [← e1]⟩
  unfold f_X11_setFraction at hf
  show WG l G ct sk sv p e (RM 1 30 0 0) s m args below meth c A (Eq2 (none) (wl [lfX ct g xo'])) s.heap [] (F0 m 0 ls [])
  refine lv_lload_n hx hb dX11_setFraction_0 rfl (lv_at hl 1 rfl) ?_
  refine lv_lload_n hx hb dX11_setFraction_1 rfl (lv_at hl 2 rfl) ?_
  obtain ⟨r_1, hc1, hf⟩ := bd_e hf
  refine call_S (As := [.long v1, .long v3]) (rest := []) hx hb hml hown hts hK hP hD hS hA hZ lkX11_356 (Ctr.upL (c_X11_commonDivisor l G ct sk sv  n v1 v3 hc1) [lfX ct g xo] [lfX ct g xo] [lfX ct g xo] [0] 1 (by decide) rfl rfl rfl rfl) ⟨Nat.le_of_ble_eq_true rfl, Nat.le_of_ble_eq_true rfl⟩ rfl hl.1 rfl (Nat.le_of_ble_eq_true rfl) dX11_setFraction_2 ⟨Nat.le_of_ble_eq_true rfl, Nat.le_of_ble_eq_true rfl⟩ (fun r9 w9 H locs hB hP hD hS => ?_)
  obtain ⟨rfl, rfl⟩ := hB
  refine WG_eq (g2 := F0 m 5 ls [.long r_1]) rfl ?_
  refine lv_lstore (lv' := [(5, .long r_1), (0, .ref (g 7)), (1, .long v1), (3, .long v3)]) hx hb dX11_setFraction_5 hl (by decide) rfl (fun ls hl => ?_)
  refine lv_lload hx hb dX11_setFraction_7 (lv_at hl 0 rfl) ?_
  refine lv_lconst (v := 0) hx hb dX11_setFraction_9 (by decide) ?_
  refine W.lcmp hx hb dX11_setFraction_10 ?_
  refine lv_if_le (tgt := 30) hx hb dX11_setFraction_11 (by decide) (fun c_2 => ?_) (fun c_2 => ?_)
  · replace hf := bc_t hf c_2
    exact J30 xo _ _ _ hP hD hS (lv_sub hl [] rfl) hf
  · replace hf := bc_f hf c_2
    refine lv_aload_n hx hb dX11_setFraction_14 rfl (lv_at hl 1 rfl) ?_
    refine lv_lload_n hx hb dX11_setFraction_15 rfl (lv_at hl 2 rfl) ?_
    refine lv_lload hx hb dX11_setFraction_16 (lv_at hl 0 rfl) ?_
    obtain ⟨g_3, hf⟩ := gd_e hf
    refine lv_ldiv hx hb dX11_setFraction_18 g_3 ?_
    obtain ⟨xo_4, exo_4, hf⟩ := bl_e hf
    refine va_put (D := G) (C := RX11) (T := TX11) (N := 11) (ty := .long) hx hb hts iu_X11 tyX11 tyX11_ok nmX11 hown hK hP hD hS 0 rfl rfl 6 (by decide) (hts _ kw268) (fun _ h9 => h9) rfl (by decide +kernel) rfl rfl (Nat.le_of_ble_eq_true rfl) dX11_setFraction_19 (fun H locs hP hD hS => ?_)
    have hP : va_P G classes (wl [lfX ct g xo_4]) H := by rw [← exo_4]; exact hP
    have hD : va_D A (wl [lfX ct g xo_4]) := by rw [← exo_4]; exact hD
    refine lv_aload_n hx hb dX11_setFraction_22 rfl (lv_at hl 1 rfl) ?_
    refine lv_lload_n hx hb dX11_setFraction_23 rfl (lv_at hl 3 rfl) ?_
    refine lv_lload hx hb dX11_setFraction_24 (lv_at hl 0 rfl) ?_
    obtain ⟨g_5, hf⟩ := gd_e hf
    refine lv_ldiv hx hb dX11_setFraction_26 g_5 ?_
    obtain ⟨xo_6, exo_6, hf⟩ := bl_e hf
    refine va_put (D := G) (C := RX11) (T := TX11) (N := 11) (ty := .long) hx hb hts iu_X11 tyX11 tyX11_ok nmX11 hown hK hP hD hS 0 rfl rfl 7 (by decide) (hts _ kw269) (fun _ h9 => h9) rfl (by decide +kernel) rfl rfl (Nat.le_of_ble_eq_true rfl) dX11_setFraction_27 (fun H locs hP hD hS => ?_)
    have hP : va_P G classes (wl [lfX ct g xo_6]) H := by rw [← exo_6]; exact hP
    have hD : va_D A (wl [lfX ct g xo_6]) := by rw [← exo_6]; exact hD
    exact J30 xo_6 _ _ _ hP hD hS (lv_sub hl [] rfl) hf
noncomputable def f_X11_found (n : Nat) (xo : MV) (h0 : MV) (v1 : Int32) : Option (Int32 × MV) :=
  bd (f_X11_within n v1 0 10) fun r_1 =>
  bc (r_1 = 0) (bd2 (f_X11_refuseBad n xo) fun r_5 xo_6 =>
  some (r_5, xo_6))
  (bd (f_X1_postageFranked n h0) fun r_3 =>
  bd (f_X11_setFraction n xo (((v1 : Int32).toInt64) * ((r_3 : Int32).toInt64)) 10) fun xo_4 =>
  some (1, xo_4))
set_option maxHeartbeats 4000000 in
set_option maxRecDepth 100000 in
theorem c_X11_found (l : Launch) (G : va_G) (ct : Nat → ClassId) (sk sv : Nat → Nat) (g : Nat → Nat) (n : Nat) (xo : MV) (h0 : MV) (v1 : Int32) {r : Int32} {xo' : MV} (hf : f_X11_found n xo h0 v1 = some (r, xo')) : Ctr (l, G, ct, sk, sv) mX11_found 3 107 [.ref (g 7), .int v1] (wl [lfX ct g xo, lfH ct (hsA g 0) g h0]) (wl [lfX ct g xo', lfH ct (hsA g 0) g h0]) (some (.int r)) := by
  refine ctr_intro (by decide) (Nat.le_of_ble_eq_true rfl) ?_
  intro p e s m args below meth c A C hP hD hS hA ls hl
  obtain ⟨hx, hb, hml, hown, hts, hr, hlocks, hK, hnm, hZ⟩ := C
  have hb : c.code = cX11_found := hb
  have hml : c.maxLocals = 2 := hml
  have hown : s.vm.findClass "SignedOutside" = some m.cls := hown
  have hr : meth.sig.returnType = some .int := hr
  have hP : va_P G classes (wl [lfX ct g xo, lfH ct (hsA g 0) g h0]) s.heap := hP
  have hD : va_D A (wl [lfX ct g xo, lfH ct (hsA g 0) g h0]) := hD
  have hK : va_K G classes (TYS ct) s := hK
  have hl : lv_has ls 2 [(0, .ref (g 7)), (1, .int v1)] := hl
  unfold f_X11_found at hf
  show WG l G ct sk sv p e (RM 3 107 0 0) s m args below meth c A (Eq2 (some (.int r)) (wl [lfX ct g xo', lfH ct (hsA g 0) g h0])) s.heap [] (F0 m 0 ls [])
  refine lv_iload_n hx hb dX11_found_0 rfl (lv_at hl 1 rfl) ?_
  refine lv_iconst (v := 0) hx hb dX11_found_1 (by decide) ?_
  refine lv_bipush (v := 10) hx hb dX11_found_2 (by decide) ?_
  obtain ⟨r_1, hc1, hf⟩ := bd_e hf
  refine call_S (As := [.int v1, .int 0, .int 10]) (rest := []) hx hb hml hown hts hK hP hD hS hA hZ lkX11_75 (Ctr.upL (c_X11_within l G ct sk sv  n v1 0 10 hc1) [lfX ct g xo, lfH ct (hsA g 0) g h0] [lfX ct g xo, lfH ct (hsA g 0) g h0] [lfX ct g xo, lfH ct (hsA g 0) g h0] [0, 1] 2 (by decide) rfl rfl rfl rfl) ⟨Nat.le_of_ble_eq_true rfl, Nat.le_of_ble_eq_true rfl⟩ rfl hl.1 rfl (Nat.le_of_ble_eq_true rfl) dX11_found_4 ⟨Nat.le_of_ble_eq_true rfl, Nat.le_of_ble_eq_true rfl⟩ (fun r9 w9 H locs hB hP hD hS => ?_)
  obtain ⟨rfl, rfl⟩ := hB
  refine WG_eq (g2 := F0 m 7 ls [.int r_1]) rfl ?_
  refine lv_if_ne (tgt := 15) hx hb dX11_found_7 (by decide) (fun c_2 => ?_) (fun c_2 => ?_)
  · replace hf := bc_f hf c_2
    refine lv_aload_n hx hb dX11_found_15 rfl (lv_at hl 0 rfl) ?_
    refine lv_iload_n hx hb dX11_found_16 rfl (lv_at hl 1 rfl) ?_
    refine lv_i2l (v := (v1 : Int32).toInt64) hx hb dX11_found_17 rfl ?_
    refine lv_aload_n hx hb dX11_found_18 rfl (lv_at hl 0 rfl) ?_
    refine va_get (D := G) (C := RX11) (T := TX11) (N := 11) (v := .ref ((hsA g 0) 0)) hx hb hts iu_X11 hown hK hP 0 rfl rfl 0 (by decide) (hts _ kw262) (fun _ h9 => h9) rfl dX11_found_19 ?_
    obtain ⟨r_3, hc3, hf⟩ := bd_e hf
    refine call_V (As := []) (rest := [.long ((v1 : Int32).toInt64), .ref (g 7)]) hx hb hml hown hts hK hP hD hS hA hZ lkX11_293 (Ctr.upL (c_X1_postageFranked l G ct sk sv (hsA g 0) g n h0 hc3) [lfX ct g xo] [lfX ct g xo, lfH ct (hsA g 0) g h0] [lfX ct g xo, lfH ct (hsA g 0) g h0] [1, 0] 2 (by decide) rfl rfl rfl rfl) 3 rfl rfl ⟨Nat.le_of_ble_eq_true rfl, Nat.le_of_ble_eq_true rfl⟩ rfl hl.1 rfl (Nat.le_of_ble_eq_true rfl) dX11_found_22 ⟨Nat.le_of_ble_eq_true rfl, Nat.le_of_ble_eq_true rfl⟩ (fun r9 w9 H locs hB hP hD hS => ?_)
    obtain ⟨rfl, rfl⟩ := hB
    refine WG_eq (g2 := F0 m 25 ls [.int r_3, .long ((v1 : Int32).toInt64), .ref (g 7)]) rfl ?_
    refine lv_i2l (v := (r_3 : Int32).toInt64) hx hb dX11_found_25 rfl ?_
    refine lv_lmul hx hb dX11_found_26 ?_
    refine lv_ldc2 (v := 10) hx hb hown (hts _ kw821) dX11_found_27 ?_
    obtain ⟨xo_4, hc4, hf⟩ := bd_e hf
    refine call_V (As := [.long (((v1 : Int32).toInt64) * ((r_3 : Int32).toInt64)), .long 10]) (rest := []) hx hb hml hown hts hK hP hD hS hA hZ lkX11_243 (Ctr.upL (c_X11_setFraction l G ct sk sv g n xo (((v1 : Int32).toInt64) * ((r_3 : Int32).toInt64)) 10 hc4) [lfH ct (hsA g 0) g h0] [lfX ct g xo, lfH ct (hsA g 0) g h0] [lfX ct g xo_4, lfH ct (hsA g 0) g h0] [0, 1] 2 (by decide) rfl rfl rfl rfl) 0 rfl rfl ⟨Nat.le_of_ble_eq_true rfl, Nat.le_of_ble_eq_true rfl⟩ rfl hl.1 rfl (Nat.le_of_ble_eq_true rfl) dX11_found_30 ⟨Nat.le_of_ble_eq_true rfl, Nat.le_of_ble_eq_true rfl⟩ (fun r9 w9 H locs hB hP hD hS => ?_)
    obtain ⟨rfl, rfl⟩ := hB
    refine WG_eq (g2 := F0 m 33 ls []) rfl ?_
    refine lv_iconst (v := 1) hx hb dX11_found_33 (by decide) ?_
    obtain ⟨e1, e2⟩ := inj2 (Option.some.inj hf)
    exact end_i (w' := (wl [lfX ct g xo_4, lfH ct (hsA g 0) g h0])) hx hb hr hlocks hK hP hD hS dX11_found_34  ⟨by rw [← e1], by rw [← e2]⟩
  · replace hf := bc_t hf c_2
    refine lv_aload_n hx hb dX11_found_10 rfl (lv_at hl 0 rfl) ?_
    obtain ⟨r_5, xo_6, hc6, hf⟩ := bd2_e hf
    refine call_V (As := []) (rest := []) hx hb hml hown hts hK hP hD hS hA hZ lkX11_83 (Ctr.upL (c_X11_refuseBad l G ct sk sv g n xo hc6) [lfH ct (hsA g 0) g h0] [lfX ct g xo, lfH ct (hsA g 0) g h0] [lfX ct g xo_6, lfH ct (hsA g 0) g h0] [0, 1] 2 (by decide) rfl rfl rfl rfl) 0 rfl rfl ⟨Nat.le_of_ble_eq_true rfl, Nat.le_of_ble_eq_true rfl⟩ rfl hl.1 rfl (Nat.le_of_ble_eq_true rfl) dX11_found_11 ⟨Nat.le_of_ble_eq_true rfl, Nat.le_of_ble_eq_true rfl⟩ (fun r9 w9 H locs hB hP hD hS => ?_)
    obtain ⟨rfl, rfl⟩ := hB
    refine WG_eq (g2 := F0 m 14 ls [.int r_5]) rfl ?_
    obtain ⟨e1, e2⟩ := inj2 (Option.some.inj hf)
    exact end_i (w' := (wl [lfX ct g xo_6, lfH ct (hsA g 0) g h0])) hx hb hr hlocks hK hP hD hS dX11_found_14  ⟨by rw [← e1], by rw [← e2]⟩
noncomputable def f_X11_refuseNo (n : Nat) (xo : MV) : Option (Int32 × MV) :=
  bl (setS xo 1 ((xo.1 1) + 1)) fun xo_1 =>
  some ((-3), xo_1)
set_option maxHeartbeats 4000000 in
set_option maxRecDepth 100000 in
theorem c_X11_refuseNo (l : Launch) (G : va_G) (ct : Nat → ClassId) (sk sv : Nat → Nat) (g : Nat → Nat) (n : Nat) (xo : MV) {r : Int32} {xo' : MV} (hf : f_X11_refuseNo n xo = some (r, xo')) : Ctr (l, G, ct, sk, sv) mX11_refuseNo 0 0 [.ref (g 7)] (wl [lfX ct g xo]) (wl [lfX ct g xo']) (some (.int r)) := by
  refine ctr_intro (by decide) (Nat.le_of_ble_eq_true rfl) ?_
  intro p e s m args below meth c A C hP hD hS hA ls hl
  obtain ⟨hx, hb, hml, hown, hts, hr, hlocks, hK, hnm, hZ⟩ := C
  have hb : c.code = cX11_refuseNo := hb
  have hml : c.maxLocals = 1 := hml
  have hown : s.vm.findClass "SignedOutside" = some m.cls := hown
  have hr : meth.sig.returnType = some .int := hr
  have hP : va_P G classes (wl [lfX ct g xo]) s.heap := hP
  have hD : va_D A (wl [lfX ct g xo]) := hD
  have hK : va_K G classes (TYS ct) s := hK
  have hl : lv_has ls 1 [(0, .ref (g 7))] := hl
  unfold f_X11_refuseNo at hf
  show WG l G ct sk sv p e (RM 0 0 0 0) s m args below meth c A (Eq2 (some (.int r)) (wl [lfX ct g xo'])) s.heap [] (F0 m 0 ls [])
  refine lv_aload_n hx hb dX11_refuseNo_0 rfl (lv_at hl 0 rfl) ?_
  refine lv_dup hx hb dX11_refuseNo_1 rfl ?_
  refine va_get (D := G) (C := RX11) (T := TX11) (N := 11) (v := .int (xo.1 1)) hx hb hts iu_X11 hown hK hP 0 rfl rfl 9 (by decide) (hts _ kw271) (fun _ h9 => h9) rfl dX11_refuseNo_2 ?_
  refine lv_iconst (v := 1) hx hb dX11_refuseNo_5 (by decide) ?_
  refine lv_iadd hx hb dX11_refuseNo_6 ?_
  obtain ⟨xo_1, exo_1, hf⟩ := bl_e hf
  refine va_put (D := G) (C := RX11) (T := TX11) (N := 11) (ty := .int) hx hb hts iu_X11 tyX11 tyX11_ok nmX11 hown hK hP hD hS 0 rfl rfl 9 (by decide) (hts _ kw271) (fun _ h9 => h9) rfl (by decide +kernel) rfl rfl (Nat.le_of_ble_eq_true rfl) dX11_refuseNo_7 (fun H locs hP hD hS => ?_)
  have hP : va_P G classes (wl [lfX ct g xo_1]) H := by rw [← exo_1]; exact hP
  have hD : va_D A (wl [lfX ct g xo_1]) := by rw [← exo_1]; exact hD
  refine lv_bipush (v := (-3)) hx hb dX11_refuseNo_10 (by decide) ?_
  obtain ⟨e1, e2⟩ := inj2 (Option.some.inj hf)
  exact end_i (w' := (wl [lfX ct g xo_1])) hx hb hr hlocks hK hP hD hS dX11_refuseNo_12  ⟨by rw [← e1], by rw [← e2]⟩
noncomputable def f_X11_frank_j16 (n : Nat) (xo : MV) (h0 : MV) (ps0 : MV) : Option (Int32 × MV × MV × MV) :=
  bd2 (f_X11_refuseBad n xo) fun r_1 xo_2 =>
  some (r_1, xo_2, h0, ps0)
noncomputable def f_X11_frank (n : Nat) (xo : MV) (h0 : MV) (ps0 : MV) (v1 : Int32) (v2 : Int32) : Option (Int32 × MV × MV × MV) :=
  bd (f_X11_isLetter n xo h0 v1) fun r_3 =>
  bc (r_3 = 0) (f_X11_frank_j16 n xo h0 ps0)
  (bd (f_X11_isMember n xo h0 v2) fun r_5 =>
  bc (r_5 = 0) (f_X11_frank_j16 n xo h0 ps0)
  (bd (f_X1_mayFrank n h0 v1 v2) fun r_7 =>
  bc (r_7 = 0) (bd2 (f_X11_refuseNo n xo) fun r_12 xo_13 =>
  some (r_12, xo_13, h0, ps0))
  (bd (f_X4_keep n h0 ps0) fun ps0_9 =>
  bd (f_X1_sign n h0 v1 v2) fun h0_10 =>
  bd (f_X1_postage n h0_10 v1) fun r_11 =>
  some (r_11, xo, h0_10, ps0_9))))
set_option maxHeartbeats 4000000 in
set_option maxRecDepth 100000 in
theorem c_X11_frank (l : Launch) (G : va_G) (ct : Nat → ClassId) (sk sv : Nat → Nat) (g : Nat → Nat) (n : Nat) (xo : MV) (h0 : MV) (ps0 : MV) (v1 : Int32) (v2 : Int32) {r : Int32} {xo' : MV} {h0' : MV} {ps0' : MV} (hf : f_X11_frank n xo h0 ps0 v1 v2 = some (r, xo', h0', ps0')) : Ctr (l, G, ct, sk, sv) mX11_frank 6 206 [.ref (g 7), .int v1, .int v2] (wl [lfX ct g xo, lfH ct (hsA g 0) g h0, lfP ct (fun j => (hsA g 0) (16 + j)) ps0, lfK ct g]) (wl [lfX ct g xo', lfH ct (hsA g 0) g h0', lfP ct (fun j => (hsA g 0) (16 + j)) ps0', lfK ct g]) (some (.int r)) := by
  refine ctr_intro (by decide) (Nat.le_of_ble_eq_true rfl) ?_
  intro p e s m args below meth c A C hP hD hS hA ls hl
  obtain ⟨hx, hb, hml, hown, hts, hr, hlocks, hK, hnm, hZ⟩ := C
  have hb : c.code = cX11_frank := hb
  have hml : c.maxLocals = 3 := hml
  have hown : s.vm.findClass "SignedOutside" = some m.cls := hown
  have hr : meth.sig.returnType = some .int := hr
  have hP : va_P G classes (wl [lfX ct g xo, lfH ct (hsA g 0) g h0, lfP ct (fun j => (hsA g 0) (16 + j)) ps0, lfK ct g]) s.heap := hP
  have hD : va_D A (wl [lfX ct g xo, lfH ct (hsA g 0) g h0, lfP ct (fun j => (hsA g 0) (16 + j)) ps0, lfK ct g]) := hD
  have hK : va_K G classes (TYS ct) s := hK
  have hl : lv_has ls 3 [(0, .ref (g 7)), (1, .int v1), (2, .int v2)] := hl
  have J16 : ∀ (xo : MV) (h0 : MV) (ps0 : MV) (H : Heap) (locs : List Loc) (ls : Array Slot), va_P G classes (wl [lfX ct g xo, lfH ct (hsA g 0) g h0, lfP ct (fun j => (hsA g 0) (16 + j)) ps0, lfK ct g]) H → va_D A (wl [lfX ct g xo, lfH ct (hsA g 0) g h0, lfP ct (fun j => (hsA g 0) (16 + j)) ps0, lfK ct g]) → va_S A s.heap H locs → lv_has ls 3 [(0, .ref (g 7))] → f_X11_frank_j16 n xo h0 ps0 = some (r, xo', h0', ps0') → WG l G ct sk sv p e (RM 6 206 0 0) s m args below meth c A (Eq2 (some (.int r)) (wl [lfX ct g xo', lfH ct (hsA g 0) g h0', lfP ct (fun j => (hsA g 0) (16 + j)) ps0', lfK ct g])) H locs (F0 m 16 ls []) := by
    intro xo h0 ps0 H locs ls hP hD hS hl hf
    unfold f_X11_frank_j16 at hf
    refine lv_aload_n hx hb dX11_frank_16 rfl (lv_at hl 0 rfl) ?_
    obtain ⟨r_1, xo_2, hc2, hf⟩ := bd2_e hf
    refine call_V (As := []) (rest := []) hx hb hml hown hts hK hP hD hS hA hZ lkX11_83 (Ctr.upL (c_X11_refuseBad l G ct sk sv g n xo hc2) [lfH ct (hsA g 0) g h0, lfP ct (fun j => (hsA g 0) (16 + j)) ps0, lfK ct g] [lfX ct g xo, lfH ct (hsA g 0) g h0, lfP ct (fun j => (hsA g 0) (16 + j)) ps0, lfK ct g] [lfX ct g xo_2, lfH ct (hsA g 0) g h0, lfP ct (fun j => (hsA g 0) (16 + j)) ps0, lfK ct g] [0, 1, 2, 3] 4 (by decide) rfl rfl rfl rfl) 0 rfl rfl ⟨Nat.le_of_ble_eq_true rfl, Nat.le_of_ble_eq_true rfl⟩ rfl hl.1 rfl (Nat.le_of_ble_eq_true rfl) dX11_frank_17 ⟨Nat.le_of_ble_eq_true rfl, Nat.le_of_ble_eq_true rfl⟩ (fun r9 w9 H locs hB hP hD hS => ?_)
    obtain ⟨rfl, rfl⟩ := hB
    refine WG_eq (g2 := F0 m 20 ls [.int r_1]) rfl ?_
    obtain ⟨e1, e2, e3, e4⟩ := inj4 (Option.some.inj hf)
    exact end_i (w' := (wl [lfX ct g xo_2, lfH ct (hsA g 0) g h0, lfP ct (fun j => (hsA g 0) (16 + j)) ps0, lfK ct g])) hx hb hr hlocks hK hP hD hS dX11_frank_20  ⟨by rw [← e1], by rw [← e2, ← e3, ← e4]⟩
  unfold f_X11_frank at hf
  show WG l G ct sk sv p e (RM 6 206 0 0) s m args below meth c A (Eq2 (some (.int r)) (wl [lfX ct g xo', lfH ct (hsA g 0) g h0', lfP ct (fun j => (hsA g 0) (16 + j)) ps0', lfK ct g])) s.heap [] (F0 m 0 ls [])
  refine lv_aload_n hx hb dX11_frank_0 rfl (lv_at hl 0 rfl) ?_
  refine lv_iload_n hx hb dX11_frank_1 rfl (lv_at hl 1 rfl) ?_
  obtain ⟨r_3, hc3, hf⟩ := bd_e hf
  refine call_V (As := [.int v1]) (rest := []) hx hb hml hown hts hK hP hD hS hA hZ lkX11_125 (Ctr.upL (c_X11_isLetter l G ct sk sv g n xo h0 v1 hc3) [lfP ct (fun j => (hsA g 0) (16 + j)) ps0, lfK ct g] [lfX ct g xo, lfH ct (hsA g 0) g h0, lfP ct (fun j => (hsA g 0) (16 + j)) ps0, lfK ct g] [lfX ct g xo, lfH ct (hsA g 0) g h0, lfP ct (fun j => (hsA g 0) (16 + j)) ps0, lfK ct g] [0, 1, 2, 3] 4 (by decide) rfl rfl rfl rfl) 0 rfl rfl ⟨Nat.le_of_ble_eq_true rfl, Nat.le_of_ble_eq_true rfl⟩ rfl hl.1 rfl (Nat.le_of_ble_eq_true rfl) dX11_frank_2 ⟨Nat.le_of_ble_eq_true rfl, Nat.le_of_ble_eq_true rfl⟩ (fun r9 w9 H locs hB hP hD hS => ?_)
  obtain ⟨rfl, rfl⟩ := hB
  refine WG_eq (g2 := F0 m 5 ls [.int r_3]) rfl ?_
  refine lv_if_eq (tgt := 16) hx hb dX11_frank_5 (by decide) (fun c_4 => ?_) (fun c_4 => ?_)
  · replace hf := bc_t hf c_4
    exact J16 xo h0 ps0 _ _ _ hP hD hS (lv_sub hl [0] rfl) hf
  · replace hf := bc_f hf c_4
    refine lv_aload_n hx hb dX11_frank_8 rfl (lv_at hl 0 rfl) ?_
    refine lv_iload_n hx hb dX11_frank_9 rfl (lv_at hl 2 rfl) ?_
    obtain ⟨r_5, hc5, hf⟩ := bd_e hf
    refine call_V (As := [.int v2]) (rest := []) hx hb hml hown hts hK hP hD hS hA hZ lkX11_128 (Ctr.upL (c_X11_isMember l G ct sk sv g n xo h0 v2 hc5) [lfP ct (fun j => (hsA g 0) (16 + j)) ps0, lfK ct g] [lfX ct g xo, lfH ct (hsA g 0) g h0, lfP ct (fun j => (hsA g 0) (16 + j)) ps0, lfK ct g] [lfX ct g xo, lfH ct (hsA g 0) g h0, lfP ct (fun j => (hsA g 0) (16 + j)) ps0, lfK ct g] [0, 1, 2, 3] 4 (by decide) rfl rfl rfl rfl) 0 rfl rfl ⟨Nat.le_of_ble_eq_true rfl, Nat.le_of_ble_eq_true rfl⟩ rfl hl.1 rfl (Nat.le_of_ble_eq_true rfl) dX11_frank_10 ⟨Nat.le_of_ble_eq_true rfl, Nat.le_of_ble_eq_true rfl⟩ (fun r9 w9 H locs hB hP hD hS => ?_)
    obtain ⟨rfl, rfl⟩ := hB
    refine WG_eq (g2 := F0 m 13 ls [.int r_5]) rfl ?_
    refine lv_if_ne (tgt := 21) hx hb dX11_frank_13 (by decide) (fun c_6 => ?_) (fun c_6 => ?_)
    · replace hf := bc_f hf c_6
      refine lv_aload_n hx hb dX11_frank_21 rfl (lv_at hl 0 rfl) ?_
      refine va_get (D := G) (C := RX11) (T := TX11) (N := 11) (v := .ref ((hsA g 0) 0)) hx hb hts iu_X11 hown hK hP 0 rfl rfl 0 (by decide) (hts _ kw262) (fun _ h9 => h9) rfl dX11_frank_22 ?_
      refine lv_iload_n hx hb dX11_frank_25 rfl (lv_at hl 1 rfl) ?_
      refine lv_iload_n hx hb dX11_frank_26 rfl (lv_at hl 2 rfl) ?_
      obtain ⟨r_7, hc7, hf⟩ := bd_e hf
      refine call_V (As := [.int v1, .int v2]) (rest := []) hx hb hml hown hts hK hP hD hS hA hZ lkX11_131 (Ctr.upL (c_X1_mayFrank l G ct sk sv (hsA g 0) g n h0 v1 v2 hc7) [lfX ct g xo, lfP ct (fun j => (hsA g 0) (16 + j)) ps0] [lfX ct g xo, lfH ct (hsA g 0) g h0, lfP ct (fun j => (hsA g 0) (16 + j)) ps0, lfK ct g] [lfX ct g xo, lfH ct (hsA g 0) g h0, lfP ct (fun j => (hsA g 0) (16 + j)) ps0, lfK ct g] [1, 3, 0, 2] 4 (by decide) rfl rfl rfl rfl) 3 rfl rfl ⟨Nat.le_of_ble_eq_true rfl, Nat.le_of_ble_eq_true rfl⟩ rfl hl.1 rfl (Nat.le_of_ble_eq_true rfl) dX11_frank_27 ⟨Nat.le_of_ble_eq_true rfl, Nat.le_of_ble_eq_true rfl⟩ (fun r9 w9 H locs hB hP hD hS => ?_)
      obtain ⟨rfl, rfl⟩ := hB
      refine WG_eq (g2 := F0 m 30 ls [.int r_7]) rfl ?_
      refine lv_if_ne (tgt := 38) hx hb dX11_frank_30 (by decide) (fun c_8 => ?_) (fun c_8 => ?_)
      · replace hf := bc_f hf c_8
        refine lv_aload_n hx hb dX11_frank_38 rfl (lv_at hl 0 rfl) ?_
        refine va_get (D := G) (C := RX11) (T := TX11) (N := 11) (v := .ref ((hsA g 0) 0)) hx hb hts iu_X11 hown hK hP 0 rfl rfl 0 (by decide) (hts _ kw262) (fun _ h9 => h9) rfl dX11_frank_39 ?_
        refine va_get (D := G) (C := RX1) (T := TX1) (N := 16) (v := .ref ((hsA g 0) 16)) hx hb hts iu_X1 hown hK hP 3 rfl rfl 15 (by decide) (hts _ kw162) (fun _ h9 => h9) rfl dX11_frank_42 ?_
        refine lv_aload_n hx hb dX11_frank_45 rfl (lv_at hl 0 rfl) ?_
        refine va_get (D := G) (C := RX11) (T := TX11) (N := 11) (v := .ref ((hsA g 0) 0)) hx hb hts iu_X11 hown hK hP 0 rfl rfl 0 (by decide) (hts _ kw262) (fun _ h9 => h9) rfl dX11_frank_46 ?_
        obtain ⟨ps0_9, hc9, hf⟩ := bd_e hf
        refine call_V (As := [.ref ((hsA g 0) 0)]) (rest := []) hx hb hml hown hts hK hP hD hS hA hZ lkX11_138 (Ctr.upL (c_X4_keep l G ct sk sv (hsA g 0) g n h0 ps0 hc9) [lfX ct g xo, lfK ct g] [lfX ct g xo, lfH ct (hsA g 0) g h0, lfP ct (fun j => (hsA g 0) (16 + j)) ps0, lfK ct g] [lfX ct g xo, lfH ct (hsA g 0) g h0, lfP ct (fun j => (hsA g 0) (16 + j)) ps0_9, lfK ct g] [1, 2, 0, 3] 4 (by decide) rfl rfl rfl rfl) 11 rfl rfl ⟨Nat.le_of_ble_eq_true rfl, Nat.le_of_ble_eq_true rfl⟩ rfl hl.1 rfl (Nat.le_of_ble_eq_true rfl) dX11_frank_49 ⟨Nat.le_of_ble_eq_true rfl, Nat.le_of_ble_eq_true rfl⟩ (fun r9 w9 H locs hB hP hD hS => ?_)
        obtain ⟨rfl, rfl⟩ := hB
        refine WG_eq (g2 := F0 m 52 ls []) rfl ?_
        refine lv_aload_n hx hb dX11_frank_52 rfl (lv_at hl 0 rfl) ?_
        refine va_get (D := G) (C := RX11) (T := TX11) (N := 11) (v := .ref ((hsA g 0) 0)) hx hb hts iu_X11 hown hK hP 0 rfl rfl 0 (by decide) (hts _ kw262) (fun _ h9 => h9) rfl dX11_frank_53 ?_
        refine lv_iload_n hx hb dX11_frank_56 rfl (lv_at hl 1 rfl) ?_
        refine lv_iload_n hx hb dX11_frank_57 rfl (lv_at hl 2 rfl) ?_
        obtain ⟨h0_10, hc10, hf⟩ := bd_e hf
        refine call_V (As := [.int v1, .int v2]) (rest := []) hx hb hml hown hts hK hP hD hS hA hZ lkX11_141 (Ctr.upL (c_X1_sign l G ct sk sv (hsA g 0) g n h0 v1 v2 hc10) [lfX ct g xo, lfP ct (fun j => (hsA g 0) (16 + j)) ps0_9, lfK ct g] [lfX ct g xo, lfH ct (hsA g 0) g h0, lfP ct (fun j => (hsA g 0) (16 + j)) ps0_9, lfK ct g] [lfX ct g xo, lfH ct (hsA g 0) g h0_10, lfP ct (fun j => (hsA g 0) (16 + j)) ps0_9, lfK ct g] [1, 0, 2, 3] 4 (by decide) rfl rfl rfl rfl) 3 rfl rfl ⟨Nat.le_of_ble_eq_true rfl, Nat.le_of_ble_eq_true rfl⟩ rfl hl.1 rfl (Nat.le_of_ble_eq_true rfl) dX11_frank_58 ⟨Nat.le_of_ble_eq_true rfl, Nat.le_of_ble_eq_true rfl⟩ (fun r9 w9 H locs hB hP hD hS => ?_)
        obtain ⟨rfl, rfl⟩ := hB
        refine WG_eq (g2 := F0 m 61 ls []) rfl ?_
        refine lv_aload_n hx hb dX11_frank_61 rfl (lv_at hl 0 rfl) ?_
        refine va_get (D := G) (C := RX11) (T := TX11) (N := 11) (v := .ref ((hsA g 0) 0)) hx hb hts iu_X11 hown hK hP 0 rfl rfl 0 (by decide) (hts _ kw262) (fun _ h9 => h9) rfl dX11_frank_62 ?_
        refine lv_iload_n hx hb dX11_frank_65 rfl (lv_at hl 1 rfl) ?_
        obtain ⟨r_11, hc11, hf⟩ := bd_e hf
        refine call_V (As := [.int v1]) (rest := []) hx hb hml hown hts hK hP hD hS hA hZ lkX11_145 (Ctr.upL (c_X1_postage l G ct sk sv (hsA g 0) g n h0_10 v1 hc11) [lfX ct g xo, lfP ct (fun j => (hsA g 0) (16 + j)) ps0_9, lfK ct g] [lfX ct g xo, lfH ct (hsA g 0) g h0_10, lfP ct (fun j => (hsA g 0) (16 + j)) ps0_9, lfK ct g] [lfX ct g xo, lfH ct (hsA g 0) g h0_10, lfP ct (fun j => (hsA g 0) (16 + j)) ps0_9, lfK ct g] [1, 0, 2, 3] 4 (by decide) rfl rfl rfl rfl) 3 rfl rfl ⟨Nat.le_of_ble_eq_true rfl, Nat.le_of_ble_eq_true rfl⟩ rfl hl.1 rfl (Nat.le_of_ble_eq_true rfl) dX11_frank_66 ⟨Nat.le_of_ble_eq_true rfl, Nat.le_of_ble_eq_true rfl⟩ (fun r9 w9 H locs hB hP hD hS => ?_)
        obtain ⟨rfl, rfl⟩ := hB
        refine WG_eq (g2 := F0 m 69 ls [.int r_11]) rfl ?_
        obtain ⟨e1, e2, e3, e4⟩ := inj4 (Option.some.inj hf)
        exact end_i (w' := (wl [lfX ct g xo, lfH ct (hsA g 0) g h0_10, lfP ct (fun j => (hsA g 0) (16 + j)) ps0_9, lfK ct g])) hx hb hr hlocks hK hP hD hS dX11_frank_69  ⟨by rw [← e1], by rw [← e2, ← e3, ← e4]⟩
      · replace hf := bc_t hf c_8
        refine lv_aload_n hx hb dX11_frank_33 rfl (lv_at hl 0 rfl) ?_
        obtain ⟨r_12, xo_13, hc13, hf⟩ := bd2_e hf
        refine call_V (As := []) (rest := []) hx hb hml hown hts hK hP hD hS hA hZ lkX11_135 (Ctr.upL (c_X11_refuseNo l G ct sk sv g n xo hc13) [lfH ct (hsA g 0) g h0, lfP ct (fun j => (hsA g 0) (16 + j)) ps0, lfK ct g] [lfX ct g xo, lfH ct (hsA g 0) g h0, lfP ct (fun j => (hsA g 0) (16 + j)) ps0, lfK ct g] [lfX ct g xo_13, lfH ct (hsA g 0) g h0, lfP ct (fun j => (hsA g 0) (16 + j)) ps0, lfK ct g] [0, 1, 2, 3] 4 (by decide) rfl rfl rfl rfl) 0 rfl rfl ⟨Nat.le_of_ble_eq_true rfl, Nat.le_of_ble_eq_true rfl⟩ rfl hl.1 rfl (Nat.le_of_ble_eq_true rfl) dX11_frank_34 ⟨Nat.le_of_ble_eq_true rfl, Nat.le_of_ble_eq_true rfl⟩ (fun r9 w9 H locs hB hP hD hS => ?_)
        obtain ⟨rfl, rfl⟩ := hB
        refine WG_eq (g2 := F0 m 37 ls [.int r_12]) rfl ?_
        obtain ⟨e1, e2, e3, e4⟩ := inj4 (Option.some.inj hf)
        exact end_i (w' := (wl [lfX ct g xo_13, lfH ct (hsA g 0) g h0, lfP ct (fun j => (hsA g 0) (16 + j)) ps0, lfK ct g])) hx hb hr hlocks hK hP hD hS dX11_frank_37  ⟨by rw [← e1], by rw [← e2, ← e3, ← e4]⟩
    · replace hf := bc_t hf c_6
      exact J16 xo h0 ps0 _ _ _ hP hD hS (lv_sub hl [0] rfl) hf
noncomputable def f_X11_house (n : Nat) (xo : MV) (h0 : MV) (nt0 : MV) (cv0 : MV) (ps0 : MV) : Option (Int32 × MV × MV × MV × MV) :=
  bl (h0.1 0) fun v1_1 =>
  bd4 (f_X1_makeEmpty n h0 nt0 cv0 ps0) fun h0_2 nt0_3 cv0_4 ps0_5 =>
  some (v1_1, h0_2, nt0_3, cv0_4, ps0_5)
set_option maxHeartbeats 4000000 in
set_option maxRecDepth 100000 in
theorem c_X11_house (l : Launch) (G : va_G) (ct : Nat → ClassId) (sk sv : Nat → Nat) (g : Nat → Nat) (n : Nat) (xo : MV) (h0 : MV) (nt0 : MV) (cv0 : MV) (ps0 : MV) {r : Int32} {h0' : MV} {nt0' : MV} {cv0' : MV} {ps0' : MV} (hf : f_X11_house n xo h0 nt0 cv0 ps0 = some (r, h0', nt0', cv0', ps0')) : Ctr (l, G, ct, sk, sv) mX11_house 2 40 [.ref (g 7)] (wl [lfX ct g xo, lfH ct (hsA g 0) g h0, lfS ct (fun j => (hsA g 0) (12 + j)) nt0, lfS ct (fun j => (hsA g 0) (8 + j)) cv0, lfP ct (fun j => (hsA g 0) (16 + j)) ps0]) (wl [lfX ct g xo, lfH ct (hsA g 0) g h0', lfS ct (fun j => (hsA g 0) (12 + j)) nt0', lfS ct (fun j => (hsA g 0) (8 + j)) cv0', lfP ct (fun j => (hsA g 0) (16 + j)) ps0']) (some (.int r)) := by
  refine ctr_intro (by decide) (Nat.le_of_ble_eq_true rfl) ?_
  intro p e s m args below meth c A C hP hD hS hA ls hl
  obtain ⟨hx, hb, hml, hown, hts, hr, hlocks, hK, hnm, hZ⟩ := C
  have hb : c.code = cX11_house := hb
  have hml : c.maxLocals = 2 := hml
  have hown : s.vm.findClass "SignedOutside" = some m.cls := hown
  have hr : meth.sig.returnType = some .int := hr
  have hP : va_P G classes (wl [lfX ct g xo, lfH ct (hsA g 0) g h0, lfS ct (fun j => (hsA g 0) (12 + j)) nt0, lfS ct (fun j => (hsA g 0) (8 + j)) cv0, lfP ct (fun j => (hsA g 0) (16 + j)) ps0]) s.heap := hP
  have hD : va_D A (wl [lfX ct g xo, lfH ct (hsA g 0) g h0, lfS ct (fun j => (hsA g 0) (12 + j)) nt0, lfS ct (fun j => (hsA g 0) (8 + j)) cv0, lfP ct (fun j => (hsA g 0) (16 + j)) ps0]) := hD
  have hK : va_K G classes (TYS ct) s := hK
  have hl : lv_has ls 2 [(0, .ref (g 7))] := hl
  unfold f_X11_house at hf
  show WG l G ct sk sv p e (RM 2 40 0 0) s m args below meth c A (Eq2 (some (.int r)) (wl [lfX ct g xo, lfH ct (hsA g 0) g h0', lfS ct (fun j => (hsA g 0) (12 + j)) nt0', lfS ct (fun j => (hsA g 0) (8 + j)) cv0', lfP ct (fun j => (hsA g 0) (16 + j)) ps0'])) s.heap [] (F0 m 0 ls [])
  refine lv_aload_n hx hb dX11_house_0 rfl (lv_at hl 0 rfl) ?_
  refine va_get (D := G) (C := RX11) (T := TX11) (N := 11) (v := .ref ((hsA g 0) 0)) hx hb hts iu_X11 hown hK hP 0 rfl rfl 0 (by decide) (hts _ kw262) (fun _ h9 => h9) rfl dX11_house_1 ?_
  refine va_get (D := G) (C := RX1) (T := TX1) (N := 16) (v := .int (h0.1 0)) hx hb hts iu_X1 hown hK hP 3 rfl rfl 1 (by decide) (hts _ kw124) (fun _ h9 => h9) rfl dX11_house_4 ?_
  refine lv_topi (fun v1_1 ev1_1 => ?_)
  replace hf := bl_i hf ev1_1
  refine lv_istore_n (lv' := [(1, .int v1_1), (0, .ref (g 7))]) hx hb dX11_house_7 rfl hl (by decide) rfl (fun ls hl => ?_)
  refine lv_aload_n hx hb dX11_house_8 rfl (lv_at hl 1 rfl) ?_
  refine va_get (D := G) (C := RX11) (T := TX11) (N := 11) (v := .ref ((hsA g 0) 0)) hx hb hts iu_X11 hown hK hP 0 rfl rfl 0 (by decide) (hts _ kw262) (fun _ h9 => h9) rfl dX11_house_9 ?_
  obtain ⟨h0_2, nt0_3, cv0_4, ps0_5, hc5, hf⟩ := bd4_e hf
  refine call_V (As := []) (rest := []) hx hb hml hown hts hK hP hD hS hA hZ lkX11_72 (Ctr.upL (c_X1_makeEmpty l G ct sk sv (hsA g 0) g n h0 nt0 cv0 ps0 hc5) [lfX ct g xo] [lfX ct g xo, lfH ct (hsA g 0) g h0, lfS ct (fun j => (hsA g 0) (12 + j)) nt0, lfS ct (fun j => (hsA g 0) (8 + j)) cv0, lfP ct (fun j => (hsA g 0) (16 + j)) ps0] [lfX ct g xo, lfH ct (hsA g 0) g h0_2, lfS ct (fun j => (hsA g 0) (12 + j)) nt0_3, lfS ct (fun j => (hsA g 0) (8 + j)) cv0_4, lfP ct (fun j => (hsA g 0) (16 + j)) ps0_5] [1, 2, 3, 4, 0] 5 (by decide) rfl rfl rfl rfl) 3 rfl rfl ⟨Nat.le_of_ble_eq_true rfl, Nat.le_of_ble_eq_true rfl⟩ rfl hl.1 rfl (Nat.le_of_ble_eq_true rfl) dX11_house_12 ⟨Nat.le_of_ble_eq_true rfl, Nat.le_of_ble_eq_true rfl⟩ (fun r9 w9 H locs hB hP hD hS => ?_)
  obtain ⟨rfl, rfl⟩ := hB
  refine WG_eq (g2 := F0 m 15 ls []) rfl ?_
  refine lv_iload_n hx hb dX11_house_15 rfl (lv_at hl 0 rfl) ?_
  obtain ⟨e1, e2, e3, e4, e5⟩ := inj5 (Option.some.inj hf)
  exact end_i (w' := (wl [lfX ct g xo, lfH ct (hsA g 0) g h0_2, lfS ct (fun j => (hsA g 0) (12 + j)) nt0_3, lfS ct (fun j => (hsA g 0) (8 + j)) cv0_4, lfP ct (fun j => (hsA g 0) (16 + j)) ps0_5])) hx hb hr hlocks hK hP hD hS dX11_house_16  ⟨by rw [← e1], by rw [← e2, ← e3, ← e4, ← e5]⟩
noncomputable def f_X11_is (n : Nat) (xo : MV) (h0 : MV) (nt0 : MV) (v1 : Int32) : Option (Int32 × MV) :=
  bd (f_X11_isMember n xo h0 v1) fun r_1 =>
  bc (r_1 = 0) (bd2 (f_X11_refuseBad n xo) fun r_4 xo_5 =>
  some (r_4, xo_5))
  (bd (f_X8_kindsNoted n nt0 v1) fun r_3 =>
  some (r_3, xo))
set_option maxHeartbeats 4000000 in
set_option maxRecDepth 100000 in
theorem c_X11_is (l : Launch) (G : va_G) (ct : Nat → ClassId) (sk sv : Nat → Nat) (g : Nat → Nat) (n : Nat) (xo : MV) (h0 : MV) (nt0 : MV) (v1 : Int32) {r : Int32} {xo' : MV} (hf : f_X11_is n xo h0 nt0 v1 = some (r, xo')) : Ctr (l, G, ct, sk, sv) mX11_is 6 207 [.ref (g 7), .int v1] (wl [lfX ct g xo, lfH ct (hsA g 0) g h0, lfS ct (fun j => (hsA g 0) (12 + j)) nt0, lfK ct g]) (wl [lfX ct g xo', lfH ct (hsA g 0) g h0, lfS ct (fun j => (hsA g 0) (12 + j)) nt0, lfK ct g]) (some (.int r)) := by
  refine ctr_intro (by decide) (Nat.le_of_ble_eq_true rfl) ?_
  intro p e s m args below meth c A C hP hD hS hA ls hl
  obtain ⟨hx, hb, hml, hown, hts, hr, hlocks, hK, hnm, hZ⟩ := C
  have hb : c.code = cX11_is := hb
  have hml : c.maxLocals = 2 := hml
  have hown : s.vm.findClass "SignedOutside" = some m.cls := hown
  have hr : meth.sig.returnType = some .int := hr
  have hP : va_P G classes (wl [lfX ct g xo, lfH ct (hsA g 0) g h0, lfS ct (fun j => (hsA g 0) (12 + j)) nt0, lfK ct g]) s.heap := hP
  have hD : va_D A (wl [lfX ct g xo, lfH ct (hsA g 0) g h0, lfS ct (fun j => (hsA g 0) (12 + j)) nt0, lfK ct g]) := hD
  have hK : va_K G classes (TYS ct) s := hK
  have hl : lv_has ls 2 [(0, .ref (g 7)), (1, .int v1)] := hl
  unfold f_X11_is at hf
  show WG l G ct sk sv p e (RM 6 207 0 0) s m args below meth c A (Eq2 (some (.int r)) (wl [lfX ct g xo', lfH ct (hsA g 0) g h0, lfS ct (fun j => (hsA g 0) (12 + j)) nt0, lfK ct g])) s.heap [] (F0 m 0 ls [])
  refine lv_aload_n hx hb dX11_is_0 rfl (lv_at hl 0 rfl) ?_
  refine lv_iload_n hx hb dX11_is_1 rfl (lv_at hl 1 rfl) ?_
  obtain ⟨r_1, hc1, hf⟩ := bd_e hf
  refine call_V (As := [.int v1]) (rest := []) hx hb hml hown hts hK hP hD hS hA hZ lkX11_128 (Ctr.upL (c_X11_isMember l G ct sk sv g n xo h0 v1 hc1) [lfS ct (fun j => (hsA g 0) (12 + j)) nt0, lfK ct g] [lfX ct g xo, lfH ct (hsA g 0) g h0, lfS ct (fun j => (hsA g 0) (12 + j)) nt0, lfK ct g] [lfX ct g xo, lfH ct (hsA g 0) g h0, lfS ct (fun j => (hsA g 0) (12 + j)) nt0, lfK ct g] [0, 1, 2, 3] 4 (by decide) rfl rfl rfl rfl) 0 rfl rfl ⟨Nat.le_of_ble_eq_true rfl, Nat.le_of_ble_eq_true rfl⟩ rfl hl.1 rfl (Nat.le_of_ble_eq_true rfl) dX11_is_2 ⟨Nat.le_of_ble_eq_true rfl, Nat.le_of_ble_eq_true rfl⟩ (fun r9 w9 H locs hB hP hD hS => ?_)
  obtain ⟨rfl, rfl⟩ := hB
  refine WG_eq (g2 := F0 m 5 ls [.int r_1]) rfl ?_
  refine lv_if_ne (tgt := 13) hx hb dX11_is_5 (by decide) (fun c_2 => ?_) (fun c_2 => ?_)
  · replace hf := bc_f hf c_2
    refine lv_aload_n hx hb dX11_is_13 rfl (lv_at hl 0 rfl) ?_
    refine va_get (D := G) (C := RX11) (T := TX11) (N := 11) (v := .ref ((hsA g 0) 0)) hx hb hts iu_X11 hown hK hP 0 rfl rfl 0 (by decide) (hts _ kw262) (fun _ h9 => h9) rfl dX11_is_14 ?_
    refine va_get (D := G) (C := RX1) (T := TX1) (N := 16) (v := .ref ((hsA g 0) 12)) hx hb hts iu_X1 hown hK hP 3 rfl rfl 14 (by decide) (hts _ kw160) (fun _ h9 => h9) rfl dX11_is_17 ?_
    refine lv_iload_n hx hb dX11_is_20 rfl (lv_at hl 1 rfl) ?_
    refine lv_aload_n hx hb dX11_is_21 rfl (lv_at hl 0 rfl) ?_
    refine va_get (D := G) (C := RX11) (T := TX11) (N := 11) (v := .ref ((hsA g 0) 0)) hx hb hts iu_X11 hown hK hP 0 rfl rfl 0 (by decide) (hts _ kw262) (fun _ h9 => h9) rfl dX11_is_22 ?_
    refine va_get (D := G) (C := RX1) (T := TX1) (N := 16) (v := .ref (g 0)) hx hb hts iu_X1 hown hK hP 3 rfl rfl 0 (by decide) (hts _ kw122) (fun _ h9 => h9) rfl dX11_is_25 ?_
    obtain ⟨r_3, hc3, hf⟩ := bd_e hf
    refine call_V (As := [.int v1, .ref (g 0)]) (rest := []) hx hb hml hown hts hK hP hD hS hA hZ lkX11_285 (Ctr.upL (c_X8_kindsNoted l G ct sk sv (fun j => (hsA g 0) (12 + j)) g n nt0 v1 hc3) [lfX ct g xo, lfH ct (hsA g 0) g h0] [lfX ct g xo, lfH ct (hsA g 0) g h0, lfS ct (fun j => (hsA g 0) (12 + j)) nt0, lfK ct g] [lfX ct g xo, lfH ct (hsA g 0) g h0, lfS ct (fun j => (hsA g 0) (12 + j)) nt0, lfK ct g] [2, 3, 0, 1] 4 (by decide) rfl rfl rfl rfl) 11 rfl rfl ⟨Nat.le_of_ble_eq_true rfl, Nat.le_of_ble_eq_true rfl⟩ rfl hl.1 rfl (Nat.le_of_ble_eq_true rfl) dX11_is_28 ⟨Nat.le_of_ble_eq_true rfl, Nat.le_of_ble_eq_true rfl⟩ (fun r9 w9 H locs hB hP hD hS => ?_)
    obtain ⟨rfl, rfl⟩ := hB
    refine WG_eq (g2 := F0 m 31 ls [.int r_3]) rfl ?_
    obtain ⟨e1, e2⟩ := inj2 (Option.some.inj hf)
    exact end_i (w' := (wl [lfX ct g xo, lfH ct (hsA g 0) g h0, lfS ct (fun j => (hsA g 0) (12 + j)) nt0, lfK ct g])) hx hb hr hlocks hK hP hD hS dX11_is_31  ⟨by rw [← e1], by rw [← e2]⟩
  · replace hf := bc_t hf c_2
    refine lv_aload_n hx hb dX11_is_8 rfl (lv_at hl 0 rfl) ?_
    obtain ⟨r_4, xo_5, hc5, hf⟩ := bd2_e hf
    refine call_V (As := []) (rest := []) hx hb hml hown hts hK hP hD hS hA hZ lkX11_83 (Ctr.upL (c_X11_refuseBad l G ct sk sv g n xo hc5) [lfH ct (hsA g 0) g h0, lfS ct (fun j => (hsA g 0) (12 + j)) nt0, lfK ct g] [lfX ct g xo, lfH ct (hsA g 0) g h0, lfS ct (fun j => (hsA g 0) (12 + j)) nt0, lfK ct g] [lfX ct g xo_5, lfH ct (hsA g 0) g h0, lfS ct (fun j => (hsA g 0) (12 + j)) nt0, lfK ct g] [0, 1, 2, 3] 4 (by decide) rfl rfl rfl rfl) 0 rfl rfl ⟨Nat.le_of_ble_eq_true rfl, Nat.le_of_ble_eq_true rfl⟩ rfl hl.1 rfl (Nat.le_of_ble_eq_true rfl) dX11_is_9 ⟨Nat.le_of_ble_eq_true rfl, Nat.le_of_ble_eq_true rfl⟩ (fun r9 w9 H locs hB hP hD hS => ?_)
    obtain ⟨rfl, rfl⟩ := hB
    refine WG_eq (g2 := F0 m 12 ls [.int r_4]) rfl ?_
    obtain ⟨e1, e2⟩ := inj2 (Option.some.inj hf)
    exact end_i (w' := (wl [lfX ct g xo_5, lfH ct (hsA g 0) g h0, lfS ct (fun j => (hsA g 0) (12 + j)) nt0, lfK ct g])) hx hb hr hlocks hK hP hD hS dX11_is_12  ⟨by rw [← e1], by rw [← e2]⟩
noncomputable def f_X11_letter_j24 (n : Nat) (xo : MV) (h0 : MV) (ps0 : MV) : Option (Int32 × MV × MV × MV) :=
  bd2 (f_X11_refuseBad n xo) fun r_1 xo_2 =>
  some (r_1, xo_2, h0, ps0)
noncomputable def f_X11_letter (n : Nat) (xo : MV) (h0 : MV) (ps0 : MV) (v1 : Int32) (v2 : Int32) (v3 : Int32) : Option (Int32 × MV × MV × MV) :=
  bd (f_X11_isPlace n v1) fun r_3 =>
  bc (r_3 = 0) (f_X11_letter_j24 n xo h0 ps0)
  (bd (f_X11_isPlace n v2) fun r_5 =>
  bc (r_5 = 0) (f_X11_letter_j24 n xo h0 ps0)
  (bd (f_X11_within n v3 1 9) fun r_7 =>
  bc (r_7 = 0) (f_X11_letter_j24 n xo h0 ps0)
  (bc ((h0.1 1) < 6) (bd (f_X4_makeEmpty n ps0) fun ps0_10 =>
  bd2 (f_X1_addLetter n h0 v1 v2 v3) fun r_11 h0_12 =>
  some (r_11, xo, h0_12, ps0_10))
  (bd2 (f_X11_refuseFull n xo) fun r_13 xo_14 =>
  some (r_13, xo_14, h0, ps0)))))
set_option maxHeartbeats 4000000 in
set_option maxRecDepth 100000 in
theorem c_X11_letter (l : Launch) (G : va_G) (ct : Nat → ClassId) (sk sv : Nat → Nat) (g : Nat → Nat) (n : Nat) (xo : MV) (h0 : MV) (ps0 : MV) (v1 : Int32) (v2 : Int32) (v3 : Int32) {r : Int32} {xo' : MV} {h0' : MV} {ps0' : MV} (hf : f_X11_letter n xo h0 ps0 v1 v2 v3 = some (r, xo', h0', ps0')) : Ctr (l, G, ct, sk, sv) mX11_letter 2 42 [.ref (g 7), .int v1, .int v2, .int v3] (wl [lfX ct g xo, lfH ct (hsA g 0) g h0, lfP ct (fun j => (hsA g 0) (16 + j)) ps0]) (wl [lfX ct g xo', lfH ct (hsA g 0) g h0', lfP ct (fun j => (hsA g 0) (16 + j)) ps0']) (some (.int r)) := by
  refine ctr_intro (by decide) (Nat.le_of_ble_eq_true rfl) ?_
  intro p e s m args below meth c A C hP hD hS hA ls hl
  obtain ⟨hx, hb, hml, hown, hts, hr, hlocks, hK, hnm, hZ⟩ := C
  have hb : c.code = cX11_letter := hb
  have hml : c.maxLocals = 4 := hml
  have hown : s.vm.findClass "SignedOutside" = some m.cls := hown
  have hr : meth.sig.returnType = some .int := hr
  have hP : va_P G classes (wl [lfX ct g xo, lfH ct (hsA g 0) g h0, lfP ct (fun j => (hsA g 0) (16 + j)) ps0]) s.heap := hP
  have hD : va_D A (wl [lfX ct g xo, lfH ct (hsA g 0) g h0, lfP ct (fun j => (hsA g 0) (16 + j)) ps0]) := hD
  have hK : va_K G classes (TYS ct) s := hK
  have hl : lv_has ls 4 [(0, .ref (g 7)), (1, .int v1), (2, .int v2), (3, .int v3)] := hl
  have J24 : ∀ (xo : MV) (h0 : MV) (ps0 : MV) (H : Heap) (locs : List Loc) (ls : Array Slot), va_P G classes (wl [lfX ct g xo, lfH ct (hsA g 0) g h0, lfP ct (fun j => (hsA g 0) (16 + j)) ps0]) H → va_D A (wl [lfX ct g xo, lfH ct (hsA g 0) g h0, lfP ct (fun j => (hsA g 0) (16 + j)) ps0]) → va_S A s.heap H locs → lv_has ls 4 [(0, .ref (g 7))] → f_X11_letter_j24 n xo h0 ps0 = some (r, xo', h0', ps0') → WG l G ct sk sv p e (RM 2 42 0 0) s m args below meth c A (Eq2 (some (.int r)) (wl [lfX ct g xo', lfH ct (hsA g 0) g h0', lfP ct (fun j => (hsA g 0) (16 + j)) ps0'])) H locs (F0 m 24 ls []) := by
    intro xo h0 ps0 H locs ls hP hD hS hl hf
    unfold f_X11_letter_j24 at hf
    refine lv_aload_n hx hb dX11_letter_24 rfl (lv_at hl 0 rfl) ?_
    obtain ⟨r_1, xo_2, hc2, hf⟩ := bd2_e hf
    refine call_V (As := []) (rest := []) hx hb hml hown hts hK hP hD hS hA hZ lkX11_83 (Ctr.upL (c_X11_refuseBad l G ct sk sv g n xo hc2) [lfH ct (hsA g 0) g h0, lfP ct (fun j => (hsA g 0) (16 + j)) ps0] [lfX ct g xo, lfH ct (hsA g 0) g h0, lfP ct (fun j => (hsA g 0) (16 + j)) ps0] [lfX ct g xo_2, lfH ct (hsA g 0) g h0, lfP ct (fun j => (hsA g 0) (16 + j)) ps0] [0, 1, 2] 3 (by decide) rfl rfl rfl rfl) 0 rfl rfl ⟨Nat.le_of_ble_eq_true rfl, Nat.le_of_ble_eq_true rfl⟩ rfl hl.1 rfl (Nat.le_of_ble_eq_true rfl) dX11_letter_25 ⟨Nat.le_of_ble_eq_true rfl, Nat.le_of_ble_eq_true rfl⟩ (fun r9 w9 H locs hB hP hD hS => ?_)
    obtain ⟨rfl, rfl⟩ := hB
    refine WG_eq (g2 := F0 m 28 ls [.int r_1]) rfl ?_
    obtain ⟨e1, e2, e3, e4⟩ := inj4 (Option.some.inj hf)
    exact end_i (w' := (wl [lfX ct g xo_2, lfH ct (hsA g 0) g h0, lfP ct (fun j => (hsA g 0) (16 + j)) ps0])) hx hb hr hlocks hK hP hD hS dX11_letter_28  ⟨by rw [← e1], by rw [← e2, ← e3, ← e4]⟩
  unfold f_X11_letter at hf
  show WG l G ct sk sv p e (RM 2 42 0 0) s m args below meth c A (Eq2 (some (.int r)) (wl [lfX ct g xo', lfH ct (hsA g 0) g h0', lfP ct (fun j => (hsA g 0) (16 + j)) ps0'])) s.heap [] (F0 m 0 ls [])
  refine lv_iload_n hx hb dX11_letter_0 rfl (lv_at hl 1 rfl) ?_
  obtain ⟨r_3, hc3, hf⟩ := bd_e hf
  refine call_S (As := [.int v1]) (rest := []) hx hb hml hown hts hK hP hD hS hA hZ lkX11_79 (Ctr.upL (c_X11_isPlace l G ct sk sv  n v1 hc3) [lfX ct g xo, lfH ct (hsA g 0) g h0, lfP ct (fun j => (hsA g 0) (16 + j)) ps0] [lfX ct g xo, lfH ct (hsA g 0) g h0, lfP ct (fun j => (hsA g 0) (16 + j)) ps0] [lfX ct g xo, lfH ct (hsA g 0) g h0, lfP ct (fun j => (hsA g 0) (16 + j)) ps0] [0, 1, 2] 3 (by decide) rfl rfl rfl rfl) ⟨Nat.le_of_ble_eq_true rfl, Nat.le_of_ble_eq_true rfl⟩ rfl hl.1 rfl (Nat.le_of_ble_eq_true rfl) dX11_letter_1 ⟨Nat.le_of_ble_eq_true rfl, Nat.le_of_ble_eq_true rfl⟩ (fun r9 w9 H locs hB hP hD hS => ?_)
  obtain ⟨rfl, rfl⟩ := hB
  refine WG_eq (g2 := F0 m 4 ls [.int r_3]) rfl ?_
  refine lv_if_eq (tgt := 24) hx hb dX11_letter_4 (by decide) (fun c_4 => ?_) (fun c_4 => ?_)
  · replace hf := bc_t hf c_4
    exact J24 xo h0 ps0 _ _ _ hP hD hS (lv_sub hl [0] rfl) hf
  · replace hf := bc_f hf c_4
    refine lv_iload_n hx hb dX11_letter_7 rfl (lv_at hl 2 rfl) ?_
    obtain ⟨r_5, hc5, hf⟩ := bd_e hf
    refine call_S (As := [.int v2]) (rest := []) hx hb hml hown hts hK hP hD hS hA hZ lkX11_79 (Ctr.upL (c_X11_isPlace l G ct sk sv  n v2 hc5) [lfX ct g xo, lfH ct (hsA g 0) g h0, lfP ct (fun j => (hsA g 0) (16 + j)) ps0] [lfX ct g xo, lfH ct (hsA g 0) g h0, lfP ct (fun j => (hsA g 0) (16 + j)) ps0] [lfX ct g xo, lfH ct (hsA g 0) g h0, lfP ct (fun j => (hsA g 0) (16 + j)) ps0] [0, 1, 2] 3 (by decide) rfl rfl rfl rfl) ⟨Nat.le_of_ble_eq_true rfl, Nat.le_of_ble_eq_true rfl⟩ rfl hl.1 rfl (Nat.le_of_ble_eq_true rfl) dX11_letter_8 ⟨Nat.le_of_ble_eq_true rfl, Nat.le_of_ble_eq_true rfl⟩ (fun r9 w9 H locs hB hP hD hS => ?_)
    obtain ⟨rfl, rfl⟩ := hB
    refine WG_eq (g2 := F0 m 11 ls [.int r_5]) rfl ?_
    refine lv_if_eq (tgt := 24) hx hb dX11_letter_11 (by decide) (fun c_6 => ?_) (fun c_6 => ?_)
    · replace hf := bc_t hf c_6
      exact J24 xo h0 ps0 _ _ _ hP hD hS (lv_sub hl [0] rfl) hf
    · replace hf := bc_f hf c_6
      refine lv_iload_n hx hb dX11_letter_14 rfl (lv_at hl 3 rfl) ?_
      refine lv_iconst (v := 1) hx hb dX11_letter_15 (by decide) ?_
      refine lv_bipush (v := 9) hx hb dX11_letter_16 (by decide) ?_
      obtain ⟨r_7, hc7, hf⟩ := bd_e hf
      refine call_S (As := [.int v3, .int 1, .int 9]) (rest := []) hx hb hml hown hts hK hP hD hS hA hZ lkX11_75 (Ctr.upL (c_X11_within l G ct sk sv  n v3 1 9 hc7) [lfX ct g xo, lfH ct (hsA g 0) g h0, lfP ct (fun j => (hsA g 0) (16 + j)) ps0] [lfX ct g xo, lfH ct (hsA g 0) g h0, lfP ct (fun j => (hsA g 0) (16 + j)) ps0] [lfX ct g xo, lfH ct (hsA g 0) g h0, lfP ct (fun j => (hsA g 0) (16 + j)) ps0] [0, 1, 2] 3 (by decide) rfl rfl rfl rfl) ⟨Nat.le_of_ble_eq_true rfl, Nat.le_of_ble_eq_true rfl⟩ rfl hl.1 rfl (Nat.le_of_ble_eq_true rfl) dX11_letter_18 ⟨Nat.le_of_ble_eq_true rfl, Nat.le_of_ble_eq_true rfl⟩ (fun r9 w9 H locs hB hP hD hS => ?_)
      obtain ⟨rfl, rfl⟩ := hB
      refine WG_eq (g2 := F0 m 21 ls [.int r_7]) rfl ?_
      refine lv_if_ne (tgt := 29) hx hb dX11_letter_21 (by decide) (fun c_8 => ?_) (fun c_8 => ?_)
      · replace hf := bc_f hf c_8
        refine lv_aload_n hx hb dX11_letter_29 rfl (lv_at hl 0 rfl) ?_
        refine va_get (D := G) (C := RX11) (T := TX11) (N := 11) (v := .ref ((hsA g 0) 0)) hx hb hts iu_X11 hown hK hP 0 rfl rfl 0 (by decide) (hts _ kw262) (fun _ h9 => h9) rfl dX11_letter_30 ?_
        refine va_get (D := G) (C := RX1) (T := TX1) (N := 16) (v := .int (h0.1 1)) hx hb hts iu_X1 hown hK hP 3 rfl rfl 5 (by decide) (hts _ kw137) (fun _ h9 => h9) rfl dX11_letter_33 ?_
        refine lv_bipush (v := 6) hx hb dX11_letter_36 (by decide) ?_
        refine lv_icmp_lt (tgt := 46) hx hb dX11_letter_38 (by decide) (fun c_9 => ?_) (fun c_9 => ?_)
        · replace hf := bc_t hf c_9
          refine lv_aload_n hx hb dX11_letter_46 rfl (lv_at hl 0 rfl) ?_
          refine va_get (D := G) (C := RX11) (T := TX11) (N := 11) (v := .ref ((hsA g 0) 0)) hx hb hts iu_X11 hown hK hP 0 rfl rfl 0 (by decide) (hts _ kw262) (fun _ h9 => h9) rfl dX11_letter_47 ?_
          refine va_get (D := G) (C := RX1) (T := TX1) (N := 16) (v := .ref ((hsA g 0) 16)) hx hb hts iu_X1 hown hK hP 3 rfl rfl 15 (by decide) (hts _ kw162) (fun _ h9 => h9) rfl dX11_letter_50 ?_
          obtain ⟨ps0_10, hc10, hf⟩ := bd_e hf
          refine call_V (As := []) (rest := []) hx hb hml hown hts hK hP hD hS hA hZ lkX11_94 (Ctr.upL (c_X4_makeEmpty l G ct sk sv (fun j => (hsA g 0) (16 + j)) n ps0 hc10) [lfX ct g xo, lfH ct (hsA g 0) g h0] [lfX ct g xo, lfH ct (hsA g 0) g h0, lfP ct (fun j => (hsA g 0) (16 + j)) ps0] [lfX ct g xo, lfH ct (hsA g 0) g h0, lfP ct (fun j => (hsA g 0) (16 + j)) ps0_10] [2, 0, 1] 3 (by decide) rfl rfl rfl rfl) 11 rfl rfl ⟨Nat.le_of_ble_eq_true rfl, Nat.le_of_ble_eq_true rfl⟩ rfl hl.1 rfl (Nat.le_of_ble_eq_true rfl) dX11_letter_53 ⟨Nat.le_of_ble_eq_true rfl, Nat.le_of_ble_eq_true rfl⟩ (fun r9 w9 H locs hB hP hD hS => ?_)
          obtain ⟨rfl, rfl⟩ := hB
          refine WG_eq (g2 := F0 m 56 ls []) rfl ?_
          refine lv_aload_n hx hb dX11_letter_56 rfl (lv_at hl 0 rfl) ?_
          refine va_get (D := G) (C := RX11) (T := TX11) (N := 11) (v := .ref ((hsA g 0) 0)) hx hb hts iu_X11 hown hK hP 0 rfl rfl 0 (by decide) (hts _ kw262) (fun _ h9 => h9) rfl dX11_letter_57 ?_
          refine lv_iload_n hx hb dX11_letter_60 rfl (lv_at hl 1 rfl) ?_
          refine lv_iload_n hx hb dX11_letter_61 rfl (lv_at hl 2 rfl) ?_
          refine lv_iload_n hx hb dX11_letter_62 rfl (lv_at hl 3 rfl) ?_
          obtain ⟨r_11, h0_12, hc12, hf⟩ := bd2_e hf
          refine call_V (As := [.int v1, .int v2, .int v3]) (rest := []) hx hb hml hown hts hK hP hD hS hA hZ lkX11_104 (Ctr.upL (c_X1_addLetter l G ct sk sv (hsA g 0) g n h0 v1 v2 v3 hc12) [lfX ct g xo, lfP ct (fun j => (hsA g 0) (16 + j)) ps0_10] [lfX ct g xo, lfH ct (hsA g 0) g h0, lfP ct (fun j => (hsA g 0) (16 + j)) ps0_10] [lfX ct g xo, lfH ct (hsA g 0) g h0_12, lfP ct (fun j => (hsA g 0) (16 + j)) ps0_10] [1, 0, 2] 3 (by decide) rfl rfl rfl rfl) 3 rfl rfl ⟨Nat.le_of_ble_eq_true rfl, Nat.le_of_ble_eq_true rfl⟩ rfl hl.1 rfl (Nat.le_of_ble_eq_true rfl) dX11_letter_63 ⟨Nat.le_of_ble_eq_true rfl, Nat.le_of_ble_eq_true rfl⟩ (fun r9 w9 H locs hB hP hD hS => ?_)
          obtain ⟨rfl, rfl⟩ := hB
          refine WG_eq (g2 := F0 m 66 ls [.int r_11]) rfl ?_
          obtain ⟨e1, e2, e3, e4⟩ := inj4 (Option.some.inj hf)
          exact end_i (w' := (wl [lfX ct g xo, lfH ct (hsA g 0) g h0_12, lfP ct (fun j => (hsA g 0) (16 + j)) ps0_10])) hx hb hr hlocks hK hP hD hS dX11_letter_66  ⟨by rw [← e1], by rw [← e2, ← e3, ← e4]⟩
        · replace hf := bc_f hf c_9
          refine lv_aload_n hx hb dX11_letter_41 rfl (lv_at hl 0 rfl) ?_
          obtain ⟨r_13, xo_14, hc14, hf⟩ := bd2_e hf
          refine call_V (As := []) (rest := []) hx hb hml hown hts hK hP hD hS hA hZ lkX11_87 (Ctr.upL (c_X11_refuseFull l G ct sk sv g n xo hc14) [lfH ct (hsA g 0) g h0, lfP ct (fun j => (hsA g 0) (16 + j)) ps0] [lfX ct g xo, lfH ct (hsA g 0) g h0, lfP ct (fun j => (hsA g 0) (16 + j)) ps0] [lfX ct g xo_14, lfH ct (hsA g 0) g h0, lfP ct (fun j => (hsA g 0) (16 + j)) ps0] [0, 1, 2] 3 (by decide) rfl rfl rfl rfl) 0 rfl rfl ⟨Nat.le_of_ble_eq_true rfl, Nat.le_of_ble_eq_true rfl⟩ rfl hl.1 rfl (Nat.le_of_ble_eq_true rfl) dX11_letter_42 ⟨Nat.le_of_ble_eq_true rfl, Nat.le_of_ble_eq_true rfl⟩ (fun r9 w9 H locs hB hP hD hS => ?_)
          obtain ⟨rfl, rfl⟩ := hB
          refine WG_eq (g2 := F0 m 45 ls [.int r_13]) rfl ?_
          obtain ⟨e1, e2, e3, e4⟩ := inj4 (Option.some.inj hf)
          exact end_i (w' := (wl [lfX ct g xo_14, lfH ct (hsA g 0) g h0, lfP ct (fun j => (hsA g 0) (16 + j)) ps0])) hx hb hr hlocks hK hP hD hS dX11_letter_45  ⟨by rw [← e1], by rw [← e2, ← e3, ← e4]⟩
      · replace hf := bc_t hf c_8
        exact J24 xo h0 ps0 _ _ _ hP hD hS (lv_sub hl [0] rfl) hf
noncomputable def f_X11_look_j15 (n : Nat) (xo : MV) (h0 : MV) (cv0 : MV) : Option (Int32 × MV) :=
  bd2 (f_X11_refuseBad n xo) fun r_1 xo_2 =>
  some (r_1, xo_2)
noncomputable def f_X11_look (n : Nat) (xo : MV) (h0 : MV) (cv0 : MV) (v1 : Int32) (v2 : Int32) : Option (Int32 × MV) :=
  bd (f_X11_isMember n xo h0 v1) fun r_3 =>
  bc (r_3 = 0) (f_X11_look_j15 n xo h0 cv0)
  (bd (f_X11_isSlipDay n v2) fun r_5 =>
  bc (r_5 = 0) (f_X11_look_j15 n xo h0 cv0)
  (bd (f_X8_onDay n cv0 v1 v2) fun r_7 =>
  bd (f_X1_kindAt n h0 v1) fun i_8 =>
  bd (f_K_reach n i_8 ) fun r_9 =>
  bd (f_X8_nextPlace n cv0 r_7 r_9) fun r_10 =>
  some (r_10, xo)))
set_option maxHeartbeats 4000000 in
set_option maxRecDepth 100000 in
theorem c_X11_look (l : Launch) (G : va_G) (ct : Nat → ClassId) (sk sv : Nat → Nat) (g : Nat → Nat) (n : Nat) (xo : MV) (h0 : MV) (cv0 : MV) (v1 : Int32) (v2 : Int32) {r : Int32} {xo' : MV} (hf : f_X11_look n xo h0 cv0 v1 v2 = some (r, xo')) : Ctr (l, G, ct, sk, sv) mX11_look 4 160 [.ref (g 7), .int v1, .int v2] (wl [lfX ct g xo, lfH ct (hsA g 0) g h0, lfS ct (fun j => (hsA g 0) (8 + j)) cv0, lfK ct g]) (wl [lfX ct g xo', lfH ct (hsA g 0) g h0, lfS ct (fun j => (hsA g 0) (8 + j)) cv0, lfK ct g]) (some (.int r)) := by
  refine ctr_intro (by decide) (Nat.le_of_ble_eq_true rfl) ?_
  intro p e s m args below meth c A C hP hD hS hA ls hl
  obtain ⟨hx, hb, hml, hown, hts, hr, hlocks, hK, hnm, hZ⟩ := C
  have hb : c.code = cX11_look := hb
  have hml : c.maxLocals = 3 := hml
  have hown : s.vm.findClass "SignedOutside" = some m.cls := hown
  have hr : meth.sig.returnType = some .int := hr
  have hP : va_P G classes (wl [lfX ct g xo, lfH ct (hsA g 0) g h0, lfS ct (fun j => (hsA g 0) (8 + j)) cv0, lfK ct g]) s.heap := hP
  have hD : va_D A (wl [lfX ct g xo, lfH ct (hsA g 0) g h0, lfS ct (fun j => (hsA g 0) (8 + j)) cv0, lfK ct g]) := hD
  have hK : va_K G classes (TYS ct) s := hK
  have hl : lv_has ls 3 [(0, .ref (g 7)), (1, .int v1), (2, .int v2)] := hl
  have J15 : ∀ (xo : MV) (H : Heap) (locs : List Loc) (ls : Array Slot), va_P G classes (wl [lfX ct g xo, lfH ct (hsA g 0) g h0, lfS ct (fun j => (hsA g 0) (8 + j)) cv0, lfK ct g]) H → va_D A (wl [lfX ct g xo, lfH ct (hsA g 0) g h0, lfS ct (fun j => (hsA g 0) (8 + j)) cv0, lfK ct g]) → va_S A s.heap H locs → lv_has ls 3 [(0, .ref (g 7))] → f_X11_look_j15 n xo h0 cv0 = some (r, xo') → WG l G ct sk sv p e (RM 4 160 0 0) s m args below meth c A (Eq2 (some (.int r)) (wl [lfX ct g xo', lfH ct (hsA g 0) g h0, lfS ct (fun j => (hsA g 0) (8 + j)) cv0, lfK ct g])) H locs (F0 m 15 ls []) := by
    intro xo H locs ls hP hD hS hl hf
    unfold f_X11_look_j15 at hf
    refine lv_aload_n hx hb dX11_look_15 rfl (lv_at hl 0 rfl) ?_
    obtain ⟨r_1, xo_2, hc2, hf⟩ := bd2_e hf
    refine call_V (As := []) (rest := []) hx hb hml hown hts hK hP hD hS hA hZ lkX11_83 (Ctr.upL (c_X11_refuseBad l G ct sk sv g n xo hc2) [lfH ct (hsA g 0) g h0, lfS ct (fun j => (hsA g 0) (8 + j)) cv0, lfK ct g] [lfX ct g xo, lfH ct (hsA g 0) g h0, lfS ct (fun j => (hsA g 0) (8 + j)) cv0, lfK ct g] [lfX ct g xo_2, lfH ct (hsA g 0) g h0, lfS ct (fun j => (hsA g 0) (8 + j)) cv0, lfK ct g] [0, 1, 2, 3] 4 (by decide) rfl rfl rfl rfl) 0 rfl rfl ⟨Nat.le_of_ble_eq_true rfl, Nat.le_of_ble_eq_true rfl⟩ rfl hl.1 rfl (Nat.le_of_ble_eq_true rfl) dX11_look_16 ⟨Nat.le_of_ble_eq_true rfl, Nat.le_of_ble_eq_true rfl⟩ (fun r9 w9 H locs hB hP hD hS => ?_)
    obtain ⟨rfl, rfl⟩ := hB
    refine WG_eq (g2 := F0 m 19 ls [.int r_1]) rfl ?_
    obtain ⟨e1, e2⟩ := inj2 (Option.some.inj hf)
    exact end_i (w' := (wl [lfX ct g xo_2, lfH ct (hsA g 0) g h0, lfS ct (fun j => (hsA g 0) (8 + j)) cv0, lfK ct g])) hx hb hr hlocks hK hP hD hS dX11_look_19  ⟨by rw [← e1], by rw [← e2]⟩
  unfold f_X11_look at hf
  show WG l G ct sk sv p e (RM 4 160 0 0) s m args below meth c A (Eq2 (some (.int r)) (wl [lfX ct g xo', lfH ct (hsA g 0) g h0, lfS ct (fun j => (hsA g 0) (8 + j)) cv0, lfK ct g])) s.heap [] (F0 m 0 ls [])
  refine lv_aload_n hx hb dX11_look_0 rfl (lv_at hl 0 rfl) ?_
  refine lv_iload_n hx hb dX11_look_1 rfl (lv_at hl 1 rfl) ?_
  obtain ⟨r_3, hc3, hf⟩ := bd_e hf
  refine call_V (As := [.int v1]) (rest := []) hx hb hml hown hts hK hP hD hS hA hZ lkX11_128 (Ctr.upL (c_X11_isMember l G ct sk sv g n xo h0 v1 hc3) [lfS ct (fun j => (hsA g 0) (8 + j)) cv0, lfK ct g] [lfX ct g xo, lfH ct (hsA g 0) g h0, lfS ct (fun j => (hsA g 0) (8 + j)) cv0, lfK ct g] [lfX ct g xo, lfH ct (hsA g 0) g h0, lfS ct (fun j => (hsA g 0) (8 + j)) cv0, lfK ct g] [0, 1, 2, 3] 4 (by decide) rfl rfl rfl rfl) 0 rfl rfl ⟨Nat.le_of_ble_eq_true rfl, Nat.le_of_ble_eq_true rfl⟩ rfl hl.1 rfl (Nat.le_of_ble_eq_true rfl) dX11_look_2 ⟨Nat.le_of_ble_eq_true rfl, Nat.le_of_ble_eq_true rfl⟩ (fun r9 w9 H locs hB hP hD hS => ?_)
  obtain ⟨rfl, rfl⟩ := hB
  refine WG_eq (g2 := F0 m 5 ls [.int r_3]) rfl ?_
  refine lv_if_eq (tgt := 15) hx hb dX11_look_5 (by decide) (fun c_4 => ?_) (fun c_4 => ?_)
  · replace hf := bc_t hf c_4
    exact J15 xo _ _ _ hP hD hS (lv_sub hl [0] rfl) hf
  · replace hf := bc_f hf c_4
    refine lv_iload_n hx hb dX11_look_8 rfl (lv_at hl 2 rfl) ?_
    obtain ⟨r_5, hc5, hf⟩ := bd_e hf
    refine call_S (As := [.int v2]) (rest := []) hx hb hml hown hts hK hP hD hS hA hZ lkX11_247 (Ctr.upL (c_X11_isSlipDay l G ct sk sv  n v2 hc5) [lfX ct g xo, lfH ct (hsA g 0) g h0, lfS ct (fun j => (hsA g 0) (8 + j)) cv0, lfK ct g] [lfX ct g xo, lfH ct (hsA g 0) g h0, lfS ct (fun j => (hsA g 0) (8 + j)) cv0, lfK ct g] [lfX ct g xo, lfH ct (hsA g 0) g h0, lfS ct (fun j => (hsA g 0) (8 + j)) cv0, lfK ct g] [0, 1, 2, 3] 4 (by decide) rfl rfl rfl rfl) ⟨Nat.le_of_ble_eq_true rfl, Nat.le_of_ble_eq_true rfl⟩ rfl hl.1 rfl (Nat.le_of_ble_eq_true rfl) dX11_look_9 ⟨Nat.le_of_ble_eq_true rfl, Nat.le_of_ble_eq_true rfl⟩ (fun r9 w9 H locs hB hP hD hS => ?_)
    obtain ⟨rfl, rfl⟩ := hB
    refine WG_eq (g2 := F0 m 12 ls [.int r_5]) rfl ?_
    refine lv_if_ne (tgt := 20) hx hb dX11_look_12 (by decide) (fun c_6 => ?_) (fun c_6 => ?_)
    · replace hf := bc_f hf c_6
      refine lv_aload_n hx hb dX11_look_20 rfl (lv_at hl 0 rfl) ?_
      refine va_get (D := G) (C := RX11) (T := TX11) (N := 11) (v := .ref ((hsA g 0) 0)) hx hb hts iu_X11 hown hK hP 0 rfl rfl 0 (by decide) (hts _ kw262) (fun _ h9 => h9) rfl dX11_look_21 ?_
      refine va_get (D := G) (C := RX1) (T := TX1) (N := 16) (v := .ref ((hsA g 0) 8)) hx hb hts iu_X1 hown hK hP 3 rfl rfl 13 (by decide) (hts _ kw158) (fun _ h9 => h9) rfl dX11_look_24 ?_
      refine lv_aload_n hx hb dX11_look_27 rfl (lv_at hl 0 rfl) ?_
      refine va_get (D := G) (C := RX11) (T := TX11) (N := 11) (v := .ref ((hsA g 0) 0)) hx hb hts iu_X11 hown hK hP 0 rfl rfl 0 (by decide) (hts _ kw262) (fun _ h9 => h9) rfl dX11_look_28 ?_
      refine va_get (D := G) (C := RX1) (T := TX1) (N := 16) (v := .ref ((hsA g 0) 8)) hx hb hts iu_X1 hown hK hP 3 rfl rfl 13 (by decide) (hts _ kw158) (fun _ h9 => h9) rfl dX11_look_31 ?_
      refine lv_iload_n hx hb dX11_look_34 rfl (lv_at hl 1 rfl) ?_
      refine lv_iload_n hx hb dX11_look_35 rfl (lv_at hl 2 rfl) ?_
      obtain ⟨r_7, hc7, hf⟩ := bd_e hf
      refine call_V (As := [.int v1, .int v2]) (rest := [.ref ((hsA g 0) 8)]) hx hb hml hown hts hK hP hD hS hA hZ lkX11_265 (Ctr.upL (c_X8_onDay l G ct sk sv (fun j => (hsA g 0) (8 + j)) n cv0 v1 v2 hc7) [lfX ct g xo, lfH ct (hsA g 0) g h0, lfK ct g] [lfX ct g xo, lfH ct (hsA g 0) g h0, lfS ct (fun j => (hsA g 0) (8 + j)) cv0, lfK ct g] [lfX ct g xo, lfH ct (hsA g 0) g h0, lfS ct (fun j => (hsA g 0) (8 + j)) cv0, lfK ct g] [2, 0, 1, 3] 4 (by decide) rfl rfl rfl rfl) 11 rfl rfl ⟨Nat.le_of_ble_eq_true rfl, Nat.le_of_ble_eq_true rfl⟩ rfl hl.1 rfl (Nat.le_of_ble_eq_true rfl) dX11_look_36 ⟨Nat.le_of_ble_eq_true rfl, Nat.le_of_ble_eq_true rfl⟩ (fun r9 w9 H locs hB hP hD hS => ?_)
      obtain ⟨rfl, rfl⟩ := hB
      refine WG_eq (g2 := F0 m 39 ls [.int r_7, .ref ((hsA g 0) 8)]) rfl ?_
      refine lv_aload_n hx hb dX11_look_39 rfl (lv_at hl 0 rfl) ?_
      refine va_get (D := G) (C := RX11) (T := TX11) (N := 11) (v := .ref ((hsA g 0) 0)) hx hb hts iu_X11 hown hK hP 0 rfl rfl 0 (by decide) (hts _ kw262) (fun _ h9 => h9) rfl dX11_look_40 ?_
      refine lv_iload_n hx hb dX11_look_43 rfl (lv_at hl 1 rfl) ?_
      obtain ⟨i_8, hc8, hf⟩ := bd_e hf
      refine call_V (As := [.int v1]) (rest := [.int r_7, .ref ((hsA g 0) 8)]) hx hb hml hown hts hK hP hD hS hA hZ lkX11_170 (Ctr.upL (c_X1_kindAt l G ct sk sv (hsA g 0) g n h0 v1 hc8) [lfX ct g xo, lfS ct (fun j => (hsA g 0) (8 + j)) cv0] [lfX ct g xo, lfH ct (hsA g 0) g h0, lfS ct (fun j => (hsA g 0) (8 + j)) cv0, lfK ct g] [lfX ct g xo, lfH ct (hsA g 0) g h0, lfS ct (fun j => (hsA g 0) (8 + j)) cv0, lfK ct g] [1, 3, 0, 2] 4 (by decide) rfl rfl rfl rfl) 3 rfl rfl ⟨Nat.le_of_ble_eq_true rfl, Nat.le_of_ble_eq_true rfl⟩ rfl hl.1 rfl (Nat.le_of_ble_eq_true rfl) dX11_look_44 ⟨Nat.le_of_ble_eq_true rfl, Nat.le_of_ble_eq_true rfl⟩ (fun r9 w9 H locs hB hP hD hS => ?_)
      obtain ⟨rfl, rfl⟩ := hB
      refine WG_eq (g2 := F0 m 47 ls [.ref (g (1 + i_8)), .int r_7, .ref ((hsA g 0) 8)]) rfl ?_
      obtain ⟨r_9, hc9, hf⟩ := bd_e hf
      refine disp_X11_183 n (k := g) i_8 hx hb hml hown hts hK hP hD hS hA hZ hc9 16 rfl rfl rfl rfl rfl rfl (Nat.le_of_ble_eq_true rfl) (Nat.le_of_ble_eq_true rfl) hl.1 (Nat.le_of_ble_eq_true rfl) dX11_look_47 ⟨Nat.zero_le _, Nat.zero_le _⟩ (fun H locs hP hD hS => ?_)
      refine WG_eq (g2 := F0 m 50 ls [.int r_9, .int r_7, .ref ((hsA g 0) 8)]) rfl ?_
      obtain ⟨r_10, hc10, hf⟩ := bd_e hf
      refine call_V (As := [.int r_7, .int r_9]) (rest := []) hx hb hml hown hts hK hP hD hS hA hZ lkX11_274 (Ctr.upL (c_X8_nextPlace l G ct sk sv (fun j => (hsA g 0) (8 + j)) n cv0 r_7 r_9 hc10) [lfX ct g xo, lfH ct (hsA g 0) g h0, lfK ct g] [lfX ct g xo, lfH ct (hsA g 0) g h0, lfS ct (fun j => (hsA g 0) (8 + j)) cv0, lfK ct g] [lfX ct g xo, lfH ct (hsA g 0) g h0, lfS ct (fun j => (hsA g 0) (8 + j)) cv0, lfK ct g] [2, 0, 1, 3] 4 (by decide) rfl rfl rfl rfl) 11 rfl rfl ⟨Nat.le_of_ble_eq_true rfl, Nat.le_of_ble_eq_true rfl⟩ rfl hl.1 rfl (Nat.le_of_ble_eq_true rfl) dX11_look_50 ⟨Nat.le_of_ble_eq_true rfl, Nat.le_of_ble_eq_true rfl⟩ (fun r9 w9 H locs hB hP hD hS => ?_)
      obtain ⟨rfl, rfl⟩ := hB
      refine WG_eq (g2 := F0 m 53 ls [.int r_10]) rfl ?_
      obtain ⟨e1, e2⟩ := inj2 (Option.some.inj hf)
      exact end_i (w' := (wl [lfX ct g xo, lfH ct (hsA g 0) g h0, lfS ct (fun j => (hsA g 0) (8 + j)) cv0, lfK ct g])) hx hb hr hlocks hK hP hD hS dX11_look_53  ⟨by rw [← e1], by rw [← e2]⟩
    · replace hf := bc_t hf c_6
      exact J15 xo _ _ _ hP hD hS (lv_sub hl [0] rfl) hf
noncomputable def f_X11_may (n : Nat) (xo : MV) (h0 : MV) (v1 : Int32) : Option (Int32 × MV) :=
  bd (f_X11_isLetter n xo h0 v1) fun r_1 =>
  bc (r_1 = 0) (bd2 (f_X11_refuseBad n xo) fun r_4 xo_5 =>
  some (r_4, xo_5))
  (bd (f_X1_whoMayFrank n h0 v1) fun r_3 =>
  some (r_3, xo))
set_option maxHeartbeats 4000000 in
set_option maxRecDepth 100000 in
theorem c_X11_may (l : Launch) (G : va_G) (ct : Nat → ClassId) (sk sv : Nat → Nat) (g : Nat → Nat) (n : Nat) (xo : MV) (h0 : MV) (v1 : Int32) {r : Int32} {xo' : MV} (hf : f_X11_may n xo h0 v1 = some (r, xo')) : Ctr (l, G, ct, sk, sv) mX11_may 7 229 [.ref (g 7), .int v1] (wl [lfX ct g xo, lfH ct (hsA g 0) g h0, lfK ct g]) (wl [lfX ct g xo', lfH ct (hsA g 0) g h0, lfK ct g]) (some (.int r)) := by
  refine ctr_intro (by decide) (Nat.le_of_ble_eq_true rfl) ?_
  intro p e s m args below meth c A C hP hD hS hA ls hl
  obtain ⟨hx, hb, hml, hown, hts, hr, hlocks, hK, hnm, hZ⟩ := C
  have hb : c.code = cX11_may := hb
  have hml : c.maxLocals = 2 := hml
  have hown : s.vm.findClass "SignedOutside" = some m.cls := hown
  have hr : meth.sig.returnType = some .int := hr
  have hP : va_P G classes (wl [lfX ct g xo, lfH ct (hsA g 0) g h0, lfK ct g]) s.heap := hP
  have hD : va_D A (wl [lfX ct g xo, lfH ct (hsA g 0) g h0, lfK ct g]) := hD
  have hK : va_K G classes (TYS ct) s := hK
  have hl : lv_has ls 2 [(0, .ref (g 7)), (1, .int v1)] := hl
  unfold f_X11_may at hf
  show WG l G ct sk sv p e (RM 7 229 0 0) s m args below meth c A (Eq2 (some (.int r)) (wl [lfX ct g xo', lfH ct (hsA g 0) g h0, lfK ct g])) s.heap [] (F0 m 0 ls [])
  refine lv_aload_n hx hb dX11_may_0 rfl (lv_at hl 0 rfl) ?_
  refine lv_iload_n hx hb dX11_may_1 rfl (lv_at hl 1 rfl) ?_
  obtain ⟨r_1, hc1, hf⟩ := bd_e hf
  refine call_V (As := [.int v1]) (rest := []) hx hb hml hown hts hK hP hD hS hA hZ lkX11_125 (Ctr.upL (c_X11_isLetter l G ct sk sv g n xo h0 v1 hc1) [lfK ct g] [lfX ct g xo, lfH ct (hsA g 0) g h0, lfK ct g] [lfX ct g xo, lfH ct (hsA g 0) g h0, lfK ct g] [0, 1, 2] 3 (by decide) rfl rfl rfl rfl) 0 rfl rfl ⟨Nat.le_of_ble_eq_true rfl, Nat.le_of_ble_eq_true rfl⟩ rfl hl.1 rfl (Nat.le_of_ble_eq_true rfl) dX11_may_2 ⟨Nat.le_of_ble_eq_true rfl, Nat.le_of_ble_eq_true rfl⟩ (fun r9 w9 H locs hB hP hD hS => ?_)
  obtain ⟨rfl, rfl⟩ := hB
  refine WG_eq (g2 := F0 m 5 ls [.int r_1]) rfl ?_
  refine lv_if_ne (tgt := 13) hx hb dX11_may_5 (by decide) (fun c_2 => ?_) (fun c_2 => ?_)
  · replace hf := bc_f hf c_2
    refine lv_aload_n hx hb dX11_may_13 rfl (lv_at hl 0 rfl) ?_
    refine va_get (D := G) (C := RX11) (T := TX11) (N := 11) (v := .ref ((hsA g 0) 0)) hx hb hts iu_X11 hown hK hP 0 rfl rfl 0 (by decide) (hts _ kw262) (fun _ h9 => h9) rfl dX11_may_14 ?_
    refine lv_iload_n hx hb dX11_may_17 rfl (lv_at hl 1 rfl) ?_
    obtain ⟨r_3, hc3, hf⟩ := bd_e hf
    refine call_V (As := [.int v1]) (rest := []) hx hb hml hown hts hK hP hD hS hA hZ lkX11_213 (Ctr.upL (c_X1_whoMayFrank l G ct sk sv (hsA g 0) g n h0 v1 hc3) [lfX ct g xo] [lfX ct g xo, lfH ct (hsA g 0) g h0, lfK ct g] [lfX ct g xo, lfH ct (hsA g 0) g h0, lfK ct g] [1, 2, 0] 3 (by decide) rfl rfl rfl rfl) 3 rfl rfl ⟨Nat.le_of_ble_eq_true rfl, Nat.le_of_ble_eq_true rfl⟩ rfl hl.1 rfl (Nat.le_of_ble_eq_true rfl) dX11_may_18 ⟨Nat.le_of_ble_eq_true rfl, Nat.le_of_ble_eq_true rfl⟩ (fun r9 w9 H locs hB hP hD hS => ?_)
    obtain ⟨rfl, rfl⟩ := hB
    refine WG_eq (g2 := F0 m 21 ls [.int r_3]) rfl ?_
    obtain ⟨e1, e2⟩ := inj2 (Option.some.inj hf)
    exact end_i (w' := (wl [lfX ct g xo, lfH ct (hsA g 0) g h0, lfK ct g])) hx hb hr hlocks hK hP hD hS dX11_may_21  ⟨by rw [← e1], by rw [← e2]⟩
  · replace hf := bc_t hf c_2
    refine lv_aload_n hx hb dX11_may_8 rfl (lv_at hl 0 rfl) ?_
    obtain ⟨r_4, xo_5, hc5, hf⟩ := bd2_e hf
    refine call_V (As := []) (rest := []) hx hb hml hown hts hK hP hD hS hA hZ lkX11_83 (Ctr.upL (c_X11_refuseBad l G ct sk sv g n xo hc5) [lfH ct (hsA g 0) g h0, lfK ct g] [lfX ct g xo, lfH ct (hsA g 0) g h0, lfK ct g] [lfX ct g xo_5, lfH ct (hsA g 0) g h0, lfK ct g] [0, 1, 2] 3 (by decide) rfl rfl rfl rfl) 0 rfl rfl ⟨Nat.le_of_ble_eq_true rfl, Nat.le_of_ble_eq_true rfl⟩ rfl hl.1 rfl (Nat.le_of_ble_eq_true rfl) dX11_may_9 ⟨Nat.le_of_ble_eq_true rfl, Nat.le_of_ble_eq_true rfl⟩ (fun r9 w9 H locs hB hP hD hS => ?_)
    obtain ⟨rfl, rfl⟩ := hB
    refine WG_eq (g2 := F0 m 12 ls [.int r_4]) rfl ?_
    obtain ⟨e1, e2⟩ := inj2 (Option.some.inj hf)
    exact end_i (w' := (wl [lfX ct g xo_5, lfH ct (hsA g 0) g h0, lfK ct g])) hx hb hr hlocks hK hP hD hS dX11_may_12  ⟨by rw [← e1], by rw [← e2]⟩
