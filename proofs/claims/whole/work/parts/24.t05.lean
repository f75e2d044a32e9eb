noncomputable def f_X11_penny (n : Nat) (xo : MV) (h0 : MV) : Option (Int32 × MV) :=
  bd (f_X1_postageOfEvery n h0) fun r_1 =>
  bd (f_X1_weightOfEvery n h0) fun r_2 =>
  bc (0 < r_2) (bd (f_X11_setFraction n xo ((r_1 : Int32).toInt64) ((r_2 : Int32).toInt64)) fun xo_4 =>
  gd (¬ r_2 = 0) <|
  some (((r_1 + r_2) - 1) / r_2, xo_4))
  (bd (f_X11_setFraction n xo 0 1) fun xo_6 =>
  some (0, xo_6))
set_option maxHeartbeats 4000000 in
set_option maxRecDepth 100000 in
theorem c_X11_penny (l : Launch) (G : va_G) (ct : Nat → ClassId) (sk sv : Nat → Nat) (g : Nat → Nat) (n : Nat) (xo : MV) (h0 : MV) {r : Int32} {xo' : MV} (hf : f_X11_penny n xo h0 = some (r, xo')) : Ctr (l, G, ct, sk, sv) mX11_penny 3 107 [.ref (g 7)] (wl [lfX ct g xo, lfH ct (hsA g 0) g h0]) (wl [lfX ct g xo', lfH ct (hsA g 0) g h0]) (some (.int r)) := by
  refine ctr_intro (by decide) (Nat.le_of_ble_eq_true rfl) ?_
  intro p e s m args below meth c A C hP hD hS hA ls hl
  obtain ⟨hx, hb, hml, hown, hts, hr, hlocks, hK, hnm, hZ⟩ := C
  have hb : c.code = cX11_penny := hb
  have hml : c.maxLocals = 3 := hml
  have hown : s.vm.findClass "SignedOutside" = some m.cls := hown
  have hr : meth.sig.returnType = some .int := hr
  have hP : va_P G classes (wl [lfX ct g xo, lfH ct (hsA g 0) g h0]) s.heap := hP
  have hD : va_D A (wl [lfX ct g xo, lfH ct (hsA g 0) g h0]) := hD
  have hK : va_K G classes (TYS ct) s := hK
  have hl : lv_has ls 3 [(0, .ref (g 7))] := hl
  unfold f_X11_penny at hf
  show WG l G ct sk sv p e (RM 3 107 0 0) s m args below meth c A (Eq2 (some (.int r)) (wl [lfX ct g xo', lfH ct (hsA g 0) g h0])) s.heap [] (F0 m 0 ls [])
  refine lv_aload_n hx hb dX11_penny_0 rfl (lv_at hl 0 rfl) ?_
  refine va_get (D := G) (C := RX11) (T := TX11) (N := 11) (v := .ref ((hsA g 0) 0)) hx hb hts iu_X11 hown hK hP 0 rfl rfl 0 (by decide) (hts _ kw262) (fun _ h9 => h9) rfl dX11_penny_1 ?_
  obtain ⟨r_1, hc1, hf⟩ := bd_e hf
  refine call_V (As := []) (rest := []) hx hb hml hown hts hK hP hD hS hA hZ lkX11_237 (Ctr.upL (c_X1_postageOfEvery l G ct sk sv (hsA g 0) g n h0 hc1) [lfX ct g xo] [lfX ct g xo, lfH ct (hsA g 0) g h0] [lfX ct g xo, lfH ct (hsA g 0) g h0] [1, 0] 2 (by decide) rfl rfl rfl rfl) 3 rfl rfl ⟨Nat.le_of_ble_eq_true rfl, Nat.le_of_ble_eq_true rfl⟩ rfl hl.1 rfl (Nat.le_of_ble_eq_true rfl) dX11_penny_4 ⟨Nat.le_of_ble_eq_true rfl, Nat.le_of_ble_eq_true rfl⟩ (fun r9 w9 H locs hB hP hD hS => ?_)
  obtain ⟨rfl, rfl⟩ := hB
  refine WG_eq (g2 := F0 m 7 ls [.int r_1]) rfl ?_
  refine lv_istore_n (lv' := [(1, .int r_1), (0, .ref (g 7))]) hx hb dX11_penny_7 rfl hl (by decide) rfl (fun ls hl => ?_)
  refine lv_aload_n hx hb dX11_penny_8 rfl (lv_at hl 1 rfl) ?_
  refine va_get (D := G) (C := RX11) (T := TX11) (N := 11) (v := .ref ((hsA g 0) 0)) hx hb hts iu_X11 hown hK hP 0 rfl rfl 0 (by decide) (hts _ kw262) (fun _ h9 => h9) rfl dX11_penny_9 ?_
  obtain ⟨r_2, hc2, hf⟩ := bd_e hf
  refine call_V (As := []) (rest := []) hx hb hml hown hts hK hP hD hS hA hZ lkX11_240 (Ctr.upL (c_X1_weightOfEvery l G ct sk sv (hsA g 0) g n h0 hc2) [lfX ct g xo] [lfX ct g xo, lfH ct (hsA g 0) g h0] [lfX ct g xo, lfH ct (hsA g 0) g h0] [1, 0] 2 (by decide) rfl rfl rfl rfl) 3 rfl rfl ⟨Nat.le_of_ble_eq_true rfl, Nat.le_of_ble_eq_true rfl⟩ rfl hl.1 rfl (Nat.le_of_ble_eq_true rfl) dX11_penny_12 ⟨Nat.le_of_ble_eq_true rfl, Nat.le_of_ble_eq_true rfl⟩ (fun r9 w9 H locs hB hP hD hS => ?_)
  obtain ⟨rfl, rfl⟩ := hB
  refine WG_eq (g2 := F0 m 15 ls [.int r_2]) rfl ?_
  refine lv_istore_n (lv' := [(2, .int r_2), (1, .int r_1), (0, .ref (g 7))]) hx hb dX11_penny_15 rfl hl (by decide) rfl (fun ls hl => ?_)
  refine lv_iload_n hx hb dX11_penny_16 rfl (lv_at hl 0 rfl) ?_
  refine lv_if_gt (tgt := 28) hx hb dX11_penny_17 (by decide) (fun c_3 => ?_) (fun c_3 => ?_)
  · replace hf := bc_t hf c_3
    refine lv_aload_n hx hb dX11_penny_28 rfl (lv_at hl 2 rfl) ?_
    refine lv_iload_n hx hb dX11_penny_29 rfl (lv_at hl 1 rfl) ?_
    refine lv_i2l (v := (r_1 : Int32).toInt64) hx hb dX11_penny_30 rfl ?_
    refine lv_iload_n hx hb dX11_penny_31 rfl (lv_at hl 0 rfl) ?_
    refine lv_i2l (v := (r_2 : Int32).toInt64) hx hb dX11_penny_32 rfl ?_
    obtain ⟨xo_4, hc4, hf⟩ := bd_e hf
    refine call_V (As := [.long ((r_1 : Int32).toInt64), .long ((r_2 : Int32).toInt64)]) (rest := []) hx hb hml hown hts hK hP hD hS hA hZ lkX11_243 (Ctr.upL (c_X11_setFraction l G ct sk sv g n xo ((r_1 : Int32).toInt64) ((r_2 : Int32).toInt64) hc4) [lfH ct (hsA g 0) g h0] [lfX ct g xo, lfH ct (hsA g 0) g h0] [lfX ct g xo_4, lfH ct (hsA g 0) g h0] [0, 1] 2 (by decide) rfl rfl rfl rfl) 0 rfl rfl ⟨Nat.le_of_ble_eq_true rfl, Nat.le_of_ble_eq_true rfl⟩ rfl hl.1 rfl (Nat.le_of_ble_eq_true rfl) dX11_penny_33 ⟨Nat.le_of_ble_eq_true rfl, Nat.le_of_ble_eq_true rfl⟩ (fun r9 w9 H locs hB hP hD hS => ?_)
    obtain ⟨rfl, rfl⟩ := hB
    refine WG_eq (g2 := F0 m 36 ls []) rfl ?_
    refine lv_iload_n hx hb dX11_penny_36 rfl (lv_at hl 1 rfl) ?_
    refine lv_iload_n hx hb dX11_penny_37 rfl (lv_at hl 0 rfl) ?_
    refine lv_iadd hx hb dX11_penny_38 ?_
    refine lv_iconst (v := 1) hx hb dX11_penny_39 (by decide) ?_
    refine lv_isub hx hb dX11_penny_40 ?_
    refine lv_iload_n hx hb dX11_penny_41 rfl (lv_at hl 0 rfl) ?_
    obtain ⟨g_5, hf⟩ := gd_e hf
    refine lv_idiv hx hb dX11_penny_42 g_5 ?_
    obtain ⟨e1, e2⟩ := inj2 (Option.some.inj hf)
    exact end_i (w' := (wl [lfX ct g xo_4, lfH ct (hsA g 0) g h0])) hx hb hr hlocks hK hP hD hS dX11_penny_43  ⟨by rw [← e1], by rw [← e2]⟩
  · replace hf := bc_f hf c_3
    refine lv_aload_n hx hb dX11_penny_20 rfl (lv_at hl 2 rfl) ?_
    refine lv_lconst (v := 0) hx hb dX11_penny_21 (by decide) ?_
    refine lv_lconst (v := 1) hx hb dX11_penny_22 (by decide) ?_
    obtain ⟨xo_6, hc6, hf⟩ := bd_e hf
    refine call_V (As := [.long 0, .long 1]) (rest := []) hx hb hml hown hts hK hP hD hS hA hZ lkX11_243 (Ctr.upL (c_X11_setFraction l G ct sk sv g n xo 0 1 hc6) [lfH ct (hsA g 0) g h0] [lfX ct g xo, lfH ct (hsA g 0) g h0] [lfX ct g xo_6, lfH ct (hsA g 0) g h0] [0, 1] 2 (by decide) rfl rfl rfl rfl) 0 rfl rfl ⟨Nat.le_of_ble_eq_true rfl, Nat.le_of_ble_eq_true rfl⟩ rfl hl.1 rfl (Nat.le_of_ble_eq_true rfl) dX11_penny_23 ⟨Nat.le_of_ble_eq_true rfl, Nat.le_of_ble_eq_true rfl⟩ (fun r9 w9 H locs hB hP hD hS => ?_)
    obtain ⟨rfl, rfl⟩ := hB
    refine WG_eq (g2 := F0 m 26 ls []) rfl ?_
    refine lv_iconst (v := 0) hx hb dX11_penny_26 (by decide) ?_
    obtain ⟨e1, e2⟩ := inj2 (Option.some.inj hf)
    exact end_i (w' := (wl [lfX ct g xo_6, lfH ct (hsA g 0) g h0])) hx hb hr hlocks hK hP hD hS dX11_penny_27  ⟨by rw [← e1], by rw [← e2]⟩
noncomputable def f_X11_read (n : Nat) (xo : MV) (rv : MV) (h0 : MV) (h1 : MV) (nt0 : MV) (cv0 : MV) (nt1 : MV) (cv1 : MV) (ps0 : MV) (ps1 : MV) : Option (Int32 × MV × MV × MV × MV × MV × MV × MV × MV × MV) :=
  bd4 (f_X1_makeEmpty n h1 nt1 cv1 ps1) fun h1_1 nt1_2 cv1_3 ps1_4 =>
  bd3 (f_X6_readInto n rv h1_1) fun r_5 rv_6 h1_7 =>
  bc (r_5 = (-1)) (some ((-10) - (rv_6.1 2), rv_6, h0, h1_7, nt0, cv0, nt1_2, cv1_3, ps0, ps1_4))
  (bd4 (f_X1_takeOver n h0 h1_7 nt0 cv0 nt1_2 cv1_3 ps0 ps1_4) fun h0_9 nt0_10 cv0_11 ps0_12 =>
  some (r_5, rv_6, h0_9, h1_7, nt0_10, cv0_11, nt1_2, cv1_3, ps0_12, ps1_4))
set_option maxHeartbeats 4000000 in
set_option maxRecDepth 100000 in
theorem c_X11_read (l : Launch) (G : va_G) (ct : Nat → ClassId) (sk sv : Nat → Nat) (g : Nat → Nat) (n : Nat) (xo : MV) (rv : MV) (h0 : MV) (h1 : MV) (nt0 : MV) (cv0 : MV) (nt1 : MV) (cv1 : MV) (ps0 : MV) (ps1 : MV) {r : Int32} {rv' : MV} {h0' : MV} {h1' : MV} {nt0' : MV} {cv0' : MV} {nt1' : MV} {cv1' : MV} {ps0' : MV} {ps1' : MV} (hf : f_X11_read n xo rv h0 h1 nt0 cv0 nt1 cv1 ps0 ps1 = some (r, rv', h0', h1', nt0', cv0', nt1', cv1', ps0', ps1')) : Ctr (l, G, ct, sk, sv) mX11_read 8 252 [.ref (g 7)] (wl [lfX ct g xo, lfR ct (fun j => g (18 + j)) rv, lfH ct (hsA g 0) g h0, lfH ct (hsA g 1) g h1, lfS ct (fun j => (hsA g 0) (12 + j)) nt0, lfS ct (fun j => (hsA g 0) (8 + j)) cv0, lfS ct (fun j => (hsA g 1) (12 + j)) nt1, lfS ct (fun j => (hsA g 1) (8 + j)) cv1, lfP ct (fun j => (hsA g 0) (16 + j)) ps0, lfP ct (fun j => (hsA g 1) (16 + j)) ps1, lfK ct g]) (wl [lfX ct g xo, lfR ct (fun j => g (18 + j)) rv', lfH ct (hsA g 0) g h0', lfH ct (hsA g 1) g h1', lfS ct (fun j => (hsA g 0) (12 + j)) nt0', lfS ct (fun j => (hsA g 0) (8 + j)) cv0', lfS ct (fun j => (hsA g 1) (12 + j)) nt1', lfS ct (fun j => (hsA g 1) (8 + j)) cv1', lfP ct (fun j => (hsA g 0) (16 + j)) ps0', lfP ct (fun j => (hsA g 1) (16 + j)) ps1', lfK ct g]) (some (.int r)) := by
  refine ctr_intro (by decide) (Nat.le_of_ble_eq_true rfl) ?_
  intro p e s m args below meth c A C hP hD hS hA ls hl
  obtain ⟨hx, hb, hml, hown, hts, hr, hlocks, hK, hnm, hZ⟩ := C
  have hb : c.code = cX11_read := hb
  have hml : c.maxLocals = 2 := hml
  have hown : s.vm.findClass "SignedOutside" = some m.cls := hown
  have hr : meth.sig.returnType = some .int := hr
  have hP : va_P G classes (wl [lfX ct g xo, lfR ct (fun j => g (18 + j)) rv, lfH ct (hsA g 0) g h0, lfH ct (hsA g 1) g h1, lfS ct (fun j => (hsA g 0) (12 + j)) nt0, lfS ct (fun j => (hsA g 0) (8 + j)) cv0, lfS ct (fun j => (hsA g 1) (12 + j)) nt1, lfS ct (fun j => (hsA g 1) (8 + j)) cv1, lfP ct (fun j => (hsA g 0) (16 + j)) ps0, lfP ct (fun j => (hsA g 1) (16 + j)) ps1, lfK ct g]) s.heap := hP
  have hD : va_D A (wl [lfX ct g xo, lfR ct (fun j => g (18 + j)) rv, lfH ct (hsA g 0) g h0, lfH ct (hsA g 1) g h1, lfS ct (fun j => (hsA g 0) (12 + j)) nt0, lfS ct (fun j => (hsA g 0) (8 + j)) cv0, lfS ct (fun j => (hsA g 1) (12 + j)) nt1, lfS ct (fun j => (hsA g 1) (8 + j)) cv1, lfP ct (fun j => (hsA g 0) (16 + j)) ps0, lfP ct (fun j => (hsA g 1) (16 + j)) ps1, lfK ct g]) := hD
  have hK : va_K G classes (TYS ct) s := hK
  have hl : lv_has ls 2 [(0, .ref (g 7))] := hl
  unfold f_X11_read at hf
  show WG l G ct sk sv p e (RM 8 252 0 0) s m args below meth c A (Eq2 (some (.int r)) (wl [lfX ct g xo, lfR ct (fun j => g (18 + j)) rv', lfH ct (hsA g 0) g h0', lfH ct (hsA g 1) g h1', lfS ct (fun j => (hsA g 0) (12 + j)) nt0', lfS ct (fun j => (hsA g 0) (8 + j)) cv0', lfS ct (fun j => (hsA g 1) (12 + j)) nt1', lfS ct (fun j => (hsA g 1) (8 + j)) cv1', lfP ct (fun j => (hsA g 0) (16 + j)) ps0', lfP ct (fun j => (hsA g 1) (16 + j)) ps1', lfK ct g])) s.heap [] (F0 m 0 ls [])
  refine lv_aload_n hx hb dX11_read_0 rfl (lv_at hl 0 rfl) ?_
  refine va_get (D := G) (C := RX11) (T := TX11) (N := 11) (v := .ref ((hsA g 1) 0)) hx hb hts iu_X11 hown hK hP 0 rfl rfl 1 (by decide) (hts _ kw263) (fun _ h9 => h9) rfl dX11_read_1 ?_
  obtain ⟨h1_1, nt1_2, cv1_3, ps1_4, hc4, hf⟩ := bd4_e hf
  refine call_V (As := []) (rest := []) hx hb hml hown hts hK hP hD hS hA hZ lkX11_72 (Ctr.upL (c_X1_makeEmpty l G ct sk sv (hsA g 1) g n h1 nt1 cv1 ps1 hc4) [lfX ct g xo, lfR ct (fun j => g (18 + j)) rv, lfH ct (hsA g 0) g h0, lfS ct (fun j => (hsA g 0) (12 + j)) nt0, lfS ct (fun j => (hsA g 0) (8 + j)) cv0, lfP ct (fun j => (hsA g 0) (16 + j)) ps0, lfK ct g] [lfX ct g xo, lfR ct (fun j => g (18 + j)) rv, lfH ct (hsA g 0) g h0, lfH ct (hsA g 1) g h1, lfS ct (fun j => (hsA g 0) (12 + j)) nt0, lfS ct (fun j => (hsA g 0) (8 + j)) cv0, lfS ct (fun j => (hsA g 1) (12 + j)) nt1, lfS ct (fun j => (hsA g 1) (8 + j)) cv1, lfP ct (fun j => (hsA g 0) (16 + j)) ps0, lfP ct (fun j => (hsA g 1) (16 + j)) ps1, lfK ct g] [lfX ct g xo, lfR ct (fun j => g (18 + j)) rv, lfH ct (hsA g 0) g h0, lfH ct (hsA g 1) g h1_1, lfS ct (fun j => (hsA g 0) (12 + j)) nt0, lfS ct (fun j => (hsA g 0) (8 + j)) cv0, lfS ct (fun j => (hsA g 1) (12 + j)) nt1_2, lfS ct (fun j => (hsA g 1) (8 + j)) cv1_3, lfP ct (fun j => (hsA g 0) (16 + j)) ps0, lfP ct (fun j => (hsA g 1) (16 + j)) ps1_4, lfK ct g] [3, 6, 7, 9, 0, 1, 2, 4, 5, 8, 10] 11 (by decide) rfl rfl rfl rfl) 13 rfl rfl ⟨Nat.le_of_ble_eq_true rfl, Nat.le_of_ble_eq_true rfl⟩ rfl hl.1 rfl (Nat.le_of_ble_eq_true rfl) dX11_read_4 ⟨Nat.le_of_ble_eq_true rfl, Nat.le_of_ble_eq_true rfl⟩ (fun r9 w9 H locs hB hP hD hS => ?_)
  obtain ⟨rfl, rfl⟩ := hB
  refine WG_eq (g2 := F0 m 7 ls []) rfl ?_
  refine lv_aload_n hx hb dX11_read_7 rfl (lv_at hl 0 rfl) ?_
  refine va_get (D := G) (C := RX11) (T := TX11) (N := 11) (v := .ref (g 18)) hx hb hts iu_X11 hown hK hP 0 rfl rfl 5 (by decide) (hts _ kw267) (fun _ h9 => h9) rfl dX11_read_8 ?_
  refine lv_aload_n hx hb dX11_read_11 rfl (lv_at hl 0 rfl) ?_
  refine va_get (D := G) (C := RX11) (T := TX11) (N := 11) (v := .ref ((hsA g 1) 0)) hx hb hts iu_X11 hown hK hP 0 rfl rfl 1 (by decide) (hts _ kw263) (fun _ h9 => h9) rfl dX11_read_12 ?_
  obtain ⟨r_5, rv_6, h1_7, hc7, hf⟩ := bd3_e hf
  refine call_V (As := [.ref ((hsA g 1) 0)]) (rest := []) hx hb hml hown hts hK hP hD hS hA hZ lkX11_114 (Ctr.upL (c_X6_readInto l G ct sk sv (fun j => g (18 + j)) (hsA g 1) g n rv h1_1 hc7) [lfX ct g xo, lfH ct (hsA g 0) g h0, lfS ct (fun j => (hsA g 0) (12 + j)) nt0, lfS ct (fun j => (hsA g 0) (8 + j)) cv0, lfS ct (fun j => (hsA g 1) (12 + j)) nt1_2, lfS ct (fun j => (hsA g 1) (8 + j)) cv1_3, lfP ct (fun j => (hsA g 0) (16 + j)) ps0, lfP ct (fun j => (hsA g 1) (16 + j)) ps1_4] [lfX ct g xo, lfR ct (fun j => g (18 + j)) rv, lfH ct (hsA g 0) g h0, lfH ct (hsA g 1) g h1_1, lfS ct (fun j => (hsA g 0) (12 + j)) nt0, lfS ct (fun j => (hsA g 0) (8 + j)) cv0, lfS ct (fun j => (hsA g 1) (12 + j)) nt1_2, lfS ct (fun j => (hsA g 1) (8 + j)) cv1_3, lfP ct (fun j => (hsA g 0) (16 + j)) ps0, lfP ct (fun j => (hsA g 1) (16 + j)) ps1_4, lfK ct g] [lfX ct g xo, lfR ct (fun j => g (18 + j)) rv_6, lfH ct (hsA g 0) g h0, lfH ct (hsA g 1) g h1_7, lfS ct (fun j => (hsA g 0) (12 + j)) nt0, lfS ct (fun j => (hsA g 0) (8 + j)) cv0, lfS ct (fun j => (hsA g 1) (12 + j)) nt1_2, lfS ct (fun j => (hsA g 1) (8 + j)) cv1_3, lfP ct (fun j => (hsA g 0) (16 + j)) ps0, lfP ct (fun j => (hsA g 1) (16 + j)) ps1_4, lfK ct g] [1, 3, 10, 0, 2, 4, 5, 6, 7, 8, 9] 11 (by decide) rfl rfl rfl rfl) 3 rfl rfl ⟨Nat.le_of_ble_eq_true rfl, Nat.le_of_ble_eq_true rfl⟩ rfl hl.1 rfl (Nat.le_of_ble_eq_true rfl) dX11_read_15 ⟨Nat.le_of_ble_eq_true rfl, Nat.le_of_ble_eq_true rfl⟩ (fun r9 w9 H locs hB hP hD hS => ?_)
  obtain ⟨rfl, rfl⟩ := hB
  refine WG_eq (g2 := F0 m 18 ls [.int r_5]) rfl ?_
  refine lv_istore_n (lv' := [(1, .int r_5), (0, .ref (g 7))]) hx hb dX11_read_18 rfl hl (by decide) rfl (fun ls hl => ?_)
  refine lv_iload_n hx hb dX11_read_19 rfl (lv_at hl 0 rfl) ?_
  refine lv_iconst (v := (-1)) hx hb dX11_read_20 (by decide) ?_
  refine lv_icmp_ne (tgt := 35) hx hb dX11_read_21 (by decide) (fun c_8 => ?_) (fun c_8 => ?_)
  · replace hf := bc_f hf c_8
    refine lv_aload_n hx hb dX11_read_35 rfl (lv_at hl 1 rfl) ?_
    refine va_get (D := G) (C := RX11) (T := TX11) (N := 11) (v := .ref ((hsA g 0) 0)) hx hb hts iu_X11 hown hK hP 0 rfl rfl 0 (by decide) (hts _ kw262) (fun _ h9 => h9) rfl dX11_read_36 ?_
    refine lv_aload_n hx hb dX11_read_39 rfl (lv_at hl 1 rfl) ?_
    refine va_get (D := G) (C := RX11) (T := TX11) (N := 11) (v := .ref ((hsA g 1) 0)) hx hb hts iu_X11 hown hK hP 0 rfl rfl 1 (by decide) (hts _ kw263) (fun _ h9 => h9) rfl dX11_read_40 ?_
    obtain ⟨h0_9, nt0_10, cv0_11, ps0_12, hc12, hf⟩ := bd4_e hf
    refine call_V (As := [.ref ((hsA g 1) 0)]) (rest := []) hx hb hml hown hts hK hP hD hS hA hZ lkX11_121 (Ctr.upL (c_X1_takeOver l G ct sk sv (hsA g 0) (hsA g 1) g n h0 h1_7 nt0 cv0 nt1_2 cv1_3 ps0 ps1_4 hc12) [lfX ct g xo, lfR ct (fun j => g (18 + j)) rv_6, lfK ct g] [lfX ct g xo, lfR ct (fun j => g (18 + j)) rv_6, lfH ct (hsA g 0) g h0, lfH ct (hsA g 1) g h1_7, lfS ct (fun j => (hsA g 0) (12 + j)) nt0, lfS ct (fun j => (hsA g 0) (8 + j)) cv0, lfS ct (fun j => (hsA g 1) (12 + j)) nt1_2, lfS ct (fun j => (hsA g 1) (8 + j)) cv1_3, lfP ct (fun j => (hsA g 0) (16 + j)) ps0, lfP ct (fun j => (hsA g 1) (16 + j)) ps1_4, lfK ct g] [lfX ct g xo, lfR ct (fun j => g (18 + j)) rv_6, lfH ct (hsA g 0) g h0_9, lfH ct (hsA g 1) g h1_7, lfS ct (fun j => (hsA g 0) (12 + j)) nt0_10, lfS ct (fun j => (hsA g 0) (8 + j)) cv0_11, lfS ct (fun j => (hsA g 1) (12 + j)) nt1_2, lfS ct (fun j => (hsA g 1) (8 + j)) cv1_3, lfP ct (fun j => (hsA g 0) (16 + j)) ps0_12, lfP ct (fun j => (hsA g 1) (16 + j)) ps1_4, lfK ct g] [2, 3, 4, 5, 6, 7, 8, 9, 0, 1, 10] 11 (by decide) rfl rfl rfl rfl) 5 rfl rfl ⟨Nat.le_of_ble_eq_true rfl, Nat.le_of_ble_eq_true rfl⟩ rfl hl.1 rfl (Nat.le_of_ble_eq_true rfl) dX11_read_43 ⟨Nat.le_of_ble_eq_true rfl, Nat.le_of_ble_eq_true rfl⟩ (fun r9 w9 H locs hB hP hD hS => ?_)
    obtain ⟨rfl, rfl⟩ := hB
    refine WG_eq (g2 := F0 m 46 ls []) rfl ?_
    refine lv_iload_n hx hb dX11_read_46 rfl (lv_at hl 0 rfl) ?_
    obtain ⟨e1, e2, e3, e4, e5, e6, e7, e8, e9, e10⟩ := inj10 (Option.some.inj hf)
    exact end_i (w' := (wl [lfX ct g xo, lfR ct (fun j => g (18 + j)) rv_6, lfH ct (hsA g 0) g h0_9, lfH ct (hsA g 1) g h1_7, lfS ct (fun j => (hsA g 0) (12 + j)) nt0_10, lfS ct (fun j => (hsA g 0) (8 + j)) cv0_11, lfS ct (fun j => (hsA g 1) (12 + j)) nt1_2, lfS ct (fun j => (hsA g 1) (8 + j)) cv1_3, lfP ct (fun j => (hsA g 0) (16 + j)) ps0_12, lfP ct (fun j => (hsA g 1) (16 + j)) ps1_4, lfK ct g])) hx hb hr hlocks hK hP hD hS dX11_read_47  ⟨by rw [← e1], by rw [← e2, ← e3, ← e4, ← e5, ← e6, ← e7, ← e8, ← e9, ← e10]⟩
  · replace hf := bc_t hf c_8
    refine lv_bipush (v := (-10)) hx hb dX11_read_24 (by decide) ?_
    refine lv_aload_n hx hb dX11_read_26 rfl (lv_at hl 1 rfl) ?_
    refine va_get (D := G) (C := RX11) (T := TX11) (N := 11) (v := .ref (g 18)) hx hb hts iu_X11 hown hK hP 0 rfl rfl 5 (by decide) (hts _ kw267) (fun _ h9 => h9) rfl dX11_read_27 ?_
    refine va_get (D := G) (C := RX6) (T := TX6) (N := 6) (v := .int (rv_6.1 2)) hx hb hts iu_X6 hown hK hP 3 rfl rfl 3 (by decide) (hts _ kw244) (fun _ h9 => h9) rfl dX11_read_30 ?_
    refine lv_isub hx hb dX11_read_33 ?_
    obtain ⟨e1, e2, e3, e4, e5, e6, e7, e8, e9, e10⟩ := inj10 (Option.some.inj hf)
    exact end_i (w' := (wl [lfX ct g xo, lfR ct (fun j => g (18 + j)) rv_6, lfH ct (hsA g 0) g h0, lfH ct (hsA g 1) g h1_7, lfS ct (fun j => (hsA g 0) (12 + j)) nt0, lfS ct (fun j => (hsA g 0) (8 + j)) cv0, lfS ct (fun j => (hsA g 1) (12 + j)) nt1_2, lfS ct (fun j => (hsA g 1) (8 + j)) cv1_3, lfP ct (fun j => (hsA g 0) (16 + j)) ps0, lfP ct (fun j => (hsA g 1) (16 + j)) ps1_4, lfK ct g])) hx hb hr hlocks hK hP hD hS dX11_read_34  ⟨by rw [← e1], by rw [← e2, ← e3, ← e4, ← e5, ← e6, ← e7, ← e8, ← e9, ← e10]⟩
noncomputable def f_X11_sell_j29 (n : Nat) (xo : MV) (nv : MV) (h0 : MV) : Option (Int32 × MV) :=
  bd2 (f_X11_refuseBad n xo) fun r_1 xo_2 =>
  some (r_1, xo_2)
noncomputable def f_X11_sell (n : Nat) (xo : MV) (nv : MV) (h0 : MV) (v1 : Int32) (v2 : Int32) (v3 : Int32) : Option (Int32 × MV) :=
  bd (f_X11_isMember n xo h0 v1) fun r_3 =>
  bc (r_3 = 0) (f_X11_sell_j29 n xo nv h0)
  (bd (f_X11_isMember n xo h0 v2) fun r_5 =>
  bc (r_5 = 0) (f_X11_sell_j29 n xo nv h0)
  (bc (v1 = v2) (f_X11_sell_j29 n xo nv h0)
  (bd (f_X11_isLetter n xo h0 v3) fun r_8 =>
  bc (r_8 = 0) (f_X11_sell_j29 n xo nv h0)
  (bd (f_X1_lies n h0 v3) fun r_10 =>
  bc (r_10 = 0) (bd2 (f_X11_refuseNo n xo) fun r_16 xo_17 =>
  some (r_16, xo_17))
  (bd (f_X1_mayFrank n h0 v3 v1) fun r_12 =>
  bd (f_X1_mayFrank n h0 v3 v2) fun r_13 =>
  bd (f_X1_postage n h0 v3) fun r_14 =>
  bd (f_X3_pairsThatRest n r_12 r_13 r_14) fun r_15 =>
  some (r_15, xo))))))
set_option maxHeartbeats 4000000 in
set_option maxRecDepth 100000 in
theorem c_X11_sell (l : Launch) (G : va_G) (ct : Nat → ClassId) (sk sv : Nat → Nat) (g : Nat → Nat) (n : Nat) (xo : MV) (nv : MV) (h0 : MV) (v1 : Int32) (v2 : Int32) (v3 : Int32) {r : Int32} {xo' : MV} (hf : f_X11_sell n xo nv h0 v1 v2 v3 = some (r, xo')) : Ctr (l, G, ct, sk, sv) mX11_sell 6 206 [.ref (g 7), .int v1, .int v2, .int v3] (wl [lfX ct g xo, lfN ct (fun j => g (10 + j)) nv, lfH ct (hsA g 0) g h0, lfK ct g]) (wl [lfX ct g xo', lfN ct (fun j => g (10 + j)) nv, lfH ct (hsA g 0) g h0, lfK ct g]) (some (.int r)) := by
  refine ctr_intro (by decide) (Nat.le_of_ble_eq_true rfl) ?_
  intro p e s m args below meth c A C hP hD hS hA ls hl
  obtain ⟨hx, hb, hml, hown, hts, hr, hlocks, hK, hnm, hZ⟩ := C
  have hb : c.code = cX11_sell := hb
  have hml : c.maxLocals = 4 := hml
  have hown : s.vm.findClass "SignedOutside" = some m.cls := hown
  have hr : meth.sig.returnType = some .int := hr
  have hP : va_P G classes (wl [lfX ct g xo, lfN ct (fun j => g (10 + j)) nv, lfH ct (hsA g 0) g h0, lfK ct g]) s.heap := hP
  have hD : va_D A (wl [lfX ct g xo, lfN ct (fun j => g (10 + j)) nv, lfH ct (hsA g 0) g h0, lfK ct g]) := hD
  have hK : va_K G classes (TYS ct) s := hK
  have hl : lv_has ls 4 [(0, .ref (g 7)), (1, .int v1), (2, .int v2), (3, .int v3)] := hl
  have J29 : ∀ (xo : MV) (H : Heap) (locs : List Loc) (ls : Array Slot), va_P G classes (wl [lfX ct g xo, lfN ct (fun j => g (10 + j)) nv, lfH ct (hsA g 0) g h0, lfK ct g]) H → va_D A (wl [lfX ct g xo, lfN ct (fun j => g (10 + j)) nv, lfH ct (hsA g 0) g h0, lfK ct g]) → va_S A s.heap H locs → lv_has ls 4 [(0, .ref (g 7))] → f_X11_sell_j29 n xo nv h0 = some (r, xo') → WG l G ct sk sv p e (RM 6 206 0 0) s m args below meth c A (Eq2 (some (.int r)) (wl [lfX ct g xo', lfN ct (fun j => g (10 + j)) nv, lfH ct (hsA g 0) g h0, lfK ct g])) H locs (F0 m 29 ls []) := by
    intro xo H locs ls hP hD hS hl hf
    unfold f_X11_sell_j29 at hf
    refine lv_aload_n hx hb dX11_sell_29 rfl (lv_at hl 0 rfl) ?_
    obtain ⟨r_1, xo_2, hc2, hf⟩ := bd2_e hf
    refine call_V (As := []) (rest := []) hx hb hml hown hts hK hP hD hS hA hZ lkX11_83 (Ctr.upL (c_X11_refuseBad l G ct sk sv g n xo hc2) [lfN ct (fun j => g (10 + j)) nv, lfH ct (hsA g 0) g h0, lfK ct g] [lfX ct g xo, lfN ct (fun j => g (10 + j)) nv, lfH ct (hsA g 0) g h0, lfK ct g] [lfX ct g xo_2, lfN ct (fun j => g (10 + j)) nv, lfH ct (hsA g 0) g h0, lfK ct g] [0, 1, 2, 3] 4 (by decide) rfl rfl rfl rfl) 0 rfl rfl ⟨Nat.le_of_ble_eq_true rfl, Nat.le_of_ble_eq_true rfl⟩ rfl hl.1 rfl (Nat.le_of_ble_eq_true rfl) dX11_sell_30 ⟨Nat.le_of_ble_eq_true rfl, Nat.le_of_ble_eq_true rfl⟩ (fun r9 w9 H locs hB hP hD hS => ?_)
    obtain ⟨rfl, rfl⟩ := hB
    refine WG_eq (g2 := F0 m 33 ls [.int r_1]) rfl ?_
    obtain ⟨e1, e2⟩ := inj2 (Option.some.inj hf)
    exact end_i (w' := (wl [lfX ct g xo_2, lfN ct (fun j => g (10 + j)) nv, lfH ct (hsA g 0) g h0, lfK ct g])) hx hb hr hlocks hK hP hD hS dX11_sell_33  ⟨by rw [← e1], by rw [← e2]⟩
  unfold f_X11_sell at hf
  show WG l G ct sk sv p e (RM 6 206 0 0) s m args below meth c A (Eq2 (some (.int r)) (wl [lfX ct g xo', lfN ct (fun j => g (10 + j)) nv, lfH ct (hsA g 0) g h0, lfK ct g])) s.heap [] (F0 m 0 ls [])
  refine lv_aload_n hx hb dX11_sell_0 rfl (lv_at hl 0 rfl) ?_
  refine lv_iload_n hx hb dX11_sell_1 rfl (lv_at hl 1 rfl) ?_
  obtain ⟨r_3, hc3, hf⟩ := bd_e hf
  refine call_V (As := [.int v1]) (rest := []) hx hb hml hown hts hK hP hD hS hA hZ lkX11_128 (Ctr.upL (c_X11_isMember l G ct sk sv g n xo h0 v1 hc3) [lfN ct (fun j => g (10 + j)) nv, lfK ct g] [lfX ct g xo, lfN ct (fun j => g (10 + j)) nv, lfH ct (hsA g 0) g h0, lfK ct g] [lfX ct g xo, lfN ct (fun j => g (10 + j)) nv, lfH ct (hsA g 0) g h0, lfK ct g] [0, 2, 1, 3] 4 (by decide) rfl rfl rfl rfl) 0 rfl rfl ⟨Nat.le_of_ble_eq_true rfl, Nat.le_of_ble_eq_true rfl⟩ rfl hl.1 rfl (Nat.le_of_ble_eq_true rfl) dX11_sell_2 ⟨Nat.le_of_ble_eq_true rfl, Nat.le_of_ble_eq_true rfl⟩ (fun r9 w9 H locs hB hP hD hS => ?_)
  obtain ⟨rfl, rfl⟩ := hB
  refine WG_eq (g2 := F0 m 5 ls [.int r_3]) rfl ?_
  refine lv_if_eq (tgt := 29) hx hb dX11_sell_5 (by decide) (fun c_4 => ?_) (fun c_4 => ?_)
  · replace hf := bc_t hf c_4
    exact J29 xo _ _ _ hP hD hS (lv_sub hl [0] rfl) hf
  · replace hf := bc_f hf c_4
    refine lv_aload_n hx hb dX11_sell_8 rfl (lv_at hl 0 rfl) ?_
    refine lv_iload_n hx hb dX11_sell_9 rfl (lv_at hl 2 rfl) ?_
    obtain ⟨r_5, hc5, hf⟩ := bd_e hf
    refine call_V (As := [.int v2]) (rest := []) hx hb hml hown hts hK hP hD hS hA hZ lkX11_128 (Ctr.upL (c_X11_isMember l G ct sk sv g n xo h0 v2 hc5) [lfN ct (fun j => g (10 + j)) nv, lfK ct g] [lfX ct g xo, lfN ct (fun j => g (10 + j)) nv, lfH ct (hsA g 0) g h0, lfK ct g] [lfX ct g xo, lfN ct (fun j => g (10 + j)) nv, lfH ct (hsA g 0) g h0, lfK ct g] [0, 2, 1, 3] 4 (by decide) rfl rfl rfl rfl) 0 rfl rfl ⟨Nat.le_of_ble_eq_true rfl, Nat.le_of_ble_eq_true rfl⟩ rfl hl.1 rfl (Nat.le_of_ble_eq_true rfl) dX11_sell_10 ⟨Nat.le_of_ble_eq_true rfl, Nat.le_of_ble_eq_true rfl⟩ (fun r9 w9 H locs hB hP hD hS => ?_)
    obtain ⟨rfl, rfl⟩ := hB
    refine WG_eq (g2 := F0 m 13 ls [.int r_5]) rfl ?_
    refine lv_if_eq (tgt := 29) hx hb dX11_sell_13 (by decide) (fun c_6 => ?_) (fun c_6 => ?_)
    · replace hf := bc_t hf c_6
      exact J29 xo _ _ _ hP hD hS (lv_sub hl [0] rfl) hf
    · replace hf := bc_f hf c_6
      refine lv_iload_n hx hb dX11_sell_16 rfl (lv_at hl 1 rfl) ?_
      refine lv_iload_n hx hb dX11_sell_17 rfl (lv_at hl 2 rfl) ?_
      refine lv_icmp_eq (tgt := 29) hx hb dX11_sell_18 (by decide) (fun c_7 => ?_) (fun c_7 => ?_)
      · replace hf := bc_t hf c_7
        exact J29 xo _ _ _ hP hD hS (lv_sub hl [0] rfl) hf
      · replace hf := bc_f hf c_7
        refine lv_aload_n hx hb dX11_sell_21 rfl (lv_at hl 0 rfl) ?_
        refine lv_iload_n hx hb dX11_sell_22 rfl (lv_at hl 3 rfl) ?_
        obtain ⟨r_8, hc8, hf⟩ := bd_e hf
        refine call_V (As := [.int v3]) (rest := []) hx hb hml hown hts hK hP hD hS hA hZ lkX11_125 (Ctr.upL (c_X11_isLetter l G ct sk sv g n xo h0 v3 hc8) [lfN ct (fun j => g (10 + j)) nv, lfK ct g] [lfX ct g xo, lfN ct (fun j => g (10 + j)) nv, lfH ct (hsA g 0) g h0, lfK ct g] [lfX ct g xo, lfN ct (fun j => g (10 + j)) nv, lfH ct (hsA g 0) g h0, lfK ct g] [0, 2, 1, 3] 4 (by decide) rfl rfl rfl rfl) 0 rfl rfl ⟨Nat.le_of_ble_eq_true rfl, Nat.le_of_ble_eq_true rfl⟩ rfl hl.1 rfl (Nat.le_of_ble_eq_true rfl) dX11_sell_23 ⟨Nat.le_of_ble_eq_true rfl, Nat.le_of_ble_eq_true rfl⟩ (fun r9 w9 H locs hB hP hD hS => ?_)
        obtain ⟨rfl, rfl⟩ := hB
        refine WG_eq (g2 := F0 m 26 ls [.int r_8]) rfl ?_
        refine lv_if_ne (tgt := 34) hx hb dX11_sell_26 (by decide) (fun c_9 => ?_) (fun c_9 => ?_)
        · replace hf := bc_f hf c_9
          refine lv_aload_n hx hb dX11_sell_34 rfl (lv_at hl 0 rfl) ?_
          refine va_get (D := G) (C := RX11) (T := TX11) (N := 11) (v := .ref ((hsA g 0) 0)) hx hb hts iu_X11 hown hK hP 0 rfl rfl 0 (by decide) (hts _ kw262) (fun _ h9 => h9) rfl dX11_sell_35 ?_
          refine lv_iload_n hx hb dX11_sell_38 rfl (lv_at hl 3 rfl) ?_
          obtain ⟨r_10, hc10, hf⟩ := bd_e hf
          refine call_V (As := [.int v3]) (rest := []) hx hb hml hown hts hK hP hD hS hA hZ lkX11_149 (Ctr.upL (c_X1_lies l G ct sk sv (hsA g 0) g n h0 v3 hc10) [lfX ct g xo, lfN ct (fun j => g (10 + j)) nv, lfK ct g] [lfX ct g xo, lfN ct (fun j => g (10 + j)) nv, lfH ct (hsA g 0) g h0, lfK ct g] [lfX ct g xo, lfN ct (fun j => g (10 + j)) nv, lfH ct (hsA g 0) g h0, lfK ct g] [2, 0, 1, 3] 4 (by decide) rfl rfl rfl rfl) 11 rfl rfl ⟨Nat.le_of_ble_eq_true rfl, Nat.le_of_ble_eq_true rfl⟩ rfl hl.1 rfl (Nat.le_of_ble_eq_true rfl) dX11_sell_39 ⟨Nat.le_of_ble_eq_true rfl, Nat.le_of_ble_eq_true rfl⟩ (fun r9 w9 H locs hB hP hD hS => ?_)
          obtain ⟨rfl, rfl⟩ := hB
          refine WG_eq (g2 := F0 m 42 ls [.int r_10]) rfl ?_
          refine lv_if_ne (tgt := 50) hx hb dX11_sell_42 (by decide) (fun c_11 => ?_) (fun c_11 => ?_)
          · replace hf := bc_f hf c_11
            refine lv_aload_n hx hb dX11_sell_50 rfl (lv_at hl 0 rfl) ?_
            refine va_get (D := G) (C := RX11) (T := TX11) (N := 11) (v := .ref (g 10)) hx hb hts iu_X11 hown hK hP 0 rfl rfl 4 (by decide) (hts _ kw266) (fun _ h9 => h9) rfl dX11_sell_51 ?_
            refine lv_aload_n hx hb dX11_sell_54 rfl (lv_at hl 0 rfl) ?_
            refine va_get (D := G) (C := RX11) (T := TX11) (N := 11) (v := .ref ((hsA g 0) 0)) hx hb hts iu_X11 hown hK hP 0 rfl rfl 0 (by decide) (hts _ kw262) (fun _ h9 => h9) rfl dX11_sell_55 ?_
            refine lv_iload_n hx hb dX11_sell_58 rfl (lv_at hl 3 rfl) ?_
            refine lv_iload_n hx hb dX11_sell_59 rfl (lv_at hl 1 rfl) ?_
            obtain ⟨r_12, hc12, hf⟩ := bd_e hf
            refine call_V (As := [.int v3, .int v1]) (rest := [.ref (g 10)]) hx hb hml hown hts hK hP hD hS hA hZ lkX11_131 (Ctr.upL (c_X1_mayFrank l G ct sk sv (hsA g 0) g n h0 v3 v1 hc12) [lfX ct g xo, lfN ct (fun j => g (10 + j)) nv] [lfX ct g xo, lfN ct (fun j => g (10 + j)) nv, lfH ct (hsA g 0) g h0, lfK ct g] [lfX ct g xo, lfN ct (fun j => g (10 + j)) nv, lfH ct (hsA g 0) g h0, lfK ct g] [2, 3, 0, 1] 4 (by decide) rfl rfl rfl rfl) 11 rfl rfl ⟨Nat.le_of_ble_eq_true rfl, Nat.le_of_ble_eq_true rfl⟩ rfl hl.1 rfl (Nat.le_of_ble_eq_true rfl) dX11_sell_60 ⟨Nat.le_of_ble_eq_true rfl, Nat.le_of_ble_eq_true rfl⟩ (fun r9 w9 H locs hB hP hD hS => ?_)
            obtain ⟨rfl, rfl⟩ := hB
            refine WG_eq (g2 := F0 m 63 ls [.int r_12, .ref (g 10)]) rfl ?_
            refine lv_aload_n hx hb dX11_sell_63 rfl (lv_at hl 0 rfl) ?_
            refine va_get (D := G) (C := RX11) (T := TX11) (N := 11) (v := .ref ((hsA g 0) 0)) hx hb hts iu_X11 hown hK hP 0 rfl rfl 0 (by decide) (hts _ kw262) (fun _ h9 => h9) rfl dX11_sell_64 ?_
            refine lv_iload_n hx hb dX11_sell_67 rfl (lv_at hl 3 rfl) ?_
            refine lv_iload_n hx hb dX11_sell_68 rfl (lv_at hl 2 rfl) ?_
            obtain ⟨r_13, hc13, hf⟩ := bd_e hf
            refine call_V (As := [.int v3, .int v2]) (rest := [.int r_12, .ref (g 10)]) hx hb hml hown hts hK hP hD hS hA hZ lkX11_131 (Ctr.upL (c_X1_mayFrank l G ct sk sv (hsA g 0) g n h0 v3 v2 hc13) [lfX ct g xo, lfN ct (fun j => g (10 + j)) nv] [lfX ct g xo, lfN ct (fun j => g (10 + j)) nv, lfH ct (hsA g 0) g h0, lfK ct g] [lfX ct g xo, lfN ct (fun j => g (10 + j)) nv, lfH ct (hsA g 0) g h0, lfK ct g] [2, 3, 0, 1] 4 (by decide) rfl rfl rfl rfl) 11 rfl rfl ⟨Nat.le_of_ble_eq_true rfl, Nat.le_of_ble_eq_true rfl⟩ rfl hl.1 rfl (Nat.le_of_ble_eq_true rfl) dX11_sell_69 ⟨Nat.le_of_ble_eq_true rfl, Nat.le_of_ble_eq_true rfl⟩ (fun r9 w9 H locs hB hP hD hS => ?_)
            obtain ⟨rfl, rfl⟩ := hB
            refine WG_eq (g2 := F0 m 72 ls [.int r_13, .int r_12, .ref (g 10)]) rfl ?_
            refine lv_aload_n hx hb dX11_sell_72 rfl (lv_at hl 0 rfl) ?_
            refine va_get (D := G) (C := RX11) (T := TX11) (N := 11) (v := .ref ((hsA g 0) 0)) hx hb hts iu_X11 hown hK hP 0 rfl rfl 0 (by decide) (hts _ kw262) (fun _ h9 => h9) rfl dX11_sell_73 ?_
            refine lv_iload_n hx hb dX11_sell_76 rfl (lv_at hl 3 rfl) ?_
            obtain ⟨r_14, hc14, hf⟩ := bd_e hf
            refine call_V (As := [.int v3]) (rest := [.int r_13, .int r_12, .ref (g 10)]) hx hb hml hown hts hK hP hD hS hA hZ lkX11_145 (Ctr.upL (c_X1_postage l G ct sk sv (hsA g 0) g n h0 v3 hc14) [lfX ct g xo, lfN ct (fun j => g (10 + j)) nv, lfK ct g] [lfX ct g xo, lfN ct (fun j => g (10 + j)) nv, lfH ct (hsA g 0) g h0, lfK ct g] [lfX ct g xo, lfN ct (fun j => g (10 + j)) nv, lfH ct (hsA g 0) g h0, lfK ct g] [2, 0, 1, 3] 4 (by decide) rfl rfl rfl rfl) 11 rfl rfl ⟨Nat.le_of_ble_eq_true rfl, Nat.le_of_ble_eq_true rfl⟩ rfl hl.1 rfl (Nat.le_of_ble_eq_true rfl) dX11_sell_77 ⟨Nat.le_of_ble_eq_true rfl, Nat.le_of_ble_eq_true rfl⟩ (fun r9 w9 H locs hB hP hD hS => ?_)
            obtain ⟨rfl, rfl⟩ := hB
            refine WG_eq (g2 := F0 m 80 ls [.int r_14, .int r_13, .int r_12, .ref (g 10)]) rfl ?_
            obtain ⟨r_15, hc15, hf⟩ := bd_e hf
            refine call_V (As := [.int r_12, .int r_13, .int r_14]) (rest := []) hx hb hml hown hts hK hP hD hS hA hZ lkX11_289 (Ctr.upL (c_X3_pairsThatRest l G ct sk sv (fun j => g (10 + j)) n r_12 r_13 r_14 hc15) [lfX ct g xo, lfN ct (fun j => g (10 + j)) nv, lfH ct (hsA g 0) g h0, lfK ct g] [lfX ct g xo, lfN ct (fun j => g (10 + j)) nv, lfH ct (hsA g 0) g h0, lfK ct g] [lfX ct g xo, lfN ct (fun j => g (10 + j)) nv, lfH ct (hsA g 0) g h0, lfK ct g] [0, 1, 2, 3] 4 (by decide) rfl rfl rfl rfl) 3 rfl rfl ⟨Nat.le_of_ble_eq_true rfl, Nat.le_of_ble_eq_true rfl⟩ rfl hl.1 rfl (Nat.le_of_ble_eq_true rfl) dX11_sell_80 ⟨Nat.le_of_ble_eq_true rfl, Nat.le_of_ble_eq_true rfl⟩ (fun r9 w9 H locs hB hP hD hS => ?_)
            obtain ⟨rfl, rfl⟩ := hB
            refine WG_eq (g2 := F0 m 83 ls [.int r_15]) rfl ?_
            obtain ⟨e1, e2⟩ := inj2 (Option.some.inj hf)
            exact end_i (w' := (wl [lfX ct g xo, lfN ct (fun j => g (10 + j)) nv, lfH ct (hsA g 0) g h0, lfK ct g])) hx hb hr hlocks hK hP hD hS dX11_sell_83  ⟨by rw [← e1], by rw [← e2]⟩
          · replace hf := bc_t hf c_11
            refine lv_aload_n hx hb dX11_sell_45 rfl (lv_at hl 0 rfl) ?_
            obtain ⟨r_16, xo_17, hc17, hf⟩ := bd2_e hf
            refine call_V (As := []) (rest := []) hx hb hml hown hts hK hP hD hS hA hZ lkX11_135 (Ctr.upL (c_X11_refuseNo l G ct sk sv g n xo hc17) [lfN ct (fun j => g (10 + j)) nv, lfH ct (hsA g 0) g h0, lfK ct g] [lfX ct g xo, lfN ct (fun j => g (10 + j)) nv, lfH ct (hsA g 0) g h0, lfK ct g] [lfX ct g xo_17, lfN ct (fun j => g (10 + j)) nv, lfH ct (hsA g 0) g h0, lfK ct g] [0, 1, 2, 3] 4 (by decide) rfl rfl rfl rfl) 0 rfl rfl ⟨Nat.le_of_ble_eq_true rfl, Nat.le_of_ble_eq_true rfl⟩ rfl hl.1 rfl (Nat.le_of_ble_eq_true rfl) dX11_sell_46 ⟨Nat.le_of_ble_eq_true rfl, Nat.le_of_ble_eq_true rfl⟩ (fun r9 w9 H locs hB hP hD hS => ?_)
            obtain ⟨rfl, rfl⟩ := hB
            refine WG_eq (g2 := F0 m 49 ls [.int r_16]) rfl ?_
            obtain ⟨e1, e2⟩ := inj2 (Option.some.inj hf)
            exact end_i (w' := (wl [lfX ct g xo_17, lfN ct (fun j => g (10 + j)) nv, lfH ct (hsA g 0) g h0, lfK ct g])) hx hb hr hlocks hK hP hD hS dX11_sell_49  ⟨by rw [← e1], by rw [← e2]⟩
        · replace hf := bc_t hf c_9
          exact J29 xo _ _ _ hP hD hS (lv_sub hl [0] rfl) hf
noncomputable def f_X11_stand_j50 (n : Nat) (xo : MV) (nv : MV) (h0 : MV) (s0 : Int32) : Option (Int32 × MV × MV) :=
  some (s0, xo, nv)
noncomputable def f_X11_stand_j17 (n : Nat) (xo : MV) (nv : MV) (h0 : MV) : Option (Int32 × MV × MV) :=
  bd2 (f_X11_refuseBad n xo) fun r_1 xo_2 =>
  some (r_1, xo_2, nv)
noncomputable def f_X11_stand (n : Nat) (xo : MV) (nv : MV) (h0 : MV) (v1 : Int32) (v2 : Int32) : Option (Int32 × MV × MV) :=
  bd (f_X11_isMember n xo h0 v1) fun r_3 =>
  bc (r_3 = 0) (f_X11_stand_j17 n xo nv h0)
  (bd (f_X11_within n v2 0 1) fun r_5 =>
  bc (r_5 = 0) (f_X11_stand_j17 n xo nv h0)
  (bd2 (f_X3_bestPlace n nv h0 v1) fun r_7 nv_8 =>
  bc (v2 = 0) (f_X11_stand_j50 n xo nv_8 h0 r_7)
  (f_X11_stand_j50 n xo nv_8 h0 (nv_8.1 1))))
set_option maxHeartbeats 4000000 in
set_option maxRecDepth 100000 in
theorem c_X11_stand (l : Launch) (G : va_G) (ct : Nat → ClassId) (sk sv : Nat → Nat) (g : Nat → Nat) (n : Nat) (xo : MV) (nv : MV) (h0 : MV) (v1 : Int32) (v2 : Int32) {r : Int32} {xo' : MV} {nv' : MV} (hf : f_X11_stand n xo nv h0 v1 v2 = some (r, xo', nv')) : Ctr (l, G, ct, sk, sv) mX11_stand 7 238 [.ref (g 7), .int v1, .int v2] (wl [lfX ct g xo, lfN ct (fun j => g (10 + j)) nv, lfH ct (hsA g 0) g h0, lfK ct g]) (wl [lfX ct g xo', lfN ct (fun j => g (10 + j)) nv', lfH ct (hsA g 0) g h0, lfK ct g]) (some (.int r)) := by
  refine ctr_intro (by decide) (Nat.le_of_ble_eq_true rfl) ?_
  intro p e s m args below meth c A C hP hD hS hA ls hl
  obtain ⟨hx, hb, hml, hown, hts, hr, hlocks, hK, hnm, hZ⟩ := C
  have hb : c.code = cX11_stand := hb
  have hml : c.maxLocals = 4 := hml
  have hown : s.vm.findClass "SignedOutside" = some m.cls := hown
  have hr : meth.sig.returnType = some .int := hr
  have hP : va_P G classes (wl [lfX ct g xo, lfN ct (fun j => g (10 + j)) nv, lfH ct (hsA g 0) g h0, lfK ct g]) s.heap := hP
  have hD : va_D A (wl [lfX ct g xo, lfN ct (fun j => g (10 + j)) nv, lfH ct (hsA g 0) g h0, lfK ct g]) := hD
  have hK : va_K G classes (TYS ct) s := hK
  have hl : lv_has ls 4 [(0, .ref (g 7)), (1, .int v1), (2, .int v2)] := hl
  have J50 : ∀ (xo : MV) (nv : MV) (s0 : Int32) (H : Heap) (locs : List Loc) (ls : Array Slot), va_P G classes (wl [lfX ct g xo, lfN ct (fun j => g (10 + j)) nv, lfH ct (hsA g 0) g h0, lfK ct g]) H → va_D A (wl [lfX ct g xo, lfN ct (fun j => g (10 + j)) nv, lfH ct (hsA g 0) g h0, lfK ct g]) → va_S A s.heap H locs → lv_has ls 4 [] → f_X11_stand_j50 n xo nv h0 s0 = some (r, xo', nv') → WG l G ct sk sv p e (RM 7 238 0 0) s m args below meth c A (Eq2 (some (.int r)) (wl [lfX ct g xo', lfN ct (fun j => g (10 + j)) nv', lfH ct (hsA g 0) g h0, lfK ct g])) H locs (F0 m 50 ls [.int s0]) := by
    intro xo nv s0 H locs ls hP hD hS hl hf
    unfold f_X11_stand_j50 at hf
    obtain ⟨e1, e2, e3⟩ := inj3 (Option.some.inj hf)
    exact end_i (w' := (wl [lfX ct g xo, lfN ct (fun j => g (10 + j)) nv, lfH ct (hsA g 0) g h0, lfK ct g])) hx hb hr hlocks hK hP hD hS dX11_stand_50  ⟨by rw [← e1], by rw [← e2, ← e3]⟩
  have J17 : ∀ (xo : MV) (nv : MV) (H : Heap) (locs : List Loc) (ls : Array Slot), va_P G classes (wl [lfX ct g xo, lfN ct (fun j => g (10 + j)) nv, lfH ct (hsA g 0) g h0, lfK ct g]) H → va_D A (wl [lfX ct g xo, lfN ct (fun j => g (10 + j)) nv, lfH ct (hsA g 0) g h0, lfK ct g]) → va_S A s.heap H locs → lv_has ls 4 [(0, .ref (g 7))] → f_X11_stand_j17 n xo nv h0 = some (r, xo', nv') → WG l G ct sk sv p e (RM 7 238 0 0) s m args below meth c A (Eq2 (some (.int r)) (wl [lfX ct g xo', lfN ct (fun j => g (10 + j)) nv', lfH ct (hsA g 0) g h0, lfK ct g])) H locs (F0 m 17 ls []) := by
    intro xo nv H locs ls hP hD hS hl hf
    unfold f_X11_stand_j17 at hf
    refine lv_aload_n hx hb dX11_stand_17 rfl (lv_at hl 0 rfl) ?_
    obtain ⟨r_1, xo_2, hc2, hf⟩ := bd2_e hf
    refine call_V (As := []) (rest := []) hx hb hml hown hts hK hP hD hS hA hZ lkX11_83 (Ctr.upL (c_X11_refuseBad l G ct sk sv g n xo hc2) [lfN ct (fun j => g (10 + j)) nv, lfH ct (hsA g 0) g h0, lfK ct g] [lfX ct g xo, lfN ct (fun j => g (10 + j)) nv, lfH ct (hsA g 0) g h0, lfK ct g] [lfX ct g xo_2, lfN ct (fun j => g (10 + j)) nv, lfH ct (hsA g 0) g h0, lfK ct g] [0, 1, 2, 3] 4 (by decide) rfl rfl rfl rfl) 0 rfl rfl ⟨Nat.le_of_ble_eq_true rfl, Nat.le_of_ble_eq_true rfl⟩ rfl hl.1 rfl (Nat.le_of_ble_eq_true rfl) dX11_stand_18 ⟨Nat.le_of_ble_eq_true rfl, Nat.le_of_ble_eq_true rfl⟩ (fun r9 w9 H locs hB hP hD hS => ?_)
    obtain ⟨rfl, rfl⟩ := hB
    refine WG_eq (g2 := F0 m 21 ls [.int r_1]) rfl ?_
    obtain ⟨e1, e2, e3⟩ := inj3 (Option.some.inj hf)
    exact end_i (w' := (wl [lfX ct g xo_2, lfN ct (fun j => g (10 + j)) nv, lfH ct (hsA g 0) g h0, lfK ct g])) hx hb hr hlocks hK hP hD hS dX11_stand_21  ⟨by rw [← e1], by rw [← e2, ← e3]⟩
  unfold f_X11_stand at hf
  show WG l G ct sk sv p e (RM 7 238 0 0) s m args below meth c A (Eq2 (some (.int r)) (wl [lfX ct g xo', lfN ct (fun j => g (10 + j)) nv', lfH ct (hsA g 0) g h0, lfK ct g])) s.heap [] (F0 m 0 ls [])
  refine lv_aload_n hx hb dX11_stand_0 rfl (lv_at hl 0 rfl) ?_
  refine lv_iload_n hx hb dX11_stand_1 rfl (lv_at hl 1 rfl) ?_
  obtain ⟨r_3, hc3, hf⟩ := bd_e hf
  refine call_V (As := [.int v1]) (rest := []) hx hb hml hown hts hK hP hD hS hA hZ lkX11_128 (Ctr.upL (c_X11_isMember l G ct sk sv g n xo h0 v1 hc3) [lfN ct (fun j => g (10 + j)) nv, lfK ct g] [lfX ct g xo, lfN ct (fun j => g (10 + j)) nv, lfH ct (hsA g 0) g h0, lfK ct g] [lfX ct g xo, lfN ct (fun j => g (10 + j)) nv, lfH ct (hsA g 0) g h0, lfK ct g] [0, 2, 1, 3] 4 (by decide) rfl rfl rfl rfl) 0 rfl rfl ⟨Nat.le_of_ble_eq_true rfl, Nat.le_of_ble_eq_true rfl⟩ rfl hl.1 rfl (Nat.le_of_ble_eq_true rfl) dX11_stand_2 ⟨Nat.le_of_ble_eq_true rfl, Nat.le_of_ble_eq_true rfl⟩ (fun r9 w9 H locs hB hP hD hS => ?_)
  obtain ⟨rfl, rfl⟩ := hB
  refine WG_eq (g2 := F0 m 5 ls [.int r_3]) rfl ?_
  refine lv_if_eq (tgt := 17) hx hb dX11_stand_5 (by decide) (fun c_4 => ?_) (fun c_4 => ?_)
  · replace hf := bc_t hf c_4
    exact J17 xo nv _ _ _ hP hD hS (lv_sub hl [0] rfl) hf
  · replace hf := bc_f hf c_4
    refine lv_iload_n hx hb dX11_stand_8 rfl (lv_at hl 2 rfl) ?_
    refine lv_iconst (v := 0) hx hb dX11_stand_9 (by decide) ?_
    refine lv_iconst (v := 1) hx hb dX11_stand_10 (by decide) ?_
    obtain ⟨r_5, hc5, hf⟩ := bd_e hf
    refine call_S (As := [.int v2, .int 0, .int 1]) (rest := []) hx hb hml hown hts hK hP hD hS hA hZ lkX11_75 (Ctr.upL (c_X11_within l G ct sk sv  n v2 0 1 hc5) [lfX ct g xo, lfN ct (fun j => g (10 + j)) nv, lfH ct (hsA g 0) g h0, lfK ct g] [lfX ct g xo, lfN ct (fun j => g (10 + j)) nv, lfH ct (hsA g 0) g h0, lfK ct g] [lfX ct g xo, lfN ct (fun j => g (10 + j)) nv, lfH ct (hsA g 0) g h0, lfK ct g] [0, 1, 2, 3] 4 (by decide) rfl rfl rfl rfl) ⟨Nat.le_of_ble_eq_true rfl, Nat.le_of_ble_eq_true rfl⟩ rfl hl.1 rfl (Nat.le_of_ble_eq_true rfl) dX11_stand_11 ⟨Nat.le_of_ble_eq_true rfl, Nat.le_of_ble_eq_true rfl⟩ (fun r9 w9 H locs hB hP hD hS => ?_)
    obtain ⟨rfl, rfl⟩ := hB
    refine WG_eq (g2 := F0 m 14 ls [.int r_5]) rfl ?_
    refine lv_if_ne (tgt := 22) hx hb dX11_stand_14 (by decide) (fun c_6 => ?_) (fun c_6 => ?_)
    · replace hf := bc_f hf c_6
      refine lv_aload_n hx hb dX11_stand_22 rfl (lv_at hl 0 rfl) ?_
      refine va_get (D := G) (C := RX11) (T := TX11) (N := 11) (v := .ref (g 10)) hx hb hts iu_X11 hown hK hP 0 rfl rfl 4 (by decide) (hts _ kw266) (fun _ h9 => h9) rfl dX11_stand_23 ?_
      refine lv_aload_n hx hb dX11_stand_26 rfl (lv_at hl 0 rfl) ?_
      refine va_get (D := G) (C := RX11) (T := TX11) (N := 11) (v := .ref ((hsA g 0) 0)) hx hb hts iu_X11 hown hK hP 0 rfl rfl 0 (by decide) (hts _ kw262) (fun _ h9 => h9) rfl dX11_stand_27 ?_
      refine lv_iload_n hx hb dX11_stand_30 rfl (lv_at hl 1 rfl) ?_
      obtain ⟨r_7, nv_8, hc8, hf⟩ := bd2_e hf
      refine call_V (As := [.ref ((hsA g 0) 0), .int v1]) (rest := []) hx hb hml hown hts hK hP hD hS hA hZ lkX11_231 (Ctr.upL (c_X3_bestPlace l G ct sk sv (fun j => g (10 + j)) (hsA g 0) g n nv h0 v1 hc8) [lfX ct g xo] [lfX ct g xo, lfN ct (fun j => g (10 + j)) nv, lfH ct (hsA g 0) g h0, lfK ct g] [lfX ct g xo, lfN ct (fun j => g (10 + j)) nv_8, lfH ct (hsA g 0) g h0, lfK ct g] [1, 2, 3, 0] 4 (by decide) rfl rfl rfl rfl) 3 rfl rfl ⟨Nat.le_of_ble_eq_true rfl, Nat.le_of_ble_eq_true rfl⟩ rfl hl.1 rfl (Nat.le_of_ble_eq_true rfl) dX11_stand_31 ⟨Nat.le_of_ble_eq_true rfl, Nat.le_of_ble_eq_true rfl⟩ (fun r9 w9 H locs hB hP hD hS => ?_)
      obtain ⟨rfl, rfl⟩ := hB
      refine WG_eq (g2 := F0 m 34 ls [.int r_7]) rfl ?_
      refine lv_istore_n (lv' := [(3, .int r_7), (0, .ref (g 7)), (1, .int v1), (2, .int v2)]) hx hb dX11_stand_34 rfl hl (by decide) rfl (fun ls hl => ?_)
      refine lv_iload_n hx hb dX11_stand_35 rfl (lv_at hl 3 rfl) ?_
      refine lv_if_ne (tgt := 43) hx hb dX11_stand_36 (by decide) (fun c_9 => ?_) (fun c_9 => ?_)
      · replace hf := bc_f hf c_9
        refine lv_aload_n hx hb dX11_stand_43 rfl (lv_at hl 1 rfl) ?_
        refine va_get (D := G) (C := RX11) (T := TX11) (N := 11) (v := .ref (g 10)) hx hb hts iu_X11 hown hK hP 0 rfl rfl 4 (by decide) (hts _ kw266) (fun _ h9 => h9) rfl dX11_stand_44 ?_
        refine va_get (D := G) (C := RX3) (T := TX3) (N := 9) (v := .int (nv_8.1 1)) hx hb hts iu_X3 hown hK hP 3 rfl rfl 8 (by decide) (hts _ kw213) (fun _ h9 => h9) rfl dX11_stand_47 ?_
        exact J50 xo nv_8 (nv_8.1 1) _ _ _ hP hD hS (lv_sub hl [] rfl) hf
      · replace hf := bc_t hf c_9
        refine lv_iload_n hx hb dX11_stand_39 rfl (lv_at hl 0 rfl) ?_
        refine lv_goto (tgt := 50) hx hb dX11_stand_40 (by decide) ?_
        exact J50 xo nv_8 r_7 _ _ _ hP hD hS (lv_sub hl [] rfl) hf
    · replace hf := bc_t hf c_6
      exact J17 xo nv _ _ _ hP hD hS (lv_sub hl [0] rfl) hf
noncomputable def f_X11_status (n : Nat) (xo : MV) (v1 : Int32) : Option (Int32 × MV) :=
  bc (v1 = 0) (some (xo.1 0, xo)) <|
  bc (v1 = 1) (some (xo.1 1, xo)) <|
  bc (v1 = 2) (some (xo.1 2, xo)) <|
  bd2 (f_X11_refuseBad n xo) fun r_4 xo_5 =>
  some ((-1), xo_5)
set_option maxHeartbeats 4000000 in
set_option maxRecDepth 100000 in
theorem c_X11_status (l : Launch) (G : va_G) (ct : Nat → ClassId) (sk sv : Nat → Nat) (g : Nat → Nat) (n : Nat) (xo : MV) (v1 : Int32) {r : Int32} {xo' : MV} (hf : f_X11_status n xo v1 = some (r, xo')) : Ctr (l, G, ct, sk, sv) mX11_status 1 20 [.ref (g 7), .int v1] (wl [lfX ct g xo]) (wl [lfX ct g xo']) (some (.int r)) := by
  refine ctr_intro (by decide) (Nat.le_of_ble_eq_true rfl) ?_
  intro p e s m args below meth c A C hP hD hS hA ls hl
  obtain ⟨hx, hb, hml, hown, hts, hr, hlocks, hK, hnm, hZ⟩ := C
  have hb : c.code = cX11_status := hb
  have hml : c.maxLocals = 2 := hml
  have hown : s.vm.findClass "SignedOutside" = some m.cls := hown
  have hr : meth.sig.returnType = some .int := hr
  have hP : va_P G classes (wl [lfX ct g xo]) s.heap := hP
  have hD : va_D A (wl [lfX ct g xo]) := hD
  have hK : va_K G classes (TYS ct) s := hK
  have hl : lv_has ls 2 [(0, .ref (g 7)), (1, .int v1)] := hl
  unfold f_X11_status at hf
  show WG l G ct sk sv p e (RM 1 20 0 0) s m args below meth c A (Eq2 (some (.int r)) (wl [lfX ct g xo'])) s.heap [] (F0 m 0 ls [])
  refine lv_iload_n hx hb dX11_status_0 rfl (lv_at hl 1 rfl) ?_
  rcases Classical.em (v1 = 0) with c_1 | c_1
  · replace hf := bc_t hf c_1
    refine lv_tableIn (tgt := 28) hx hb dX11_status_1 (by rw [c_1]; decide) (by rw [c_1]; decide) (by rw [c_1]; rfl) (by decide) ?_
    refine lv_aload_n hx hb dX11_status_28 rfl (lv_at hl 0 rfl) ?_
    refine va_get (D := G) (C := RX11) (T := TX11) (N := 11) (v := .int (xo.1 0)) hx hb hts iu_X11 hown hK hP 0 rfl rfl 8 (by decide) (hts _ kw270) (fun _ h9 => h9) rfl dX11_status_29 ?_
    obtain ⟨e1, e2⟩ := inj2 (Option.some.inj hf)
    exact end_i (w' := (wl [lfX ct g xo])) hx hb hr hlocks hK hP hD hS dX11_status_32  ⟨by rw [← e1], by rw [← e2]⟩
  replace hf := bc_f hf c_1
  rcases Classical.em (v1 = 1) with c_2 | c_2
  · replace hf := bc_t hf c_2
    refine lv_tableIn (tgt := 33) hx hb dX11_status_1 (by rw [c_2]; decide) (by rw [c_2]; decide) (by rw [c_2]; rfl) (by decide) ?_
    refine lv_aload_n hx hb dX11_status_33 rfl (lv_at hl 0 rfl) ?_
    refine va_get (D := G) (C := RX11) (T := TX11) (N := 11) (v := .int (xo.1 1)) hx hb hts iu_X11 hown hK hP 0 rfl rfl 9 (by decide) (hts _ kw271) (fun _ h9 => h9) rfl dX11_status_34 ?_
    obtain ⟨e1, e2⟩ := inj2 (Option.some.inj hf)
    exact end_i (w' := (wl [lfX ct g xo])) hx hb hr hlocks hK hP hD hS dX11_status_37  ⟨by rw [← e1], by rw [← e2]⟩
  replace hf := bc_f hf c_2
  rcases Classical.em (v1 = 2) with c_3 | c_3
  · replace hf := bc_t hf c_3
    refine lv_tableIn (tgt := 38) hx hb dX11_status_1 (by rw [c_3]; decide) (by rw [c_3]; decide) (by rw [c_3]; rfl) (by decide) ?_
    refine lv_aload_n hx hb dX11_status_38 rfl (lv_at hl 0 rfl) ?_
    refine va_get (D := G) (C := RX11) (T := TX11) (N := 11) (v := .int (xo.1 2)) hx hb hts iu_X11 hown hK hP 0 rfl rfl 10 (by decide) (hts _ kw272) (fun _ h9 => h9) rfl dX11_status_39 ?_
    obtain ⟨e1, e2⟩ := inj2 (Option.some.inj hf)
    exact end_i (w' := (wl [lfX ct g xo])) hx hb hr hlocks hK hP hD hS dX11_status_42  ⟨by rw [← e1], by rw [← e2]⟩
  replace hf := bc_f hf c_3
  have tc_1 := lv_neT (a := 0) c_1 (by decide)
  have tc_2 := lv_neT (a := 1) c_2 (by decide)
  have tc_3 := lv_neT (a := 2) c_3 (by decide)
  refine lv_tableOut (tgt := 43) hx hb dX11_status_1 (by omega) (by decide) ?_
  refine lv_aload_n hx hb dX11_status_43 rfl (lv_at hl 0 rfl) ?_
  obtain ⟨r_4, xo_5, hc5, hf⟩ := bd2_e hf
  refine call_V (As := []) (rest := []) hx hb hml hown hts hK hP hD hS hA hZ lkX11_83 (c_X11_refuseBad l G ct sk sv g n xo hc5) 0 rfl rfl ⟨Nat.le_of_ble_eq_true rfl, Nat.le_of_ble_eq_true rfl⟩ rfl hl.1 rfl (Nat.le_of_ble_eq_true rfl) dX11_status_44 ⟨Nat.le_of_ble_eq_true rfl, Nat.le_of_ble_eq_true rfl⟩ (fun r9 w9 H locs hB hP hD hS => ?_)
  obtain ⟨rfl, rfl⟩ := hB
  refine WG_eq (g2 := F0 m 47 ls [.int r_4]) rfl ?_
  refine lv_pop hx hb dX11_status_47 rfl ?_
  refine lv_iconst (v := (-1)) hx hb dX11_status_48 (by decide) ?_
  obtain ⟨e1, e2⟩ := inj2 (Option.some.inj hf)
  exact end_i (w' := (wl [lfX ct g xo_5])) hx hb hr hlocks hK hP hD hS dX11_status_49  ⟨by rw [← e1], by rw [← e2]⟩
noncomputable def f_X11_type (n : Nat) (xo : MV) (rv : MV) (v1 : Int32) : Option (Int32 × MV × MV) :=
  bd (f_X11_within n v1 0 127) fun r_1 =>
  bc (r_1 = 0) (bd2 (f_X11_refuseBad n xo) fun r_8 xo_9 =>
  some (r_8, xo_9, rv))
  (bd2 (f_X6_append n rv v1) fun r_3 rv_4 =>
  bc (r_3 = 0) (bd2 (f_X11_refuseFull n xo) fun r_6 xo_7 =>
  some (r_6, xo_7, rv_4))
  (some (rv_4.1 0, xo, rv_4)))
set_option maxHeartbeats 4000000 in
set_option maxRecDepth 100000 in
theorem c_X11_type (l : Launch) (G : va_G) (ct : Nat → ClassId) (sk sv : Nat → Nat) (g : Nat → Nat) (n : Nat) (xo : MV) (rv : MV) (v1 : Int32) {r : Int32} {xo' : MV} {rv' : MV} (hf : f_X11_type n xo rv v1 = some (r, xo', rv')) : Ctr (l, G, ct, sk, sv) mX11_type 1 22 [.ref (g 7), .int v1] (wl [lfX ct g xo, lfR ct (fun j => g (18 + j)) rv]) (wl [lfX ct g xo', lfR ct (fun j => g (18 + j)) rv']) (some (.int r)) := by
  refine ctr_intro (by decide) (Nat.le_of_ble_eq_true rfl) ?_
  intro p e s m args below meth c A C hP hD hS hA ls hl
  obtain ⟨hx, hb, hml, hown, hts, hr, hlocks, hK, hnm, hZ⟩ := C
  have hb : c.code = cX11_type := hb
  have hml : c.maxLocals = 2 := hml
  have hown : s.vm.findClass "SignedOutside" = some m.cls := hown
  have hr : meth.sig.returnType = some .int := hr
  have hP : va_P G classes (wl [lfX ct g xo, lfR ct (fun j => g (18 + j)) rv]) s.heap := hP
  have hD : va_D A (wl [lfX ct g xo, lfR ct (fun j => g (18 + j)) rv]) := hD
  have hK : va_K G classes (TYS ct) s := hK
  have hl : lv_has ls 2 [(0, .ref (g 7)), (1, .int v1)] := hl
  unfold f_X11_type at hf
  show WG l G ct sk sv p e (RM 1 22 0 0) s m args below meth c A (Eq2 (some (.int r)) (wl [lfX ct g xo', lfR ct (fun j => g (18 + j)) rv'])) s.heap [] (F0 m 0 ls [])
  refine lv_iload_n hx hb dX11_type_0 rfl (lv_at hl 1 rfl) ?_
  refine lv_iconst (v := 0) hx hb dX11_type_1 (by decide) ?_
  refine lv_bipush (v := 127) hx hb dX11_type_2 (by decide) ?_
  obtain ⟨r_1, hc1, hf⟩ := bd_e hf
  refine call_S (As := [.int v1, .int 0, .int 127]) (rest := []) hx hb hml hown hts hK hP hD hS hA hZ lkX11_75 (Ctr.upL (c_X11_within l G ct sk sv  n v1 0 127 hc1) [lfX ct g xo, lfR ct (fun j => g (18 + j)) rv] [lfX ct g xo, lfR ct (fun j => g (18 + j)) rv] [lfX ct g xo, lfR ct (fun j => g (18 + j)) rv] [0, 1] 2 (by decide) rfl rfl rfl rfl) ⟨Nat.le_of_ble_eq_true rfl, Nat.le_of_ble_eq_true rfl⟩ rfl hl.1 rfl (Nat.le_of_ble_eq_true rfl) dX11_type_4 ⟨Nat.le_of_ble_eq_true rfl, Nat.le_of_ble_eq_true rfl⟩ (fun r9 w9 H locs hB hP hD hS => ?_)
  obtain ⟨rfl, rfl⟩ := hB
  refine WG_eq (g2 := F0 m 7 ls [.int r_1]) rfl ?_
  refine lv_if_ne (tgt := 15) hx hb dX11_type_7 (by decide) (fun c_2 => ?_) (fun c_2 => ?_)
  · replace hf := bc_f hf c_2
    refine lv_aload_n hx hb dX11_type_15 rfl (lv_at hl 0 rfl) ?_
    refine va_get (D := G) (C := RX11) (T := TX11) (N := 11) (v := .ref (g 18)) hx hb hts iu_X11 hown hK hP 0 rfl rfl 5 (by decide) (hts _ kw267) (fun _ h9 => h9) rfl dX11_type_16 ?_
    refine lv_iload_n hx hb dX11_type_19 rfl (lv_at hl 1 rfl) ?_
    obtain ⟨r_3, rv_4, hc4, hf⟩ := bd2_e hf
    refine call_V (As := [.int v1]) (rest := []) hx hb hml hown hts hK hP hD hS hA hZ lkX11_108 (Ctr.upL (c_X6_append l G ct sk sv (fun j => g (18 + j)) n rv v1 hc4) [lfX ct g xo] [lfX ct g xo, lfR ct (fun j => g (18 + j)) rv] [lfX ct g xo, lfR ct (fun j => g (18 + j)) rv_4] [1, 0] 2 (by decide) rfl rfl rfl rfl) 3 rfl rfl ⟨Nat.le_of_ble_eq_true rfl, Nat.le_of_ble_eq_true rfl⟩ rfl hl.1 rfl (Nat.le_of_ble_eq_true rfl) dX11_type_20 ⟨Nat.le_of_ble_eq_true rfl, Nat.le_of_ble_eq_true rfl⟩ (fun r9 w9 H locs hB hP hD hS => ?_)
    obtain ⟨rfl, rfl⟩ := hB
    refine WG_eq (g2 := F0 m 23 ls [.int r_3]) rfl ?_
    refine lv_if_ne (tgt := 31) hx hb dX11_type_23 (by decide) (fun c_5 => ?_) (fun c_5 => ?_)
    · replace hf := bc_f hf c_5
      refine lv_aload_n hx hb dX11_type_31 rfl (lv_at hl 0 rfl) ?_
      refine va_get (D := G) (C := RX11) (T := TX11) (N := 11) (v := .ref (g 18)) hx hb hts iu_X11 hown hK hP 0 rfl rfl 5 (by decide) (hts _ kw267) (fun _ h9 => h9) rfl dX11_type_32 ?_
      refine va_get (D := G) (C := RX6) (T := TX6) (N := 6) (v := .int (rv_4.1 0)) hx hb hts iu_X6 hown hK hP 3 rfl rfl 1 (by decide) (hts _ kw242) (fun _ h9 => h9) rfl dX11_type_35 ?_
      obtain ⟨e1, e2, e3⟩ := inj3 (Option.some.inj hf)
      exact end_i (w' := (wl [lfX ct g xo, lfR ct (fun j => g (18 + j)) rv_4])) hx hb hr hlocks hK hP hD hS dX11_type_38  ⟨by rw [← e1], by rw [← e2, ← e3]⟩
    · replace hf := bc_t hf c_5
      refine lv_aload_n hx hb dX11_type_26 rfl (lv_at hl 0 rfl) ?_
      obtain ⟨r_6, xo_7, hc7, hf⟩ := bd2_e hf
      refine call_V (As := []) (rest := []) hx hb hml hown hts hK hP hD hS hA hZ lkX11_87 (Ctr.upL (c_X11_refuseFull l G ct sk sv g n xo hc7) [lfR ct (fun j => g (18 + j)) rv_4] [lfX ct g xo, lfR ct (fun j => g (18 + j)) rv_4] [lfX ct g xo_7, lfR ct (fun j => g (18 + j)) rv_4] [0, 1] 2 (by decide) rfl rfl rfl rfl) 0 rfl rfl ⟨Nat.le_of_ble_eq_true rfl, Nat.le_of_ble_eq_true rfl⟩ rfl hl.1 rfl (Nat.le_of_ble_eq_true rfl) dX11_type_27 ⟨Nat.le_of_ble_eq_true rfl, Nat.le_of_ble_eq_true rfl⟩ (fun r9 w9 H locs hB hP hD hS => ?_)
      obtain ⟨rfl, rfl⟩ := hB
      refine WG_eq (g2 := F0 m 30 ls [.int r_6]) rfl ?_
      obtain ⟨e1, e2, e3⟩ := inj3 (Option.some.inj hf)
      exact end_i (w' := (wl [lfX ct g xo_7, lfR ct (fun j => g (18 + j)) rv_4])) hx hb hr hlocks hK hP hD hS dX11_type_30  ⟨by rw [← e1], by rw [← e2, ← e3]⟩
  · replace hf := bc_t hf c_2
    refine lv_aload_n hx hb dX11_type_10 rfl (lv_at hl 0 rfl) ?_
    obtain ⟨r_8, xo_9, hc9, hf⟩ := bd2_e hf
    refine call_V (As := []) (rest := []) hx hb hml hown hts hK hP hD hS hA hZ lkX11_83 (Ctr.upL (c_X11_refuseBad l G ct sk sv g n xo hc9) [lfR ct (fun j => g (18 + j)) rv] [lfX ct g xo, lfR ct (fun j => g (18 + j)) rv] [lfX ct g xo_9, lfR ct (fun j => g (18 + j)) rv] [0, 1] 2 (by decide) rfl rfl rfl rfl) 0 rfl rfl ⟨Nat.le_of_ble_eq_true rfl, Nat.le_of_ble_eq_true rfl⟩ rfl hl.1 rfl (Nat.le_of_ble_eq_true rfl) dX11_type_11 ⟨Nat.le_of_ble_eq_true rfl, Nat.le_of_ble_eq_true rfl⟩ (fun r9 w9 H locs hB hP hD hS => ?_)
    obtain ⟨rfl, rfl⟩ := hB
    refine WG_eq (g2 := F0 m 14 ls [.int r_8]) rfl ?_
    obtain ⟨e1, e2, e3⟩ := inj3 (Option.some.inj hf)
    exact end_i (w' := (wl [lfX ct g xo_9, lfR ct (fun j => g (18 + j)) rv])) hx hb hr hlocks hK hP hD hS dX11_type_14  ⟨by rw [← e1], by rw [← e2, ← e3]⟩
noncomputable def f_X11_undo (n : Nat) (xo : MV) (h0 : MV) (ps0 : MV) : Option (Int32 × MV × MV × MV) :=
  bd3 (f_X4_giveBack n h0 ps0) fun r_1 h0_2 ps0_3 =>
  bc (r_1 = 0) (bd2 (f_X11_refuseNo n xo) fun r_5 xo_6 =>
  some (r_5, xo_6, h0_2, ps0_3))
  (some (h0_2.1 2, xo, h0_2, ps0_3))
set_option maxHeartbeats 4000000 in
set_option maxRecDepth 100000 in
theorem c_X11_undo (l : Launch) (G : va_G) (ct : Nat → ClassId) (sk sv : Nat → Nat) (g : Nat → Nat) (n : Nat) (xo : MV) (h0 : MV) (ps0 : MV) {r : Int32} {xo' : MV} {h0' : MV} {ps0' : MV} (hf : f_X11_undo n xo h0 ps0 = some (r, xo', h0', ps0')) : Ctr (l, G, ct, sk, sv) mX11_undo 2 87 [.ref (g 7)] (wl [lfX ct g xo, lfH ct (hsA g 0) g h0, lfP ct (fun j => (hsA g 0) (16 + j)) ps0]) (wl [lfX ct g xo', lfH ct (hsA g 0) g h0', lfP ct (fun j => (hsA g 0) (16 + j)) ps0']) (some (.int r)) := by
  refine ctr_intro (by decide) (Nat.le_of_ble_eq_true rfl) ?_
  intro p e s m args below meth c A C hP hD hS hA ls hl
  obtain ⟨hx, hb, hml, hown, hts, hr, hlocks, hK, hnm, hZ⟩ := C
  have hb : c.code = cX11_undo := hb
  have hml : c.maxLocals = 1 := hml
  have hown : s.vm.findClass "SignedOutside" = some m.cls := hown
  have hr : meth.sig.returnType = some .int := hr
  have hP : va_P G classes (wl [lfX ct g xo, lfH ct (hsA g 0) g h0, lfP ct (fun j => (hsA g 0) (16 + j)) ps0]) s.heap := hP
  have hD : va_D A (wl [lfX ct g xo, lfH ct (hsA g 0) g h0, lfP ct (fun j => (hsA g 0) (16 + j)) ps0]) := hD
  have hK : va_K G classes (TYS ct) s := hK
  have hl : lv_has ls 1 [(0, .ref (g 7))] := hl
  unfold f_X11_undo at hf
  show WG l G ct sk sv p e (RM 2 87 0 0) s m args below meth c A (Eq2 (some (.int r)) (wl [lfX ct g xo', lfH ct (hsA g 0) g h0', lfP ct (fun j => (hsA g 0) (16 + j)) ps0'])) s.heap [] (F0 m 0 ls [])
  refine lv_aload_n hx hb dX11_undo_0 rfl (lv_at hl 0 rfl) ?_
  refine va_get (D := G) (C := RX11) (T := TX11) (N := 11) (v := .ref ((hsA g 0) 0)) hx hb hts iu_X11 hown hK hP 0 rfl rfl 0 (by decide) (hts _ kw262) (fun _ h9 => h9) rfl dX11_undo_1 ?_
  refine va_get (D := G) (C := RX1) (T := TX1) (N := 16) (v := .ref ((hsA g 0) 16)) hx hb hts iu_X1 hown hK hP 3 rfl rfl 15 (by decide) (hts _ kw162) (fun _ h9 => h9) rfl dX11_undo_4 ?_
  refine lv_aload_n hx hb dX11_undo_7 rfl (lv_at hl 0 rfl) ?_
  refine va_get (D := G) (C := RX11) (T := TX11) (N := 11) (v := .ref ((hsA g 0) 0)) hx hb hts iu_X11 hown hK hP 0 rfl rfl 0 (by decide) (hts _ kw262) (fun _ h9 => h9) rfl dX11_undo_8 ?_
  obtain ⟨r_1, h0_2, ps0_3, hc3, hf⟩ := bd3_e hf
  refine call_V (As := [.ref ((hsA g 0) 0)]) (rest := []) hx hb hml hown hts hK hP hD hS hA hZ lkX11_166 (Ctr.upL (c_X4_giveBack l G ct sk sv (hsA g 0) g n h0 ps0 hc3) [lfX ct g xo] [lfX ct g xo, lfH ct (hsA g 0) g h0, lfP ct (fun j => (hsA g 0) (16 + j)) ps0] [lfX ct g xo, lfH ct (hsA g 0) g h0_2, lfP ct (fun j => (hsA g 0) (16 + j)) ps0_3] [1, 2, 0] 3 (by decide) rfl rfl rfl rfl) 11 rfl rfl ⟨Nat.le_of_ble_eq_true rfl, Nat.le_of_ble_eq_true rfl⟩ rfl hl.1 rfl (Nat.le_of_ble_eq_true rfl) dX11_undo_11 ⟨Nat.le_of_ble_eq_true rfl, Nat.le_of_ble_eq_true rfl⟩ (fun r9 w9 H locs hB hP hD hS => ?_)
  obtain ⟨rfl, rfl⟩ := hB
  refine WG_eq (g2 := F0 m 14 ls [.int r_1]) rfl ?_
  refine lv_if_ne (tgt := 22) hx hb dX11_undo_14 (by decide) (fun c_4 => ?_) (fun c_4 => ?_)
  · replace hf := bc_f hf c_4
    refine lv_aload_n hx hb dX11_undo_22 rfl (lv_at hl 0 rfl) ?_
    refine va_get (D := G) (C := RX11) (T := TX11) (N := 11) (v := .ref ((hsA g 0) 0)) hx hb hts iu_X11 hown hK hP 0 rfl rfl 0 (by decide) (hts _ kw262) (fun _ h9 => h9) rfl dX11_undo_23 ?_
    refine va_get (D := G) (C := RX1) (T := TX1) (N := 16) (v := .int (h0_2.1 2)) hx hb hts iu_X1 hown hK hP 3 rfl rfl 10 (by decide) (hts _ kw150) (fun _ h9 => h9) rfl dX11_undo_26 ?_
    obtain ⟨e1, e2, e3, e4⟩ := inj4 (Option.some.inj hf)
    exact end_i (w' := (wl [lfX ct g xo, lfH ct (hsA g 0) g h0_2, lfP ct (fun j => (hsA g 0) (16 + j)) ps0_3])) hx hb hr hlocks hK hP hD hS dX11_undo_29  ⟨by rw [← e1], by rw [← e2, ← e3, ← e4]⟩
  · replace hf := bc_t hf c_4
    refine lv_aload_n hx hb dX11_undo_17 rfl (lv_at hl 0 rfl) ?_
    obtain ⟨r_5, xo_6, hc6, hf⟩ := bd2_e hf
    refine call_V (As := []) (rest := []) hx hb hml hown hts hK hP hD hS hA hZ lkX11_135 (Ctr.upL (c_X11_refuseNo l G ct sk sv g n xo hc6) [lfH ct (hsA g 0) g h0_2, lfP ct (fun j => (hsA g 0) (16 + j)) ps0_3] [lfX ct g xo, lfH ct (hsA g 0) g h0_2, lfP ct (fun j => (hsA g 0) (16 + j)) ps0_3] [lfX ct g xo_6, lfH ct (hsA g 0) g h0_2, lfP ct (fun j => (hsA g 0) (16 + j)) ps0_3] [0, 1, 2] 3 (by decide) rfl rfl rfl rfl) 0 rfl rfl ⟨Nat.le_of_ble_eq_true rfl, Nat.le_of_ble_eq_true rfl⟩ rfl hl.1 rfl (Nat.le_of_ble_eq_true rfl) dX11_undo_18 ⟨Nat.le_of_ble_eq_true rfl, Nat.le_of_ble_eq_true rfl⟩ (fun r9 w9 H locs hB hP hD hS => ?_)
    obtain ⟨rfl, rfl⟩ := hB
    refine WG_eq (g2 := F0 m 21 ls [.int r_5]) rfl ?_
    obtain ⟨e1, e2, e3, e4⟩ := inj4 (Option.some.inj hf)
    exact end_i (w' := (wl [lfX ct g xo_6, lfH ct (hsA g 0) g h0_2, lfP ct (fun j => (hsA g 0) (16 + j)) ps0_3])) hx hb hr hlocks hK hP hD hS dX11_undo_21  ⟨by rw [← e1], by rw [← e2, ← e3, ← e4]⟩
noncomputable def f_X11_where_j102 (n : Nat) (xo : MV) (h0 : MV) (cv0 : MV) (s0 : Int32) : Option (Int32 × MV) :=
  some (s0, xo)
noncomputable def f_X11_where_j24 (n : Nat) (xo : MV) (h0 : MV) (cv0 : MV) : Option (Int32 × MV) :=
  bd2 (f_X11_refuseBad n xo) fun r_1 xo_2 =>
  some (r_1, xo_2)
noncomputable def f_X11_where (n : Nat) (xo : MV) (h0 : MV) (cv0 : MV) (v1 : Int32) (v2 : Int32) (v3 : Int32) : Option (Int32 × MV) :=
  bd (f_X11_isMember n xo h0 v1) fun r_3 =>
  bc (r_3 = 0) (f_X11_where_j24 n xo h0 cv0)
  (bd (f_X11_isSlipDay n v2) fun r_5 =>
  bc (r_5 = 0) (f_X11_where_j24 n xo h0 cv0)
  (bd (f_X11_within n v3 0 1) fun r_7 =>
  bc (r_7 = 0) (f_X11_where_j24 n xo h0 cv0)
  (bd (f_X8_onDay n cv0 v1 v2) fun r_9 =>
  bd (f_X1_kindAt n h0 v1) fun i_10 =>
  bd (f_K_reach n i_10 ) fun r_11 =>
  bd (f_X8_placesFor n cv0 r_9 r_11) fun r_12 =>
  bc (v3 = 0) (some (r_12, xo))
  (bc (r_12 = 0) (f_X11_where_j102 n xo h0 cv0 (-1))
  (bd (f_X8_lowest n cv0 r_9 r_11) fun r_15 =>
  f_X11_where_j102 n xo h0 cv0 r_15)))))
set_option maxHeartbeats 4000000 in
set_option maxRecDepth 100000 in
theorem c_X11_where (l : Launch) (G : va_G) (ct : Nat → ClassId) (sk sv : Nat → Nat) (g : Nat → Nat) (n : Nat) (xo : MV) (h0 : MV) (cv0 : MV) (v1 : Int32) (v2 : Int32) (v3 : Int32) {r : Int32} {xo' : MV} (hf : f_X11_where n xo h0 cv0 v1 v2 v3 = some (r, xo')) : Ctr (l, G, ct, sk, sv) mX11_where 4 160 [.ref (g 7), .int v1, .int v2, .int v3] (wl [lfX ct g xo, lfH ct (hsA g 0) g h0, lfS ct (fun j => (hsA g 0) (8 + j)) cv0, lfK ct g]) (wl [lfX ct g xo', lfH ct (hsA g 0) g h0, lfS ct (fun j => (hsA g 0) (8 + j)) cv0, lfK ct g]) (some (.int r)) := by
  refine ctr_intro (by decide) (Nat.le_of_ble_eq_true rfl) ?_
  intro p e s m args below meth c A C hP hD hS hA ls hl
  obtain ⟨hx, hb, hml, hown, hts, hr, hlocks, hK, hnm, hZ⟩ := C
  have hb : c.code = cX11_where := hb
  have hml : c.maxLocals = 7 := hml
  have hown : s.vm.findClass "SignedOutside" = some m.cls := hown
  have hr : meth.sig.returnType = some .int := hr
  have hP : va_P G classes (wl [lfX ct g xo, lfH ct (hsA g 0) g h0, lfS ct (fun j => (hsA g 0) (8 + j)) cv0, lfK ct g]) s.heap := hP
  have hD : va_D A (wl [lfX ct g xo, lfH ct (hsA g 0) g h0, lfS ct (fun j => (hsA g 0) (8 + j)) cv0, lfK ct g]) := hD
  have hK : va_K G classes (TYS ct) s := hK
  have hl : lv_has ls 7 [(0, .ref (g 7)), (1, .int v1), (2, .int v2), (3, .int v3)] := hl
  have J102 : ∀ (xo : MV) (s0 : Int32) (H : Heap) (locs : List Loc) (ls : Array Slot), va_P G classes (wl [lfX ct g xo, lfH ct (hsA g 0) g h0, lfS ct (fun j => (hsA g 0) (8 + j)) cv0, lfK ct g]) H → va_D A (wl [lfX ct g xo, lfH ct (hsA g 0) g h0, lfS ct (fun j => (hsA g 0) (8 + j)) cv0, lfK ct g]) → va_S A s.heap H locs → lv_has ls 7 [] → f_X11_where_j102 n xo h0 cv0 s0 = some (r, xo') → WG l G ct sk sv p e (RM 4 160 0 0) s m args below meth c A (Eq2 (some (.int r)) (wl [lfX ct g xo', lfH ct (hsA g 0) g h0, lfS ct (fun j => (hsA g 0) (8 + j)) cv0, lfK ct g])) H locs (F0 m 102 ls [.int s0]) := by
    intro xo s0 H locs ls hP hD hS hl hf
    unfold f_X11_where_j102 at hf
    obtain ⟨e1, e2⟩ := inj2 (Option.some.inj hf)
    exact end_i (w' := (wl [lfX ct g xo, lfH ct (hsA g 0) g h0, lfS ct (fun j => (hsA g 0) (8 + j)) cv0, lfK ct g])) hx hb hr hlocks hK hP hD hS dX11_where_102  ⟨by rw [← e1], by rw [← e2]⟩
  have J24 : ∀ (xo : MV) (H : Heap) (locs : List Loc) (ls : Array Slot), va_P G classes (wl [lfX ct g xo, lfH ct (hsA g 0) g h0, lfS ct (fun j => (hsA g 0) (8 + j)) cv0, lfK ct g]) H → va_D A (wl [lfX ct g xo, lfH ct (hsA g 0) g h0, lfS ct (fun j => (hsA g 0) (8 + j)) cv0, lfK ct g]) → va_S A s.heap H locs → lv_has ls 7 [(0, .ref (g 7))] → f_X11_where_j24 n xo h0 cv0 = some (r, xo') → WG l G ct sk sv p e (RM 4 160 0 0) s m args below meth c A (Eq2 (some (.int r)) (wl [lfX ct g xo', lfH ct (hsA g 0) g h0, lfS ct (fun j => (hsA g 0) (8 + j)) cv0, lfK ct g])) H locs (F0 m 24 ls []) := by
    intro xo H locs ls hP hD hS hl hf
    unfold f_X11_where_j24 at hf
    refine lv_aload_n hx hb dX11_where_24 rfl (lv_at hl 0 rfl) ?_
    obtain ⟨r_1, xo_2, hc2, hf⟩ := bd2_e hf
    refine call_V (As := []) (rest := []) hx hb hml hown hts hK hP hD hS hA hZ lkX11_83 (Ctr.upL (c_X11_refuseBad l G ct sk sv g n xo hc2) [lfH ct (hsA g 0) g h0, lfS ct (fun j => (hsA g 0) (8 + j)) cv0, lfK ct g] [lfX ct g xo, lfH ct (hsA g 0) g h0, lfS ct (fun j => (hsA g 0) (8 + j)) cv0, lfK ct g] [lfX ct g xo_2, lfH ct (hsA g 0) g h0, lfS ct (fun j => (hsA g 0) (8 + j)) cv0, lfK ct g] [0, 1, 2, 3] 4 (by decide) rfl rfl rfl rfl) 0 rfl rfl ⟨Nat.le_of_ble_eq_true rfl, Nat.le_of_ble_eq_true rfl⟩ rfl hl.1 rfl (Nat.le_of_ble_eq_true rfl) dX11_where_25 ⟨Nat.le_of_ble_eq_true rfl, Nat.le_of_ble_eq_true rfl⟩ (fun r9 w9 H locs hB hP hD hS => ?_)
    obtain ⟨rfl, rfl⟩ := hB
    refine WG_eq (g2 := F0 m 28 ls [.int r_1]) rfl ?_
    obtain ⟨e1, e2⟩ := inj2 (Option.some.inj hf)
    exact end_i (w' := (wl [lfX ct g xo_2, lfH ct (hsA g 0) g h0, lfS ct (fun j => (hsA g 0) (8 + j)) cv0, lfK ct g])) hx hb hr hlocks hK hP hD hS dX11_where_28  ⟨by rw [← e1], by rw [← e2]⟩
  unfold f_X11_where at hf
  show WG l G ct sk sv p e (RM 4 160 0 0) s m args below meth c A (Eq2 (some (.int r)) (wl [lfX ct g xo', lfH ct (hsA g 0) g h0, lfS ct (fun j => (hsA g 0) (8 + j)) cv0, lfK ct g])) s.heap [] (F0 m 0 ls [])
  refine lv_aload_n hx hb dX11_where_0 rfl (lv_at hl 0 rfl) ?_
  refine lv_iload_n hx hb dX11_where_1 rfl (lv_at hl 1 rfl) ?_
  obtain ⟨r_3, hc3, hf⟩ := bd_e hf
  refine call_V (As := [.int v1]) (rest := []) hx hb hml hown hts hK hP hD hS hA hZ lkX11_128 (Ctr.upL (c_X11_isMember l G ct sk sv g n xo h0 v1 hc3) [lfS ct (fun j => (hsA g 0) (8 + j)) cv0, lfK ct g] [lfX ct g xo, lfH ct (hsA g 0) g h0, lfS ct (fun j => (hsA g 0) (8 + j)) cv0, lfK ct g] [lfX ct g xo, lfH ct (hsA g 0) g h0, lfS ct (fun j => (hsA g 0) (8 + j)) cv0, lfK ct g] [0, 1, 2, 3] 4 (by decide) rfl rfl rfl rfl) 0 rfl rfl ⟨Nat.le_of_ble_eq_true rfl, Nat.le_of_ble_eq_true rfl⟩ rfl hl.1 rfl (Nat.le_of_ble_eq_true rfl) dX11_where_2 ⟨Nat.le_of_ble_eq_true rfl, Nat.le_of_ble_eq_true rfl⟩ (fun r9 w9 H locs hB hP hD hS => ?_)
  obtain ⟨rfl, rfl⟩ := hB
  refine WG_eq (g2 := F0 m 5 ls [.int r_3]) rfl ?_
  refine lv_if_eq (tgt := 24) hx hb dX11_where_5 (by decide) (fun c_4 => ?_) (fun c_4 => ?_)
  · replace hf := bc_t hf c_4
    exact J24 xo _ _ _ hP hD hS (lv_sub hl [0] rfl) hf
  · replace hf := bc_f hf c_4
    refine lv_iload_n hx hb dX11_where_8 rfl (lv_at hl 2 rfl) ?_
    obtain ⟨r_5, hc5, hf⟩ := bd_e hf
    refine call_S (As := [.int v2]) (rest := []) hx hb hml hown hts hK hP hD hS hA hZ lkX11_247 (Ctr.upL (c_X11_isSlipDay l G ct sk sv  n v2 hc5) [lfX ct g xo, lfH ct (hsA g 0) g h0, lfS ct (fun j => (hsA g 0) (8 + j)) cv0, lfK ct g] [lfX ct g xo, lfH ct (hsA g 0) g h0, lfS ct (fun j => (hsA g 0) (8 + j)) cv0, lfK ct g] [lfX ct g xo, lfH ct (hsA g 0) g h0, lfS ct (fun j => (hsA g 0) (8 + j)) cv0, lfK ct g] [0, 1, 2, 3] 4 (by decide) rfl rfl rfl rfl) ⟨Nat.le_of_ble_eq_true rfl, Nat.le_of_ble_eq_true rfl⟩ rfl hl.1 rfl (Nat.le_of_ble_eq_true rfl) dX11_where_9 ⟨Nat.le_of_ble_eq_true rfl, Nat.le_of_ble_eq_true rfl⟩ (fun r9 w9 H locs hB hP hD hS => ?_)
    obtain ⟨rfl, rfl⟩ := hB
    refine WG_eq (g2 := F0 m 12 ls [.int r_5]) rfl ?_
    refine lv_if_eq (tgt := 24) hx hb dX11_where_12 (by decide) (fun c_6 => ?_) (fun c_6 => ?_)
    · replace hf := bc_t hf c_6
      exact J24 xo _ _ _ hP hD hS (lv_sub hl [0] rfl) hf
    · replace hf := bc_f hf c_6
      refine lv_iload_n hx hb dX11_where_15 rfl (lv_at hl 3 rfl) ?_
      refine lv_iconst (v := 0) hx hb dX11_where_16 (by decide) ?_
      refine lv_iconst (v := 1) hx hb dX11_where_17 (by decide) ?_
      obtain ⟨r_7, hc7, hf⟩ := bd_e hf
      refine call_S (As := [.int v3, .int 0, .int 1]) (rest := []) hx hb hml hown hts hK hP hD hS hA hZ lkX11_75 (Ctr.upL (c_X11_within l G ct sk sv  n v3 0 1 hc7) [lfX ct g xo, lfH ct (hsA g 0) g h0, lfS ct (fun j => (hsA g 0) (8 + j)) cv0, lfK ct g] [lfX ct g xo, lfH ct (hsA g 0) g h0, lfS ct (fun j => (hsA g 0) (8 + j)) cv0, lfK ct g] [lfX ct g xo, lfH ct (hsA g 0) g h0, lfS ct (fun j => (hsA g 0) (8 + j)) cv0, lfK ct g] [0, 1, 2, 3] 4 (by decide) rfl rfl rfl rfl) ⟨Nat.le_of_ble_eq_true rfl, Nat.le_of_ble_eq_true rfl⟩ rfl hl.1 rfl (Nat.le_of_ble_eq_true rfl) dX11_where_18 ⟨Nat.le_of_ble_eq_true rfl, Nat.le_of_ble_eq_true rfl⟩ (fun r9 w9 H locs hB hP hD hS => ?_)
      obtain ⟨rfl, rfl⟩ := hB
      refine WG_eq (g2 := F0 m 21 ls [.int r_7]) rfl ?_
      refine lv_if_ne (tgt := 29) hx hb dX11_where_21 (by decide) (fun c_8 => ?_) (fun c_8 => ?_)
      · replace hf := bc_f hf c_8
        refine lv_aload_n hx hb dX11_where_29 rfl (lv_at hl 0 rfl) ?_
        refine va_get (D := G) (C := RX11) (T := TX11) (N := 11) (v := .ref ((hsA g 0) 0)) hx hb hts iu_X11 hown hK hP 0 rfl rfl 0 (by decide) (hts _ kw262) (fun _ h9 => h9) rfl dX11_where_30 ?_
        refine va_get (D := G) (C := RX1) (T := TX1) (N := 16) (v := .ref ((hsA g 0) 8)) hx hb hts iu_X1 hown hK hP 3 rfl rfl 13 (by decide) (hts _ kw158) (fun _ h9 => h9) rfl dX11_where_33 ?_
        refine lv_iload_n hx hb dX11_where_36 rfl (lv_at hl 1 rfl) ?_
        refine lv_iload_n hx hb dX11_where_37 rfl (lv_at hl 2 rfl) ?_
        obtain ⟨r_9, hc9, hf⟩ := bd_e hf
        refine call_V (As := [.int v1, .int v2]) (rest := []) hx hb hml hown hts hK hP hD hS hA hZ lkX11_265 (Ctr.upL (c_X8_onDay l G ct sk sv (fun j => (hsA g 0) (8 + j)) n cv0 v1 v2 hc9) [lfX ct g xo, lfH ct (hsA g 0) g h0, lfK ct g] [lfX ct g xo, lfH ct (hsA g 0) g h0, lfS ct (fun j => (hsA g 0) (8 + j)) cv0, lfK ct g] [lfX ct g xo, lfH ct (hsA g 0) g h0, lfS ct (fun j => (hsA g 0) (8 + j)) cv0, lfK ct g] [2, 0, 1, 3] 4 (by decide) rfl rfl rfl rfl) 11 rfl rfl ⟨Nat.le_of_ble_eq_true rfl, Nat.le_of_ble_eq_true rfl⟩ rfl hl.1 rfl (Nat.le_of_ble_eq_true rfl) dX11_where_38 ⟨Nat.le_of_ble_eq_true rfl, Nat.le_of_ble_eq_true rfl⟩ (fun r9 w9 H locs hB hP hD hS => ?_)
        obtain ⟨rfl, rfl⟩ := hB
        refine WG_eq (g2 := F0 m 41 ls [.int r_9]) rfl ?_
        refine lv_istore (lv' := [(4, .int r_9), (0, .ref (g 7)), (1, .int v1), (2, .int v2), (3, .int v3)]) hx hb dX11_where_41 hl (by decide) rfl (fun ls hl => ?_)
        refine lv_aload_n hx hb dX11_where_43 rfl (lv_at hl 1 rfl) ?_
        refine va_get (D := G) (C := RX11) (T := TX11) (N := 11) (v := .ref ((hsA g 0) 0)) hx hb hts iu_X11 hown hK hP 0 rfl rfl 0 (by decide) (hts _ kw262) (fun _ h9 => h9) rfl dX11_where_44 ?_
        refine lv_iload_n hx hb dX11_where_47 rfl (lv_at hl 2 rfl) ?_
        obtain ⟨i_10, hc10, hf⟩ := bd_e hf
        refine call_V (As := [.int v1]) (rest := []) hx hb hml hown hts hK hP hD hS hA hZ lkX11_170 (Ctr.upL (c_X1_kindAt l G ct sk sv (hsA g 0) g n h0 v1 hc10) [lfX ct g xo, lfS ct (fun j => (hsA g 0) (8 + j)) cv0] [lfX ct g xo, lfH ct (hsA g 0) g h0, lfS ct (fun j => (hsA g 0) (8 + j)) cv0, lfK ct g] [lfX ct g xo, lfH ct (hsA g 0) g h0, lfS ct (fun j => (hsA g 0) (8 + j)) cv0, lfK ct g] [1, 3, 0, 2] 4 (by decide) rfl rfl rfl rfl) 3 rfl rfl ⟨Nat.le_of_ble_eq_true rfl, Nat.le_of_ble_eq_true rfl⟩ rfl hl.1 rfl (Nat.le_of_ble_eq_true rfl) dX11_where_48 ⟨Nat.le_of_ble_eq_true rfl, Nat.le_of_ble_eq_true rfl⟩ (fun r9 w9 H locs hB hP hD hS => ?_)
        obtain ⟨rfl, rfl⟩ := hB
        refine WG_eq (g2 := F0 m 51 ls [.ref (g (1 + i_10))]) rfl ?_
        obtain ⟨r_11, hc11, hf⟩ := bd_e hf
        refine disp_X11_183 n (k := g) i_10 hx hb hml hown hts hK hP hD hS hA hZ hc11 16 rfl rfl rfl rfl rfl rfl (Nat.le_of_ble_eq_true rfl) (Nat.le_of_ble_eq_true rfl) hl.1 (Nat.le_of_ble_eq_true rfl) dX11_where_51 ⟨Nat.zero_le _, Nat.zero_le _⟩ (fun H locs hP hD hS => ?_)
        refine WG_eq (g2 := F0 m 54 ls [.int r_11]) rfl ?_
        refine lv_istore (lv' := [(5, .int r_11), (4, .int r_9), (0, .ref (g 7)), (1, .int v1), (2, .int v2), (3, .int v3)]) hx hb dX11_where_54 hl (by decide) rfl (fun ls hl => ?_)
        refine lv_aload_n hx hb dX11_where_56 rfl (lv_at hl 2 rfl) ?_
        refine va_get (D := G) (C := RX11) (T := TX11) (N := 11) (v := .ref ((hsA g 0) 0)) hx hb hts iu_X11 hown hK hP 0 rfl rfl 0 (by decide) (hts _ kw262) (fun _ h9 => h9) rfl dX11_where_57 ?_
        refine va_get (D := G) (C := RX1) (T := TX1) (N := 16) (v := .ref ((hsA g 0) 8)) hx hb hts iu_X1 hown hK hP 3 rfl rfl 13 (by decide) (hts _ kw158) (fun _ h9 => h9) rfl dX11_where_60 ?_
        refine lv_iload hx hb dX11_where_63 (lv_at hl 1 rfl) ?_
        refine lv_iload hx hb dX11_where_65 (lv_at hl 0 rfl) ?_
        obtain ⟨r_12, hc12, hf⟩ := bd_e hf
        refine call_V (As := [.int r_9, .int r_11]) (rest := []) hx hb hml hown hts hK hP hD hS hA hZ lkX11_268 (Ctr.upL (c_X8_placesFor l G ct sk sv (fun j => (hsA g 0) (8 + j)) n cv0 r_9 r_11 hc12) [lfX ct g xo, lfH ct (hsA g 0) g h0, lfK ct g] [lfX ct g xo, lfH ct (hsA g 0) g h0, lfS ct (fun j => (hsA g 0) (8 + j)) cv0, lfK ct g] [lfX ct g xo, lfH ct (hsA g 0) g h0, lfS ct (fun j => (hsA g 0) (8 + j)) cv0, lfK ct g] [2, 0, 1, 3] 4 (by decide) rfl rfl rfl rfl) 11 rfl rfl ⟨Nat.le_of_ble_eq_true rfl, Nat.le_of_ble_eq_true rfl⟩ rfl hl.1 rfl (Nat.le_of_ble_eq_true rfl) dX11_where_67 ⟨Nat.le_of_ble_eq_true rfl, Nat.le_of_ble_eq_true rfl⟩ (fun r9 w9 H locs hB hP hD hS => ?_)
        obtain ⟨rfl, rfl⟩ := hB
        refine WG_eq (g2 := F0 m 70 ls [.int r_12]) rfl ?_
        refine lv_istore (lv' := [(6, .int r_12), (5, .int r_11), (4, .int r_9), (0, .ref (g 7)), (1, .int v1), (2, .int v2), (3, .int v3)]) hx hb dX11_where_70 hl (by decide) rfl (fun ls hl => ?_)
        refine lv_iload_n hx hb dX11_where_72 rfl (lv_at hl 6 rfl) ?_
        refine lv_if_ne (tgt := 79) hx hb dX11_where_73 (by decide) (fun c_13 => ?_) (fun c_13 => ?_)
        · replace hf := bc_f hf c_13
          refine lv_iload hx hb dX11_where_79 (lv_at hl 0 rfl) ?_
          refine lv_if_ne (tgt := 88) hx hb dX11_where_81 (by decide) (fun c_14 => ?_) (fun c_14 => ?_)
          · replace hf := bc_f hf c_14
            refine lv_aload_n hx hb dX11_where_88 rfl (lv_at hl 3 rfl) ?_
            refine va_get (D := G) (C := RX11) (T := TX11) (N := 11) (v := .ref ((hsA g 0) 0)) hx hb hts iu_X11 hown hK hP 0 rfl rfl 0 (by decide) (hts _ kw262) (fun _ h9 => h9) rfl dX11_where_89 ?_
            refine va_get (D := G) (C := RX1) (T := TX1) (N := 16) (v := .ref ((hsA g 0) 8)) hx hb hts iu_X1 hown hK hP 3 rfl rfl 13 (by decide) (hts _ kw158) (fun _ h9 => h9) rfl dX11_where_92 ?_
            refine lv_iload hx hb dX11_where_95 (lv_at hl 2 rfl) ?_
            refine lv_iload hx hb dX11_where_97 (lv_at hl 1 rfl) ?_
            obtain ⟨r_15, hc15, hf⟩ := bd_e hf
            refine call_V (As := [.int r_9, .int r_11]) (rest := []) hx hb hml hown hts hK hP hD hS hA hZ lkX11_271 (Ctr.upL (c_X8_lowest l G ct sk sv (fun j => (hsA g 0) (8 + j)) n cv0 r_9 r_11 hc15) [lfX ct g xo, lfH ct (hsA g 0) g h0, lfK ct g] [lfX ct g xo, lfH ct (hsA g 0) g h0, lfS ct (fun j => (hsA g 0) (8 + j)) cv0, lfK ct g] [lfX ct g xo, lfH ct (hsA g 0) g h0, lfS ct (fun j => (hsA g 0) (8 + j)) cv0, lfK ct g] [2, 0, 1, 3] 4 (by decide) rfl rfl rfl rfl) 11 rfl rfl ⟨Nat.le_of_ble_eq_true rfl, Nat.le_of_ble_eq_true rfl⟩ rfl hl.1 rfl (Nat.le_of_ble_eq_true rfl) dX11_where_99 ⟨Nat.le_of_ble_eq_true rfl, Nat.le_of_ble_eq_true rfl⟩ (fun r9 w9 H locs hB hP hD hS => ?_)
            obtain ⟨rfl, rfl⟩ := hB
            refine WG_eq (g2 := F0 m 102 ls [.int r_15]) rfl ?_
            exact J102 xo r_15 _ _ _ hP hD hS (lv_sub hl [] rfl) hf
          · replace hf := bc_t hf c_14
            refine lv_iconst (v := (-1)) hx hb dX11_where_84 (by decide) ?_
            refine lv_goto (tgt := 102) hx hb dX11_where_85 (by decide) ?_
            exact J102 xo (-1) _ _ _ hP hD hS (lv_sub hl [] rfl) hf
        · replace hf := bc_t hf c_13
          refine lv_iload hx hb dX11_where_76 (lv_at hl 0 rfl) ?_
          obtain ⟨e1, e2⟩ := inj2 (Option.some.inj hf)
          exact end_i (w' := (wl [lfX ct g xo, lfH ct (hsA g 0) g h0, lfS ct (fun j => (hsA g 0) (8 + j)) cv0, lfK ct g])) hx hb hr hlocks hK hP hD hS dX11_where_78  ⟨by rw [← e1], by rw [← e2]⟩
      · replace hf := bc_t hf c_8
        exact J24 xo _ _ _ hP hD hS (lv_sub hl [0] rfl) hf
