noncomputable def f_X11_isPlace (n : Nat) (v0 : Int32) : Option (Int32) :=
  bd (f_X11_within n v0 0 99) fun r_1 =>
  gd (r_1 = 0 ∨ r_1 = 1) <| some r_1
set_option maxHeartbeats 4000000 in
set_option maxRecDepth 100000 in
theorem c_X11_isPlace (l : Launch) (G : va_G) (ct : Nat → ClassId) (sk sv : Nat → Nat)  (n : Nat) (v0 : Int32) {r : Int32} (hf : f_X11_isPlace n v0 = some r) : Ctr (l, G, ct, sk, sv) mX11_isPlace 1 22 [.int v0] (wl []) (wl []) (some (.int r)) := by
  refine ctr_intro (by decide) (Nat.le_of_ble_eq_true rfl) ?_
  intro p e s m args below meth c A C hP hD hS hA ls hl
  obtain ⟨hx, hb, hml, hown, hts, hr, hlocks, hK, hnm, hZ⟩ := C
  have hb : c.code = cX11_isPlace := hb
  have hml : c.maxLocals = 1 := hml
  have hown : s.vm.findClass "SignedOutside" = some m.cls := hown
  have hr : meth.sig.returnType = some .boolean := hr
  have hP : va_P G classes (wl []) s.heap := hP
  have hD : va_D A (wl []) := hD
  have hK : va_K G classes (TYS ct) s := hK
  have hl : lv_has ls 1 [(0, .int v0)] := hl
  unfold f_X11_isPlace at hf
  show WG l G ct sk sv p e (RM 1 22 0 0) s m args below meth c A (Eq2 (some (.int r)) (wl [])) s.heap [] (F0 m 0 ls [])
  refine lv_iload_n hx hb dX11_isPlace_0 rfl (lv_at hl 0 rfl) ?_
  refine lv_iconst (v := 0) hx hb dX11_isPlace_1 (by decide) ?_
  refine lv_bipush (v := 99) hx hb dX11_isPlace_2 (by decide) ?_
  obtain ⟨r_1, hc1, hf⟩ := bd_e hf
  refine call_S (As := [.int v0, .int 0, .int 99]) (rest := []) hx hb hml hown hts hK hP hD hS hA hZ lkX11_75 (c_X11_within l G ct sk sv  n v0 0 99 hc1) ⟨Nat.le_of_ble_eq_true rfl, Nat.le_of_ble_eq_true rfl⟩ rfl hl.1 rfl (Nat.le_of_ble_eq_true rfl) dX11_isPlace_4 ⟨Nat.le_of_ble_eq_true rfl, Nat.le_of_ble_eq_true rfl⟩ (fun r9 w9 H locs hB hP hD hS => ?_)
  obtain ⟨rfl, rfl⟩ := hB
  refine WG_eq (g2 := F0 m 7 ls [.int r_1]) rfl ?_
  obtain ⟨g_2, hf⟩ := gd_e hf
  have e1 := Option.some.inj hf
  exact end_z (w' := (wl [])) hx hb hr hlocks hK hP hD hS dX11_isPlace_7 g_2 ⟨by rw [← e1], rfl⟩
noncomputable def f_X11_isSlipDay (n : Nat) (v0 : Int32) : Option (Int32) :=
  bd (f_X11_within n v0 0 99) fun r_1 =>
  gd (r_1 = 0 ∨ r_1 = 1) <| some r_1
set_option maxHeartbeats 4000000 in
set_option maxRecDepth 100000 in
theorem c_X11_isSlipDay (l : Launch) (G : va_G) (ct : Nat → ClassId) (sk sv : Nat → Nat)  (n : Nat) (v0 : Int32) {r : Int32} (hf : f_X11_isSlipDay n v0 = some r) : Ctr (l, G, ct, sk, sv) mX11_isSlipDay 1 22 [.int v0] (wl []) (wl []) (some (.int r)) := by
  refine ctr_intro (by decide) (Nat.le_of_ble_eq_true rfl) ?_
  intro p e s m args below meth c A C hP hD hS hA ls hl
  obtain ⟨hx, hb, hml, hown, hts, hr, hlocks, hK, hnm, hZ⟩ := C
  have hb : c.code = cX11_isSlipDay := hb
  have hml : c.maxLocals = 1 := hml
  have hown : s.vm.findClass "SignedOutside" = some m.cls := hown
  have hr : meth.sig.returnType = some .boolean := hr
  have hP : va_P G classes (wl []) s.heap := hP
  have hD : va_D A (wl []) := hD
  have hK : va_K G classes (TYS ct) s := hK
  have hl : lv_has ls 1 [(0, .int v0)] := hl
  unfold f_X11_isSlipDay at hf
  show WG l G ct sk sv p e (RM 1 22 0 0) s m args below meth c A (Eq2 (some (.int r)) (wl [])) s.heap [] (F0 m 0 ls [])
  refine lv_iload_n hx hb dX11_isSlipDay_0 rfl (lv_at hl 0 rfl) ?_
  refine lv_iconst (v := 0) hx hb dX11_isSlipDay_1 (by decide) ?_
  refine lv_bipush (v := 99) hx hb dX11_isSlipDay_2 (by decide) ?_
  obtain ⟨r_1, hc1, hf⟩ := bd_e hf
  refine call_S (As := [.int v0, .int 0, .int 99]) (rest := []) hx hb hml hown hts hK hP hD hS hA hZ lkX11_75 (c_X11_within l G ct sk sv  n v0 0 99 hc1) ⟨Nat.le_of_ble_eq_true rfl, Nat.le_of_ble_eq_true rfl⟩ rfl hl.1 rfl (Nat.le_of_ble_eq_true rfl) dX11_isSlipDay_4 ⟨Nat.le_of_ble_eq_true rfl, Nat.le_of_ble_eq_true rfl⟩ (fun r9 w9 H locs hB hP hD hS => ?_)
  obtain ⟨rfl, rfl⟩ := hB
  refine WG_eq (g2 := F0 m 7 ls [.int r_1]) rfl ?_
  obtain ⟨g_2, hf⟩ := gd_e hf
  have e1 := Option.some.inj hf
  exact end_z (w' := (wl [])) hx hb hr hlocks hK hP hD hS dX11_isSlipDay_7 g_2 ⟨by rw [← e1], rfl⟩
noncomputable def f_X11_refuseFull (n : Nat) (xo : MV) : Option (Int32 × MV) :=
  bl (setS xo 2 ((xo.1 2) + 1)) fun xo_1 =>
  some ((-4), xo_1)
set_option maxHeartbeats 4000000 in
set_option maxRecDepth 100000 in
theorem c_X11_refuseFull (l : Launch) (G : va_G) (ct : Nat → ClassId) (sk sv : Nat → Nat) (g : Nat → Nat) (n : Nat) (xo : MV) {r : Int32} {xo' : MV} (hf : f_X11_refuseFull n xo = some (r, xo')) : Ctr (l, G, ct, sk, sv) mX11_refuseFull 0 0 [.ref (g 7)] (wl [lfX ct g xo]) (wl [lfX ct g xo']) (some (.int r)) := by
  refine ctr_intro (by decide) (Nat.le_of_ble_eq_true rfl) ?_
  intro p e s m args below meth c A C hP hD hS hA ls hl
  obtain ⟨hx, hb, hml, hown, hts, hr, hlocks, hK, hnm, hZ⟩ := C
  have hb : c.code = cX11_refuseFull := hb
  have hml : c.maxLocals = 1 := hml
  have hown : s.vm.findClass "SignedOutside" = some m.cls := hown
  have hr : meth.sig.returnType = some .int := hr
  have hP : va_P G classes (wl [lfX ct g xo]) s.heap := hP
  have hD : va_D A (wl [lfX ct g xo]) := hD
  have hK : va_K G classes (TYS ct) s := hK
  have hl : lv_has ls 1 [(0, .ref (g 7))] := hl
  unfold f_X11_refuseFull at hf
  show WG l G ct sk sv p e (RM 0 0 0 0) s m args below meth c A (Eq2 (some (.int r)) (wl [lfX ct g xo'])) s.heap [] (F0 m 0 ls [])
  refine lv_aload_n hx hb dX11_refuseFull_0 rfl (lv_at hl 0 rfl) ?_
  refine lv_dup hx hb dX11_refuseFull_1 rfl ?_
  refine va_get (D := G) (C := RX11) (T := TX11) (N := 11) (v := .int (xo.1 2)) hx hb hts iu_X11 hown hK hP 0 rfl rfl 10 (by decide) (hts _ kw272) (fun _ h9 => h9) rfl dX11_refuseFull_2 ?_
  refine lv_iconst (v := 1) hx hb dX11_refuseFull_5 (by decide) ?_
  refine lv_iadd hx hb dX11_refuseFull_6 ?_
  obtain ⟨xo_1, exo_1, hf⟩ := bl_e hf
  refine va_put (D := G) (C := RX11) (T := TX11) (N := 11) (ty := .int) hx hb hts iu_X11 tyX11 tyX11_ok nmX11 hown hK hP hD hS 0 rfl rfl 10 (by decide) (hts _ kw272) (fun _ h9 => h9) rfl (by decide +kernel) rfl rfl (Nat.le_of_ble_eq_true rfl) dX11_refuseFull_7 (fun H locs hP hD hS => ?_)
  have hP : va_P G classes (wl [lfX ct g xo_1]) H := by rw [← exo_1]; exact hP
  have hD : va_D A (wl [lfX ct g xo_1]) := by rw [← exo_1]; exact hD
  refine lv_bipush (v := (-4)) hx hb dX11_refuseFull_10 (by decide) ?_
  obtain ⟨e1, e2⟩ := inj2 (Option.some.inj hf)
  exact end_i (w' := (wl [lfX ct g xo_1])) hx hb hr hlocks hK hP hD hS dX11_refuseFull_12  ⟨by rw [← e1], by rw [← e2]⟩
noncomputable def f_X11_cover_j22 (n : Nat) (xo : MV) (h0 : MV) (cv0 : MV) : Option (Int32 × MV × MV) :=
  bd2 (f_X11_refuseBad n xo) fun r_1 xo_2 =>
  some (r_1, xo_2, cv0)
noncomputable def f_X11_cover (n : Nat) (xo : MV) (h0 : MV) (cv0 : MV) (v1 : Int32) (v2 : Int32) (v3 : Int32) : Option (Int32 × MV × MV) :=
  bd (f_X11_isMember n xo h0 v1) fun r_3 =>
  bc (r_3 = 0) (f_X11_cover_j22 n xo h0 cv0)
  (bd (f_X11_isSlipDay n v2) fun r_5 =>
  bc (r_5 = 0) (f_X11_cover_j22 n xo h0 cv0)
  (bd (f_X11_isPlace n v3) fun r_7 =>
  bc (r_7 = 0) (f_X11_cover_j22 n xo h0 cv0)
  (bd2 (f_X8_add n cv0 v1 v2 v3) fun r_9 cv0_10 =>
  bc (r_9 = 0) (bd2 (f_X11_refuseFull n xo) fun r_12 xo_13 =>
  some (r_12, xo_13, cv0_10))
  (some (cv0_10.1 0, xo, cv0_10)))))
set_option maxHeartbeats 4000000 in
set_option maxRecDepth 100000 in
theorem c_X11_cover (l : Launch) (G : va_G) (ct : Nat → ClassId) (sk sv : Nat → Nat) (g : Nat → Nat) (n : Nat) (xo : MV) (h0 : MV) (cv0 : MV) (v1 : Int32) (v2 : Int32) (v3 : Int32) {r : Int32} {xo' : MV} {cv0' : MV} (hf : f_X11_cover n xo h0 cv0 v1 v2 v3 = some (r, xo', cv0')) : Ctr (l, G, ct, sk, sv) mX11_cover 2 43 [.ref (g 7), .int v1, .int v2, .int v3] (wl [lfX ct g xo, lfH ct (hsA g 0) g h0, lfS ct (fun j => (hsA g 0) (8 + j)) cv0]) (wl [lfX ct g xo', lfH ct (hsA g 0) g h0, lfS ct (fun j => (hsA g 0) (8 + j)) cv0']) (some (.int r)) := by
  refine ctr_intro (by decide) (Nat.le_of_ble_eq_true rfl) ?_
  intro p e s m args below meth c A C hP hD hS hA ls hl
  obtain ⟨hx, hb, hml, hown, hts, hr, hlocks, hK, hnm, hZ⟩ := C
  have hb : c.code = cX11_cover := hb
  have hml : c.maxLocals = 4 := hml
  have hown : s.vm.findClass "SignedOutside" = some m.cls := hown
  have hr : meth.sig.returnType = some .int := hr
  have hP : va_P G classes (wl [lfX ct g xo, lfH ct (hsA g 0) g h0, lfS ct (fun j => (hsA g 0) (8 + j)) cv0]) s.heap := hP
  have hD : va_D A (wl [lfX ct g xo, lfH ct (hsA g 0) g h0, lfS ct (fun j => (hsA g 0) (8 + j)) cv0]) := hD
  have hK : va_K G classes (TYS ct) s := hK
  have hl : lv_has ls 4 [(0, .ref (g 7)), (1, .int v1), (2, .int v2), (3, .int v3)] := hl
  have J22 : ∀ (xo : MV) (cv0 : MV) (H : Heap) (locs : List Loc) (ls : Array Slot), va_P G classes (wl [lfX ct g xo, lfH ct (hsA g 0) g h0, lfS ct (fun j => (hsA g 0) (8 + j)) cv0]) H → va_D A (wl [lfX ct g xo, lfH ct (hsA g 0) g h0, lfS ct (fun j => (hsA g 0) (8 + j)) cv0]) → va_S A s.heap H locs → lv_has ls 4 [(0, .ref (g 7))] → f_X11_cover_j22 n xo h0 cv0 = some (r, xo', cv0') → WG l G ct sk sv p e (RM 2 43 0 0) s m args below meth c A (Eq2 (some (.int r)) (wl [lfX ct g xo', lfH ct (hsA g 0) g h0, lfS ct (fun j => (hsA g 0) (8 + j)) cv0'])) H locs (F0 m 22 ls []) := by
    intro xo cv0 H locs ls hP hD hS hl hf
    unfold f_X11_cover_j22 at hf
    refine lv_aload_n hx hb dX11_cover_22 rfl (lv_at hl 0 rfl) ?_
    obtain ⟨r_1, xo_2, hc2, hf⟩ := bd2_e hf
    refine call_V (As := []) (rest := []) hx hb hml hown hts hK hP hD hS hA hZ lkX11_83 (Ctr.upL (c_X11_refuseBad l G ct sk sv g n xo hc2) [lfH ct (hsA g 0) g h0, lfS ct (fun j => (hsA g 0) (8 + j)) cv0] [lfX ct g xo, lfH ct (hsA g 0) g h0, lfS ct (fun j => (hsA g 0) (8 + j)) cv0] [lfX ct g xo_2, lfH ct (hsA g 0) g h0, lfS ct (fun j => (hsA g 0) (8 + j)) cv0] [0, 1, 2] 3 (by decide) rfl rfl rfl rfl) 0 rfl rfl ⟨Nat.le_of_ble_eq_true rfl, Nat.le_of_ble_eq_true rfl⟩ rfl hl.1 rfl (Nat.le_of_ble_eq_true rfl) dX11_cover_23 ⟨Nat.le_of_ble_eq_true rfl, Nat.le_of_ble_eq_true rfl⟩ (fun r9 w9 H locs hB hP hD hS => ?_)
    obtain ⟨rfl, rfl⟩ := hB
    refine WG_eq (g2 := F0 m 26 ls [.int r_1]) rfl ?_
    obtain ⟨e1, e2, e3⟩ := inj3 (Option.some.inj hf)
    exact end_i (w' := (wl [lfX ct g xo_2, lfH ct (hsA g 0) g h0, lfS ct (fun j => (hsA g 0) (8 + j)) cv0])) hx hb hr hlocks hK hP hD hS dX11_cover_26  ⟨by rw [← e1], by rw [← e2, ← e3]⟩
  unfold f_X11_cover at hf
  show WG l G ct sk sv p e (RM 2 43 0 0) s m args below meth c A (Eq2 (some (.int r)) (wl [lfX ct g xo', lfH ct (hsA g 0) g h0, lfS ct (fun j => (hsA g 0) (8 + j)) cv0'])) s.heap [] (F0 m 0 ls [])
  refine lv_aload_n hx hb dX11_cover_0 rfl (lv_at hl 0 rfl) ?_
  refine lv_iload_n hx hb dX11_cover_1 rfl (lv_at hl 1 rfl) ?_
  obtain ⟨r_3, hc3, hf⟩ := bd_e hf
  refine call_V (As := [.int v1]) (rest := []) hx hb hml hown hts hK hP hD hS hA hZ lkX11_128 (Ctr.upL (c_X11_isMember l G ct sk sv g n xo h0 v1 hc3) [lfS ct (fun j => (hsA g 0) (8 + j)) cv0] [lfX ct g xo, lfH ct (hsA g 0) g h0, lfS ct (fun j => (hsA g 0) (8 + j)) cv0] [lfX ct g xo, lfH ct (hsA g 0) g h0, lfS ct (fun j => (hsA g 0) (8 + j)) cv0] [0, 1, 2] 3 (by decide) rfl rfl rfl rfl) 0 rfl rfl ⟨Nat.le_of_ble_eq_true rfl, Nat.le_of_ble_eq_true rfl⟩ rfl hl.1 rfl (Nat.le_of_ble_eq_true rfl) dX11_cover_2 ⟨Nat.le_of_ble_eq_true rfl, Nat.le_of_ble_eq_true rfl⟩ (fun r9 w9 H locs hB hP hD hS => ?_)
  obtain ⟨rfl, rfl⟩ := hB
  refine WG_eq (g2 := F0 m 5 ls [.int r_3]) rfl ?_
  refine lv_if_eq (tgt := 22) hx hb dX11_cover_5 (by decide) (fun c_4 => ?_) (fun c_4 => ?_)
  · replace hf := bc_t hf c_4
    exact J22 xo cv0 _ _ _ hP hD hS (lv_sub hl [0] rfl) hf
  · replace hf := bc_f hf c_4
    refine lv_iload_n hx hb dX11_cover_8 rfl (lv_at hl 2 rfl) ?_
    obtain ⟨r_5, hc5, hf⟩ := bd_e hf
    refine call_S (As := [.int v2]) (rest := []) hx hb hml hown hts hK hP hD hS hA hZ lkX11_247 (Ctr.upL (c_X11_isSlipDay l G ct sk sv  n v2 hc5) [lfX ct g xo, lfH ct (hsA g 0) g h0, lfS ct (fun j => (hsA g 0) (8 + j)) cv0] [lfX ct g xo, lfH ct (hsA g 0) g h0, lfS ct (fun j => (hsA g 0) (8 + j)) cv0] [lfX ct g xo, lfH ct (hsA g 0) g h0, lfS ct (fun j => (hsA g 0) (8 + j)) cv0] [0, 1, 2] 3 (by decide) rfl rfl rfl rfl) ⟨Nat.le_of_ble_eq_true rfl, Nat.le_of_ble_eq_true rfl⟩ rfl hl.1 rfl (Nat.le_of_ble_eq_true rfl) dX11_cover_9 ⟨Nat.le_of_ble_eq_true rfl, Nat.le_of_ble_eq_true rfl⟩ (fun r9 w9 H locs hB hP hD hS => ?_)
    obtain ⟨rfl, rfl⟩ := hB
    refine WG_eq (g2 := F0 m 12 ls [.int r_5]) rfl ?_
    refine lv_if_eq (tgt := 22) hx hb dX11_cover_12 (by decide) (fun c_6 => ?_) (fun c_6 => ?_)
    · replace hf := bc_t hf c_6
      exact J22 xo cv0 _ _ _ hP hD hS (lv_sub hl [0] rfl) hf
    · replace hf := bc_f hf c_6
      refine lv_iload_n hx hb dX11_cover_15 rfl (lv_at hl 3 rfl) ?_
      obtain ⟨r_7, hc7, hf⟩ := bd_e hf
      refine call_S (As := [.int v3]) (rest := []) hx hb hml hown hts hK hP hD hS hA hZ lkX11_79 (Ctr.upL (c_X11_isPlace l G ct sk sv  n v3 hc7) [lfX ct g xo, lfH ct (hsA g 0) g h0, lfS ct (fun j => (hsA g 0) (8 + j)) cv0] [lfX ct g xo, lfH ct (hsA g 0) g h0, lfS ct (fun j => (hsA g 0) (8 + j)) cv0] [lfX ct g xo, lfH ct (hsA g 0) g h0, lfS ct (fun j => (hsA g 0) (8 + j)) cv0] [0, 1, 2] 3 (by decide) rfl rfl rfl rfl) ⟨Nat.le_of_ble_eq_true rfl, Nat.le_of_ble_eq_true rfl⟩ rfl hl.1 rfl (Nat.le_of_ble_eq_true rfl) dX11_cover_16 ⟨Nat.le_of_ble_eq_true rfl, Nat.le_of_ble_eq_true rfl⟩ (fun r9 w9 H locs hB hP hD hS => ?_)
      obtain ⟨rfl, rfl⟩ := hB
      refine WG_eq (g2 := F0 m 19 ls [.int r_7]) rfl ?_
      refine lv_if_ne (tgt := 27) hx hb dX11_cover_19 (by decide) (fun c_8 => ?_) (fun c_8 => ?_)
      · replace hf := bc_f hf c_8
        refine lv_aload_n hx hb dX11_cover_27 rfl (lv_at hl 0 rfl) ?_
        refine va_get (D := G) (C := RX11) (T := TX11) (N := 11) (v := .ref ((hsA g 0) 0)) hx hb hts iu_X11 hown hK hP 0 rfl rfl 0 (by decide) (hts _ kw262) (fun _ h9 => h9) rfl dX11_cover_28 ?_
        refine va_get (D := G) (C := RX1) (T := TX1) (N := 16) (v := .ref ((hsA g 0) 8)) hx hb hts iu_X1 hown hK hP 3 rfl rfl 13 (by decide) (hts _ kw158) (fun _ h9 => h9) rfl dX11_cover_31 ?_
        refine lv_iload_n hx hb dX11_cover_34 rfl (lv_at hl 1 rfl) ?_
        refine lv_iload_n hx hb dX11_cover_35 rfl (lv_at hl 2 rfl) ?_
        refine lv_iload_n hx hb dX11_cover_36 rfl (lv_at hl 3 rfl) ?_
        obtain ⟨r_9, cv0_10, hc10, hf⟩ := bd2_e hf
        refine call_V (As := [.int v1, .int v2, .int v3]) (rest := []) hx hb hml hown hts hK hP hD hS hA hZ lkX11_254 (Ctr.upL (c_X8_add l G ct sk sv (fun j => (hsA g 0) (8 + j)) n cv0 v1 v2 v3 hc10) [lfX ct g xo, lfH ct (hsA g 0) g h0] [lfX ct g xo, lfH ct (hsA g 0) g h0, lfS ct (fun j => (hsA g 0) (8 + j)) cv0] [lfX ct g xo, lfH ct (hsA g 0) g h0, lfS ct (fun j => (hsA g 0) (8 + j)) cv0_10] [2, 0, 1] 3 (by decide) rfl rfl rfl rfl) 11 rfl rfl ⟨Nat.le_of_ble_eq_true rfl, Nat.le_of_ble_eq_true rfl⟩ rfl hl.1 rfl (Nat.le_of_ble_eq_true rfl) dX11_cover_37 ⟨Nat.le_of_ble_eq_true rfl, Nat.le_of_ble_eq_true rfl⟩ (fun r9 w9 H locs hB hP hD hS => ?_)
        obtain ⟨rfl, rfl⟩ := hB
        refine WG_eq (g2 := F0 m 40 ls [.int r_9]) rfl ?_
        refine lv_if_ne (tgt := 48) hx hb dX11_cover_40 (by decide) (fun c_11 => ?_) (fun c_11 => ?_)
        · replace hf := bc_f hf c_11
          refine lv_aload_n hx hb dX11_cover_48 rfl (lv_at hl 0 rfl) ?_
          refine va_get (D := G) (C := RX11) (T := TX11) (N := 11) (v := .ref ((hsA g 0) 0)) hx hb hts iu_X11 hown hK hP 0 rfl rfl 0 (by decide) (hts _ kw262) (fun _ h9 => h9) rfl dX11_cover_49 ?_
          refine va_get (D := G) (C := RX1) (T := TX1) (N := 16) (v := .ref ((hsA g 0) 8)) hx hb hts iu_X1 hown hK hP 3 rfl rfl 13 (by decide) (hts _ kw158) (fun _ h9 => h9) rfl dX11_cover_52 ?_
          refine va_get (D := G) (C := RX8) (T := TX8) (N := 4) (v := .int (cv0_10.1 0)) hx hb hts iu_X8 hown hK hP 11 rfl rfl 0 (by decide) (hts _ kw87) (fun _ h9 => h9) rfl dX11_cover_55 ?_
          obtain ⟨e1, e2, e3⟩ := inj3 (Option.some.inj hf)
          exact end_i (w' := (wl [lfX ct g xo, lfH ct (hsA g 0) g h0, lfS ct (fun j => (hsA g 0) (8 + j)) cv0_10])) hx hb hr hlocks hK hP hD hS dX11_cover_58  ⟨by rw [← e1], by rw [← e2, ← e3]⟩
        · replace hf := bc_t hf c_11
          refine lv_aload_n hx hb dX11_cover_43 rfl (lv_at hl 0 rfl) ?_
          obtain ⟨r_12, xo_13, hc13, hf⟩ := bd2_e hf
          refine call_V (As := []) (rest := []) hx hb hml hown hts hK hP hD hS hA hZ lkX11_87 (Ctr.upL (c_X11_refuseFull l G ct sk sv g n xo hc13) [lfH ct (hsA g 0) g h0, lfS ct (fun j => (hsA g 0) (8 + j)) cv0_10] [lfX ct g xo, lfH ct (hsA g 0) g h0, lfS ct (fun j => (hsA g 0) (8 + j)) cv0_10] [lfX ct g xo_13, lfH ct (hsA g 0) g h0, lfS ct (fun j => (hsA g 0) (8 + j)) cv0_10] [0, 1, 2] 3 (by decide) rfl rfl rfl rfl) 0 rfl rfl ⟨Nat.le_of_ble_eq_true rfl, Nat.le_of_ble_eq_true rfl⟩ rfl hl.1 rfl (Nat.le_of_ble_eq_true rfl) dX11_cover_44 ⟨Nat.le_of_ble_eq_true rfl, Nat.le_of_ble_eq_true rfl⟩ (fun r9 w9 H locs hB hP hD hS => ?_)
          obtain ⟨rfl, rfl⟩ := hB
          refine WG_eq (g2 := F0 m 47 ls [.int r_12]) rfl ?_
          obtain ⟨e1, e2, e3⟩ := inj3 (Option.some.inj hf)
          exact end_i (w' := (wl [lfX ct g xo_13, lfH ct (hsA g 0) g h0, lfS ct (fun j => (hsA g 0) (8 + j)) cv0_10])) hx hb hr hlocks hK hP hD hS dX11_cover_47  ⟨by rw [← e1], by rw [← e2, ← e3]⟩
      · replace hf := bc_t hf c_8
        exact J22 xo cv0 _ _ _ hP hD hS (lv_sub hl [0] rfl) hf
noncomputable def f_X11_day (n : Nat) (xo : MV) (h0 : MV) (ps0 : MV) : Option (Int32 × MV × MV) :=
  bd (f_X4_keep n h0 ps0) fun ps0_1 =>
  bd (f_X1_passDay n h0) fun h0_2 =>
  some (h0_2.1 2, h0_2, ps0_1)
set_option maxHeartbeats 4000000 in
set_option maxRecDepth 100000 in
theorem c_X11_day (l : Launch) (G : va_G) (ct : Nat → ClassId) (sk sv : Nat → Nat) (g : Nat → Nat) (n : Nat) (xo : MV) (h0 : MV) (ps0 : MV) {r : Int32} {h0' : MV} {ps0' : MV} (hf : f_X11_day n xo h0 ps0 = some (r, h0', ps0')) : Ctr (l, G, ct, sk, sv) mX11_day 2 87 [.ref (g 7)] (wl [lfX ct g xo, lfH ct (hsA g 0) g h0, lfP ct (fun j => (hsA g 0) (16 + j)) ps0]) (wl [lfX ct g xo, lfH ct (hsA g 0) g h0', lfP ct (fun j => (hsA g 0) (16 + j)) ps0']) (some (.int r)) := by
  refine ctr_intro (by decide) (Nat.le_of_ble_eq_true rfl) ?_
  intro p e s m args below meth c A C hP hD hS hA ls hl
  obtain ⟨hx, hb, hml, hown, hts, hr, hlocks, hK, hnm, hZ⟩ := C
  have hb : c.code = cX11_day := hb
  have hml : c.maxLocals = 1 := hml
  have hown : s.vm.findClass "SignedOutside" = some m.cls := hown
  have hr : meth.sig.returnType = some .int := hr
  have hP : va_P G classes (wl [lfX ct g xo, lfH ct (hsA g 0) g h0, lfP ct (fun j => (hsA g 0) (16 + j)) ps0]) s.heap := hP
  have hD : va_D A (wl [lfX ct g xo, lfH ct (hsA g 0) g h0, lfP ct (fun j => (hsA g 0) (16 + j)) ps0]) := hD
  have hK : va_K G classes (TYS ct) s := hK
  have hl : lv_has ls 1 [(0, .ref (g 7))] := hl
  unfold f_X11_day at hf
  show WG l G ct sk sv p e (RM 2 87 0 0) s m args below meth c A (Eq2 (some (.int r)) (wl [lfX ct g xo, lfH ct (hsA g 0) g h0', lfP ct (fun j => (hsA g 0) (16 + j)) ps0'])) s.heap [] (F0 m 0 ls [])
  refine lv_aload_n hx hb dX11_day_0 rfl (lv_at hl 0 rfl) ?_
  refine va_get (D := G) (C := RX11) (T := TX11) (N := 11) (v := .ref ((hsA g 0) 0)) hx hb hts iu_X11 hown hK hP 0 rfl rfl 0 (by decide) (hts _ kw262) (fun _ h9 => h9) rfl dX11_day_1 ?_
  refine va_get (D := G) (C := RX1) (T := TX1) (N := 16) (v := .ref ((hsA g 0) 16)) hx hb hts iu_X1 hown hK hP 3 rfl rfl 15 (by decide) (hts _ kw162) (fun _ h9 => h9) rfl dX11_day_4 ?_
  refine lv_aload_n hx hb dX11_day_7 rfl (lv_at hl 0 rfl) ?_
  refine va_get (D := G) (C := RX11) (T := TX11) (N := 11) (v := .ref ((hsA g 0) 0)) hx hb hts iu_X11 hown hK hP 0 rfl rfl 0 (by decide) (hts _ kw262) (fun _ h9 => h9) rfl dX11_day_8 ?_
  obtain ⟨ps0_1, hc1, hf⟩ := bd_e hf
  refine call_V (As := [.ref ((hsA g 0) 0)]) (rest := []) hx hb hml hown hts hK hP hD hS hA hZ lkX11_138 (Ctr.upL (c_X4_keep l G ct sk sv (hsA g 0) g n h0 ps0 hc1) [lfX ct g xo] [lfX ct g xo, lfH ct (hsA g 0) g h0, lfP ct (fun j => (hsA g 0) (16 + j)) ps0] [lfX ct g xo, lfH ct (hsA g 0) g h0, lfP ct (fun j => (hsA g 0) (16 + j)) ps0_1] [1, 2, 0] 3 (by decide) rfl rfl rfl rfl) 11 rfl rfl ⟨Nat.le_of_ble_eq_true rfl, Nat.le_of_ble_eq_true rfl⟩ rfl hl.1 rfl (Nat.le_of_ble_eq_true rfl) dX11_day_11 ⟨Nat.le_of_ble_eq_true rfl, Nat.le_of_ble_eq_true rfl⟩ (fun r9 w9 H locs hB hP hD hS => ?_)
  obtain ⟨rfl, rfl⟩ := hB
  refine WG_eq (g2 := F0 m 14 ls []) rfl ?_
  refine lv_aload_n hx hb dX11_day_14 rfl (lv_at hl 0 rfl) ?_
  refine va_get (D := G) (C := RX11) (T := TX11) (N := 11) (v := .ref ((hsA g 0) 0)) hx hb hts iu_X11 hown hK hP 0 rfl rfl 0 (by decide) (hts _ kw262) (fun _ h9 => h9) rfl dX11_day_15 ?_
  obtain ⟨h0_2, hc2, hf⟩ := bd_e hf
  refine call_V (As := []) (rest := []) hx hb hml hown hts hK hP hD hS hA hZ lkX11_160 (Ctr.upL (c_X1_passDay l G ct sk sv (hsA g 0) g n h0 hc2) [lfX ct g xo, lfP ct (fun j => (hsA g 0) (16 + j)) ps0_1] [lfX ct g xo, lfH ct (hsA g 0) g h0, lfP ct (fun j => (hsA g 0) (16 + j)) ps0_1] [lfX ct g xo, lfH ct (hsA g 0) g h0_2, lfP ct (fun j => (hsA g 0) (16 + j)) ps0_1] [1, 0, 2] 3 (by decide) rfl rfl rfl rfl) 3 rfl rfl ⟨Nat.le_of_ble_eq_true rfl, Nat.le_of_ble_eq_true rfl⟩ rfl hl.1 rfl (Nat.le_of_ble_eq_true rfl) dX11_day_18 ⟨Nat.le_of_ble_eq_true rfl, Nat.le_of_ble_eq_true rfl⟩ (fun r9 w9 H locs hB hP hD hS => ?_)
  obtain ⟨rfl, rfl⟩ := hB
  refine WG_eq (g2 := F0 m 21 ls []) rfl ?_
  refine lv_aload_n hx hb dX11_day_21 rfl (lv_at hl 0 rfl) ?_
  refine va_get (D := G) (C := RX11) (T := TX11) (N := 11) (v := .ref ((hsA g 0) 0)) hx hb hts iu_X11 hown hK hP 0 rfl rfl 0 (by decide) (hts _ kw262) (fun _ h9 => h9) rfl dX11_day_22 ?_
  refine va_get (D := G) (C := RX1) (T := TX1) (N := 16) (v := .int (h0_2.1 2)) hx hb hts iu_X1 hown hK hP 3 rfl rfl 10 (by decide) (hts _ kw150) (fun _ h9 => h9) rfl dX11_day_25 ?_
  obtain ⟨e1, e2, e3⟩ := inj3 (Option.some.inj hf)
  exact end_i (w' := (wl [lfX ct g xo, lfH ct (hsA g 0) g h0_2, lfP ct (fun j => (hsA g 0) (16 + j)) ps0_1])) hx hb hr hlocks hK hP hD hS dX11_day_28  ⟨by rw [← e1], by rw [← e2, ← e3]⟩
noncomputable def f_X11_mix (n : Nat) (v0 : Int64) (v2 : Int64) : Option (Int64) :=
  some ((31 * v0) + v2)
set_option maxHeartbeats 4000000 in
set_option maxRecDepth 100000 in
theorem c_X11_mix (l : Launch) (G : va_G) (ct : Nat → ClassId) (sk sv : Nat → Nat)  (n : Nat) (v0 : Int64) (v2 : Int64) {r : Int64} (hf : f_X11_mix n v0 v2 = some r) : Ctr (l, G, ct, sk, sv) mX11_mix 0 0 [.long v0, .long v2] (wl []) (wl []) (some (.long r)) := by
  refine ctr_intro (by decide) (Nat.le_of_ble_eq_true rfl) ?_
  intro p e s m args below meth c A C hP hD hS hA ls hl
  obtain ⟨hx, hb, hml, hown, hts, hr, hlocks, hK, hnm, hZ⟩ := C
  have hb : c.code = cX11_mix := hb
  have hml : c.maxLocals = 4 := hml
  have hown : s.vm.findClass "SignedOutside" = some m.cls := hown
  have hr : meth.sig.returnType = some .long := hr
  have hP : va_P G classes (wl []) s.heap := hP
  have hD : va_D A (wl []) := hD
  have hK : va_K G classes (TYS ct) s := hK
  have hl : lv_has ls 4 [(0, .long v0), (2, .long v2)] := hl
  unfold f_X11_mix at hf
  show WG l G ct sk sv p e (RM 0 0 0 0) s m args below meth c A (Eq2 (some (.long r)) (wl [])) s.heap [] (F0 m 0 ls [])
  refine lv_ldc2 (v := 31) hx hb hown (hts _ kw874) dX11_mix_0 ?_
  refine lv_lload_n hx hb dX11_mix_3 rfl (lv_at hl 0 rfl) ?_
  refine lv_lmul hx hb dX11_mix_4 ?_
  refine lv_lload_n hx hb dX11_mix_5 rfl (lv_at hl 1 rfl) ?_
  refine lv_ladd hx hb dX11_mix_6 ?_
  have e1 := Option.some.inj hf
  exact end_l (w' := (wl [])) hx hb hr hlocks hK hP hD hS dX11_mix_7  ⟨by rw [← e1], rfl⟩
noncomputable def f_X11_mixSlips_b5 (n : Nat) (sl : MV) (v5 : Int32) (v3 : Int64) : Option ((Int32 × Int64) ⊕ (Int64)) :=
  bc ((sl.1 0) ≤ v5) (some (.inr v3))
  (gd (vp_in v5 6) <|
  bd (f_X11_mix n v3 ((sl.2.1 0 (ix v5) : Int32).toInt64)) fun r_3 =>
  gd (vp_in v5 6) <|
  bd (f_X11_mix n r_3 ((sl.2.1 1 (ix v5) : Int32).toInt64)) fun r_5 =>
  gd (vp_in v5 6) <|
  bd (f_X11_mix n r_5 ((sl.2.1 2 (ix v5) : Int32).toInt64)) fun r_7 =>
  bl (v5 + 1) fun v5_8 =>
  some (.inl (v5_8, r_7)))
noncomputable def f_X11_mixSlips_l5 (fu : Nat) (n : Nat) (sl : MV) (v5 : Int32) (v3 : Int64) : Option (Int64) :=
  lp (fun q => f_X11_mixSlips_b5 n sl q.1 q.2) fu (v5, v3)
noncomputable def f_X11_mixSlips (n : Nat) (sl : MV) (v0 : Int64) : Option (Int64) :=
  bd (f_X11_mixSlips_l5 n n sl 0 v0) fun v3_9 =>
  some v3_9
set_option maxHeartbeats 4000000 in
set_option maxRecDepth 100000 in
theorem c_X11_mixSlips (l : Launch) (G : va_G) (ct : Nat → ClassId) (sk sv : Nat → Nat) (a : Nat → Nat) (n : Nat) (sl : MV) (v0 : Int64) {r : Int64} (hf : f_X11_mixSlips n sl v0 = some r) : Ctr (l, G, ct, sk, sv) mX11_mixSlips 1 23 [.long v0, .ref (a 0)] (wl [lfS ct a sl]) (wl [lfS ct a sl]) (some (.long r)) := by
  refine ctr_intro (by decide) (Nat.le_of_ble_eq_true rfl) ?_
  intro p e s m args below meth c A C hP hD hS hA ls hl
  obtain ⟨hx, hb, hml, hown, hts, hr, hlocks, hK, hnm, hZ⟩ := C
  have hb : c.code = cX11_mixSlips := hb
  have hml : c.maxLocals = 6 := hml
  have hown : s.vm.findClass "SignedOutside" = some m.cls := hown
  have hr : meth.sig.returnType = some .long := hr
  have hP : va_P G classes (wl [lfS ct a sl]) s.heap := hP
  have hD : va_D A (wl [lfS ct a sl]) := hD
  have hK : va_K G classes (TYS ct) s := hK
  have hl : lv_has ls 6 [(0, .long v0), (2, .ref (a 0))] := hl
  have L5 : ∀ (fu : Nat) (v5 : Int32) (v3 : Int64) (ex : Int64) (H : Heap) (locs : List Loc) (ls : Array Slot), va_P G classes (wl [lfS ct a sl]) H → va_D A (wl [lfS ct a sl]) → va_S A s.heap H locs → lv_has ls 6 [(5, .int v5), (3, .long v3), (2, .ref (a 0))] → f_X11_mixSlips_l5 fu n sl v5 v3 = some ex → (∀ (x : Int64), ex = x → ∀ (H : Heap) (locs : List Loc) (ls : Array Slot), va_P G classes (wl [lfS ct a sl]) H → va_D A (wl [lfS ct a sl]) → va_S A s.heap H locs → lv_has ls 6 [(3, .long x)] → WG l G ct sk sv p e (RM 1 23 0 0) s m args below meth c A (Eq2 (some (.long r)) (wl [lfS ct a sl])) H locs (F0 m 55 ls [])) → WG l G ct sk sv p e (RM 1 23 0 0) s m args below meth c A (Eq2 (some (.long r)) (wl [lfS ct a sl])) H locs (F0 m 5 ls []) := by
    intro fu
    induction fu with
    | zero =>
      intro v5 v3 ex H locs ls hP hD hS hl hf
      exact absurd hf (by unfold f_X11_mixSlips_l5 lp; exact fun h => by cases h)
    | succ fu ih =>
      intro v5 v3 ex H locs ls hP hD hS hl hf hE
      unfold f_X11_mixSlips_l5 at hf
      obtain ⟨q, hf, hor⟩ := lp_e hf
      replace hf : f_X11_mixSlips_b5 n sl v5 v3 = some q := hf
      unfold f_X11_mixSlips_b5 at hf
      refine lv_iload hx hb dX11_mixSlips_5 (lv_at hl 0 rfl) ?_
      refine lv_aload_n hx hb dX11_mixSlips_7 rfl (lv_at hl 2 rfl) ?_
      refine va_get (D := G) (C := RX8) (T := TX8) (N := 4) (v := .int (sl.1 0)) hx hb hts iu_X8 hown hK hP 0 rfl rfl 0 (by decide) (hts _ kw87) (fun _ h9 => h9) rfl dX11_mixSlips_8 ?_
      refine lv_icmp_ge (tgt := 55) hx hb dX11_mixSlips_11 (by decide) (fun c_1 => ?_) (fun c_1 => ?_)
      · replace hf := bc_t hf c_1
        exact hE v3 (lp_inr hor hf).symm _ _ _ hP hD hS (lv_sub hl [1] rfl)
      · replace hf := bc_f hf c_1
        refine lv_lload_n hx hb dX11_mixSlips_14 rfl (lv_at hl 1 rfl) ?_
        refine lv_aload_n hx hb dX11_mixSlips_15 rfl (lv_at hl 2 rfl) ?_
        refine va_get (D := G) (C := RX8) (T := TX8) (N := 4) (v := .ref (a 1)) hx hb hts iu_X8 hown hK hP 0 rfl rfl 1 (by decide) (hts _ kw89) (fun _ h9 => h9) rfl dX11_mixSlips_16 ?_
        refine lv_iload hx hb dX11_mixSlips_19 (lv_at hl 0 rfl) ?_
        obtain ⟨g_2, hf⟩ := gd_e hf
        refine va_iald (f := sl.2.1 0) hx hb hK hP 1 0 rfl rfl g_2 dX11_mixSlips_21 ?_
        refine lv_i2l (v := (sl.2.1 0 (ix v5) : Int32).toInt64) hx hb dX11_mixSlips_22 rfl ?_
        obtain ⟨r_3, hc3, hf⟩ := bd_e hf
        refine call_S (As := [.long v3, .long ((sl.2.1 0 (ix v5) : Int32).toInt64)]) (rest := []) hx hb hml hown hts hK hP hD hS hA hZ lkX11_327 (Ctr.upL (c_X11_mix l G ct sk sv  n v3 ((sl.2.1 0 (ix v5) : Int32).toInt64) hc3) [lfS ct a sl] [lfS ct a sl] [lfS ct a sl] [0] 1 (by decide) rfl rfl rfl rfl) ⟨Nat.le_of_ble_eq_true rfl, Nat.le_of_ble_eq_true rfl⟩ rfl hl.1 rfl (Nat.le_of_ble_eq_true rfl) dX11_mixSlips_23 ⟨Nat.le_of_ble_eq_true rfl, Nat.le_of_ble_eq_true rfl⟩ (fun r9 w9 H locs hB hP hD hS => ?_)
        obtain ⟨rfl, rfl⟩ := hB
        refine WG_eq (g2 := F0 m 26 ls [.long r_3]) rfl ?_
        refine lv_aload_n hx hb dX11_mixSlips_26 rfl (lv_at hl 2 rfl) ?_
        refine va_get (D := G) (C := RX8) (T := TX8) (N := 4) (v := .ref (a 2)) hx hb hts iu_X8 hown hK hP 0 rfl rfl 2 (by decide) (hts _ kw91) (fun _ h9 => h9) rfl dX11_mixSlips_27 ?_
        refine lv_iload hx hb dX11_mixSlips_30 (lv_at hl 0 rfl) ?_
        obtain ⟨g_4, hf⟩ := gd_e hf
        refine va_iald (f := sl.2.1 1) hx hb hK hP 2 0 rfl rfl g_4 dX11_mixSlips_32 ?_
        refine lv_i2l (v := (sl.2.1 1 (ix v5) : Int32).toInt64) hx hb dX11_mixSlips_33 rfl ?_
        obtain ⟨r_5, hc5, hf⟩ := bd_e hf
        refine call_S (As := [.long r_3, .long ((sl.2.1 1 (ix v5) : Int32).toInt64)]) (rest := []) hx hb hml hown hts hK hP hD hS hA hZ lkX11_327 (Ctr.upL (c_X11_mix l G ct sk sv  n r_3 ((sl.2.1 1 (ix v5) : Int32).toInt64) hc5) [lfS ct a sl] [lfS ct a sl] [lfS ct a sl] [0] 1 (by decide) rfl rfl rfl rfl) ⟨Nat.le_of_ble_eq_true rfl, Nat.le_of_ble_eq_true rfl⟩ rfl hl.1 rfl (Nat.le_of_ble_eq_true rfl) dX11_mixSlips_34 ⟨Nat.le_of_ble_eq_true rfl, Nat.le_of_ble_eq_true rfl⟩ (fun r9 w9 H locs hB hP hD hS => ?_)
        obtain ⟨rfl, rfl⟩ := hB
        refine WG_eq (g2 := F0 m 37 ls [.long r_5]) rfl ?_
        refine lv_aload_n hx hb dX11_mixSlips_37 rfl (lv_at hl 2 rfl) ?_
        refine va_get (D := G) (C := RX8) (T := TX8) (N := 4) (v := .ref (a 3)) hx hb hts iu_X8 hown hK hP 0 rfl rfl 3 (by decide) (hts _ kw93) (fun _ h9 => h9) rfl dX11_mixSlips_38 ?_
        refine lv_iload hx hb dX11_mixSlips_41 (lv_at hl 0 rfl) ?_
        obtain ⟨g_6, hf⟩ := gd_e hf
        refine va_iald (f := sl.2.1 2) hx hb hK hP 3 0 rfl rfl g_6 dX11_mixSlips_43 ?_
        refine lv_i2l (v := (sl.2.1 2 (ix v5) : Int32).toInt64) hx hb dX11_mixSlips_44 rfl ?_
        obtain ⟨r_7, hc7, hf⟩ := bd_e hf
        refine call_S (As := [.long r_5, .long ((sl.2.1 2 (ix v5) : Int32).toInt64)]) (rest := []) hx hb hml hown hts hK hP hD hS hA hZ lkX11_327 (Ctr.upL (c_X11_mix l G ct sk sv  n r_5 ((sl.2.1 2 (ix v5) : Int32).toInt64) hc7) [lfS ct a sl] [lfS ct a sl] [lfS ct a sl] [0] 1 (by decide) rfl rfl rfl rfl) ⟨Nat.le_of_ble_eq_true rfl, Nat.le_of_ble_eq_true rfl⟩ rfl hl.1 rfl (Nat.le_of_ble_eq_true rfl) dX11_mixSlips_45 ⟨Nat.le_of_ble_eq_true rfl, Nat.le_of_ble_eq_true rfl⟩ (fun r9 w9 H locs hB hP hD hS => ?_)
        obtain ⟨rfl, rfl⟩ := hB
        refine WG_eq (g2 := F0 m 48 ls [.long r_7]) rfl ?_
        refine lv_lstore_n (lv' := [(3, .long r_7), (5, .int v5), (2, .ref (a 0))]) hx hb dX11_mixSlips_48 rfl hl (by decide) rfl (fun ls hl => ?_)
        obtain ⟨v5_8, ev5_8, hf⟩ := bl_e hf
        refine lv_iinc (v := v5_8) (lv' := [(5, .int v5_8), (3, .long r_7), (2, .ref (a 0))]) hx hb dX11_mixSlips_49 hl (k := 1) rfl ev5_8 (by decide) rfl (fun ls hl => ?_)
        refine lv_goto (tgt := 5) hx hb dX11_mixSlips_52 (by decide) ?_
        exact ih v5_8 r_7 ex _ _ _ hP hD hS hl (lp_inl hor hf) hE
  unfold f_X11_mixSlips at hf
  show WG l G ct sk sv p e (RM 1 23 0 0) s m args below meth c A (Eq2 (some (.long r)) (wl [lfS ct a sl])) s.heap [] (F0 m 0 ls [])
  refine lv_lload_n hx hb dX11_mixSlips_0 rfl (lv_at hl 0 rfl) ?_
  refine lv_lstore_n (lv' := [(3, .long v0), (0, .long v0), (2, .ref (a 0))]) hx hb dX11_mixSlips_1 rfl hl (by decide) rfl (fun ls hl => ?_)
  refine lv_iconst (v := 0) hx hb dX11_mixSlips_2 (by decide) ?_
  refine lv_istore (lv' := [(5, .int 0), (3, .long v0), (0, .long v0), (2, .ref (a 0))]) hx hb dX11_mixSlips_3 hl (by decide) rfl (fun ls hl => ?_)
  obtain ⟨v3_9, hx_10, hf⟩ := bd_e hf
  refine L5 n 0 v0 v3_9 _ _ _ hP hD hS (lv_sub hl [0, 1, 3] rfl) hx_10 ?_
  intro x9 e9 H locs ls hP hD hS hl
  subst e9
  have hP : va_P G classes (wl [lfS ct a sl]) H := hP
  have hD : va_D A (wl [lfS ct a sl]) := hD
  have hl : lv_has ls 6 [(3, .long v3_9)] := hl
  refine lv_lload_n hx hb dX11_mixSlips_55 rfl (lv_at hl 0 rfl) ?_
  have e1 := Option.some.inj hf
  exact end_l (w' := (wl [lfS ct a sl])) hx hb hr hlocks hK hP hD hS dX11_mixSlips_56  ⟨by rw [← e1], rfl⟩
noncomputable def f_X11_fewest_j66 (n : Nat) (xo : MV) (nv : MV) (h0 : MV) (v3 : Int32) (v2 : Int32) (v1 : Int32) : Option ((Int32 × Int32 × MV) ⊕ (Int32 × MV)) :=
  bl (v3 + 1) fun v3_1 =>
  some (.inl (v3_1, v2, nv))
noncomputable def f_X11_fewest_j41 (n : Nat) (xo : MV) (nv : MV) (h0 : MV) (v3 : Int32) (v2 : Int32) (v1 : Int32) (s0 : Int32) : Option ((Int32 × Int32 × MV) ⊕ (Int32 × MV)) :=
  bc (s0 = 0) (f_X11_fewest_j66 n xo nv h0 v3 v2 v1)
  (bd2 (f_X3_solve n nv h0 v3) fun r_3 nv_4 =>
  bc (r_3 = v1) (f_X11_fewest_j66 n xo nv_4 h0 v3 v3 v1)
  (f_X11_fewest_j66 n xo nv_4 h0 v3 v2 v1))
noncomputable def f_X11_fewest_j36 (n : Nat) (xo : MV) (nv : MV) (h0 : MV) (v3 : Int32) (v2 : Int32) (v1 : Int32) : Option ((Int32 × Int32 × MV) ⊕ (Int32 × MV)) :=
  f_X11_fewest_j41 n xo nv h0 v3 v2 v1 1
noncomputable def f_X11_fewest_b12 (n : Nat) (xo : MV) (nv : MV) (h0 : MV) (v3 : Int32) (v2 : Int32) (v1 : Int32) : Option ((Int32 × Int32 × MV) ⊕ (Int32 × MV)) :=
  bd (f_X11_everyMember n xo h0) fun r_6 =>
  bc (r_6 < v3) (some (.inr (v2, nv)))
  (bc (v2 = (-1)) (f_X11_fewest_j36 n xo nv h0 v3 v2 v1)
  (bd (f_J6_bitCount n v3) fun r_9 =>
  bd (f_J6_bitCount n v2) fun r_10 =>
  bc (r_10 ≤ r_9) (f_X11_fewest_j41 n xo nv h0 v3 v2 v1 0)
  (f_X11_fewest_j36 n xo nv h0 v3 v2 v1)))
noncomputable def f_X11_fewest_l12 (fu : Nat) (n : Nat) (xo : MV) (nv : MV) (h0 : MV) (v1 : Int32) (v3 : Int32) (v2 : Int32) : Option (Int32 × MV) :=
  lp (fun q => f_X11_fewest_b12 n xo q.2.2 h0 q.1 q.2.1 v1) fu (v3, v2, nv)
noncomputable def f_X11_fewest (n : Nat) (xo : MV) (nv : MV) (h0 : MV) : Option (Int32 × MV) :=
  bd (f_X1_postageDue n h0) fun r_12 =>
  bd2 (f_X11_fewest_l12 n n xo nv h0 r_12 0 (-1)) fun v2_13 nv_14 =>
  some (v2_13, nv_14)
set_option maxHeartbeats 4000000 in
set_option maxRecDepth 100000 in
theorem c_X11_fewest (l : Launch) (G : va_G) (ct : Nat → ClassId) (sk sv : Nat → Nat) (g : Nat → Nat) (n : Nat) (xo : MV) (nv : MV) (h0 : MV) {r : Int32} {nv' : MV} (hf : f_X11_fewest n xo nv h0 = some (r, nv')) : Ctr (l, G, ct, sk, sv) mX11_fewest 11 304 [.ref (g 7)] (wl [lfX ct g xo, lfN ct (fun j => g (10 + j)) nv, lfH ct (hsA g 0) g h0, lfK ct g]) (wl [lfX ct g xo, lfN ct (fun j => g (10 + j)) nv', lfH ct (hsA g 0) g h0, lfK ct g]) (some (.int r)) := by
  refine ctr_intro (by decide) (Nat.le_of_ble_eq_true rfl) ?_
  intro p e s m args below meth c A C hP hD hS hA ls hl
  obtain ⟨hx, hb, hml, hown, hts, hr, hlocks, hK, hnm, hZ⟩ := C
  have hb : c.code = cX11_fewest := hb
  have hml : c.maxLocals = 5 := hml
  have hown : s.vm.findClass "SignedOutside" = some m.cls := hown
  have hr : meth.sig.returnType = some .int := hr
  have hP : va_P G classes (wl [lfX ct g xo, lfN ct (fun j => g (10 + j)) nv, lfH ct (hsA g 0) g h0, lfK ct g]) s.heap := hP
  have hD : va_D A (wl [lfX ct g xo, lfN ct (fun j => g (10 + j)) nv, lfH ct (hsA g 0) g h0, lfK ct g]) := hD
  have hK : va_K G classes (TYS ct) s := hK
  have hl : lv_has ls 5 [(0, .ref (g 7))] := hl
  have L12 : ∀ (fu : Nat) (nv : MV) (v1 : Int32) (v3 : Int32) (v2 : Int32) (ex : Int32 × MV) (H : Heap) (locs : List Loc) (ls : Array Slot), va_P G classes (wl [lfX ct g xo, lfN ct (fun j => g (10 + j)) nv, lfH ct (hsA g 0) g h0, lfK ct g]) H → va_D A (wl [lfX ct g xo, lfN ct (fun j => g (10 + j)) nv, lfH ct (hsA g 0) g h0, lfK ct g]) → va_S A s.heap H locs → lv_has ls 5 [(3, .int v3), (2, .int v2), (1, .int v1), (0, .ref (g 7))] → f_X11_fewest_l12 fu n xo nv h0 v1 v3 v2 = some ex → (∀ (x : Int32 × MV), ex = x → ∀ (H : Heap) (locs : List Loc) (ls : Array Slot), va_P G classes (wl [lfX ct g xo, lfN ct (fun j => g (10 + j)) x.2, lfH ct (hsA g 0) g h0, lfK ct g]) H → va_D A (wl [lfX ct g xo, lfN ct (fun j => g (10 + j)) x.2, lfH ct (hsA g 0) g h0, lfK ct g]) → va_S A s.heap H locs → lv_has ls 5 [(2, .int x.1)] → WG l G ct sk sv p e (RM 11 304 0 0) s m args below meth c A (Eq2 (some (.int r)) (wl [lfX ct g xo, lfN ct (fun j => g (10 + j)) nv', lfH ct (hsA g 0) g h0, lfK ct g])) H locs (F0 m 72 ls [])) → WG l G ct sk sv p e (RM 11 304 0 0) s m args below meth c A (Eq2 (some (.int r)) (wl [lfX ct g xo, lfN ct (fun j => g (10 + j)) nv', lfH ct (hsA g 0) g h0, lfK ct g])) H locs (F0 m 12 ls []) := by
    intro fu
    induction fu with
    | zero =>
      intro nv v1 v3 v2 ex H locs ls hP hD hS hl hf
      exact absurd hf (by unfold f_X11_fewest_l12 lp; exact fun h => by cases h)
    | succ fu ih =>
      intro nv v1 v3 v2 ex H locs ls hP hD hS hl hf hE
      unfold f_X11_fewest_l12 at hf
      obtain ⟨q, hf, hor⟩ := lp_e hf
      have J66 : ∀ (nv : MV) (v3 : Int32) (v2 : Int32) (H : Heap) (locs : List Loc) (ls : Array Slot), va_P G classes (wl [lfX ct g xo, lfN ct (fun j => g (10 + j)) nv, lfH ct (hsA g 0) g h0, lfK ct g]) H → va_D A (wl [lfX ct g xo, lfN ct (fun j => g (10 + j)) nv, lfH ct (hsA g 0) g h0, lfK ct g]) → va_S A s.heap H locs → lv_has ls 5 [(3, .int v3), (2, .int v2), (1, .int v1), (0, .ref (g 7))] → f_X11_fewest_j66 n xo nv h0 v3 v2 v1 = some q → WG l G ct sk sv p e (RM 11 304 0 0) s m args below meth c A (Eq2 (some (.int r)) (wl [lfX ct g xo, lfN ct (fun j => g (10 + j)) nv', lfH ct (hsA g 0) g h0, lfK ct g])) H locs (F0 m 66 ls []) := by
        intro nv v3 v2 H locs ls hP hD hS hl hf
        unfold f_X11_fewest_j66 at hf
        obtain ⟨v3_1, ev3_1, hf⟩ := bl_e hf
        refine lv_iinc (v := v3_1) (lv' := [(3, .int v3_1), (2, .int v2), (1, .int v1), (0, .ref (g 7))]) hx hb dX11_fewest_66 hl (k := 0) rfl ev3_1 (by decide) rfl (fun ls hl => ?_)
        refine lv_goto (tgt := 12) hx hb dX11_fewest_69 (by decide) ?_
        exact ih nv v1 v3_1 v2 ex _ _ _ hP hD hS hl (lp_inl hor hf) hE
      have J41 : ∀ (nv : MV) (v3 : Int32) (v2 : Int32) (s0 : Int32) (H : Heap) (locs : List Loc) (ls : Array Slot), va_P G classes (wl [lfX ct g xo, lfN ct (fun j => g (10 + j)) nv, lfH ct (hsA g 0) g h0, lfK ct g]) H → va_D A (wl [lfX ct g xo, lfN ct (fun j => g (10 + j)) nv, lfH ct (hsA g 0) g h0, lfK ct g]) → va_S A s.heap H locs → lv_has ls 5 [(3, .int v3), (2, .int v2), (1, .int v1), (0, .ref (g 7))] → f_X11_fewest_j41 n xo nv h0 v3 v2 v1 s0 = some q → WG l G ct sk sv p e (RM 11 304 0 0) s m args below meth c A (Eq2 (some (.int r)) (wl [lfX ct g xo, lfN ct (fun j => g (10 + j)) nv', lfH ct (hsA g 0) g h0, lfK ct g])) H locs (F0 m 41 ls [.int s0]) := by
        intro nv v3 v2 s0 H locs ls hP hD hS hl hf
        unfold f_X11_fewest_j41 at hf
        refine lv_istore (lv' := [(4, .int s0), (3, .int v3), (2, .int v2), (1, .int v1), (0, .ref (g 7))]) hx hb dX11_fewest_41 hl (by decide) rfl (fun ls hl => ?_)
        refine lv_iload hx hb dX11_fewest_43 (lv_at hl 0 rfl) ?_
        refine lv_if_eq (tgt := 66) hx hb dX11_fewest_45 (by decide) (fun c_2 => ?_) (fun c_2 => ?_)
        · replace hf := bc_t hf c_2
          exact J66 nv v3 v2 _ _ _ hP hD hS (lv_sub hl [1, 2, 3, 4] rfl) hf
        · replace hf := bc_f hf c_2
          refine lv_aload_n hx hb dX11_fewest_48 rfl (lv_at hl 4 rfl) ?_
          refine va_get (D := G) (C := RX11) (T := TX11) (N := 11) (v := .ref (g 10)) hx hb hts iu_X11 hown hK hP 0 rfl rfl 4 (by decide) (hts _ kw266) (fun _ h9 => h9) rfl dX11_fewest_49 ?_
          refine lv_aload_n hx hb dX11_fewest_52 rfl (lv_at hl 4 rfl) ?_
          refine va_get (D := G) (C := RX11) (T := TX11) (N := 11) (v := .ref ((hsA g 0) 0)) hx hb hts iu_X11 hown hK hP 0 rfl rfl 0 (by decide) (hts _ kw262) (fun _ h9 => h9) rfl dX11_fewest_53 ?_
          refine lv_iload_n hx hb dX11_fewest_56 rfl (lv_at hl 1 rfl) ?_
          obtain ⟨r_3, nv_4, hc4, hf⟩ := bd2_e hf
          refine call_V (As := [.ref ((hsA g 0) 0), .int v3]) (rest := []) hx hb hml hown hts hK hP hD hS hA hZ lkX11_219 (Ctr.upL (c_X3_solve l G ct sk sv (fun j => g (10 + j)) (hsA g 0) g n nv h0 v3 hc4) [lfX ct g xo] [lfX ct g xo, lfN ct (fun j => g (10 + j)) nv, lfH ct (hsA g 0) g h0, lfK ct g] [lfX ct g xo, lfN ct (fun j => g (10 + j)) nv_4, lfH ct (hsA g 0) g h0, lfK ct g] [1, 2, 3, 0] 4 (by decide) rfl rfl rfl rfl) 3 rfl rfl ⟨Nat.le_of_ble_eq_true rfl, Nat.le_of_ble_eq_true rfl⟩ rfl hl.1 rfl (Nat.le_of_ble_eq_true rfl) dX11_fewest_57 ⟨Nat.le_of_ble_eq_true rfl, Nat.le_of_ble_eq_true rfl⟩ (fun r9 w9 H locs hB hP hD hS => ?_)
          obtain ⟨rfl, rfl⟩ := hB
          refine WG_eq (g2 := F0 m 60 ls [.int r_3]) rfl ?_
          refine lv_iload_n hx hb dX11_fewest_60 rfl (lv_at hl 3 rfl) ?_
          refine lv_icmp_ne (tgt := 66) hx hb dX11_fewest_61 (by decide) (fun c_5 => ?_) (fun c_5 => ?_)
          · replace hf := bc_f hf c_5
            exact J66 nv_4 v3 v2 _ _ _ hP hD hS (lv_sub hl [1, 2, 3, 4] rfl) hf
          · replace hf := bc_t hf c_5
            refine lv_iload_n hx hb dX11_fewest_64 rfl (lv_at hl 1 rfl) ?_
            refine lv_istore_n (lv' := [(2, .int v3), (4, .int s0), (3, .int v3), (1, .int v1), (0, .ref (g 7))]) hx hb dX11_fewest_65 rfl hl (by decide) rfl (fun ls hl => ?_)
            exact J66 nv_4 v3 v3 _ _ _ hP hD hS (lv_sub hl [2, 0, 3, 4] rfl) hf
      have J36 : ∀ (nv : MV) (v3 : Int32) (v2 : Int32) (H : Heap) (locs : List Loc) (ls : Array Slot), va_P G classes (wl [lfX ct g xo, lfN ct (fun j => g (10 + j)) nv, lfH ct (hsA g 0) g h0, lfK ct g]) H → va_D A (wl [lfX ct g xo, lfN ct (fun j => g (10 + j)) nv, lfH ct (hsA g 0) g h0, lfK ct g]) → va_S A s.heap H locs → lv_has ls 5 [(3, .int v3), (2, .int v2), (1, .int v1), (0, .ref (g 7))] → f_X11_fewest_j36 n xo nv h0 v3 v2 v1 = some q → WG l G ct sk sv p e (RM 11 304 0 0) s m args below meth c A (Eq2 (some (.int r)) (wl [lfX ct g xo, lfN ct (fun j => g (10 + j)) nv', lfH ct (hsA g 0) g h0, lfK ct g])) H locs (F0 m 36 ls []) := by
        intro nv v3 v2 H locs ls hP hD hS hl hf
        unfold f_X11_fewest_j36 at hf
        refine lv_iconst (v := 1) hx hb dX11_fewest_36 (by decide) ?_
        refine lv_goto (tgt := 41) hx hb dX11_fewest_37 (by decide) ?_
        exact J41 nv v3 v2 1 _ _ _ hP hD hS hl hf
      replace hf : f_X11_fewest_b12 n xo nv h0 v3 v2 v1 = some q := hf
      unfold f_X11_fewest_b12 at hf
      refine lv_iload_n hx hb dX11_fewest_12 rfl (lv_at hl 0 rfl) ?_
      refine lv_aload_n hx hb dX11_fewest_13 rfl (lv_at hl 3 rfl) ?_
      obtain ⟨r_6, hc6, hf⟩ := bd_e hf
      refine call_V (As := []) (rest := [.int v3]) hx hb hml hown hts hK hP hD hS hA hZ lkX11_216 (Ctr.upL (c_X11_everyMember l G ct sk sv g n xo h0 hc6) [lfN ct (fun j => g (10 + j)) nv, lfK ct g] [lfX ct g xo, lfN ct (fun j => g (10 + j)) nv, lfH ct (hsA g 0) g h0, lfK ct g] [lfX ct g xo, lfN ct (fun j => g (10 + j)) nv, lfH ct (hsA g 0) g h0, lfK ct g] [0, 2, 1, 3] 4 (by decide) rfl rfl rfl rfl) 0 rfl rfl ⟨Nat.le_of_ble_eq_true rfl, Nat.le_of_ble_eq_true rfl⟩ rfl hl.1 rfl (Nat.le_of_ble_eq_true rfl) dX11_fewest_14 ⟨Nat.le_of_ble_eq_true rfl, Nat.le_of_ble_eq_true rfl⟩ (fun r9 w9 H locs hB hP hD hS => ?_)
      obtain ⟨rfl, rfl⟩ := hB
      refine WG_eq (g2 := F0 m 17 ls [.int r_6, .int v3]) rfl ?_
      refine lv_icmp_gt (tgt := 72) hx hb dX11_fewest_17 (by decide) (fun c_7 => ?_) (fun c_7 => ?_)
      · replace hf := bc_t hf c_7
        exact hE (v2, nv) (lp_inr hor hf).symm _ _ _ hP hD hS (lv_sub hl [1] rfl)
      · replace hf := bc_f hf c_7
        refine lv_iload_n hx hb dX11_fewest_20 rfl (lv_at hl 1 rfl) ?_
        refine lv_iconst (v := (-1)) hx hb dX11_fewest_21 (by decide) ?_
        refine lv_icmp_eq (tgt := 36) hx hb dX11_fewest_22 (by decide) (fun c_8 => ?_) (fun c_8 => ?_)
        · replace hf := bc_t hf c_8
          exact J36 nv v3 v2 _ _ _ hP hD hS hl hf
        · replace hf := bc_f hf c_8
          refine lv_iload_n hx hb dX11_fewest_25 rfl (lv_at hl 0 rfl) ?_
          obtain ⟨r_9, hc9, hf⟩ := bd_e hf
          refine call_S (As := [.int v3]) (rest := []) hx hb hml hown hts hK hP hD hS hA hZ lkX11_226 (Ctr.upL (c_J6_bitCount l G ct sk sv  n v3 hc9) [lfX ct g xo, lfN ct (fun j => g (10 + j)) nv, lfH ct (hsA g 0) g h0, lfK ct g] [lfX ct g xo, lfN ct (fun j => g (10 + j)) nv, lfH ct (hsA g 0) g h0, lfK ct g] [lfX ct g xo, lfN ct (fun j => g (10 + j)) nv, lfH ct (hsA g 0) g h0, lfK ct g] [0, 1, 2, 3] 4 (by decide) rfl rfl rfl rfl) ⟨Nat.le_of_ble_eq_true rfl, Nat.le_of_ble_eq_true rfl⟩ rfl hl.1 rfl (Nat.le_of_ble_eq_true rfl) dX11_fewest_26 ⟨Nat.le_of_ble_eq_true rfl, Nat.le_of_ble_eq_true rfl⟩ (fun r9 w9 H locs hB hP hD hS => ?_)
          obtain ⟨rfl, rfl⟩ := hB
          refine WG_eq (g2 := F0 m 29 ls [.int r_9]) rfl ?_
          refine lv_iload_n hx hb dX11_fewest_29 rfl (lv_at hl 1 rfl) ?_
          obtain ⟨r_10, hc10, hf⟩ := bd_e hf
          refine call_S (As := [.int v2]) (rest := [.int r_9]) hx hb hml hown hts hK hP hD hS hA hZ lkX11_226 (Ctr.upL (c_J6_bitCount l G ct sk sv  n v2 hc10) [lfX ct g xo, lfN ct (fun j => g (10 + j)) nv, lfH ct (hsA g 0) g h0, lfK ct g] [lfX ct g xo, lfN ct (fun j => g (10 + j)) nv, lfH ct (hsA g 0) g h0, lfK ct g] [lfX ct g xo, lfN ct (fun j => g (10 + j)) nv, lfH ct (hsA g 0) g h0, lfK ct g] [0, 1, 2, 3] 4 (by decide) rfl rfl rfl rfl) ⟨Nat.le_of_ble_eq_true rfl, Nat.le_of_ble_eq_true rfl⟩ rfl hl.1 rfl (Nat.le_of_ble_eq_true rfl) dX11_fewest_30 ⟨Nat.le_of_ble_eq_true rfl, Nat.le_of_ble_eq_true rfl⟩ (fun r9 w9 H locs hB hP hD hS => ?_)
          obtain ⟨rfl, rfl⟩ := hB
          refine WG_eq (g2 := F0 m 33 ls [.int r_10, .int r_9]) rfl ?_
          refine lv_icmp_ge (tgt := 40) hx hb dX11_fewest_33 (by decide) (fun c_11 => ?_) (fun c_11 => ?_)
          · replace hf := bc_t hf c_11
            refine lv_iconst (v := 0) hx hb dX11_fewest_40 (by decide) ?_
            exact J41 nv v3 v2 0 _ _ _ hP hD hS hl hf
          · replace hf := bc_f hf c_11
            exact J36 nv v3 v2 _ _ _ hP hD hS hl hf
  unfold f_X11_fewest at hf
  show WG l G ct sk sv p e (RM 11 304 0 0) s m args below meth c A (Eq2 (some (.int r)) (wl [lfX ct g xo, lfN ct (fun j => g (10 + j)) nv', lfH ct (hsA g 0) g h0, lfK ct g])) s.heap [] (F0 m 0 ls [])
  refine lv_aload_n hx hb dX11_fewest_0 rfl (lv_at hl 0 rfl) ?_
  refine va_get (D := G) (C := RX11) (T := TX11) (N := 11) (v := .ref ((hsA g 0) 0)) hx hb hts iu_X11 hown hK hP 0 rfl rfl 0 (by decide) (hts _ kw262) (fun _ h9 => h9) rfl dX11_fewest_1 ?_
  obtain ⟨r_12, hc12, hf⟩ := bd_e hf
  refine call_V (As := []) (rest := []) hx hb hml hown hts hK hP hD hS hA hZ lkX11_210 (Ctr.upL (c_X1_postageDue l G ct sk sv (hsA g 0) g n h0 hc12) [lfX ct g xo, lfN ct (fun j => g (10 + j)) nv, lfK ct g] [lfX ct g xo, lfN ct (fun j => g (10 + j)) nv, lfH ct (hsA g 0) g h0, lfK ct g] [lfX ct g xo, lfN ct (fun j => g (10 + j)) nv, lfH ct (hsA g 0) g h0, lfK ct g] [2, 0, 1, 3] 4 (by decide) rfl rfl rfl rfl) 11 rfl rfl ⟨Nat.le_of_ble_eq_true rfl, Nat.le_of_ble_eq_true rfl⟩ rfl hl.1 rfl (Nat.le_of_ble_eq_true rfl) dX11_fewest_4 ⟨Nat.le_of_ble_eq_true rfl, Nat.le_of_ble_eq_true rfl⟩ (fun r9 w9 H locs hB hP hD hS => ?_)
  obtain ⟨rfl, rfl⟩ := hB
  refine WG_eq (g2 := F0 m 7 ls [.int r_12]) rfl ?_
  refine lv_istore_n (lv' := [(1, .int r_12), (0, .ref (g 7))]) hx hb dX11_fewest_7 rfl hl (by decide) rfl (fun ls hl => ?_)
  refine lv_iconst (v := (-1)) hx hb dX11_fewest_8 (by decide) ?_
  refine lv_istore_n (lv' := [(2, .int (-1)), (1, .int r_12), (0, .ref (g 7))]) hx hb dX11_fewest_9 rfl hl (by decide) rfl (fun ls hl => ?_)
  refine lv_iconst (v := 0) hx hb dX11_fewest_10 (by decide) ?_
  refine lv_istore_n (lv' := [(3, .int 0), (2, .int (-1)), (1, .int r_12), (0, .ref (g 7))]) hx hb dX11_fewest_11 rfl hl (by decide) rfl (fun ls hl => ?_)
  obtain ⟨v2_13, nv_14, hx_15, hf⟩ := bd2_e hf
  refine L12 n nv r_12 0 (-1) (v2_13, nv_14) _ _ _ hP hD hS hl hx_15 ?_
  intro x9 e9 H locs ls hP hD hS hl
  subst e9
  have hP : va_P G classes (wl [lfX ct g xo, lfN ct (fun j => g (10 + j)) nv_14, lfH ct (hsA g 0) g h0, lfK ct g]) H := hP
  have hD : va_D A (wl [lfX ct g xo, lfN ct (fun j => g (10 + j)) nv_14, lfH ct (hsA g 0) g h0, lfK ct g]) := hD
  have hl : lv_has ls 5 [(2, .int v2_13)] := hl
  refine lv_iload_n hx hb dX11_fewest_72 rfl (lv_at hl 0 rfl) ?_
  obtain ⟨e1, e2⟩ := inj2 (Option.some.inj hf)
  exact end_i (w' := (wl [lfX ct g xo, lfN ct (fun j => g (10 + j)) nv_14, lfH ct (hsA g 0) g h0, lfK ct g])) hx hb hr hlocks hK hP hD hS dX11_fewest_73  ⟨by rw [← e1], by rw [← e2]⟩
noncomputable def f_X11_forged (n : Nat) (xo : MV) (h0 : MV) (cv0 : MV) (v1 : Int32) : Option (Int32 × MV) :=
  bd (f_X11_isMember n xo h0 v1) fun r_1 =>
  bc (r_1 = 0) (bd2 (f_X11_refuseBad n xo) fun r_5 xo_6 =>
  some (r_5, xo_6))
  (bd (f_X1_kindAt n h0 v1) fun i_3 =>
  bd (f_X8_fewestFalse n cv0 i_3 v1) fun r_4 =>
  some (r_4, xo))
set_option maxHeartbeats 4000000 in
set_option maxRecDepth 100000 in
theorem c_X11_forged (l : Launch) (G : va_G) (ct : Nat → ClassId) (sk sv : Nat → Nat) (g : Nat → Nat) (n : Nat) (xo : MV) (h0 : MV) (cv0 : MV) (v1 : Int32) {r : Int32} {xo' : MV} (hf : f_X11_forged n xo h0 cv0 v1 = some (r, xo')) : Ctr (l, G, ct, sk, sv) mX11_forged 6 211 [.ref (g 7), .int v1] (wl [lfX ct g xo, lfH ct (hsA g 0) g h0, lfS ct (fun j => (hsA g 0) (8 + j)) cv0, lfK ct g]) (wl [lfX ct g xo', lfH ct (hsA g 0) g h0, lfS ct (fun j => (hsA g 0) (8 + j)) cv0, lfK ct g]) (some (.int r)) := by
  refine ctr_intro (by decide) (Nat.le_of_ble_eq_true rfl) ?_
  intro p e s m args below meth c A C hP hD hS hA ls hl
  obtain ⟨hx, hb, hml, hown, hts, hr, hlocks, hK, hnm, hZ⟩ := C
  have hb : c.code = cX11_forged := hb
  have hml : c.maxLocals = 2 := hml
  have hown : s.vm.findClass "SignedOutside" = some m.cls := hown
  have hr : meth.sig.returnType = some .int := hr
  have hP : va_P G classes (wl [lfX ct g xo, lfH ct (hsA g 0) g h0, lfS ct (fun j => (hsA g 0) (8 + j)) cv0, lfK ct g]) s.heap := hP
  have hD : va_D A (wl [lfX ct g xo, lfH ct (hsA g 0) g h0, lfS ct (fun j => (hsA g 0) (8 + j)) cv0, lfK ct g]) := hD
  have hK : va_K G classes (TYS ct) s := hK
  have hl : lv_has ls 2 [(0, .ref (g 7)), (1, .int v1)] := hl
  unfold f_X11_forged at hf
  show WG l G ct sk sv p e (RM 6 211 0 0) s m args below meth c A (Eq2 (some (.int r)) (wl [lfX ct g xo', lfH ct (hsA g 0) g h0, lfS ct (fun j => (hsA g 0) (8 + j)) cv0, lfK ct g])) s.heap [] (F0 m 0 ls [])
  refine lv_aload_n hx hb dX11_forged_0 rfl (lv_at hl 0 rfl) ?_
  refine lv_iload_n hx hb dX11_forged_1 rfl (lv_at hl 1 rfl) ?_
  obtain ⟨r_1, hc1, hf⟩ := bd_e hf
  refine call_V (As := [.int v1]) (rest := []) hx hb hml hown hts hK hP hD hS hA hZ lkX11_128 (Ctr.upL (c_X11_isMember l G ct sk sv g n xo h0 v1 hc1) [lfS ct (fun j => (hsA g 0) (8 + j)) cv0, lfK ct g] [lfX ct g xo, lfH ct (hsA g 0) g h0, lfS ct (fun j => (hsA g 0) (8 + j)) cv0, lfK ct g] [lfX ct g xo, lfH ct (hsA g 0) g h0, lfS ct (fun j => (hsA g 0) (8 + j)) cv0, lfK ct g] [0, 1, 2, 3] 4 (by decide) rfl rfl rfl rfl) 0 rfl rfl ⟨Nat.le_of_ble_eq_true rfl, Nat.le_of_ble_eq_true rfl⟩ rfl hl.1 rfl (Nat.le_of_ble_eq_true rfl) dX11_forged_2 ⟨Nat.le_of_ble_eq_true rfl, Nat.le_of_ble_eq_true rfl⟩ (fun r9 w9 H locs hB hP hD hS => ?_)
  obtain ⟨rfl, rfl⟩ := hB
  refine WG_eq (g2 := F0 m 5 ls [.int r_1]) rfl ?_
  refine lv_if_ne (tgt := 13) hx hb dX11_forged_5 (by decide) (fun c_2 => ?_) (fun c_2 => ?_)
  · replace hf := bc_f hf c_2
    refine lv_aload_n hx hb dX11_forged_13 rfl (lv_at hl 0 rfl) ?_
    refine va_get (D := G) (C := RX11) (T := TX11) (N := 11) (v := .ref ((hsA g 0) 0)) hx hb hts iu_X11 hown hK hP 0 rfl rfl 0 (by decide) (hts _ kw262) (fun _ h9 => h9) rfl dX11_forged_14 ?_
    refine va_get (D := G) (C := RX1) (T := TX1) (N := 16) (v := .ref ((hsA g 0) 8)) hx hb hts iu_X1 hown hK hP 3 rfl rfl 13 (by decide) (hts _ kw158) (fun _ h9 => h9) rfl dX11_forged_17 ?_
    refine lv_iload_n hx hb dX11_forged_20 rfl (lv_at hl 1 rfl) ?_
    refine lv_aload_n hx hb dX11_forged_21 rfl (lv_at hl 0 rfl) ?_
    refine va_get (D := G) (C := RX11) (T := TX11) (N := 11) (v := .ref ((hsA g 0) 0)) hx hb hts iu_X11 hown hK hP 0 rfl rfl 0 (by decide) (hts _ kw262) (fun _ h9 => h9) rfl dX11_forged_22 ?_
    refine lv_iload_n hx hb dX11_forged_25 rfl (lv_at hl 1 rfl) ?_
    obtain ⟨i_3, hc3, hf⟩ := bd_e hf
    refine call_V (As := [.int v1]) (rest := [.int v1, .ref ((hsA g 0) 8)]) hx hb hml hown hts hK hP hD hS hA hZ lkX11_170 (Ctr.upL (c_X1_kindAt l G ct sk sv (hsA g 0) g n h0 v1 hc3) [lfX ct g xo, lfS ct (fun j => (hsA g 0) (8 + j)) cv0] [lfX ct g xo, lfH ct (hsA g 0) g h0, lfS ct (fun j => (hsA g 0) (8 + j)) cv0, lfK ct g] [lfX ct g xo, lfH ct (hsA g 0) g h0, lfS ct (fun j => (hsA g 0) (8 + j)) cv0, lfK ct g] [1, 3, 0, 2] 4 (by decide) rfl rfl rfl rfl) 3 rfl rfl ⟨Nat.le_of_ble_eq_true rfl, Nat.le_of_ble_eq_true rfl⟩ rfl hl.1 rfl (Nat.le_of_ble_eq_true rfl) dX11_forged_26 ⟨Nat.le_of_ble_eq_true rfl, Nat.le_of_ble_eq_true rfl⟩ (fun r9 w9 H locs hB hP hD hS => ?_)
    obtain ⟨rfl, rfl⟩ := hB
    refine WG_eq (g2 := F0 m 29 ls [.ref (g (1 + i_3)), .int v1, .ref ((hsA g 0) 8)]) rfl ?_
    obtain ⟨r_4, hc4, hf⟩ := bd_e hf
    refine call_V (As := [.int v1, .ref (g (1 + i_3))]) (rest := []) hx hb hml hown hts hK hP hD hS hA hZ lkX11_277 (Ctr.upL (c_X8_fewestFalse l G ct sk sv (fun j => (hsA g 0) (8 + j)) g n cv0 i_3 v1 hc4) [lfX ct g xo, lfH ct (hsA g 0) g h0] [lfX ct g xo, lfH ct (hsA g 0) g h0, lfS ct (fun j => (hsA g 0) (8 + j)) cv0, lfK ct g] [lfX ct g xo, lfH ct (hsA g 0) g h0, lfS ct (fun j => (hsA g 0) (8 + j)) cv0, lfK ct g] [2, 3, 0, 1] 4 (by decide) rfl rfl rfl rfl) 11 rfl rfl ⟨Nat.le_of_ble_eq_true rfl, Nat.le_of_ble_eq_true rfl⟩ rfl hl.1 rfl (Nat.le_of_ble_eq_true rfl) dX11_forged_29 ⟨Nat.le_of_ble_eq_true rfl, Nat.le_of_ble_eq_true rfl⟩ (fun r9 w9 H locs hB hP hD hS => ?_)
    obtain ⟨rfl, rfl⟩ := hB
    refine WG_eq (g2 := F0 m 32 ls [.int r_4]) rfl ?_
    obtain ⟨e1, e2⟩ := inj2 (Option.some.inj hf)
    exact end_i (w' := (wl [lfX ct g xo, lfH ct (hsA g 0) g h0, lfS ct (fun j => (hsA g 0) (8 + j)) cv0, lfK ct g])) hx hb hr hlocks hK hP hD hS dX11_forged_32  ⟨by rw [← e1], by rw [← e2]⟩
  · replace hf := bc_t hf c_2
    refine lv_aload_n hx hb dX11_forged_8 rfl (lv_at hl 0 rfl) ?_
    obtain ⟨r_5, xo_6, hc6, hf⟩ := bd2_e hf
    refine call_V (As := []) (rest := []) hx hb hml hown hts hK hP hD hS hA hZ lkX11_83 (Ctr.upL (c_X11_refuseBad l G ct sk sv g n xo hc6) [lfH ct (hsA g 0) g h0, lfS ct (fun j => (hsA g 0) (8 + j)) cv0, lfK ct g] [lfX ct g xo, lfH ct (hsA g 0) g h0, lfS ct (fun j => (hsA g 0) (8 + j)) cv0, lfK ct g] [lfX ct g xo_6, lfH ct (hsA g 0) g h0, lfS ct (fun j => (hsA g 0) (8 + j)) cv0, lfK ct g] [0, 1, 2, 3] 4 (by decide) rfl rfl rfl rfl) 0 rfl rfl ⟨Nat.le_of_ble_eq_true rfl, Nat.le_of_ble_eq_true rfl⟩ rfl hl.1 rfl (Nat.le_of_ble_eq_true rfl) dX11_forged_9 ⟨Nat.le_of_ble_eq_true rfl, Nat.le_of_ble_eq_true rfl⟩ (fun r9 w9 H locs hB hP hD hS => ?_)
    obtain ⟨rfl, rfl⟩ := hB
    refine WG_eq (g2 := F0 m 12 ls [.int r_5]) rfl ?_
    obtain ⟨e1, e2⟩ := inj2 (Option.some.inj hf)
    exact end_i (w' := (wl [lfX ct g xo_6, lfH ct (hsA g 0) g h0, lfS ct (fun j => (hsA g 0) (8 + j)) cv0, lfK ct g])) hx hb hr hlocks hK hP hD hS dX11_forged_12  ⟨by rw [← e1], by rw [← e2]⟩
noncomputable def f_X11_forget (n : Nat) (xo : MV) (h0 : MV) (nt0 : MV) (cv0 : MV) (v1 : Int32) : Option (Int32 × MV × MV × MV) :=
  bd (f_X11_within n v1 0 1) fun r_1 =>
  bc (r_1 = 0) (bd2 (f_X11_refuseBad n xo) fun r_8 xo_9 =>
  some (r_8, xo_9, nt0, cv0))
  (bc (v1 = 0) (bl (cv0.1 0) fun v3_6 =>
  bl (setS cv0 0 0) fun cv0_7 =>
  some (v3_6, xo, nt0, cv0_7))
  (bl (nt0.1 0) fun v3_4 =>
  bl (setS nt0 0 0) fun nt0_5 =>
  some (v3_4, xo, nt0_5, cv0)))
set_option maxHeartbeats 4000000 in
set_option maxRecDepth 100000 in
theorem c_X11_forget (l : Launch) (G : va_G) (ct : Nat → ClassId) (sk sv : Nat → Nat) (g : Nat → Nat) (n : Nat) (xo : MV) (h0 : MV) (nt0 : MV) (cv0 : MV) (v1 : Int32) {r : Int32} {xo' : MV} {nt0' : MV} {cv0' : MV} (hf : f_X11_forget n xo h0 nt0 cv0 v1 = some (r, xo', nt0', cv0')) : Ctr (l, G, ct, sk, sv) mX11_forget 1 22 [.ref (g 7), .int v1] (wl [lfX ct g xo, lfH ct (hsA g 0) g h0, lfS ct (fun j => (hsA g 0) (12 + j)) nt0, lfS ct (fun j => (hsA g 0) (8 + j)) cv0]) (wl [lfX ct g xo', lfH ct (hsA g 0) g h0, lfS ct (fun j => (hsA g 0) (12 + j)) nt0', lfS ct (fun j => (hsA g 0) (8 + j)) cv0']) (some (.int r)) := by
  refine ctr_intro (by decide) (Nat.le_of_ble_eq_true rfl) ?_
  intro p e s m args below meth c A C hP hD hS hA ls hl
  obtain ⟨hx, hb, hml, hown, hts, hr, hlocks, hK, hnm, hZ⟩ := C
  have hb : c.code = cX11_forget := hb
  have hml : c.maxLocals = 4 := hml
  have hown : s.vm.findClass "SignedOutside" = some m.cls := hown
  have hr : meth.sig.returnType = some .int := hr
  have hP : va_P G classes (wl [lfX ct g xo, lfH ct (hsA g 0) g h0, lfS ct (fun j => (hsA g 0) (12 + j)) nt0, lfS ct (fun j => (hsA g 0) (8 + j)) cv0]) s.heap := hP
  have hD : va_D A (wl [lfX ct g xo, lfH ct (hsA g 0) g h0, lfS ct (fun j => (hsA g 0) (12 + j)) nt0, lfS ct (fun j => (hsA g 0) (8 + j)) cv0]) := hD
  have hK : va_K G classes (TYS ct) s := hK
  have hl : lv_has ls 4 [(0, .ref (g 7)), (1, .int v1)] := hl
  unfold f_X11_forget at hf
  show WG l G ct sk sv p e (RM 1 22 0 0) s m args below meth c A (Eq2 (some (.int r)) (wl [lfX ct g xo', lfH ct (hsA g 0) g h0, lfS ct (fun j => (hsA g 0) (12 + j)) nt0', lfS ct (fun j => (hsA g 0) (8 + j)) cv0'])) s.heap [] (F0 m 0 ls [])
  refine lv_iload_n hx hb dX11_forget_0 rfl (lv_at hl 1 rfl) ?_
  refine lv_iconst (v := 0) hx hb dX11_forget_1 (by decide) ?_
  refine lv_iconst (v := 1) hx hb dX11_forget_2 (by decide) ?_
  obtain ⟨r_1, hc1, hf⟩ := bd_e hf
  refine call_S (As := [.int v1, .int 0, .int 1]) (rest := []) hx hb hml hown hts hK hP hD hS hA hZ lkX11_75 (Ctr.upL (c_X11_within l G ct sk sv  n v1 0 1 hc1) [lfX ct g xo, lfH ct (hsA g 0) g h0, lfS ct (fun j => (hsA g 0) (12 + j)) nt0, lfS ct (fun j => (hsA g 0) (8 + j)) cv0] [lfX ct g xo, lfH ct (hsA g 0) g h0, lfS ct (fun j => (hsA g 0) (12 + j)) nt0, lfS ct (fun j => (hsA g 0) (8 + j)) cv0] [lfX ct g xo, lfH ct (hsA g 0) g h0, lfS ct (fun j => (hsA g 0) (12 + j)) nt0, lfS ct (fun j => (hsA g 0) (8 + j)) cv0] [0, 1, 2, 3] 4 (by decide) rfl rfl rfl rfl) ⟨Nat.le_of_ble_eq_true rfl, Nat.le_of_ble_eq_true rfl⟩ rfl hl.1 rfl (Nat.le_of_ble_eq_true rfl) dX11_forget_3 ⟨Nat.le_of_ble_eq_true rfl, Nat.le_of_ble_eq_true rfl⟩ (fun r9 w9 H locs hB hP hD hS => ?_)
  obtain ⟨rfl, rfl⟩ := hB
  refine WG_eq (g2 := F0 m 6 ls [.int r_1]) rfl ?_
  refine lv_if_ne (tgt := 14) hx hb dX11_forget_6 (by decide) (fun c_2 => ?_) (fun c_2 => ?_)
  · replace hf := bc_f hf c_2
    refine lv_iload_n hx hb dX11_forget_14 rfl (lv_at hl 1 rfl) ?_
    refine lv_if_ne (tgt := 28) hx hb dX11_forget_15 (by decide) (fun c_3 => ?_) (fun c_3 => ?_)
    · replace hf := bc_f hf c_3
      refine lv_aload_n hx hb dX11_forget_28 rfl (lv_at hl 0 rfl) ?_
      refine va_get (D := G) (C := RX11) (T := TX11) (N := 11) (v := .ref ((hsA g 0) 0)) hx hb hts iu_X11 hown hK hP 0 rfl rfl 0 (by decide) (hts _ kw262) (fun _ h9 => h9) rfl dX11_forget_29 ?_
      refine va_get (D := G) (C := RX1) (T := TX1) (N := 16) (v := .ref ((hsA g 0) 12)) hx hb hts iu_X1 hown hK hP 3 rfl rfl 14 (by decide) (hts _ kw160) (fun _ h9 => h9) rfl dX11_forget_32 ?_
      refine lv_astore_n (lv' := [(2, .ref ((hsA g 0) 12)), (0, .ref (g 7)), (1, .int v1)]) hx hb dX11_forget_35 rfl hl (by decide) rfl (fun ls hl => ?_)
      refine lv_aload_n hx hb dX11_forget_36 rfl (lv_at hl 0 rfl) ?_
      refine va_get (D := G) (C := RX8) (T := TX8) (N := 4) (v := .int (nt0.1 0)) hx hb hts iu_X8 hown hK hP 11 rfl rfl 0 (by decide) (hts _ kw87) (fun _ h9 => h9) rfl dX11_forget_37 ?_
      refine lv_topi (fun v3_4 ev3_4 => ?_)
      replace hf := bl_i hf ev3_4
      refine lv_istore_n (lv' := [(3, .int v3_4), (2, .ref ((hsA g 0) 12)), (0, .ref (g 7)), (1, .int v1)]) hx hb dX11_forget_40 rfl hl (by decide) rfl (fun ls hl => ?_)
      refine lv_aload_n hx hb dX11_forget_41 rfl (lv_at hl 1 rfl) ?_
      refine lv_iconst (v := 0) hx hb dX11_forget_42 (by decide) ?_
      obtain ⟨nt0_5, ent0_5, hf⟩ := bl_e hf
      refine va_put (D := G) (C := RX8) (T := TX8) (N := 4) (ty := .int) hx hb hts iu_X8 tyX8 tyX8_ok nmX8 hown hK hP hD hS 11 rfl rfl 0 (by decide) (hts _ kw87) (fun _ h9 => h9) rfl (by decide +kernel) rfl rfl (Nat.le_of_ble_eq_true rfl) dX11_forget_43 (fun H locs hP hD hS => ?_)
      have hP : va_P G classes (wl [lfX ct g xo, lfH ct (hsA g 0) g h0, lfS ct (fun j => (hsA g 0) (12 + j)) nt0_5, lfS ct (fun j => (hsA g 0) (8 + j)) cv0]) H := by rw [← ent0_5]; exact hP
      have hD : va_D A (wl [lfX ct g xo, lfH ct (hsA g 0) g h0, lfS ct (fun j => (hsA g 0) (12 + j)) nt0_5, lfS ct (fun j => (hsA g 0) (8 + j)) cv0]) := by rw [← ent0_5]; exact hD
      refine lv_iload_n hx hb dX11_forget_46 rfl (lv_at hl 0 rfl) ?_
      obtain ⟨e1, e2, e3, e4⟩ := inj4 (Option.some.inj hf)
      exact end_i (w' := (wl [lfX ct g xo, lfH ct (hsA g 0) g h0, lfS ct (fun j => (hsA g 0) (12 + j)) nt0_5, lfS ct (fun j => (hsA g 0) (8 + j)) cv0])) hx hb hr hlocks hK hP hD hS dX11_forget_47  ⟨by rw [← e1], by rw [← e2, ← e3, ← e4]⟩
    · replace hf := bc_t hf c_3
      refine lv_aload_n hx hb dX11_forget_18 rfl (lv_at hl 0 rfl) ?_
      refine va_get (D := G) (C := RX11) (T := TX11) (N := 11) (v := .ref ((hsA g 0) 0)) hx hb hts iu_X11 hown hK hP 0 rfl rfl 0 (by decide) (hts _ kw262) (fun _ h9 => h9) rfl dX11_forget_19 ?_
      refine va_get (D := G) (C := RX1) (T := TX1) (N := 16) (v := .ref ((hsA g 0) 8)) hx hb hts iu_X1 hown hK hP 3 rfl rfl 13 (by decide) (hts _ kw158) (fun _ h9 => h9) rfl dX11_forget_22 ?_
      refine lv_goto (tgt := 35) hx hb dX11_forget_25 (by decide) ?_
      refine lv_astore_n (lv' := [(2, .ref ((hsA g 0) 8)), (0, .ref (g 7)), (1, .int v1)]) hx hb dX11_forget_35 rfl hl (by decide) rfl (fun ls hl => ?_)
      refine lv_aload_n hx hb dX11_forget_36 rfl (lv_at hl 0 rfl) ?_
      refine va_get (D := G) (C := RX8) (T := TX8) (N := 4) (v := .int (cv0.1 0)) hx hb hts iu_X8 hown hK hP 15 rfl rfl 0 (by decide) (hts _ kw87) (fun _ h9 => h9) rfl dX11_forget_37 ?_
      refine lv_topi (fun v3_6 ev3_6 => ?_)
      replace hf := bl_i hf ev3_6
      refine lv_istore_n (lv' := [(3, .int v3_6), (2, .ref ((hsA g 0) 8)), (0, .ref (g 7)), (1, .int v1)]) hx hb dX11_forget_40 rfl hl (by decide) rfl (fun ls hl => ?_)
      refine lv_aload_n hx hb dX11_forget_41 rfl (lv_at hl 1 rfl) ?_
      refine lv_iconst (v := 0) hx hb dX11_forget_42 (by decide) ?_
      obtain ⟨cv0_7, ecv0_7, hf⟩ := bl_e hf
      refine va_put (D := G) (C := RX8) (T := TX8) (N := 4) (ty := .int) hx hb hts iu_X8 tyX8 tyX8_ok nmX8 hown hK hP hD hS 15 rfl rfl 0 (by decide) (hts _ kw87) (fun _ h9 => h9) rfl (by decide +kernel) rfl rfl (Nat.le_of_ble_eq_true rfl) dX11_forget_43 (fun H locs hP hD hS => ?_)
      have hP : va_P G classes (wl [lfX ct g xo, lfH ct (hsA g 0) g h0, lfS ct (fun j => (hsA g 0) (12 + j)) nt0, lfS ct (fun j => (hsA g 0) (8 + j)) cv0_7]) H := by rw [← ecv0_7]; exact hP
      have hD : va_D A (wl [lfX ct g xo, lfH ct (hsA g 0) g h0, lfS ct (fun j => (hsA g 0) (12 + j)) nt0, lfS ct (fun j => (hsA g 0) (8 + j)) cv0_7]) := by rw [← ecv0_7]; exact hD
      refine lv_iload_n hx hb dX11_forget_46 rfl (lv_at hl 0 rfl) ?_
      obtain ⟨e1, e2, e3, e4⟩ := inj4 (Option.some.inj hf)
      exact end_i (w' := (wl [lfX ct g xo, lfH ct (hsA g 0) g h0, lfS ct (fun j => (hsA g 0) (12 + j)) nt0, lfS ct (fun j => (hsA g 0) (8 + j)) cv0_7])) hx hb hr hlocks hK hP hD hS dX11_forget_47  ⟨by rw [← e1], by rw [← e2, ← e3, ← e4]⟩
  · replace hf := bc_t hf c_2
    refine lv_aload_n hx hb dX11_forget_9 rfl (lv_at hl 0 rfl) ?_
    obtain ⟨r_8, xo_9, hc9, hf⟩ := bd2_e hf
    refine call_V (As := []) (rest := []) hx hb hml hown hts hK hP hD hS hA hZ lkX11_83 (Ctr.upL (c_X11_refuseBad l G ct sk sv g n xo hc9) [lfH ct (hsA g 0) g h0, lfS ct (fun j => (hsA g 0) (12 + j)) nt0, lfS ct (fun j => (hsA g 0) (8 + j)) cv0] [lfX ct g xo, lfH ct (hsA g 0) g h0, lfS ct (fun j => (hsA g 0) (12 + j)) nt0, lfS ct (fun j => (hsA g 0) (8 + j)) cv0] [lfX ct g xo_9, lfH ct (hsA g 0) g h0, lfS ct (fun j => (hsA g 0) (12 + j)) nt0, lfS ct (fun j => (hsA g 0) (8 + j)) cv0] [0, 1, 2, 3] 4 (by decide) rfl rfl rfl rfl) 0 rfl rfl ⟨Nat.le_of_ble_eq_true rfl, Nat.le_of_ble_eq_true rfl⟩ rfl hl.1 rfl (Nat.le_of_ble_eq_true rfl) dX11_forget_10 ⟨Nat.le_of_ble_eq_true rfl, Nat.le_of_ble_eq_true rfl⟩ (fun r9 w9 H locs hB hP hD hS => ?_)
    obtain ⟨rfl, rfl⟩ := hB
    refine WG_eq (g2 := F0 m 13 ls [.int r_8]) rfl ?_
    obtain ⟨e1, e2, e3, e4⟩ := inj4 (Option.some.inj hf)
    exact end_i (w' := (wl [lfX ct g xo_9, lfH ct (hsA g 0) g h0, lfS ct (fun j => (hsA g 0) (12 + j)) nt0, lfS ct (fun j => (hsA g 0) (8 + j)) cv0])) hx hb hr hlocks hK hP hD hS dX11_forget_13  ⟨by rw [← e1], by rw [← e2, ← e3, ← e4]⟩
