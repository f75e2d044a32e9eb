noncomputable def f_X11_member_j16 (n : Nat) (xo : MV) (h0 : MV) (ps0 : MV) : Option (Int32 × MV × MV × MV) :=
  bd2 (f_X11_refuseBad n xo) fun r_1 xo_2 =>
  some (r_1, xo_2, h0, ps0)
noncomputable def f_X11_member (n : Nat) (xo : MV) (h0 : MV) (ps0 : MV) (v1 : Int32) (v2 : Int32) : Option (Int32 × MV × MV × MV) :=
  bd (f_X11_within n v1 0 5) fun r_3 =>
  bc (r_3 = 0) (f_X11_member_j16 n xo h0 ps0)
  (bd (f_X11_isPlace n v2) fun r_5 =>
  bc (r_5 = 0) (f_X11_member_j16 n xo h0 ps0)
  (bc ((h0.1 0) < 5) (bd (f_X4_makeEmpty n ps0) fun ps0_8 =>
  bd2 (f_X1_addMember n h0 v1 v2) fun r_9 h0_10 =>
  some (r_9, xo, h0_10, ps0_8))
  (bd2 (f_X11_refuseFull n xo) fun r_11 xo_12 =>
  some (r_11, xo_12, h0, ps0))))
set_option maxHeartbeats 4000000 in
set_option maxRecDepth 100000 in
theorem c_X11_member (l : Launch) (G : va_G) (ct : Nat → ClassId) (sk sv : Nat → Nat) (g : Nat → Nat) (n : Nat) (xo : MV) (h0 : MV) (ps0 : MV) (v1 : Int32) (v2 : Int32) {r : Int32} {xo' : MV} {h0' : MV} {ps0' : MV} (hf : f_X11_member n xo h0 ps0 v1 v2 = some (r, xo', h0', ps0')) : Ctr (l, G, ct, sk, sv) mX11_member 2 42 [.ref (g 7), .int v1, .int v2] (wl [lfX ct g xo, lfH ct (hsA g 0) g h0, lfP ct (fun j => (hsA g 0) (16 + j)) ps0]) (wl [lfX ct g xo', lfH ct (hsA g 0) g h0', lfP ct (fun j => (hsA g 0) (16 + j)) ps0']) (some (.int r)) := by
  refine ctr_intro (by decide) (Nat.le_of_ble_eq_true rfl) ?_
  intro p e s m args below meth c A C hP hD hS hA ls hl
  obtain ⟨hx, hb, hml, hown, hts, hr, hlocks, hK, hnm, hZ⟩ := C
  have hb : c.code = cX11_member := hb
  have hml : c.maxLocals = 3 := hml
  have hown : s.vm.findClass "SignedOutside" = some m.cls := hown
  have hr : meth.sig.returnType = some .int := hr
  have hP : va_P G classes (wl [lfX ct g xo, lfH ct (hsA g 0) g h0, lfP ct (fun j => (hsA g 0) (16 + j)) ps0]) s.heap := hP
  have hD : va_D A (wl [lfX ct g xo, lfH ct (hsA g 0) g h0, lfP ct (fun j => (hsA g 0) (16 + j)) ps0]) := hD
  have hK : va_K G classes (TYS ct) s := hK
  have hl : lv_has ls 3 [(0, .ref (g 7)), (1, .int v1), (2, .int v2)] := hl
  have J16 : ∀ (xo : MV) (h0 : MV) (ps0 : MV) (H : Heap) (locs : List Loc) (ls : Array Slot), va_P G classes (wl [lfX ct g xo, lfH ct (hsA g 0) g h0, lfP ct (fun j => (hsA g 0) (16 + j)) ps0]) H → va_D A (wl [lfX ct g xo, lfH ct (hsA g 0) g h0, lfP ct (fun j => (hsA g 0) (16 + j)) ps0]) → va_S A s.heap H locs → lv_has ls 3 [(0, .ref (g 7))] → f_X11_member_j16 n xo h0 ps0 = some (r, xo', h0', ps0') → WG l G ct sk sv p e (RM 2 42 0 0) s m args below meth c A (Eq2 (some (.int r)) (wl [lfX ct g xo', lfH ct (hsA g 0) g h0', lfP ct (fun j => (hsA g 0) (16 + j)) ps0'])) H locs (F0 m 16 ls []) := by
    intro xo h0 ps0 H locs ls hP hD hS hl hf
    unfold f_X11_member_j16 at hf
    refine lv_aload_n hx hb dX11_member_16 rfl (lv_at hl 0 rfl) ?_
    obtain ⟨r_1, xo_2, hc2, hf⟩ := bd2_e hf
    refine call_V (As := []) (rest := []) hx hb hml hown hts hK hP hD hS hA hZ lkX11_83 (Ctr.upL (c_X11_refuseBad l G ct sk sv g n xo hc2) [lfH ct (hsA g 0) g h0, lfP ct (fun j => (hsA g 0) (16 + j)) ps0] [lfX ct g xo, lfH ct (hsA g 0) g h0, lfP ct (fun j => (hsA g 0) (16 + j)) ps0] [lfX ct g xo_2, lfH ct (hsA g 0) g h0, lfP ct (fun j => (hsA g 0) (16 + j)) ps0] [0, 1, 2] 3 (by decide) rfl rfl rfl rfl) 0 rfl rfl ⟨Nat.le_of_ble_eq_true rfl, Nat.le_of_ble_eq_true rfl⟩ rfl hl.1 rfl (Nat.le_of_ble_eq_true rfl) dX11_member_17 ⟨Nat.le_of_ble_eq_true rfl, Nat.le_of_ble_eq_true rfl⟩ (fun r9 w9 H locs hB hP hD hS => ?_)
    obtain ⟨rfl, rfl⟩ := hB
    refine WG_eq (g2 := F0 m 20 ls [.int r_1]) rfl ?_
    obtain ⟨e1, e2, e3, e4⟩ := inj4 (Option.some.inj hf)
    exact end_i (w' := (wl [lfX ct g xo_2, lfH ct (hsA g 0) g h0, lfP ct (fun j => (hsA g 0) (16 + j)) ps0])) hx hb hr hlocks hK hP hD hS dX11_member_20  ⟨by rw [← e1], by rw [← e2, ← e3, ← e4]⟩
  unfold f_X11_member at hf
  show WG l G ct sk sv p e (RM 2 42 0 0) s m args below meth c A (Eq2 (some (.int r)) (wl [lfX ct g xo', lfH ct (hsA g 0) g h0', lfP ct (fun j => (hsA g 0) (16 + j)) ps0'])) s.heap [] (F0 m 0 ls [])
  refine lv_iload_n hx hb dX11_member_0 rfl (lv_at hl 1 rfl) ?_
  refine lv_iconst (v := 0) hx hb dX11_member_1 (by decide) ?_
  refine lv_iconst (v := 5) hx hb dX11_member_2 (by decide) ?_
  obtain ⟨r_3, hc3, hf⟩ := bd_e hf
  refine call_S (As := [.int v1, .int 0, .int 5]) (rest := []) hx hb hml hown hts hK hP hD hS hA hZ lkX11_75 (Ctr.upL (c_X11_within l G ct sk sv  n v1 0 5 hc3) [lfX ct g xo, lfH ct (hsA g 0) g h0, lfP ct (fun j => (hsA g 0) (16 + j)) ps0] [lfX ct g xo, lfH ct (hsA g 0) g h0, lfP ct (fun j => (hsA g 0) (16 + j)) ps0] [lfX ct g xo, lfH ct (hsA g 0) g h0, lfP ct (fun j => (hsA g 0) (16 + j)) ps0] [0, 1, 2] 3 (by decide) rfl rfl rfl rfl) ⟨Nat.le_of_ble_eq_true rfl, Nat.le_of_ble_eq_true rfl⟩ rfl hl.1 rfl (Nat.le_of_ble_eq_true rfl) dX11_member_3 ⟨Nat.le_of_ble_eq_true rfl, Nat.le_of_ble_eq_true rfl⟩ (fun r9 w9 H locs hB hP hD hS => ?_)
  obtain ⟨rfl, rfl⟩ := hB
  refine WG_eq (g2 := F0 m 6 ls [.int r_3]) rfl ?_
  refine lv_if_eq (tgt := 16) hx hb dX11_member_6 (by decide) (fun c_4 => ?_) (fun c_4 => ?_)
  · replace hf := bc_t hf c_4
    exact J16 xo h0 ps0 _ _ _ hP hD hS (lv_sub hl [0] rfl) hf
  · replace hf := bc_f hf c_4
    refine lv_iload_n hx hb dX11_member_9 rfl (lv_at hl 2 rfl) ?_
    obtain ⟨r_5, hc5, hf⟩ := bd_e hf
    refine call_S (As := [.int v2]) (rest := []) hx hb hml hown hts hK hP hD hS hA hZ lkX11_79 (Ctr.upL (c_X11_isPlace l G ct sk sv  n v2 hc5) [lfX ct g xo, lfH ct (hsA g 0) g h0, lfP ct (fun j => (hsA g 0) (16 + j)) ps0] [lfX ct g xo, lfH ct (hsA g 0) g h0, lfP ct (fun j => (hsA g 0) (16 + j)) ps0] [lfX ct g xo, lfH ct (hsA g 0) g h0, lfP ct (fun j => (hsA g 0) (16 + j)) ps0] [0, 1, 2] 3 (by decide) rfl rfl rfl rfl) ⟨Nat.le_of_ble_eq_true rfl, Nat.le_of_ble_eq_true rfl⟩ rfl hl.1 rfl (Nat.le_of_ble_eq_true rfl) dX11_member_10 ⟨Nat.le_of_ble_eq_true rfl, Nat.le_of_ble_eq_true rfl⟩ (fun r9 w9 H locs hB hP hD hS => ?_)
    obtain ⟨rfl, rfl⟩ := hB
    refine WG_eq (g2 := F0 m 13 ls [.int r_5]) rfl ?_
    refine lv_if_ne (tgt := 21) hx hb dX11_member_13 (by decide) (fun c_6 => ?_) (fun c_6 => ?_)
    · replace hf := bc_f hf c_6
      refine lv_aload_n hx hb dX11_member_21 rfl (lv_at hl 0 rfl) ?_
      refine va_get (D := G) (C := RX11) (T := TX11) (N := 11) (v := .ref ((hsA g 0) 0)) hx hb hts iu_X11 hown hK hP 0 rfl rfl 0 (by decide) (hts _ kw262) (fun _ h9 => h9) rfl dX11_member_22 ?_
      refine va_get (D := G) (C := RX1) (T := TX1) (N := 16) (v := .int (h0.1 0)) hx hb hts iu_X1 hown hK hP 3 rfl rfl 1 (by decide) (hts _ kw124) (fun _ h9 => h9) rfl dX11_member_25 ?_
      refine lv_iconst (v := 5) hx hb dX11_member_28 (by decide) ?_
      refine lv_icmp_lt (tgt := 37) hx hb dX11_member_29 (by decide) (fun c_7 => ?_) (fun c_7 => ?_)
      · replace hf := bc_t hf c_7
        refine lv_aload_n hx hb dX11_member_37 rfl (lv_at hl 0 rfl) ?_
        refine va_get (D := G) (C := RX11) (T := TX11) (N := 11) (v := .ref ((hsA g 0) 0)) hx hb hts iu_X11 hown hK hP 0 rfl rfl 0 (by decide) (hts _ kw262) (fun _ h9 => h9) rfl dX11_member_38 ?_
        refine va_get (D := G) (C := RX1) (T := TX1) (N := 16) (v := .ref ((hsA g 0) 16)) hx hb hts iu_X1 hown hK hP 3 rfl rfl 15 (by decide) (hts _ kw162) (fun _ h9 => h9) rfl dX11_member_41 ?_
        obtain ⟨ps0_8, hc8, hf⟩ := bd_e hf
        refine call_V (As := []) (rest := []) hx hb hml hown hts hK hP hD hS hA hZ lkX11_94 (Ctr.upL (c_X4_makeEmpty l G ct sk sv (fun j => (hsA g 0) (16 + j)) n ps0 hc8) [lfX ct g xo, lfH ct (hsA g 0) g h0] [lfX ct g xo, lfH ct (hsA g 0) g h0, lfP ct (fun j => (hsA g 0) (16 + j)) ps0] [lfX ct g xo, lfH ct (hsA g 0) g h0, lfP ct (fun j => (hsA g 0) (16 + j)) ps0_8] [2, 0, 1] 3 (by decide) rfl rfl rfl rfl) 11 rfl rfl ⟨Nat.le_of_ble_eq_true rfl, Nat.le_of_ble_eq_true rfl⟩ rfl hl.1 rfl (Nat.le_of_ble_eq_true rfl) dX11_member_44 ⟨Nat.le_of_ble_eq_true rfl, Nat.le_of_ble_eq_true rfl⟩ (fun r9 w9 H locs hB hP hD hS => ?_)
        obtain ⟨rfl, rfl⟩ := hB
        refine WG_eq (g2 := F0 m 47 ls []) rfl ?_
        refine lv_aload_n hx hb dX11_member_47 rfl (lv_at hl 0 rfl) ?_
        refine va_get (D := G) (C := RX11) (T := TX11) (N := 11) (v := .ref ((hsA g 0) 0)) hx hb hts iu_X11 hown hK hP 0 rfl rfl 0 (by decide) (hts _ kw262) (fun _ h9 => h9) rfl dX11_member_48 ?_
        refine lv_iload_n hx hb dX11_member_51 rfl (lv_at hl 1 rfl) ?_
        refine lv_iload_n hx hb dX11_member_52 rfl (lv_at hl 2 rfl) ?_
        obtain ⟨r_9, h0_10, hc10, hf⟩ := bd2_e hf
        refine call_V (As := [.int v1, .int v2]) (rest := []) hx hb hml hown hts hK hP hD hS hA hZ lkX11_97 (Ctr.upL (c_X1_addMember l G ct sk sv (hsA g 0) g n h0 v1 v2 hc10) [lfX ct g xo, lfP ct (fun j => (hsA g 0) (16 + j)) ps0_8] [lfX ct g xo, lfH ct (hsA g 0) g h0, lfP ct (fun j => (hsA g 0) (16 + j)) ps0_8] [lfX ct g xo, lfH ct (hsA g 0) g h0_10, lfP ct (fun j => (hsA g 0) (16 + j)) ps0_8] [1, 0, 2] 3 (by decide) rfl rfl rfl rfl) 3 rfl rfl ⟨Nat.le_of_ble_eq_true rfl, Nat.le_of_ble_eq_true rfl⟩ rfl hl.1 rfl (Nat.le_of_ble_eq_true rfl) dX11_member_53 ⟨Nat.le_of_ble_eq_true rfl, Nat.le_of_ble_eq_true rfl⟩ (fun r9 w9 H locs hB hP hD hS => ?_)
        obtain ⟨rfl, rfl⟩ := hB
        refine WG_eq (g2 := F0 m 56 ls [.int r_9]) rfl ?_
        obtain ⟨e1, e2, e3, e4⟩ := inj4 (Option.some.inj hf)
        exact end_i (w' := (wl [lfX ct g xo, lfH ct (hsA g 0) g h0_10, lfP ct (fun j => (hsA g 0) (16 + j)) ps0_8])) hx hb hr hlocks hK hP hD hS dX11_member_56  ⟨by rw [← e1], by rw [← e2, ← e3, ← e4]⟩
      · replace hf := bc_f hf c_7
        refine lv_aload_n hx hb dX11_member_32 rfl (lv_at hl 0 rfl) ?_
        obtain ⟨r_11, xo_12, hc12, hf⟩ := bd2_e hf
        refine call_V (As := []) (rest := []) hx hb hml hown hts hK hP hD hS hA hZ lkX11_87 (Ctr.upL (c_X11_refuseFull l G ct sk sv g n xo hc12) [lfH ct (hsA g 0) g h0, lfP ct (fun j => (hsA g 0) (16 + j)) ps0] [lfX ct g xo, lfH ct (hsA g 0) g h0, lfP ct (fun j => (hsA g 0) (16 + j)) ps0] [lfX ct g xo_12, lfH ct (hsA g 0) g h0, lfP ct (fun j => (hsA g 0) (16 + j)) ps0] [0, 1, 2] 3 (by decide) rfl rfl rfl rfl) 0 rfl rfl ⟨Nat.le_of_ble_eq_true rfl, Nat.le_of_ble_eq_true rfl⟩ rfl hl.1 rfl (Nat.le_of_ble_eq_true rfl) dX11_member_33 ⟨Nat.le_of_ble_eq_true rfl, Nat.le_of_ble_eq_true rfl⟩ (fun r9 w9 H locs hB hP hD hS => ?_)
        obtain ⟨rfl, rfl⟩ := hB
        refine WG_eq (g2 := F0 m 36 ls [.int r_11]) rfl ?_
        obtain ⟨e1, e2, e3, e4⟩ := inj4 (Option.some.inj hf)
        exact end_i (w' := (wl [lfX ct g xo_12, lfH ct (hsA g 0) g h0, lfP ct (fun j => (hsA g 0) (16 + j)) ps0])) hx hb hr hlocks hK hP hD hS dX11_member_36  ⟨by rw [← e1], by rw [← e2, ← e3, ← e4]⟩
    · replace hf := bc_t hf c_6
      exact J16 xo h0 ps0 _ _ _ hP hD hS (lv_sub hl [0] rfl) hf
noncomputable def f_X11_moves_j15 (n : Nat) (xo : MV) (h0 : MV) (ps0 : MV) : Option (Int32 × MV × MV × MV) :=
  bd2 (f_X11_refuseBad n xo) fun r_1 xo_2 =>
  some (r_1, xo_2, h0, ps0)
noncomputable def f_X11_moves (n : Nat) (xo : MV) (h0 : MV) (ps0 : MV) (v1 : Int32) (v2 : Int32) : Option (Int32 × MV × MV × MV) :=
  bd (f_X11_isMember n xo h0 v1) fun r_3 =>
  bc (r_3 = 0) (f_X11_moves_j15 n xo h0 ps0)
  (bd (f_X11_isPlace n v2) fun r_5 =>
  bc (r_5 = 0) (f_X11_moves_j15 n xo h0 ps0)
  (bd (f_X4_keep n h0 ps0) fun ps0_7 =>
  gd (vp_in v1 5) <|
  bl (h0.2.1 1 (ix v1)) fun v3_9 =>
  gd (vp_in v1 5) <|
  bl (setA h0 1 (upd (h0.2.1 1) (ix v1) v2)) fun h0_11 =>
  some (v3_9, xo, h0_11, ps0_7)))
set_option maxHeartbeats 4000000 in
set_option maxRecDepth 100000 in
theorem c_X11_moves (l : Launch) (G : va_G) (ct : Nat → ClassId) (sk sv : Nat → Nat) (g : Nat → Nat) (n : Nat) (xo : MV) (h0 : MV) (ps0 : MV) (v1 : Int32) (v2 : Int32) {r : Int32} {xo' : MV} {h0' : MV} {ps0' : MV} (hf : f_X11_moves n xo h0 ps0 v1 v2 = some (r, xo', h0', ps0')) : Ctr (l, G, ct, sk, sv) mX11_moves 2 87 [.ref (g 7), .int v1, .int v2] (wl [lfX ct g xo, lfH ct (hsA g 0) g h0, lfP ct (fun j => (hsA g 0) (16 + j)) ps0]) (wl [lfX ct g xo', lfH ct (hsA g 0) g h0', lfP ct (fun j => (hsA g 0) (16 + j)) ps0']) (some (.int r)) := by
  refine ctr_intro (by decide) (Nat.le_of_ble_eq_true rfl) ?_
  intro p e s m args below meth c A C hP hD hS hA ls hl
  obtain ⟨hx, hb, hml, hown, hts, hr, hlocks, hK, hnm, hZ⟩ := C
  have hb : c.code = cX11_moves := hb
  have hml : c.maxLocals = 4 := hml
  have hown : s.vm.findClass "SignedOutside" = some m.cls := hown
  have hr : meth.sig.returnType = some .int := hr
  have hP : va_P G classes (wl [lfX ct g xo, lfH ct (hsA g 0) g h0, lfP ct (fun j => (hsA g 0) (16 + j)) ps0]) s.heap := hP
  have hD : va_D A (wl [lfX ct g xo, lfH ct (hsA g 0) g h0, lfP ct (fun j => (hsA g 0) (16 + j)) ps0]) := hD
  have hK : va_K G classes (TYS ct) s := hK
  have hl : lv_has ls 4 [(0, .ref (g 7)), (1, .int v1), (2, .int v2)] := hl
  have J15 : ∀ (xo : MV) (h0 : MV) (ps0 : MV) (H : Heap) (locs : List Loc) (ls : Array Slot), va_P G classes (wl [lfX ct g xo, lfH ct (hsA g 0) g h0, lfP ct (fun j => (hsA g 0) (16 + j)) ps0]) H → va_D A (wl [lfX ct g xo, lfH ct (hsA g 0) g h0, lfP ct (fun j => (hsA g 0) (16 + j)) ps0]) → va_S A s.heap H locs → lv_has ls 4 [(0, .ref (g 7))] → f_X11_moves_j15 n xo h0 ps0 = some (r, xo', h0', ps0') → WG l G ct sk sv p e (RM 2 87 0 0) s m args below meth c A (Eq2 (some (.int r)) (wl [lfX ct g xo', lfH ct (hsA g 0) g h0', lfP ct (fun j => (hsA g 0) (16 + j)) ps0'])) H locs (F0 m 15 ls []) := by
    intro xo h0 ps0 H locs ls hP hD hS hl hf
    unfold f_X11_moves_j15 at hf
    refine lv_aload_n hx hb dX11_moves_15 rfl (lv_at hl 0 rfl) ?_
    obtain ⟨r_1, xo_2, hc2, hf⟩ := bd2_e hf
    refine call_V (As := []) (rest := []) hx hb hml hown hts hK hP hD hS hA hZ lkX11_83 (Ctr.upL (c_X11_refuseBad l G ct sk sv g n xo hc2) [lfH ct (hsA g 0) g h0, lfP ct (fun j => (hsA g 0) (16 + j)) ps0] [lfX ct g xo, lfH ct (hsA g 0) g h0, lfP ct (fun j => (hsA g 0) (16 + j)) ps0] [lfX ct g xo_2, lfH ct (hsA g 0) g h0, lfP ct (fun j => (hsA g 0) (16 + j)) ps0] [0, 1, 2] 3 (by decide) rfl rfl rfl rfl) 0 rfl rfl ⟨Nat.le_of_ble_eq_true rfl, Nat.le_of_ble_eq_true rfl⟩ rfl hl.1 rfl (Nat.le_of_ble_eq_true rfl) dX11_moves_16 ⟨Nat.le_of_ble_eq_true rfl, Nat.le_of_ble_eq_true rfl⟩ (fun r9 w9 H locs hB hP hD hS => ?_)
    obtain ⟨rfl, rfl⟩ := hB
    refine WG_eq (g2 := F0 m 19 ls [.int r_1]) rfl ?_
    obtain ⟨e1, e2, e3, e4⟩ := inj4 (Option.some.inj hf)
    exact end_i (w' := (wl [lfX ct g xo_2, lfH ct (hsA g 0) g h0, lfP ct (fun j => (hsA g 0) (16 + j)) ps0])) hx hb hr hlocks hK hP hD hS dX11_moves_19  ⟨by rw [← e1], by rw [← e2, ← e3, ← e4]⟩
  unfold f_X11_moves at hf
  show WG l G ct sk sv p e (RM 2 87 0 0) s m args below meth c A (Eq2 (some (.int r)) (wl [lfX ct g xo', lfH ct (hsA g 0) g h0', lfP ct (fun j => (hsA g 0) (16 + j)) ps0'])) s.heap [] (F0 m 0 ls [])
  refine lv_aload_n hx hb dX11_moves_0 rfl (lv_at hl 0 rfl) ?_
  refine lv_iload_n hx hb dX11_moves_1 rfl (lv_at hl 1 rfl) ?_
  obtain ⟨r_3, hc3, hf⟩ := bd_e hf
  refine call_V (As := [.int v1]) (rest := []) hx hb hml hown hts hK hP hD hS hA hZ lkX11_128 (Ctr.upL (c_X11_isMember l G ct sk sv g n xo h0 v1 hc3) [lfP ct (fun j => (hsA g 0) (16 + j)) ps0] [lfX ct g xo, lfH ct (hsA g 0) g h0, lfP ct (fun j => (hsA g 0) (16 + j)) ps0] [lfX ct g xo, lfH ct (hsA g 0) g h0, lfP ct (fun j => (hsA g 0) (16 + j)) ps0] [0, 1, 2] 3 (by decide) rfl rfl rfl rfl) 0 rfl rfl ⟨Nat.le_of_ble_eq_true rfl, Nat.le_of_ble_eq_true rfl⟩ rfl hl.1 rfl (Nat.le_of_ble_eq_true rfl) dX11_moves_2 ⟨Nat.le_of_ble_eq_true rfl, Nat.le_of_ble_eq_true rfl⟩ (fun r9 w9 H locs hB hP hD hS => ?_)
  obtain ⟨rfl, rfl⟩ := hB
  refine WG_eq (g2 := F0 m 5 ls [.int r_3]) rfl ?_
  refine lv_if_eq (tgt := 15) hx hb dX11_moves_5 (by decide) (fun c_4 => ?_) (fun c_4 => ?_)
  · replace hf := bc_t hf c_4
    exact J15 xo h0 ps0 _ _ _ hP hD hS (lv_sub hl [0] rfl) hf
  · replace hf := bc_f hf c_4
    refine lv_iload_n hx hb dX11_moves_8 rfl (lv_at hl 2 rfl) ?_
    obtain ⟨r_5, hc5, hf⟩ := bd_e hf
    refine call_S (As := [.int v2]) (rest := []) hx hb hml hown hts hK hP hD hS hA hZ lkX11_79 (Ctr.upL (c_X11_isPlace l G ct sk sv  n v2 hc5) [lfX ct g xo, lfH ct (hsA g 0) g h0, lfP ct (fun j => (hsA g 0) (16 + j)) ps0] [lfX ct g xo, lfH ct (hsA g 0) g h0, lfP ct (fun j => (hsA g 0) (16 + j)) ps0] [lfX ct g xo, lfH ct (hsA g 0) g h0, lfP ct (fun j => (hsA g 0) (16 + j)) ps0] [0, 1, 2] 3 (by decide) rfl rfl rfl rfl) ⟨Nat.le_of_ble_eq_true rfl, Nat.le_of_ble_eq_true rfl⟩ rfl hl.1 rfl (Nat.le_of_ble_eq_true rfl) dX11_moves_9 ⟨Nat.le_of_ble_eq_true rfl, Nat.le_of_ble_eq_true rfl⟩ (fun r9 w9 H locs hB hP hD hS => ?_)
    obtain ⟨rfl, rfl⟩ := hB
    refine WG_eq (g2 := F0 m 12 ls [.int r_5]) rfl ?_
    refine lv_if_ne (tgt := 20) hx hb dX11_moves_12 (by decide) (fun c_6 => ?_) (fun c_6 => ?_)
    · replace hf := bc_f hf c_6
      refine lv_aload_n hx hb dX11_moves_20 rfl (lv_at hl 0 rfl) ?_
      refine va_get (D := G) (C := RX11) (T := TX11) (N := 11) (v := .ref ((hsA g 0) 0)) hx hb hts iu_X11 hown hK hP 0 rfl rfl 0 (by decide) (hts _ kw262) (fun _ h9 => h9) rfl dX11_moves_21 ?_
      refine va_get (D := G) (C := RX1) (T := TX1) (N := 16) (v := .ref ((hsA g 0) 16)) hx hb hts iu_X1 hown hK hP 3 rfl rfl 15 (by decide) (hts _ kw162) (fun _ h9 => h9) rfl dX11_moves_24 ?_
      refine lv_aload_n hx hb dX11_moves_27 rfl (lv_at hl 0 rfl) ?_
      refine va_get (D := G) (C := RX11) (T := TX11) (N := 11) (v := .ref ((hsA g 0) 0)) hx hb hts iu_X11 hown hK hP 0 rfl rfl 0 (by decide) (hts _ kw262) (fun _ h9 => h9) rfl dX11_moves_28 ?_
      obtain ⟨ps0_7, hc7, hf⟩ := bd_e hf
      refine call_V (As := [.ref ((hsA g 0) 0)]) (rest := []) hx hb hml hown hts hK hP hD hS hA hZ lkX11_138 (Ctr.upL (c_X4_keep l G ct sk sv (hsA g 0) g n h0 ps0 hc7) [lfX ct g xo] [lfX ct g xo, lfH ct (hsA g 0) g h0, lfP ct (fun j => (hsA g 0) (16 + j)) ps0] [lfX ct g xo, lfH ct (hsA g 0) g h0, lfP ct (fun j => (hsA g 0) (16 + j)) ps0_7] [1, 2, 0] 3 (by decide) rfl rfl rfl rfl) 11 rfl rfl ⟨Nat.le_of_ble_eq_true rfl, Nat.le_of_ble_eq_true rfl⟩ rfl hl.1 rfl (Nat.le_of_ble_eq_true rfl) dX11_moves_31 ⟨Nat.le_of_ble_eq_true rfl, Nat.le_of_ble_eq_true rfl⟩ (fun r9 w9 H locs hB hP hD hS => ?_)
      obtain ⟨rfl, rfl⟩ := hB
      refine WG_eq (g2 := F0 m 34 ls []) rfl ?_
      refine lv_aload_n hx hb dX11_moves_34 rfl (lv_at hl 0 rfl) ?_
      refine va_get (D := G) (C := RX11) (T := TX11) (N := 11) (v := .ref ((hsA g 0) 0)) hx hb hts iu_X11 hown hK hP 0 rfl rfl 0 (by decide) (hts _ kw262) (fun _ h9 => h9) rfl dX11_moves_35 ?_
      refine va_get (D := G) (C := RX1) (T := TX1) (N := 16) (v := .ref ((hsA g 0) 2)) hx hb hts iu_X1 hown hK hP 3 rfl rfl 3 (by decide) (hts _ kw131) (fun _ h9 => h9) rfl dX11_moves_38 ?_
      refine lv_iload_n hx hb dX11_moves_41 rfl (lv_at hl 1 rfl) ?_
      obtain ⟨g_8, hf⟩ := gd_e hf
      refine va_iald (f := h0.2.1 1) hx hb hK hP 5 0 rfl rfl g_8 dX11_moves_42 ?_
      refine lv_topi (fun v3_9 ev3_9 => ?_)
      replace hf := bl_i hf ev3_9
      refine lv_istore_n (lv' := [(3, .int v3_9), (0, .ref (g 7)), (1, .int v1), (2, .int v2)]) hx hb dX11_moves_43 rfl hl (by decide) rfl (fun ls hl => ?_)
      refine lv_aload_n hx hb dX11_moves_44 rfl (lv_at hl 1 rfl) ?_
      refine va_get (D := G) (C := RX11) (T := TX11) (N := 11) (v := .ref ((hsA g 0) 0)) hx hb hts iu_X11 hown hK hP 0 rfl rfl 0 (by decide) (hts _ kw262) (fun _ h9 => h9) rfl dX11_moves_45 ?_
      refine va_get (D := G) (C := RX1) (T := TX1) (N := 16) (v := .ref ((hsA g 0) 2)) hx hb hts iu_X1 hown hK hP 3 rfl rfl 3 (by decide) (hts _ kw131) (fun _ h9 => h9) rfl dX11_moves_48 ?_
      refine lv_iload_n hx hb dX11_moves_51 rfl (lv_at hl 2 rfl) ?_
      refine lv_iload_n hx hb dX11_moves_52 rfl (lv_at hl 3 rfl) ?_
      obtain ⟨g_10, hf⟩ := gd_e hf
      obtain ⟨h0_11, eh0_11, hf⟩ := bl_e hf
      refine va_iast hx hb hK hP hD hS 5 0 rfl rfl g_10 dX11_moves_53 (fun H locs hP hD hS => ?_)
      have hP : va_P G classes (wl [lfX ct g xo, lfH ct (hsA g 0) g h0_11, lfP ct (fun j => (hsA g 0) (16 + j)) ps0_7]) H := by rw [← eh0_11]; exact hP
      have hD : va_D A (wl [lfX ct g xo, lfH ct (hsA g 0) g h0_11, lfP ct (fun j => (hsA g 0) (16 + j)) ps0_7]) := by rw [← eh0_11]; exact hD
      refine lv_iload_n hx hb dX11_moves_54 rfl (lv_at hl 0 rfl) ?_
      obtain ⟨e1, e2, e3, e4⟩ := inj4 (Option.some.inj hf)
      exact end_i (w' := (wl [lfX ct g xo, lfH ct (hsA g 0) g h0_11, lfP ct (fun j => (hsA g 0) (16 + j)) ps0_7])) hx hb hr hlocks hK hP hD hS dX11_moves_55  ⟨by rw [← e1], by rw [← e2, ← e3, ← e4]⟩
    · replace hf := bc_t hf c_6
      exact J15 xo h0 ps0 _ _ _ hP hD hS (lv_sub hl [0] rfl) hf
noncomputable def f_X11_nextX (n : Nat) (v0 : Int64) : Option (Int64) :=
  bl ((v0 * 1103515245) + 12345) fun w_1 =>
  some (w_1 - w_1 / 2147483648 * 2147483648)
set_option maxHeartbeats 4000000 in
set_option maxRecDepth 100000 in
theorem c_X11_nextX (l : Launch) (G : va_G) (ct : Nat → ClassId) (sk sv : Nat → Nat)  (n : Nat) (v0 : Int64) {r : Int64} (hf : f_X11_nextX n v0 = some r) : Ctr (l, G, ct, sk, sv) mX11_nextX 0 0 [.long v0] (wl []) (wl []) (some (.long r)) := by
  refine ctr_intro (by decide) (Nat.le_of_ble_eq_true rfl) ?_
  intro p e s m args below meth c A C hP hD hS hA ls hl
  obtain ⟨hx, hb, hml, hown, hts, hr, hlocks, hK, hnm, hZ⟩ := C
  have hb : c.code = cX11_nextX := hb
  have hml : c.maxLocals = 2 := hml
  have hown : s.vm.findClass "SignedOutside" = some m.cls := hown
  have hr : meth.sig.returnType = some .long := hr
  have hP : va_P G classes (wl []) s.heap := hP
  have hD : va_D A (wl []) := hD
  have hK : va_K G classes (TYS ct) s := hK
  have hl : lv_has ls 2 [(0, .long v0)] := hl
  unfold f_X11_nextX at hf
  show WG l G ct sk sv p e (RM 0 0 0 0) s m args below meth c A (Eq2 (some (.long r)) (wl [])) s.heap [] (F0 m 0 ls [])
  refine lv_lload_n hx hb dX11_nextX_0 rfl (lv_at hl 0 rfl) ?_
  refine lv_ldc2 (v := 1103515245) hx hb hown (hts _ kw830) dX11_nextX_1 ?_
  refine lv_lmul hx hb dX11_nextX_4 ?_
  refine lv_ldc2 (v := 12345) hx hb hown (hts _ kw831) dX11_nextX_5 ?_
  refine lv_ladd hx hb dX11_nextX_8 ?_
  refine lv_ldc2 (v := 2147483648) hx hb hown (hts _ kw832) dX11_nextX_9 ?_
  obtain ⟨w_1, ew_1, hf⟩ := bl_e hf
  refine W.eq (g2 := F0 m 12 ls ([.long 2147483648, .long w_1])) (by rw [← ew_1]) ?_
  refine lv_lrem hx hb dX11_nextX_12 (by decide) ?_
  have e1 := Option.some.inj hf
  exact end_l (w' := (wl [])) hx hb hr hlocks hK hP hD hS dX11_nextX_13  ⟨by rw [← e1], rfl⟩
noncomputable def f_X11_note_j25 (n : Nat) (xo : MV) (h0 : MV) (nt0 : MV) : Option (Int32 × MV × MV) :=
  bd2 (f_X11_refuseBad n xo) fun r_1 xo_2 =>
  some (r_1, xo_2, nt0)
noncomputable def f_X11_note (n : Nat) (xo : MV) (h0 : MV) (nt0 : MV) (v1 : Int32) (v2 : Int32) (v3 : Int32) : Option (Int32 × MV × MV) :=
  bd (f_X11_isMember n xo h0 v1) fun r_3 =>
  bc (r_3 = 0) (f_X11_note_j25 n xo h0 nt0)
  (bd (f_X11_isSlipDay n v2) fun r_5 =>
  bc (r_5 = 0) (f_X11_note_j25 n xo h0 nt0)
  (bd (f_X11_within n v3 0 20) fun r_7 =>
  bc (r_7 = 0) (f_X11_note_j25 n xo h0 nt0)
  (bd2 (f_X8_add n nt0 v1 v2 v3) fun r_9 nt0_10 =>
  bc (r_9 = 0) (bd2 (f_X11_refuseFull n xo) fun r_12 xo_13 =>
  some (r_12, xo_13, nt0_10))
  (some (nt0_10.1 0, xo, nt0_10)))))
set_option maxHeartbeats 4000000 in
set_option maxRecDepth 100000 in
theorem c_X11_note (l : Launch) (G : va_G) (ct : Nat → ClassId) (sk sv : Nat → Nat) (g : Nat → Nat) (n : Nat) (xo : MV) (h0 : MV) (nt0 : MV) (v1 : Int32) (v2 : Int32) (v3 : Int32) {r : Int32} {xo' : MV} {nt0' : MV} (hf : f_X11_note n xo h0 nt0 v1 v2 v3 = some (r, xo', nt0')) : Ctr (l, G, ct, sk, sv) mX11_note 2 43 [.ref (g 7), .int v1, .int v2, .int v3] (wl [lfX ct g xo, lfH ct (hsA g 0) g h0, lfS ct (fun j => (hsA g 0) (12 + j)) nt0]) (wl [lfX ct g xo', lfH ct (hsA g 0) g h0, lfS ct (fun j => (hsA g 0) (12 + j)) nt0']) (some (.int r)) := by
  refine ctr_intro (by decide) (Nat.le_of_ble_eq_true rfl) ?_
  intro p e s m args below meth c A C hP hD hS hA ls hl
  obtain ⟨hx, hb, hml, hown, hts, hr, hlocks, hK, hnm, hZ⟩ := C
  have hb : c.code = cX11_note := hb
  have hml : c.maxLocals = 4 := hml
  have hown : s.vm.findClass "SignedOutside" = some m.cls := hown
  have hr : meth.sig.returnType = some .int := hr
  have hP : va_P G classes (wl [lfX ct g xo, lfH ct (hsA g 0) g h0, lfS ct (fun j => (hsA g 0) (12 + j)) nt0]) s.heap := hP
  have hD : va_D A (wl [lfX ct g xo, lfH ct (hsA g 0) g h0, lfS ct (fun j => (hsA g 0) (12 + j)) nt0]) := hD
  have hK : va_K G classes (TYS ct) s := hK
  have hl : lv_has ls 4 [(0, .ref (g 7)), (1, .int v1), (2, .int v2), (3, .int v3)] := hl
  have J25 : ∀ (xo : MV) (nt0 : MV) (H : Heap) (locs : List Loc) (ls : Array Slot), va_P G classes (wl [lfX ct g xo, lfH ct (hsA g 0) g h0, lfS ct (fun j => (hsA g 0) (12 + j)) nt0]) H → va_D A (wl [lfX ct g xo, lfH ct (hsA g 0) g h0, lfS ct (fun j => (hsA g 0) (12 + j)) nt0]) → va_S A s.heap H locs → lv_has ls 4 [(0, .ref (g 7))] → f_X11_note_j25 n xo h0 nt0 = some (r, xo', nt0') → WG l G ct sk sv p e (RM 2 43 0 0) s m args below meth c A (Eq2 (some (.int r)) (wl [lfX ct g xo', lfH ct (hsA g 0) g h0, lfS ct (fun j => (hsA g 0) (12 + j)) nt0'])) H locs (F0 m 25 ls []) := by
    intro xo nt0 H locs ls hP hD hS hl hf
    unfold f_X11_note_j25 at hf
    refine lv_aload_n hx hb dX11_note_25 rfl (lv_at hl 0 rfl) ?_
    obtain ⟨r_1, xo_2, hc2, hf⟩ := bd2_e hf
    refine call_V (As := []) (rest := []) hx hb hml hown hts hK hP hD hS hA hZ lkX11_83 (Ctr.upL (c_X11_refuseBad l G ct sk sv g n xo hc2) [lfH ct (hsA g 0) g h0, lfS ct (fun j => (hsA g 0) (12 + j)) nt0] [lfX ct g xo, lfH ct (hsA g 0) g h0, lfS ct (fun j => (hsA g 0) (12 + j)) nt0] [lfX ct g xo_2, lfH ct (hsA g 0) g h0, lfS ct (fun j => (hsA g 0) (12 + j)) nt0] [0, 1, 2] 3 (by decide) rfl rfl rfl rfl) 0 rfl rfl ⟨Nat.le_of_ble_eq_true rfl, Nat.le_of_ble_eq_true rfl⟩ rfl hl.1 rfl (Nat.le_of_ble_eq_true rfl) dX11_note_26 ⟨Nat.le_of_ble_eq_true rfl, Nat.le_of_ble_eq_true rfl⟩ (fun r9 w9 H locs hB hP hD hS => ?_)
    obtain ⟨rfl, rfl⟩ := hB
    refine WG_eq (g2 := F0 m 29 ls [.int r_1]) rfl ?_
    obtain ⟨e1, e2, e3⟩ := inj3 (Option.some.inj hf)
    exact end_i (w' := (wl [lfX ct g xo_2, lfH ct (hsA g 0) g h0, lfS ct (fun j => (hsA g 0) (12 + j)) nt0])) hx hb hr hlocks hK hP hD hS dX11_note_29  ⟨by rw [← e1], by rw [← e2, ← e3]⟩
  unfold f_X11_note at hf
  show WG l G ct sk sv p e (RM 2 43 0 0) s m args below meth c A (Eq2 (some (.int r)) (wl [lfX ct g xo', lfH ct (hsA g 0) g h0, lfS ct (fun j => (hsA g 0) (12 + j)) nt0'])) s.heap [] (F0 m 0 ls [])
  refine lv_aload_n hx hb dX11_note_0 rfl (lv_at hl 0 rfl) ?_
  refine lv_iload_n hx hb dX11_note_1 rfl (lv_at hl 1 rfl) ?_
  obtain ⟨r_3, hc3, hf⟩ := bd_e hf
  refine call_V (As := [.int v1]) (rest := []) hx hb hml hown hts hK hP hD hS hA hZ lkX11_128 (Ctr.upL (c_X11_isMember l G ct sk sv g n xo h0 v1 hc3) [lfS ct (fun j => (hsA g 0) (12 + j)) nt0] [lfX ct g xo, lfH ct (hsA g 0) g h0, lfS ct (fun j => (hsA g 0) (12 + j)) nt0] [lfX ct g xo, lfH ct (hsA g 0) g h0, lfS ct (fun j => (hsA g 0) (12 + j)) nt0] [0, 1, 2] 3 (by decide) rfl rfl rfl rfl) 0 rfl rfl ⟨Nat.le_of_ble_eq_true rfl, Nat.le_of_ble_eq_true rfl⟩ rfl hl.1 rfl (Nat.le_of_ble_eq_true rfl) dX11_note_2 ⟨Nat.le_of_ble_eq_true rfl, Nat.le_of_ble_eq_true rfl⟩ (fun r9 w9 H locs hB hP hD hS => ?_)
  obtain ⟨rfl, rfl⟩ := hB
  refine WG_eq (g2 := F0 m 5 ls [.int r_3]) rfl ?_
  refine lv_if_eq (tgt := 25) hx hb dX11_note_5 (by decide) (fun c_4 => ?_) (fun c_4 => ?_)
  · replace hf := bc_t hf c_4
    exact J25 xo nt0 _ _ _ hP hD hS (lv_sub hl [0] rfl) hf
  · replace hf := bc_f hf c_4
    refine lv_iload_n hx hb dX11_note_8 rfl (lv_at hl 2 rfl) ?_
    obtain ⟨r_5, hc5, hf⟩ := bd_e hf
    refine call_S (As := [.int v2]) (rest := []) hx hb hml hown hts hK hP hD hS hA hZ lkX11_247 (Ctr.upL (c_X11_isSlipDay l G ct sk sv  n v2 hc5) [lfX ct g xo, lfH ct (hsA g 0) g h0, lfS ct (fun j => (hsA g 0) (12 + j)) nt0] [lfX ct g xo, lfH ct (hsA g 0) g h0, lfS ct (fun j => (hsA g 0) (12 + j)) nt0] [lfX ct g xo, lfH ct (hsA g 0) g h0, lfS ct (fun j => (hsA g 0) (12 + j)) nt0] [0, 1, 2] 3 (by decide) rfl rfl rfl rfl) ⟨Nat.le_of_ble_eq_true rfl, Nat.le_of_ble_eq_true rfl⟩ rfl hl.1 rfl (Nat.le_of_ble_eq_true rfl) dX11_note_9 ⟨Nat.le_of_ble_eq_true rfl, Nat.le_of_ble_eq_true rfl⟩ (fun r9 w9 H locs hB hP hD hS => ?_)
    obtain ⟨rfl, rfl⟩ := hB
    refine WG_eq (g2 := F0 m 12 ls [.int r_5]) rfl ?_
    refine lv_if_eq (tgt := 25) hx hb dX11_note_12 (by decide) (fun c_6 => ?_) (fun c_6 => ?_)
    · replace hf := bc_t hf c_6
      exact J25 xo nt0 _ _ _ hP hD hS (lv_sub hl [0] rfl) hf
    · replace hf := bc_f hf c_6
      refine lv_iload_n hx hb dX11_note_15 rfl (lv_at hl 3 rfl) ?_
      refine lv_iconst (v := 0) hx hb dX11_note_16 (by decide) ?_
      refine lv_bipush (v := 20) hx hb dX11_note_17 (by decide) ?_
      obtain ⟨r_7, hc7, hf⟩ := bd_e hf
      refine call_S (As := [.int v3, .int 0, .int 20]) (rest := []) hx hb hml hown hts hK hP hD hS hA hZ lkX11_75 (Ctr.upL (c_X11_within l G ct sk sv  n v3 0 20 hc7) [lfX ct g xo, lfH ct (hsA g 0) g h0, lfS ct (fun j => (hsA g 0) (12 + j)) nt0] [lfX ct g xo, lfH ct (hsA g 0) g h0, lfS ct (fun j => (hsA g 0) (12 + j)) nt0] [lfX ct g xo, lfH ct (hsA g 0) g h0, lfS ct (fun j => (hsA g 0) (12 + j)) nt0] [0, 1, 2] 3 (by decide) rfl rfl rfl rfl) ⟨Nat.le_of_ble_eq_true rfl, Nat.le_of_ble_eq_true rfl⟩ rfl hl.1 rfl (Nat.le_of_ble_eq_true rfl) dX11_note_19 ⟨Nat.le_of_ble_eq_true rfl, Nat.le_of_ble_eq_true rfl⟩ (fun r9 w9 H locs hB hP hD hS => ?_)
      obtain ⟨rfl, rfl⟩ := hB
      refine WG_eq (g2 := F0 m 22 ls [.int r_7]) rfl ?_
      refine lv_if_ne (tgt := 30) hx hb dX11_note_22 (by decide) (fun c_8 => ?_) (fun c_8 => ?_)
      · replace hf := bc_f hf c_8
        refine lv_aload_n hx hb dX11_note_30 rfl (lv_at hl 0 rfl) ?_
        refine va_get (D := G) (C := RX11) (T := TX11) (N := 11) (v := .ref ((hsA g 0) 0)) hx hb hts iu_X11 hown hK hP 0 rfl rfl 0 (by decide) (hts _ kw262) (fun _ h9 => h9) rfl dX11_note_31 ?_
        refine va_get (D := G) (C := RX1) (T := TX1) (N := 16) (v := .ref ((hsA g 0) 12)) hx hb hts iu_X1 hown hK hP 3 rfl rfl 14 (by decide) (hts _ kw160) (fun _ h9 => h9) rfl dX11_note_34 ?_
        refine lv_iload_n hx hb dX11_note_37 rfl (lv_at hl 1 rfl) ?_
        refine lv_iload_n hx hb dX11_note_38 rfl (lv_at hl 2 rfl) ?_
        refine lv_iload_n hx hb dX11_note_39 rfl (lv_at hl 3 rfl) ?_
        obtain ⟨r_9, nt0_10, hc10, hf⟩ := bd2_e hf
        refine call_V (As := [.int v1, .int v2, .int v3]) (rest := []) hx hb hml hown hts hK hP hD hS hA hZ lkX11_254 (Ctr.upL (c_X8_add l G ct sk sv (fun j => (hsA g 0) (12 + j)) n nt0 v1 v2 v3 hc10) [lfX ct g xo, lfH ct (hsA g 0) g h0] [lfX ct g xo, lfH ct (hsA g 0) g h0, lfS ct (fun j => (hsA g 0) (12 + j)) nt0] [lfX ct g xo, lfH ct (hsA g 0) g h0, lfS ct (fun j => (hsA g 0) (12 + j)) nt0_10] [2, 0, 1] 3 (by decide) rfl rfl rfl rfl) 11 rfl rfl ⟨Nat.le_of_ble_eq_true rfl, Nat.le_of_ble_eq_true rfl⟩ rfl hl.1 rfl (Nat.le_of_ble_eq_true rfl) dX11_note_40 ⟨Nat.le_of_ble_eq_true rfl, Nat.le_of_ble_eq_true rfl⟩ (fun r9 w9 H locs hB hP hD hS => ?_)
        obtain ⟨rfl, rfl⟩ := hB
        refine WG_eq (g2 := F0 m 43 ls [.int r_9]) rfl ?_
        refine lv_if_ne (tgt := 51) hx hb dX11_note_43 (by decide) (fun c_11 => ?_) (fun c_11 => ?_)
        · replace hf := bc_f hf c_11
          refine lv_aload_n hx hb dX11_note_51 rfl (lv_at hl 0 rfl) ?_
          refine va_get (D := G) (C := RX11) (T := TX11) (N := 11) (v := .ref ((hsA g 0) 0)) hx hb hts iu_X11 hown hK hP 0 rfl rfl 0 (by decide) (hts _ kw262) (fun _ h9 => h9) rfl dX11_note_52 ?_
          refine va_get (D := G) (C := RX1) (T := TX1) (N := 16) (v := .ref ((hsA g 0) 12)) hx hb hts iu_X1 hown hK hP 3 rfl rfl 14 (by decide) (hts _ kw160) (fun _ h9 => h9) rfl dX11_note_55 ?_
          refine va_get (D := G) (C := RX8) (T := TX8) (N := 4) (v := .int (nt0_10.1 0)) hx hb hts iu_X8 hown hK hP 11 rfl rfl 0 (by decide) (hts _ kw87) (fun _ h9 => h9) rfl dX11_note_58 ?_
          obtain ⟨e1, e2, e3⟩ := inj3 (Option.some.inj hf)
          exact end_i (w' := (wl [lfX ct g xo, lfH ct (hsA g 0) g h0, lfS ct (fun j => (hsA g 0) (12 + j)) nt0_10])) hx hb hr hlocks hK hP hD hS dX11_note_61  ⟨by rw [← e1], by rw [← e2, ← e3]⟩
        · replace hf := bc_t hf c_11
          refine lv_aload_n hx hb dX11_note_46 rfl (lv_at hl 0 rfl) ?_
          obtain ⟨r_12, xo_13, hc13, hf⟩ := bd2_e hf
          refine call_V (As := []) (rest := []) hx hb hml hown hts hK hP hD hS hA hZ lkX11_87 (Ctr.upL (c_X11_refuseFull l G ct sk sv g n xo hc13) [lfH ct (hsA g 0) g h0, lfS ct (fun j => (hsA g 0) (12 + j)) nt0_10] [lfX ct g xo, lfH ct (hsA g 0) g h0, lfS ct (fun j => (hsA g 0) (12 + j)) nt0_10] [lfX ct g xo_13, lfH ct (hsA g 0) g h0, lfS ct (fun j => (hsA g 0) (12 + j)) nt0_10] [0, 1, 2] 3 (by decide) rfl rfl rfl rfl) 0 rfl rfl ⟨Nat.le_of_ble_eq_true rfl, Nat.le_of_ble_eq_true rfl⟩ rfl hl.1 rfl (Nat.le_of_ble_eq_true rfl) dX11_note_47 ⟨Nat.le_of_ble_eq_true rfl, Nat.le_of_ble_eq_true rfl⟩ (fun r9 w9 H locs hB hP hD hS => ?_)
          obtain ⟨rfl, rfl⟩ := hB
          refine WG_eq (g2 := F0 m 50 ls [.int r_12]) rfl ?_
          obtain ⟨e1, e2, e3⟩ := inj3 (Option.some.inj hf)
          exact end_i (w' := (wl [lfX ct g xo_13, lfH ct (hsA g 0) g h0, lfS ct (fun j => (hsA g 0) (12 + j)) nt0_10])) hx hb hr hlocks hK hP hD hS dX11_note_50  ⟨by rw [← e1], by rw [← e2, ← e3]⟩
      · replace hf := bc_t hf c_8
        exact J25 xo nt0 _ _ _ hP hD hS (lv_sub hl [0] rfl) hf
noncomputable def f_X11_now (n : Nat) (xo : MV) (h0 : MV) (v1 : Int32) : Option (Int32 × MV) :=
  bc (v1 = 0) (some (h0.1 3, xo)) <|
  bc (v1 = 1) (some (h0.1 4, xo)) <|
  bc (v1 = 2) (bd (f_X1_postageDue n h0) fun r_4 =>
  some (r_4, xo)) <|
  bd2 (f_X11_refuseBad n xo) fun r_5 xo_6 =>
  some (r_5, xo_6)
set_option maxHeartbeats 4000000 in
set_option maxRecDepth 100000 in
theorem c_X11_now (l : Launch) (G : va_G) (ct : Nat → ClassId) (sk sv : Nat → Nat) (g : Nat → Nat) (n : Nat) (xo : MV) (h0 : MV) (v1 : Int32) {r : Int32} {xo' : MV} (hf : f_X11_now n xo h0 v1 = some (r, xo')) : Ctr (l, G, ct, sk, sv) mX11_now 3 107 [.ref (g 7), .int v1] (wl [lfX ct g xo, lfH ct (hsA g 0) g h0]) (wl [lfX ct g xo', lfH ct (hsA g 0) g h0]) (some (.int r)) := by
  refine ctr_intro (by decide) (Nat.le_of_ble_eq_true rfl) ?_
  intro p e s m args below meth c A C hP hD hS hA ls hl
  obtain ⟨hx, hb, hml, hown, hts, hr, hlocks, hK, hnm, hZ⟩ := C
  have hb : c.code = cX11_now := hb
  have hml : c.maxLocals = 2 := hml
  have hown : s.vm.findClass "SignedOutside" = some m.cls := hown
  have hr : meth.sig.returnType = some .int := hr
  have hP : va_P G classes (wl [lfX ct g xo, lfH ct (hsA g 0) g h0]) s.heap := hP
  have hD : va_D A (wl [lfX ct g xo, lfH ct (hsA g 0) g h0]) := hD
  have hK : va_K G classes (TYS ct) s := hK
  have hl : lv_has ls 2 [(0, .ref (g 7)), (1, .int v1)] := hl
  unfold f_X11_now at hf
  show WG l G ct sk sv p e (RM 3 107 0 0) s m args below meth c A (Eq2 (some (.int r)) (wl [lfX ct g xo', lfH ct (hsA g 0) g h0])) s.heap [] (F0 m 0 ls [])
  refine lv_iload_n hx hb dX11_now_0 rfl (lv_at hl 1 rfl) ?_
  rcases Classical.em (v1 = 0) with c_1 | c_1
  · replace hf := bc_t hf c_1
    refine lv_tableIn (tgt := 28) hx hb dX11_now_1 (by rw [c_1]; decide) (by rw [c_1]; decide) (by rw [c_1]; rfl) (by decide) ?_
    refine lv_aload_n hx hb dX11_now_28 rfl (lv_at hl 0 rfl) ?_
    refine va_get (D := G) (C := RX11) (T := TX11) (N := 11) (v := .ref ((hsA g 0) 0)) hx hb hts iu_X11 hown hK hP 0 rfl rfl 0 (by decide) (hts _ kw262) (fun _ h9 => h9) rfl dX11_now_29 ?_
    refine va_get (D := G) (C := RX1) (T := TX1) (N := 16) (v := .int (h0.1 3)) hx hb hts iu_X1 hown hK hP 3 rfl rfl 11 (by decide) (hts _ kw153) (fun _ h9 => h9) rfl dX11_now_32 ?_
    obtain ⟨e1, e2⟩ := inj2 (Option.some.inj hf)
    exact end_i (w' := (wl [lfX ct g xo, lfH ct (hsA g 0) g h0])) hx hb hr hlocks hK hP hD hS dX11_now_35  ⟨by rw [← e1], by rw [← e2]⟩
  replace hf := bc_f hf c_1
  rcases Classical.em (v1 = 1) with c_2 | c_2
  · replace hf := bc_t hf c_2
    refine lv_tableIn (tgt := 36) hx hb dX11_now_1 (by rw [c_2]; decide) (by rw [c_2]; decide) (by rw [c_2]; rfl) (by decide) ?_
    refine lv_aload_n hx hb dX11_now_36 rfl (lv_at hl 0 rfl) ?_
    refine va_get (D := G) (C := RX11) (T := TX11) (N := 11) (v := .ref ((hsA g 0) 0)) hx hb hts iu_X11 hown hK hP 0 rfl rfl 0 (by decide) (hts _ kw262) (fun _ h9 => h9) rfl dX11_now_37 ?_
    refine va_get (D := G) (C := RX1) (T := TX1) (N := 16) (v := .int (h0.1 4)) hx hb hts iu_X1 hown hK hP 3 rfl rfl 12 (by decide) (hts _ kw156) (fun _ h9 => h9) rfl dX11_now_40 ?_
    obtain ⟨e1, e2⟩ := inj2 (Option.some.inj hf)
    exact end_i (w' := (wl [lfX ct g xo, lfH ct (hsA g 0) g h0])) hx hb hr hlocks hK hP hD hS dX11_now_43  ⟨by rw [← e1], by rw [← e2]⟩
  replace hf := bc_f hf c_2
  rcases Classical.em (v1 = 2) with c_3 | c_3
  · replace hf := bc_t hf c_3
    refine lv_tableIn (tgt := 44) hx hb dX11_now_1 (by rw [c_3]; decide) (by rw [c_3]; decide) (by rw [c_3]; rfl) (by decide) ?_
    refine lv_aload_n hx hb dX11_now_44 rfl (lv_at hl 0 rfl) ?_
    refine va_get (D := G) (C := RX11) (T := TX11) (N := 11) (v := .ref ((hsA g 0) 0)) hx hb hts iu_X11 hown hK hP 0 rfl rfl 0 (by decide) (hts _ kw262) (fun _ h9 => h9) rfl dX11_now_45 ?_
    obtain ⟨r_4, hc4, hf⟩ := bd_e hf
    refine call_V (As := []) (rest := []) hx hb hml hown hts hK hP hD hS hA hZ lkX11_210 (Ctr.upL (c_X1_postageDue l G ct sk sv (hsA g 0) g n h0 hc4) [lfX ct g xo] [lfX ct g xo, lfH ct (hsA g 0) g h0] [lfX ct g xo, lfH ct (hsA g 0) g h0] [1, 0] 2 (by decide) rfl rfl rfl rfl) 3 rfl rfl ⟨Nat.le_of_ble_eq_true rfl, Nat.le_of_ble_eq_true rfl⟩ rfl hl.1 rfl (Nat.le_of_ble_eq_true rfl) dX11_now_48 ⟨Nat.le_of_ble_eq_true rfl, Nat.le_of_ble_eq_true rfl⟩ (fun r9 w9 H locs hB hP hD hS => ?_)
    obtain ⟨rfl, rfl⟩ := hB
    refine WG_eq (g2 := F0 m 51 ls [.int r_4]) rfl ?_
    obtain ⟨e1, e2⟩ := inj2 (Option.some.inj hf)
    exact end_i (w' := (wl [lfX ct g xo, lfH ct (hsA g 0) g h0])) hx hb hr hlocks hK hP hD hS dX11_now_51  ⟨by rw [← e1], by rw [← e2]⟩
  replace hf := bc_f hf c_3
  have tc_1 := lv_neT (a := 0) c_1 (by decide)
  have tc_2 := lv_neT (a := 1) c_2 (by decide)
  have tc_3 := lv_neT (a := 2) c_3 (by decide)
  refine lv_tableOut (tgt := 52) hx hb dX11_now_1 (by omega) (by decide) ?_
  refine lv_aload_n hx hb dX11_now_52 rfl (lv_at hl 0 rfl) ?_
  obtain ⟨r_5, xo_6, hc6, hf⟩ := bd2_e hf
  refine call_V (As := []) (rest := []) hx hb hml hown hts hK hP hD hS hA hZ lkX11_83 (Ctr.upL (c_X11_refuseBad l G ct sk sv g n xo hc6) [lfH ct (hsA g 0) g h0] [lfX ct g xo, lfH ct (hsA g 0) g h0] [lfX ct g xo_6, lfH ct (hsA g 0) g h0] [0, 1] 2 (by decide) rfl rfl rfl rfl) 0 rfl rfl ⟨Nat.le_of_ble_eq_true rfl, Nat.le_of_ble_eq_true rfl⟩ rfl hl.1 rfl (Nat.le_of_ble_eq_true rfl) dX11_now_53 ⟨Nat.le_of_ble_eq_true rfl, Nat.le_of_ble_eq_true rfl⟩ (fun r9 w9 H locs hB hP hD hS => ?_)
  obtain ⟨rfl, rfl⟩ := hB
  refine WG_eq (g2 := F0 m 56 ls [.int r_5]) rfl ?_
  obtain ⟨e1, e2⟩ := inj2 (Option.some.inj hf)
  exact end_i (w' := (wl [lfX ct g xo_6, lfH ct (hsA g 0) g h0])) hx hb hr hlocks hK hP hD hS dX11_now_56  ⟨by rw [← e1], by rw [← e2]⟩
noncomputable def f_X11_of (n : Nat) (xo : MV) (h0 : MV) (v1 : Int32) (v2 : Int32) : Option (Int32 × MV) :=
  bd (f_X11_isMember n xo h0 v1) fun r_1 =>
  bc (r_1 = 0) (bd2 (f_X11_refuseBad n xo) fun r_18 xo_19 =>
  some (r_18, xo_19))
  (bd (f_X1_kindAt n h0 v1) fun i_3 =>
  bc (v2 = 0) (gd (vp_in v1 5) <|
  some (h0.2.1 0 (ix v1), xo)) <|
  bc (v2 = 1) (gd (vp_in v1 5) <|
  some (h0.2.1 1 (ix v1), xo)) <|
  bc (v2 = 2) (gd (vp_in v1 5) <|
  some (h0.2.1 2 (ix v1), xo)) <|
  bc (v2 = 3) (bd (f_K_signs n i_3 (h0.1 2)) fun r_11 =>
  some (r_11, xo)) <|
  bc (v2 = 4) (bd (f_K_reach n i_3 ) fun r_13 =>
  some (r_13, xo)) <|
  bc (v2 = 5) (bd (f_K_bears n i_3 ) fun r_15 =>
  some (r_15, xo)) <|
  bd2 (f_X11_refuseBad n xo) fun r_16 xo_17 =>
  some (r_16, xo_17))
set_option maxHeartbeats 4000000 in
set_option maxRecDepth 100000 in
theorem c_X11_of (l : Launch) (G : va_G) (ct : Nat → ClassId) (sk sv : Nat → Nat) (g : Nat → Nat) (n : Nat) (xo : MV) (h0 : MV) (v1 : Int32) (v2 : Int32) {r : Int32} {xo' : MV} (hf : f_X11_of n xo h0 v1 v2 = some (r, xo')) : Ctr (l, G, ct, sk, sv) mX11_of 4 160 [.ref (g 7), .int v1, .int v2] (wl [lfX ct g xo, lfH ct (hsA g 0) g h0, lfK ct g]) (wl [lfX ct g xo', lfH ct (hsA g 0) g h0, lfK ct g]) (some (.int r)) := by
  refine ctr_intro (by decide) (Nat.le_of_ble_eq_true rfl) ?_
  intro p e s m args below meth c A C hP hD hS hA ls hl
  obtain ⟨hx, hb, hml, hown, hts, hr, hlocks, hK, hnm, hZ⟩ := C
  have hb : c.code = cX11_of := hb
  have hml : c.maxLocals = 4 := hml
  have hown : s.vm.findClass "SignedOutside" = some m.cls := hown
  have hr : meth.sig.returnType = some .int := hr
  have hP : va_P G classes (wl [lfX ct g xo, lfH ct (hsA g 0) g h0, lfK ct g]) s.heap := hP
  have hD : va_D A (wl [lfX ct g xo, lfH ct (hsA g 0) g h0, lfK ct g]) := hD
  have hK : va_K G classes (TYS ct) s := hK
  have hl : lv_has ls 4 [(0, .ref (g 7)), (1, .int v1), (2, .int v2)] := hl
  unfold f_X11_of at hf
  show WG l G ct sk sv p e (RM 4 160 0 0) s m args below meth c A (Eq2 (some (.int r)) (wl [lfX ct g xo', lfH ct (hsA g 0) g h0, lfK ct g])) s.heap [] (F0 m 0 ls [])
  refine lv_aload_n hx hb dX11_of_0 rfl (lv_at hl 0 rfl) ?_
  refine lv_iload_n hx hb dX11_of_1 rfl (lv_at hl 1 rfl) ?_
  obtain ⟨r_1, hc1, hf⟩ := bd_e hf
  refine call_V (As := [.int v1]) (rest := []) hx hb hml hown hts hK hP hD hS hA hZ lkX11_128 (Ctr.upL (c_X11_isMember l G ct sk sv g n xo h0 v1 hc1) [lfK ct g] [lfX ct g xo, lfH ct (hsA g 0) g h0, lfK ct g] [lfX ct g xo, lfH ct (hsA g 0) g h0, lfK ct g] [0, 1, 2] 3 (by decide) rfl rfl rfl rfl) 0 rfl rfl ⟨Nat.le_of_ble_eq_true rfl, Nat.le_of_ble_eq_true rfl⟩ rfl hl.1 rfl (Nat.le_of_ble_eq_true rfl) dX11_of_2 ⟨Nat.le_of_ble_eq_true rfl, Nat.le_of_ble_eq_true rfl⟩ (fun r9 w9 H locs hB hP hD hS => ?_)
  obtain ⟨rfl, rfl⟩ := hB
  refine WG_eq (g2 := F0 m 5 ls [.int r_1]) rfl ?_
  refine lv_if_ne (tgt := 13) hx hb dX11_of_5 (by decide) (fun c_2 => ?_) (fun c_2 => ?_)
  · replace hf := bc_f hf c_2
    refine lv_aload_n hx hb dX11_of_13 rfl (lv_at hl 0 rfl) ?_
    refine va_get (D := G) (C := RX11) (T := TX11) (N := 11) (v := .ref ((hsA g 0) 0)) hx hb hts iu_X11 hown hK hP 0 rfl rfl 0 (by decide) (hts _ kw262) (fun _ h9 => h9) rfl dX11_of_14 ?_
    refine lv_iload_n hx hb dX11_of_17 rfl (lv_at hl 1 rfl) ?_
    obtain ⟨i_3, hc3, hf⟩ := bd_e hf
    refine call_V (As := [.int v1]) (rest := []) hx hb hml hown hts hK hP hD hS hA hZ lkX11_170 (Ctr.upL (c_X1_kindAt l G ct sk sv (hsA g 0) g n h0 v1 hc3) [lfX ct g xo] [lfX ct g xo, lfH ct (hsA g 0) g h0, lfK ct g] [lfX ct g xo, lfH ct (hsA g 0) g h0, lfK ct g] [1, 2, 0] 3 (by decide) rfl rfl rfl rfl) 3 rfl rfl ⟨Nat.le_of_ble_eq_true rfl, Nat.le_of_ble_eq_true rfl⟩ rfl hl.1 rfl (Nat.le_of_ble_eq_true rfl) dX11_of_18 ⟨Nat.le_of_ble_eq_true rfl, Nat.le_of_ble_eq_true rfl⟩ (fun r9 w9 H locs hB hP hD hS => ?_)
    obtain ⟨rfl, rfl⟩ := hB
    refine WG_eq (g2 := F0 m 21 ls [.ref (g (1 + i_3))]) rfl ?_
    refine lv_astore_n (lv' := [(3, .ref (g (1 + i_3))), (0, .ref (g 7)), (1, .int v1), (2, .int v2)]) hx hb dX11_of_21 rfl hl (by decide) rfl (fun ls hl => ?_)
    refine lv_iload_n hx hb dX11_of_22 rfl (lv_at hl 3 rfl) ?_
    rcases Classical.em (v2 = 0) with c_4 | c_4
    · replace hf := bc_t hf c_4
      refine lv_tableIn (tgt := 60) hx hb dX11_of_23 (by rw [c_4]; decide) (by rw [c_4]; decide) (by rw [c_4]; rfl) (by decide) ?_
      refine lv_aload_n hx hb dX11_of_60 rfl (lv_at hl 1 rfl) ?_
      refine va_get (D := G) (C := RX11) (T := TX11) (N := 11) (v := .ref ((hsA g 0) 0)) hx hb hts iu_X11 hown hK hP 0 rfl rfl 0 (by decide) (hts _ kw262) (fun _ h9 => h9) rfl dX11_of_61 ?_
      refine va_get (D := G) (C := RX1) (T := TX1) (N := 16) (v := .ref ((hsA g 0) 1)) hx hb hts iu_X1 hown hK hP 3 rfl rfl 2 (by decide) (hts _ kw128) (fun _ h9 => h9) rfl dX11_of_64 ?_
      refine lv_iload_n hx hb dX11_of_67 rfl (lv_at hl 2 rfl) ?_
      obtain ⟨g_5, hf⟩ := gd_e hf
      refine va_iald (f := h0.2.1 0) hx hb hK hP 4 0 rfl rfl g_5 dX11_of_68 ?_
      obtain ⟨e1, e2⟩ := inj2 (Option.some.inj hf)
      exact end_i (w' := (wl [lfX ct g xo, lfH ct (hsA g 0) g h0, lfK ct g])) hx hb hr hlocks hK hP hD hS dX11_of_69  ⟨by rw [← e1], by rw [← e2]⟩
    replace hf := bc_f hf c_4
    rcases Classical.em (v2 = 1) with c_6 | c_6
    · replace hf := bc_t hf c_6
      refine lv_tableIn (tgt := 70) hx hb dX11_of_23 (by rw [c_6]; decide) (by rw [c_6]; decide) (by rw [c_6]; rfl) (by decide) ?_
      refine lv_aload_n hx hb dX11_of_70 rfl (lv_at hl 1 rfl) ?_
      refine va_get (D := G) (C := RX11) (T := TX11) (N := 11) (v := .ref ((hsA g 0) 0)) hx hb hts iu_X11 hown hK hP 0 rfl rfl 0 (by decide) (hts _ kw262) (fun _ h9 => h9) rfl dX11_of_71 ?_
      refine va_get (D := G) (C := RX1) (T := TX1) (N := 16) (v := .ref ((hsA g 0) 2)) hx hb hts iu_X1 hown hK hP 3 rfl rfl 3 (by decide) (hts _ kw131) (fun _ h9 => h9) rfl dX11_of_74 ?_
      refine lv_iload_n hx hb dX11_of_77 rfl (lv_at hl 2 rfl) ?_
      obtain ⟨g_7, hf⟩ := gd_e hf
      refine va_iald (f := h0.2.1 1) hx hb hK hP 5 0 rfl rfl g_7 dX11_of_78 ?_
      obtain ⟨e1, e2⟩ := inj2 (Option.some.inj hf)
      exact end_i (w' := (wl [lfX ct g xo, lfH ct (hsA g 0) g h0, lfK ct g])) hx hb hr hlocks hK hP hD hS dX11_of_79  ⟨by rw [← e1], by rw [← e2]⟩
    replace hf := bc_f hf c_6
    rcases Classical.em (v2 = 2) with c_8 | c_8
    · replace hf := bc_t hf c_8
      refine lv_tableIn (tgt := 80) hx hb dX11_of_23 (by rw [c_8]; decide) (by rw [c_8]; decide) (by rw [c_8]; rfl) (by decide) ?_
      refine lv_aload_n hx hb dX11_of_80 rfl (lv_at hl 1 rfl) ?_
      refine va_get (D := G) (C := RX11) (T := TX11) (N := 11) (v := .ref ((hsA g 0) 0)) hx hb hts iu_X11 hown hK hP 0 rfl rfl 0 (by decide) (hts _ kw262) (fun _ h9 => h9) rfl dX11_of_81 ?_
      refine va_get (D := G) (C := RX1) (T := TX1) (N := 16) (v := .ref ((hsA g 0) 3)) hx hb hts iu_X1 hown hK hP 3 rfl rfl 4 (by decide) (hts _ kw134) (fun _ h9 => h9) rfl dX11_of_84 ?_
      refine lv_iload_n hx hb dX11_of_87 rfl (lv_at hl 2 rfl) ?_
      obtain ⟨g_9, hf⟩ := gd_e hf
      refine va_iald (f := h0.2.1 2) hx hb hK hP 6 0 rfl rfl g_9 dX11_of_88 ?_
      obtain ⟨e1, e2⟩ := inj2 (Option.some.inj hf)
      exact end_i (w' := (wl [lfX ct g xo, lfH ct (hsA g 0) g h0, lfK ct g])) hx hb hr hlocks hK hP hD hS dX11_of_89  ⟨by rw [← e1], by rw [← e2]⟩
    replace hf := bc_f hf c_8
    rcases Classical.em (v2 = 3) with c_10 | c_10
    · replace hf := bc_t hf c_10
      refine lv_tableIn (tgt := 90) hx hb dX11_of_23 (by rw [c_10]; decide) (by rw [c_10]; decide) (by rw [c_10]; rfl) (by decide) ?_
      refine lv_aload_n hx hb dX11_of_90 rfl (lv_at hl 0 rfl) ?_
      refine lv_aload_n hx hb dX11_of_91 rfl (lv_at hl 1 rfl) ?_
      refine va_get (D := G) (C := RX11) (T := TX11) (N := 11) (v := .ref ((hsA g 0) 0)) hx hb hts iu_X11 hown hK hP 0 rfl rfl 0 (by decide) (hts _ kw262) (fun _ h9 => h9) rfl dX11_of_92 ?_
      refine va_get (D := G) (C := RX1) (T := TX1) (N := 16) (v := .int (h0.1 2)) hx hb hts iu_X1 hown hK hP 3 rfl rfl 10 (by decide) (hts _ kw150) (fun _ h9 => h9) rfl dX11_of_95 ?_
      obtain ⟨r_11, hc11, hf⟩ := bd_e hf
      refine disp_X11_180 n (k := g) i_3 hx hb hml hown hts hK hP hD hS hA hZ hc11 12 rfl rfl rfl rfl rfl rfl (Nat.le_of_ble_eq_true rfl) (Nat.le_of_ble_eq_true rfl) hl.1 (Nat.le_of_ble_eq_true rfl) dX11_of_98 ⟨Nat.zero_le _, Nat.zero_le _⟩ (fun H locs hP hD hS => ?_)
      refine WG_eq (g2 := F0 m 101 ls [.int r_11]) rfl ?_
      obtain ⟨e1, e2⟩ := inj2 (Option.some.inj hf)
      exact end_i (w' := (wl [lfX ct g xo, lfH ct (hsA g 0) g h0, lfK ct g])) hx hb hr hlocks hK hP hD hS dX11_of_101  ⟨by rw [← e1], by rw [← e2]⟩
    replace hf := bc_f hf c_10
    rcases Classical.em (v2 = 4) with c_12 | c_12
    · replace hf := bc_t hf c_12
      refine lv_tableIn (tgt := 102) hx hb dX11_of_23 (by rw [c_12]; decide) (by rw [c_12]; decide) (by rw [c_12]; rfl) (by decide) ?_
      refine lv_aload_n hx hb dX11_of_102 rfl (lv_at hl 0 rfl) ?_
      obtain ⟨r_13, hc13, hf⟩ := bd_e hf
      refine disp_X11_183 n (k := g) i_3 hx hb hml hown hts hK hP hD hS hA hZ hc13 12 rfl rfl rfl rfl rfl rfl (Nat.le_of_ble_eq_true rfl) (Nat.le_of_ble_eq_true rfl) hl.1 (Nat.le_of_ble_eq_true rfl) dX11_of_103 ⟨Nat.zero_le _, Nat.zero_le _⟩ (fun H locs hP hD hS => ?_)
      refine WG_eq (g2 := F0 m 106 ls [.int r_13]) rfl ?_
      obtain ⟨e1, e2⟩ := inj2 (Option.some.inj hf)
      exact end_i (w' := (wl [lfX ct g xo, lfH ct (hsA g 0) g h0, lfK ct g])) hx hb hr hlocks hK hP hD hS dX11_of_106  ⟨by rw [← e1], by rw [← e2]⟩
    replace hf := bc_f hf c_12
    rcases Classical.em (v2 = 5) with c_14 | c_14
    · replace hf := bc_t hf c_14
      refine lv_tableIn (tgt := 107) hx hb dX11_of_23 (by rw [c_14]; decide) (by rw [c_14]; decide) (by rw [c_14]; rfl) (by decide) ?_
      refine lv_aload_n hx hb dX11_of_107 rfl (lv_at hl 0 rfl) ?_
      obtain ⟨r_15, hc15, hf⟩ := bd_e hf
      refine disp_X11_186 n (k := g) i_3 hx hb hml hown hts hK hP hD hS hA hZ hc15 12 rfl rfl rfl rfl rfl rfl (Nat.le_of_ble_eq_true rfl) (Nat.le_of_ble_eq_true rfl) hl.1 (Nat.le_of_ble_eq_true rfl) dX11_of_108 ⟨Nat.zero_le _, Nat.zero_le _⟩ (fun H locs hP hD hS => ?_)
      refine WG_eq (g2 := F0 m 111 ls [.int r_15]) rfl ?_
      obtain ⟨e1, e2⟩ := inj2 (Option.some.inj hf)
      exact end_i (w' := (wl [lfX ct g xo, lfH ct (hsA g 0) g h0, lfK ct g])) hx hb hr hlocks hK hP hD hS dX11_of_111  ⟨by rw [← e1], by rw [← e2]⟩
    replace hf := bc_f hf c_14
    have tc_4 := lv_neT (a := 0) c_4 (by decide)
    have tc_6 := lv_neT (a := 1) c_6 (by decide)
    have tc_8 := lv_neT (a := 2) c_8 (by decide)
    have tc_10 := lv_neT (a := 3) c_10 (by decide)
    have tc_12 := lv_neT (a := 4) c_12 (by decide)
    have tc_14 := lv_neT (a := 5) c_14 (by decide)
    refine lv_tableOut (tgt := 112) hx hb dX11_of_23 (by omega) (by decide) ?_
    refine lv_aload_n hx hb dX11_of_112 rfl (lv_at hl 1 rfl) ?_
    obtain ⟨r_16, xo_17, hc17, hf⟩ := bd2_e hf
    refine call_V (As := []) (rest := []) hx hb hml hown hts hK hP hD hS hA hZ lkX11_83 (Ctr.upL (c_X11_refuseBad l G ct sk sv g n xo hc17) [lfH ct (hsA g 0) g h0, lfK ct g] [lfX ct g xo, lfH ct (hsA g 0) g h0, lfK ct g] [lfX ct g xo_17, lfH ct (hsA g 0) g h0, lfK ct g] [0, 1, 2] 3 (by decide) rfl rfl rfl rfl) 0 rfl rfl ⟨Nat.le_of_ble_eq_true rfl, Nat.le_of_ble_eq_true rfl⟩ rfl hl.1 rfl (Nat.le_of_ble_eq_true rfl) dX11_of_113 ⟨Nat.le_of_ble_eq_true rfl, Nat.le_of_ble_eq_true rfl⟩ (fun r9 w9 H locs hB hP hD hS => ?_)
    obtain ⟨rfl, rfl⟩ := hB
    refine WG_eq (g2 := F0 m 116 ls [.int r_16]) rfl ?_
    obtain ⟨e1, e2⟩ := inj2 (Option.some.inj hf)
    exact end_i (w' := (wl [lfX ct g xo_17, lfH ct (hsA g 0) g h0, lfK ct g])) hx hb hr hlocks hK hP hD hS dX11_of_116  ⟨by rw [← e1], by rw [← e2]⟩
  · replace hf := bc_t hf c_2
    refine lv_aload_n hx hb dX11_of_8 rfl (lv_at hl 0 rfl) ?_
    obtain ⟨r_18, xo_19, hc19, hf⟩ := bd2_e hf
    refine call_V (As := []) (rest := []) hx hb hml hown hts hK hP hD hS hA hZ lkX11_83 (Ctr.upL (c_X11_refuseBad l G ct sk sv g n xo hc19) [lfH ct (hsA g 0) g h0, lfK ct g] [lfX ct g xo, lfH ct (hsA g 0) g h0, lfK ct g] [lfX ct g xo_19, lfH ct (hsA g 0) g h0, lfK ct g] [0, 1, 2] 3 (by decide) rfl rfl rfl rfl) 0 rfl rfl ⟨Nat.le_of_ble_eq_true rfl, Nat.le_of_ble_eq_true rfl⟩ rfl hl.1 rfl (Nat.le_of_ble_eq_true rfl) dX11_of_9 ⟨Nat.le_of_ble_eq_true rfl, Nat.le_of_ble_eq_true rfl⟩ (fun r9 w9 H locs hB hP hD hS => ?_)
    obtain ⟨rfl, rfl⟩ := hB
    refine WG_eq (g2 := F0 m 12 ls [.int r_18]) rfl ?_
    obtain ⟨e1, e2⟩ := inj2 (Option.some.inj hf)
    exact end_i (w' := (wl [lfX ct g xo_19, lfH ct (hsA g 0) g h0, lfK ct g])) hx hb hr hlocks hK hP hD hS dX11_of_12  ⟨by rw [← e1], by rw [← e2]⟩
noncomputable def f_X11_part (n : Nat) (xo : MV) (v1 : Int32) : Option (Int64 × MV) :=
  bc (v1 = 0) (some (xo.2.2 0, xo)) <|
  bc (v1 = 1) (some (xo.2.2 1, xo)) <|
  bd2 (f_X11_refuseBad n xo) fun r_3 xo_4 =>
  some ((r_3 : Int32).toInt64, xo_4)
set_option maxHeartbeats 4000000 in
set_option maxRecDepth 100000 in
theorem c_X11_part (l : Launch) (G : va_G) (ct : Nat → ClassId) (sk sv : Nat → Nat) (g : Nat → Nat) (n : Nat) (xo : MV) (v1 : Int32) {r : Int64} {xo' : MV} (hf : f_X11_part n xo v1 = some (r, xo')) : Ctr (l, G, ct, sk, sv) mX11_part 1 20 [.ref (g 7), .int v1] (wl [lfX ct g xo]) (wl [lfX ct g xo']) (some (.long r)) := by
  refine ctr_intro (by decide) (Nat.le_of_ble_eq_true rfl) ?_
  intro p e s m args below meth c A C hP hD hS hA ls hl
  obtain ⟨hx, hb, hml, hown, hts, hr, hlocks, hK, hnm, hZ⟩ := C
  have hb : c.code = cX11_part := hb
  have hml : c.maxLocals = 2 := hml
  have hown : s.vm.findClass "SignedOutside" = some m.cls := hown
  have hr : meth.sig.returnType = some .long := hr
  have hP : va_P G classes (wl [lfX ct g xo]) s.heap := hP
  have hD : va_D A (wl [lfX ct g xo]) := hD
  have hK : va_K G classes (TYS ct) s := hK
  have hl : lv_has ls 2 [(0, .ref (g 7)), (1, .int v1)] := hl
  unfold f_X11_part at hf
  show WG l G ct sk sv p e (RM 1 20 0 0) s m args below meth c A (Eq2 (some (.long r)) (wl [lfX ct g xo'])) s.heap [] (F0 m 0 ls [])
  refine lv_iload_n hx hb dX11_part_0 rfl (lv_at hl 1 rfl) ?_
  rcases Classical.em (v1 = 0) with c_1 | c_1
  · replace hf := bc_t hf c_1
    refine lv_lookup (off := 27) (tgt := 28) hx hb dX11_part_1 (by decide) (by rw [c_1] <;> rfl) (by decide) ?_
    refine lv_aload_n hx hb dX11_part_28 rfl (lv_at hl 0 rfl) ?_
    refine va_get (D := G) (C := RX11) (T := TX11) (N := 11) (v := .long (xo.2.2 0)) hx hb hts iu_X11 hown hK hP 0 rfl rfl 6 (by decide) (hts _ kw268) (fun _ h9 => h9) rfl dX11_part_29 ?_
    obtain ⟨e1, e2⟩ := inj2 (Option.some.inj hf)
    exact end_l (w' := (wl [lfX ct g xo])) hx hb hr hlocks hK hP hD hS dX11_part_32  ⟨by rw [← e1], by rw [← e2]⟩
  replace hf := bc_f hf c_1
  rcases Classical.em (v1 = 1) with c_2 | c_2
  · replace hf := bc_t hf c_2
    refine lv_lookup (off := 32) (tgt := 33) hx hb dX11_part_1 (by decide) (by rw [c_2] <;> rfl) (by decide) ?_
    refine lv_aload_n hx hb dX11_part_33 rfl (lv_at hl 0 rfl) ?_
    refine va_get (D := G) (C := RX11) (T := TX11) (N := 11) (v := .long (xo.2.2 1)) hx hb hts iu_X11 hown hK hP 0 rfl rfl 7 (by decide) (hts _ kw269) (fun _ h9 => h9) rfl dX11_part_34 ?_
    obtain ⟨e1, e2⟩ := inj2 (Option.some.inj hf)
    exact end_l (w' := (wl [lfX ct g xo])) hx hb hr hlocks hK hP hD hS dX11_part_37  ⟨by rw [← e1], by rw [← e2]⟩
  replace hf := bc_f hf c_2
  refine lv_lookup (off := 37) (tgt := 38) hx hb dX11_part_1 (by decide) (by rw [lv_osw (k := 0) c_1 (by decide), lv_osw (k := 1) c_2 (by decide)] <;> rfl) (by decide) ?_
  refine lv_aload_n hx hb dX11_part_38 rfl (lv_at hl 0 rfl) ?_
  obtain ⟨r_3, xo_4, hc4, hf⟩ := bd2_e hf
  refine call_V (As := []) (rest := []) hx hb hml hown hts hK hP hD hS hA hZ lkX11_83 (c_X11_refuseBad l G ct sk sv g n xo hc4) 0 rfl rfl ⟨Nat.le_of_ble_eq_true rfl, Nat.le_of_ble_eq_true rfl⟩ rfl hl.1 rfl (Nat.le_of_ble_eq_true rfl) dX11_part_39 ⟨Nat.le_of_ble_eq_true rfl, Nat.le_of_ble_eq_true rfl⟩ (fun r9 w9 H locs hB hP hD hS => ?_)
  obtain ⟨rfl, rfl⟩ := hB
  refine WG_eq (g2 := F0 m 42 ls [.int r_3]) rfl ?_
  refine lv_i2l (v := (r_3 : Int32).toInt64) hx hb dX11_part_42 rfl ?_
  obtain ⟨e1, e2⟩ := inj2 (Option.some.inj hf)
  exact end_l (w' := (wl [lfX ct g xo_4])) hx hb hr hlocks hK hP hD hS dX11_part_43  ⟨by rw [← e1], by rw [← e2]⟩
noncomputable def f_X11_pay (n : Nat) (xo : MV) (h0 : MV) (ps0 : MV) (v1 : Int32) : Option (Int32 × MV × MV × MV) :=
  bd (f_X11_isLetter n xo h0 v1) fun r_1 =>
  bc (r_1 = 0) (bd2 (f_X11_refuseBad n xo) fun r_10 xo_11 =>
  some (r_10, xo_11, h0, ps0))
  (bd (f_X1_lies n h0 v1) fun r_3 =>
  bc (r_3 = 0) (bd2 (f_X11_refuseNo n xo) fun r_8 xo_9 =>
  some (r_8, xo_9, h0, ps0))
  (bd (f_X4_keep n h0 ps0) fun ps0_5 =>
  bd (f_X1_settle n h0 v1) fun h0_6 =>
  bd (f_X1_postage n h0_6 v1) fun r_7 =>
  some (r_7, xo, h0_6, ps0_5)))
set_option maxHeartbeats 4000000 in
set_option maxRecDepth 100000 in
theorem c_X11_pay (l : Launch) (G : va_G) (ct : Nat → ClassId) (sk sv : Nat → Nat) (g : Nat → Nat) (n : Nat) (xo : MV) (h0 : MV) (ps0 : MV) (v1 : Int32) {r : Int32} {xo' : MV} {h0' : MV} {ps0' : MV} (hf : f_X11_pay n xo h0 ps0 v1 = some (r, xo', h0', ps0')) : Ctr (l, G, ct, sk, sv) mX11_pay 3 106 [.ref (g 7), .int v1] (wl [lfX ct g xo, lfH ct (hsA g 0) g h0, lfP ct (fun j => (hsA g 0) (16 + j)) ps0]) (wl [lfX ct g xo', lfH ct (hsA g 0) g h0', lfP ct (fun j => (hsA g 0) (16 + j)) ps0']) (some (.int r)) := by
  refine ctr_intro (by decide) (Nat.le_of_ble_eq_true rfl) ?_
  intro p e s m args below meth c A C hP hD hS hA ls hl
  obtain ⟨hx, hb, hml, hown, hts, hr, hlocks, hK, hnm, hZ⟩ := C
  have hb : c.code = cX11_pay := hb
  have hml : c.maxLocals = 2 := hml
  have hown : s.vm.findClass "SignedOutside" = some m.cls := hown
  have hr : meth.sig.returnType = some .int := hr
  have hP : va_P G classes (wl [lfX ct g xo, lfH ct (hsA g 0) g h0, lfP ct (fun j => (hsA g 0) (16 + j)) ps0]) s.heap := hP
  have hD : va_D A (wl [lfX ct g xo, lfH ct (hsA g 0) g h0, lfP ct (fun j => (hsA g 0) (16 + j)) ps0]) := hD
  have hK : va_K G classes (TYS ct) s := hK
  have hl : lv_has ls 2 [(0, .ref (g 7)), (1, .int v1)] := hl
  unfold f_X11_pay at hf
  show WG l G ct sk sv p e (RM 3 106 0 0) s m args below meth c A (Eq2 (some (.int r)) (wl [lfX ct g xo', lfH ct (hsA g 0) g h0', lfP ct (fun j => (hsA g 0) (16 + j)) ps0'])) s.heap [] (F0 m 0 ls [])
  refine lv_aload_n hx hb dX11_pay_0 rfl (lv_at hl 0 rfl) ?_
  refine lv_iload_n hx hb dX11_pay_1 rfl (lv_at hl 1 rfl) ?_
  obtain ⟨r_1, hc1, hf⟩ := bd_e hf
  refine call_V (As := [.int v1]) (rest := []) hx hb hml hown hts hK hP hD hS hA hZ lkX11_125 (Ctr.upL (c_X11_isLetter l G ct sk sv g n xo h0 v1 hc1) [lfP ct (fun j => (hsA g 0) (16 + j)) ps0] [lfX ct g xo, lfH ct (hsA g 0) g h0, lfP ct (fun j => (hsA g 0) (16 + j)) ps0] [lfX ct g xo, lfH ct (hsA g 0) g h0, lfP ct (fun j => (hsA g 0) (16 + j)) ps0] [0, 1, 2] 3 (by decide) rfl rfl rfl rfl) 0 rfl rfl ⟨Nat.le_of_ble_eq_true rfl, Nat.le_of_ble_eq_true rfl⟩ rfl hl.1 rfl (Nat.le_of_ble_eq_true rfl) dX11_pay_2 ⟨Nat.le_of_ble_eq_true rfl, Nat.le_of_ble_eq_true rfl⟩ (fun r9 w9 H locs hB hP hD hS => ?_)
  obtain ⟨rfl, rfl⟩ := hB
  refine WG_eq (g2 := F0 m 5 ls [.int r_1]) rfl ?_
  refine lv_if_ne (tgt := 13) hx hb dX11_pay_5 (by decide) (fun c_2 => ?_) (fun c_2 => ?_)
  · replace hf := bc_f hf c_2
    refine lv_aload_n hx hb dX11_pay_13 rfl (lv_at hl 0 rfl) ?_
    refine va_get (D := G) (C := RX11) (T := TX11) (N := 11) (v := .ref ((hsA g 0) 0)) hx hb hts iu_X11 hown hK hP 0 rfl rfl 0 (by decide) (hts _ kw262) (fun _ h9 => h9) rfl dX11_pay_14 ?_
    refine lv_iload_n hx hb dX11_pay_17 rfl (lv_at hl 1 rfl) ?_
    obtain ⟨r_3, hc3, hf⟩ := bd_e hf
    refine call_V (As := [.int v1]) (rest := []) hx hb hml hown hts hK hP hD hS hA hZ lkX11_149 (Ctr.upL (c_X1_lies l G ct sk sv (hsA g 0) g n h0 v1 hc3) [lfX ct g xo, lfP ct (fun j => (hsA g 0) (16 + j)) ps0] [lfX ct g xo, lfH ct (hsA g 0) g h0, lfP ct (fun j => (hsA g 0) (16 + j)) ps0] [lfX ct g xo, lfH ct (hsA g 0) g h0, lfP ct (fun j => (hsA g 0) (16 + j)) ps0] [1, 0, 2] 3 (by decide) rfl rfl rfl rfl) 3 rfl rfl ⟨Nat.le_of_ble_eq_true rfl, Nat.le_of_ble_eq_true rfl⟩ rfl hl.1 rfl (Nat.le_of_ble_eq_true rfl) dX11_pay_18 ⟨Nat.le_of_ble_eq_true rfl, Nat.le_of_ble_eq_true rfl⟩ (fun r9 w9 H locs hB hP hD hS => ?_)
    obtain ⟨rfl, rfl⟩ := hB
    refine WG_eq (g2 := F0 m 21 ls [.int r_3]) rfl ?_
    refine lv_if_ne (tgt := 29) hx hb dX11_pay_21 (by decide) (fun c_4 => ?_) (fun c_4 => ?_)
    · replace hf := bc_f hf c_4
      refine lv_aload_n hx hb dX11_pay_29 rfl (lv_at hl 0 rfl) ?_
      refine va_get (D := G) (C := RX11) (T := TX11) (N := 11) (v := .ref ((hsA g 0) 0)) hx hb hts iu_X11 hown hK hP 0 rfl rfl 0 (by decide) (hts _ kw262) (fun _ h9 => h9) rfl dX11_pay_30 ?_
      refine va_get (D := G) (C := RX1) (T := TX1) (N := 16) (v := .ref ((hsA g 0) 16)) hx hb hts iu_X1 hown hK hP 3 rfl rfl 15 (by decide) (hts _ kw162) (fun _ h9 => h9) rfl dX11_pay_33 ?_
      refine lv_aload_n hx hb dX11_pay_36 rfl (lv_at hl 0 rfl) ?_
      refine va_get (D := G) (C := RX11) (T := TX11) (N := 11) (v := .ref ((hsA g 0) 0)) hx hb hts iu_X11 hown hK hP 0 rfl rfl 0 (by decide) (hts _ kw262) (fun _ h9 => h9) rfl dX11_pay_37 ?_
      obtain ⟨ps0_5, hc5, hf⟩ := bd_e hf
      refine call_V (As := [.ref ((hsA g 0) 0)]) (rest := []) hx hb hml hown hts hK hP hD hS hA hZ lkX11_138 (Ctr.upL (c_X4_keep l G ct sk sv (hsA g 0) g n h0 ps0 hc5) [lfX ct g xo] [lfX ct g xo, lfH ct (hsA g 0) g h0, lfP ct (fun j => (hsA g 0) (16 + j)) ps0] [lfX ct g xo, lfH ct (hsA g 0) g h0, lfP ct (fun j => (hsA g 0) (16 + j)) ps0_5] [1, 2, 0] 3 (by decide) rfl rfl rfl rfl) 11 rfl rfl ⟨Nat.le_of_ble_eq_true rfl, Nat.le_of_ble_eq_true rfl⟩ rfl hl.1 rfl (Nat.le_of_ble_eq_true rfl) dX11_pay_40 ⟨Nat.le_of_ble_eq_true rfl, Nat.le_of_ble_eq_true rfl⟩ (fun r9 w9 H locs hB hP hD hS => ?_)
      obtain ⟨rfl, rfl⟩ := hB
      refine WG_eq (g2 := F0 m 43 ls []) rfl ?_
      refine lv_aload_n hx hb dX11_pay_43 rfl (lv_at hl 0 rfl) ?_
      refine va_get (D := G) (C := RX11) (T := TX11) (N := 11) (v := .ref ((hsA g 0) 0)) hx hb hts iu_X11 hown hK hP 0 rfl rfl 0 (by decide) (hts _ kw262) (fun _ h9 => h9) rfl dX11_pay_44 ?_
      refine lv_iload_n hx hb dX11_pay_47 rfl (lv_at hl 1 rfl) ?_
      obtain ⟨h0_6, hc6, hf⟩ := bd_e hf
      refine call_V (As := [.int v1]) (rest := []) hx hb hml hown hts hK hP hD hS hA hZ lkX11_152 (Ctr.upL (c_X1_settle l G ct sk sv (hsA g 0) g n h0 v1 hc6) [lfX ct g xo, lfP ct (fun j => (hsA g 0) (16 + j)) ps0_5] [lfX ct g xo, lfH ct (hsA g 0) g h0, lfP ct (fun j => (hsA g 0) (16 + j)) ps0_5] [lfX ct g xo, lfH ct (hsA g 0) g h0_6, lfP ct (fun j => (hsA g 0) (16 + j)) ps0_5] [1, 0, 2] 3 (by decide) rfl rfl rfl rfl) 3 rfl rfl ⟨Nat.le_of_ble_eq_true rfl, Nat.le_of_ble_eq_true rfl⟩ rfl hl.1 rfl (Nat.le_of_ble_eq_true rfl) dX11_pay_48 ⟨Nat.le_of_ble_eq_true rfl, Nat.le_of_ble_eq_true rfl⟩ (fun r9 w9 H locs hB hP hD hS => ?_)
      obtain ⟨rfl, rfl⟩ := hB
      refine WG_eq (g2 := F0 m 51 ls []) rfl ?_
      refine lv_aload_n hx hb dX11_pay_51 rfl (lv_at hl 0 rfl) ?_
      refine va_get (D := G) (C := RX11) (T := TX11) (N := 11) (v := .ref ((hsA g 0) 0)) hx hb hts iu_X11 hown hK hP 0 rfl rfl 0 (by decide) (hts _ kw262) (fun _ h9 => h9) rfl dX11_pay_52 ?_
      refine lv_iload_n hx hb dX11_pay_55 rfl (lv_at hl 1 rfl) ?_
      obtain ⟨r_7, hc7, hf⟩ := bd_e hf
      refine call_V (As := [.int v1]) (rest := []) hx hb hml hown hts hK hP hD hS hA hZ lkX11_145 (Ctr.upL (c_X1_postage l G ct sk sv (hsA g 0) g n h0_6 v1 hc7) [lfX ct g xo, lfP ct (fun j => (hsA g 0) (16 + j)) ps0_5] [lfX ct g xo, lfH ct (hsA g 0) g h0_6, lfP ct (fun j => (hsA g 0) (16 + j)) ps0_5] [lfX ct g xo, lfH ct (hsA g 0) g h0_6, lfP ct (fun j => (hsA g 0) (16 + j)) ps0_5] [1, 0, 2] 3 (by decide) rfl rfl rfl rfl) 3 rfl rfl ⟨Nat.le_of_ble_eq_true rfl, Nat.le_of_ble_eq_true rfl⟩ rfl hl.1 rfl (Nat.le_of_ble_eq_true rfl) dX11_pay_56 ⟨Nat.le_of_ble_eq_true rfl, Nat.le_of_ble_eq_true rfl⟩ (fun r9 w9 H locs hB hP hD hS => ?_)
      obtain ⟨rfl, rfl⟩ := hB
      refine WG_eq (g2 := F0 m 59 ls [.int r_7]) rfl ?_
      obtain ⟨e1, e2, e3, e4⟩ := inj4 (Option.some.inj hf)
      exact end_i (w' := (wl [lfX ct g xo, lfH ct (hsA g 0) g h0_6, lfP ct (fun j => (hsA g 0) (16 + j)) ps0_5])) hx hb hr hlocks hK hP hD hS dX11_pay_59  ⟨by rw [← e1], by rw [← e2, ← e3, ← e4]⟩
    · replace hf := bc_t hf c_4
      refine lv_aload_n hx hb dX11_pay_24 rfl (lv_at hl 0 rfl) ?_
      obtain ⟨r_8, xo_9, hc9, hf⟩ := bd2_e hf
      refine call_V (As := []) (rest := []) hx hb hml hown hts hK hP hD hS hA hZ lkX11_135 (Ctr.upL (c_X11_refuseNo l G ct sk sv g n xo hc9) [lfH ct (hsA g 0) g h0, lfP ct (fun j => (hsA g 0) (16 + j)) ps0] [lfX ct g xo, lfH ct (hsA g 0) g h0, lfP ct (fun j => (hsA g 0) (16 + j)) ps0] [lfX ct g xo_9, lfH ct (hsA g 0) g h0, lfP ct (fun j => (hsA g 0) (16 + j)) ps0] [0, 1, 2] 3 (by decide) rfl rfl rfl rfl) 0 rfl rfl ⟨Nat.le_of_ble_eq_true rfl, Nat.le_of_ble_eq_true rfl⟩ rfl hl.1 rfl (Nat.le_of_ble_eq_true rfl) dX11_pay_25 ⟨Nat.le_of_ble_eq_true rfl, Nat.le_of_ble_eq_true rfl⟩ (fun r9 w9 H locs hB hP hD hS => ?_)
      obtain ⟨rfl, rfl⟩ := hB
      refine WG_eq (g2 := F0 m 28 ls [.int r_8]) rfl ?_
      obtain ⟨e1, e2, e3, e4⟩ := inj4 (Option.some.inj hf)
      exact end_i (w' := (wl [lfX ct g xo_9, lfH ct (hsA g 0) g h0, lfP ct (fun j => (hsA g 0) (16 + j)) ps0])) hx hb hr hlocks hK hP hD hS dX11_pay_28  ⟨by rw [← e1], by rw [← e2, ← e3, ← e4]⟩
  · replace hf := bc_t hf c_2
    refine lv_aload_n hx hb dX11_pay_8 rfl (lv_at hl 0 rfl) ?_
    obtain ⟨r_10, xo_11, hc11, hf⟩ := bd2_e hf
    refine call_V (As := []) (rest := []) hx hb hml hown hts hK hP hD hS hA hZ lkX11_83 (Ctr.upL (c_X11_refuseBad l G ct sk sv g n xo hc11) [lfH ct (hsA g 0) g h0, lfP ct (fun j => (hsA g 0) (16 + j)) ps0] [lfX ct g xo, lfH ct (hsA g 0) g h0, lfP ct (fun j => (hsA g 0) (16 + j)) ps0] [lfX ct g xo_11, lfH ct (hsA g 0) g h0, lfP ct (fun j => (hsA g 0) (16 + j)) ps0] [0, 1, 2] 3 (by decide) rfl rfl rfl rfl) 0 rfl rfl ⟨Nat.le_of_ble_eq_true rfl, Nat.le_of_ble_eq_true rfl⟩ rfl hl.1 rfl (Nat.le_of_ble_eq_true rfl) dX11_pay_9 ⟨Nat.le_of_ble_eq_true rfl, Nat.le_of_ble_eq_true rfl⟩ (fun r9 w9 H locs hB hP hD hS => ?_)
    obtain ⟨rfl, rfl⟩ := hB
    refine WG_eq (g2 := F0 m 12 ls [.int r_10]) rfl ?_
    obtain ⟨e1, e2, e3, e4⟩ := inj4 (Option.some.inj hf)
    exact end_i (w' := (wl [lfX ct g xo_11, lfH ct (hsA g 0) g h0, lfP ct (fun j => (hsA g 0) (16 + j)) ps0])) hx hb hr hlocks hK hP hD hS dX11_pay_12  ⟨by rw [← e1], by rw [← e2, ← e3, ← e4]⟩
