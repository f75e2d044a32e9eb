noncomputable def f_X11_digest_b6 (n : Nat) (xo : MV) (rv : MV) (h0 : MV) (nt0 : MV) (cv0 : MV) (ps0 : MV) (v3 : Int32) (v1 : Int64) : Option ((Int32 × Int64) ⊕ (Int64)) :=
  bc (7 < v3) (some (.inr v1))
  (bd (f_X11_howMany n xo rv h0 nt0 cv0 ps0 v3) fun r_2 =>
  bd (f_X11_mix n v1 ((r_2 : Int32).toInt64)) fun r_3 =>
  bl (v3 + 1) fun v3_4 =>
  some (.inl (v3_4, r_3)))
noncomputable def f_X11_digest_l6 (fu : Nat) (n : Nat) (xo : MV) (rv : MV) (h0 : MV) (nt0 : MV) (cv0 : MV) (ps0 : MV) (v3 : Int32) (v1 : Int64) : Option (Int64) :=
  lp (fun q => f_X11_digest_b6 n xo rv h0 nt0 cv0 ps0 q.1 q.2) fu (v3, v1)
noncomputable def f_X11_digest_b55 (n : Nat) (xo : MV) (rv : MV) (h0 : MV) (nt0 : MV) (cv0 : MV) (ps0 : MV) (v3 : Int32) (v1 : Int64) : Option ((Int32 × Int64) ⊕ (Int64)) :=
  bc ((h0.1 0) ≤ v3) (some (.inr v1))
  (gd (vp_in v3 5) <|
  bd (f_X11_mix n v1 ((h0.2.1 0 (ix v3) : Int32).toInt64)) fun r_7 =>
  gd (vp_in v3 5) <|
  bd (f_X11_mix n r_7 ((h0.2.1 1 (ix v3) : Int32).toInt64)) fun r_9 =>
  gd (vp_in v3 5) <|
  bd (f_X11_mix n r_9 ((h0.2.1 2 (ix v3) : Int32).toInt64)) fun r_11 =>
  bl (v3 + 1) fun v3_12 =>
  some (.inl (v3_12, r_11)))
noncomputable def f_X11_digest_l55 (fu : Nat) (n : Nat) (xo : MV) (rv : MV) (h0 : MV) (nt0 : MV) (cv0 : MV) (ps0 : MV) (v3 : Int32) (v1 : Int64) : Option (Int64) :=
  lp (fun q => f_X11_digest_b55 n xo rv h0 nt0 cv0 ps0 q.1 q.2) fu (v3, v1)
noncomputable def f_X11_digest_b115 (n : Nat) (xo : MV) (rv : MV) (h0 : MV) (nt0 : MV) (cv0 : MV) (ps0 : MV) (v3 : Int32) (v1 : Int64) : Option ((Int32 × Int64) ⊕ (Int64)) :=
  bc ((h0.1 1) ≤ v3) (some (.inr v1))
  (gd (vp_in v3 6) <|
  bd (f_X11_mix n v1 ((h0.2.1 3 (ix v3) : Int32).toInt64)) fun r_15 =>
  gd (vp_in v3 6) <|
  bd (f_X11_mix n r_15 ((h0.2.1 4 (ix v3) : Int32).toInt64)) fun r_17 =>
  gd (vp_in v3 6) <|
  bd (f_X11_mix n r_17 ((h0.2.1 5 (ix v3) : Int32).toInt64)) fun r_19 =>
  gd (vp_in v3 6) <|
  bd (f_X11_mix n r_19 ((h0.2.1 6 (ix v3) : Int32).toInt64)) fun r_21 =>
  bl (v3 + 1) fun v3_22 =>
  some (.inl (v3_22, r_21)))
noncomputable def f_X11_digest_l115 (fu : Nat) (n : Nat) (xo : MV) (rv : MV) (h0 : MV) (nt0 : MV) (cv0 : MV) (ps0 : MV) (v3 : Int32) (v1 : Int64) : Option (Int64) :=
  lp (fun q => f_X11_digest_b115 n xo rv h0 nt0 cv0 ps0 q.1 q.2) fu (v3, v1)
noncomputable def f_X11_digest (n : Nat) (xo : MV) (rv : MV) (h0 : MV) (nt0 : MV) (cv0 : MV) (ps0 : MV) : Option (Int64) :=
  bd (f_X11_digest_l6 n n xo rv h0 nt0 cv0 ps0 0 1289) fun v1_23 =>
  bd (f_X11_mix n v1_23 ((h0.1 3 : Int32).toInt64)) fun r_25 =>
  bd (f_X11_mix n r_25 ((h0.1 4 : Int32).toInt64)) fun r_26 =>
  bd (f_X11_digest_l55 n n xo rv h0 nt0 cv0 ps0 0 r_26) fun v1_27 =>
  bd (f_X11_digest_l115 n n xo rv h0 nt0 cv0 ps0 0 v1_27) fun v1_29 =>
  bd (f_X11_mixSlips n cv0 v1_29) fun r_31 =>
  bd (f_X11_mixSlips n nt0 r_31) fun r_32 =>
  bd (f_X11_mix n r_32 (xo.2.2 0)) fun r_33 =>
  bd (f_X11_mix n r_33 (xo.2.2 1)) fun r_34 =>
  some r_34
set_option maxHeartbeats 4000000 in
set_option maxRecDepth 100000 in
theorem c_X11_digest (l : Launch) (G : va_G) (ct : Nat → ClassId) (sk sv : Nat → Nat) (g : Nat → Nat) (n : Nat) (xo : MV) (rv : MV) (h0 : MV) (nt0 : MV) (cv0 : MV) (ps0 : MV) {r : Int64} (hf : f_X11_digest n xo rv h0 nt0 cv0 ps0 = some r) : Ctr (l, G, ct, sk, sv) mX11_digest 3 64 [.ref (g 7)] (wl [lfX ct g xo, lfR ct (fun j => g (18 + j)) rv, lfH ct (hsA g 0) g h0, lfS ct (fun j => (hsA g 0) (12 + j)) nt0, lfS ct (fun j => (hsA g 0) (8 + j)) cv0, lfP ct (fun j => (hsA g 0) (16 + j)) ps0]) (wl [lfX ct g xo, lfR ct (fun j => g (18 + j)) rv, lfH ct (hsA g 0) g h0, lfS ct (fun j => (hsA g 0) (12 + j)) nt0, lfS ct (fun j => (hsA g 0) (8 + j)) cv0, lfP ct (fun j => (hsA g 0) (16 + j)) ps0]) (some (.long r)) := by
  refine ctr_intro (by decide) (Nat.le_of_ble_eq_true rfl) ?_
  intro p e s m args below meth c A C hP hD hS hA ls hl
  obtain ⟨hx, hb, hml, hown, hts, hr, hlocks, hK, hnm, hZ⟩ := C
  have hb : c.code = cX11_digest := hb
  have hml : c.maxLocals = 4 := hml
  have hown : s.vm.findClass "SignedOutside" = some m.cls := hown
  have hr : meth.sig.returnType = some .long := hr
  have hP : va_P G classes (wl [lfX ct g xo, lfR ct (fun j => g (18 + j)) rv, lfH ct (hsA g 0) g h0, lfS ct (fun j => (hsA g 0) (12 + j)) nt0, lfS ct (fun j => (hsA g 0) (8 + j)) cv0, lfP ct (fun j => (hsA g 0) (16 + j)) ps0]) s.heap := hP
  have hD : va_D A (wl [lfX ct g xo, lfR ct (fun j => g (18 + j)) rv, lfH ct (hsA g 0) g h0, lfS ct (fun j => (hsA g 0) (12 + j)) nt0, lfS ct (fun j => (hsA g 0) (8 + j)) cv0, lfP ct (fun j => (hsA g 0) (16 + j)) ps0]) := hD
  have hK : va_K G classes (TYS ct) s := hK
  have hl : lv_has ls 4 [(0, .ref (g 7))] := hl
  have L6 : ∀ (fu : Nat) (v3 : Int32) (v1 : Int64) (ex : Int64) (H : Heap) (locs : List Loc) (ls : Array Slot), va_P G classes (wl [lfX ct g xo, lfR ct (fun j => g (18 + j)) rv, lfH ct (hsA g 0) g h0, lfS ct (fun j => (hsA g 0) (12 + j)) nt0, lfS ct (fun j => (hsA g 0) (8 + j)) cv0, lfP ct (fun j => (hsA g 0) (16 + j)) ps0]) H → va_D A (wl [lfX ct g xo, lfR ct (fun j => g (18 + j)) rv, lfH ct (hsA g 0) g h0, lfS ct (fun j => (hsA g 0) (12 + j)) nt0, lfS ct (fun j => (hsA g 0) (8 + j)) cv0, lfP ct (fun j => (hsA g 0) (16 + j)) ps0]) → va_S A s.heap H locs → lv_has ls 4 [(3, .int v3), (1, .long v1), (0, .ref (g 7))] → f_X11_digest_l6 fu n xo rv h0 nt0 cv0 ps0 v3 v1 = some ex → (∀ (x : Int64), ex = x → ∀ (H : Heap) (locs : List Loc) (ls : Array Slot), va_P G classes (wl [lfX ct g xo, lfR ct (fun j => g (18 + j)) rv, lfH ct (hsA g 0) g h0, lfS ct (fun j => (hsA g 0) (12 + j)) nt0, lfS ct (fun j => (hsA g 0) (8 + j)) cv0, lfP ct (fun j => (hsA g 0) (16 + j)) ps0]) H → va_D A (wl [lfX ct g xo, lfR ct (fun j => g (18 + j)) rv, lfH ct (hsA g 0) g h0, lfS ct (fun j => (hsA g 0) (12 + j)) nt0, lfS ct (fun j => (hsA g 0) (8 + j)) cv0, lfP ct (fun j => (hsA g 0) (16 + j)) ps0]) → va_S A s.heap H locs → lv_has ls 4 [(1, .long x), (0, .ref (g 7))] → WG l G ct sk sv p e (RM 3 64 0 0) s m args below meth c A (Eq2 (some (.long r)) (wl [lfX ct g xo, lfR ct (fun j => g (18 + j)) rv, lfH ct (hsA g 0) g h0, lfS ct (fun j => (hsA g 0) (12 + j)) nt0, lfS ct (fun j => (hsA g 0) (8 + j)) cv0, lfP ct (fun j => (hsA g 0) (16 + j)) ps0])) H locs (F0 m 29 ls [])) → WG l G ct sk sv p e (RM 3 64 0 0) s m args below meth c A (Eq2 (some (.long r)) (wl [lfX ct g xo, lfR ct (fun j => g (18 + j)) rv, lfH ct (hsA g 0) g h0, lfS ct (fun j => (hsA g 0) (12 + j)) nt0, lfS ct (fun j => (hsA g 0) (8 + j)) cv0, lfP ct (fun j => (hsA g 0) (16 + j)) ps0])) H locs (F0 m 6 ls []) := by
    intro fu
    induction fu with
    | zero =>
      intro v3 v1 ex H locs ls hP hD hS hl hf
      exact absurd hf (by unfold f_X11_digest_l6 lp; exact fun h => by cases h)
    | succ fu ih =>
      intro v3 v1 ex H locs ls hP hD hS hl hf hE
      unfold f_X11_digest_l6 at hf
      obtain ⟨q, hf, hor⟩ := lp_e hf
      replace hf : f_X11_digest_b6 n xo rv h0 nt0 cv0 ps0 v3 v1 = some q := hf
      unfold f_X11_digest_b6 at hf
      refine lv_iload_n hx hb dX11_digest_6 rfl (lv_at hl 0 rfl) ?_
      refine lv_bipush (v := 7) hx hb dX11_digest_7 (by decide) ?_
      refine lv_icmp_gt (tgt := 29) hx hb dX11_digest_9 (by decide) (fun c_1 => ?_) (fun c_1 => ?_)
      · replace hf := bc_t hf c_1
        exact hE v1 (lp_inr hor hf).symm _ _ _ hP hD hS (lv_sub hl [1, 2] rfl)
      · replace hf := bc_f hf c_1
        refine lv_lload_n hx hb dX11_digest_12 rfl (lv_at hl 1 rfl) ?_
        refine lv_aload_n hx hb dX11_digest_13 rfl (lv_at hl 2 rfl) ?_
        refine lv_iload_n hx hb dX11_digest_14 rfl (lv_at hl 0 rfl) ?_
        obtain ⟨r_2, hc2, hf⟩ := bd_e hf
        refine call_V (As := [.int v3]) (rest := [.long v1]) hx hb hml hown hts hK hP hD hS hA hZ lkX11_322 (c_X11_howMany l G ct sk sv g n xo rv h0 nt0 cv0 ps0 v3 hc2) 0 rfl rfl ⟨Nat.le_of_ble_eq_true rfl, Nat.le_of_ble_eq_true rfl⟩ rfl hl.1 rfl (Nat.le_of_ble_eq_true rfl) dX11_digest_15 ⟨Nat.le_of_ble_eq_true rfl, Nat.le_of_ble_eq_true rfl⟩ (fun r9 w9 H locs hB hP hD hS => ?_)
        obtain ⟨rfl, rfl⟩ := hB
        refine WG_eq (g2 := F0 m 18 ls [.int r_2, .long v1]) rfl ?_
        refine lv_i2l (v := (r_2 : Int32).toInt64) hx hb dX11_digest_18 rfl ?_
        obtain ⟨r_3, hc3, hf⟩ := bd_e hf
        refine call_S (As := [.long v1, .long ((r_2 : Int32).toInt64)]) (rest := []) hx hb hml hown hts hK hP hD hS hA hZ lkX11_327 (Ctr.upL (c_X11_mix l G ct sk sv  n v1 ((r_2 : Int32).toInt64) hc3) [lfX ct g xo, lfR ct (fun j => g (18 + j)) rv, lfH ct (hsA g 0) g h0, lfS ct (fun j => (hsA g 0) (12 + j)) nt0, lfS ct (fun j => (hsA g 0) (8 + j)) cv0, lfP ct (fun j => (hsA g 0) (16 + j)) ps0] [lfX ct g xo, lfR ct (fun j => g (18 + j)) rv, lfH ct (hsA g 0) g h0, lfS ct (fun j => (hsA g 0) (12 + j)) nt0, lfS ct (fun j => (hsA g 0) (8 + j)) cv0, lfP ct (fun j => (hsA g 0) (16 + j)) ps0] [lfX ct g xo, lfR ct (fun j => g (18 + j)) rv, lfH ct (hsA g 0) g h0, lfS ct (fun j => (hsA g 0) (12 + j)) nt0, lfS ct (fun j => (hsA g 0) (8 + j)) cv0, lfP ct (fun j => (hsA g 0) (16 + j)) ps0] [0, 1, 2, 3, 4, 5] 6 (by decide) rfl rfl rfl rfl) ⟨Nat.le_of_ble_eq_true rfl, Nat.le_of_ble_eq_true rfl⟩ rfl hl.1 rfl (Nat.le_of_ble_eq_true rfl) dX11_digest_19 ⟨Nat.le_of_ble_eq_true rfl, Nat.le_of_ble_eq_true rfl⟩ (fun r9 w9 H locs hB hP hD hS => ?_)
        obtain ⟨rfl, rfl⟩ := hB
        refine WG_eq (g2 := F0 m 22 ls [.long r_3]) rfl ?_
        refine lv_lstore_n (lv' := [(1, .long r_3), (3, .int v3), (0, .ref (g 7))]) hx hb dX11_digest_22 rfl hl (by decide) rfl (fun ls hl => ?_)
        obtain ⟨v3_4, ev3_4, hf⟩ := bl_e hf
        refine lv_iinc (v := v3_4) (lv' := [(3, .int v3_4), (1, .long r_3), (0, .ref (g 7))]) hx hb dX11_digest_23 hl (k := 1) rfl ev3_4 (by decide) rfl (fun ls hl => ?_)
        refine lv_goto (tgt := 6) hx hb dX11_digest_26 (by decide) ?_
        exact ih v3_4 r_3 ex _ _ _ hP hD hS hl (lp_inl hor hf) hE
  have L55 : ∀ (fu : Nat) (v3 : Int32) (v1 : Int64) (ex : Int64) (H : Heap) (locs : List Loc) (ls : Array Slot), va_P G classes (wl [lfX ct g xo, lfR ct (fun j => g (18 + j)) rv, lfH ct (hsA g 0) g h0, lfS ct (fun j => (hsA g 0) (12 + j)) nt0, lfS ct (fun j => (hsA g 0) (8 + j)) cv0, lfP ct (fun j => (hsA g 0) (16 + j)) ps0]) H → va_D A (wl [lfX ct g xo, lfR ct (fun j => g (18 + j)) rv, lfH ct (hsA g 0) g h0, lfS ct (fun j => (hsA g 0) (12 + j)) nt0, lfS ct (fun j => (hsA g 0) (8 + j)) cv0, lfP ct (fun j => (hsA g 0) (16 + j)) ps0]) → va_S A s.heap H locs → lv_has ls 4 [(3, .int v3), (1, .long v1), (0, .ref (g 7))] → f_X11_digest_l55 fu n xo rv h0 nt0 cv0 ps0 v3 v1 = some ex → (∀ (x : Int64), ex = x → ∀ (H : Heap) (locs : List Loc) (ls : Array Slot), va_P G classes (wl [lfX ct g xo, lfR ct (fun j => g (18 + j)) rv, lfH ct (hsA g 0) g h0, lfS ct (fun j => (hsA g 0) (12 + j)) nt0, lfS ct (fun j => (hsA g 0) (8 + j)) cv0, lfP ct (fun j => (hsA g 0) (16 + j)) ps0]) H → va_D A (wl [lfX ct g xo, lfR ct (fun j => g (18 + j)) rv, lfH ct (hsA g 0) g h0, lfS ct (fun j => (hsA g 0) (12 + j)) nt0, lfS ct (fun j => (hsA g 0) (8 + j)) cv0, lfP ct (fun j => (hsA g 0) (16 + j)) ps0]) → va_S A s.heap H locs → lv_has ls 4 [(1, .long x), (0, .ref (g 7))] → WG l G ct sk sv p e (RM 3 64 0 0) s m args below meth c A (Eq2 (some (.long r)) (wl [lfX ct g xo, lfR ct (fun j => g (18 + j)) rv, lfH ct (hsA g 0) g h0, lfS ct (fun j => (hsA g 0) (12 + j)) nt0, lfS ct (fun j => (hsA g 0) (8 + j)) cv0, lfP ct (fun j => (hsA g 0) (16 + j)) ps0])) H locs (F0 m 113 ls [])) → WG l G ct sk sv p e (RM 3 64 0 0) s m args below meth c A (Eq2 (some (.long r)) (wl [lfX ct g xo, lfR ct (fun j => g (18 + j)) rv, lfH ct (hsA g 0) g h0, lfS ct (fun j => (hsA g 0) (12 + j)) nt0, lfS ct (fun j => (hsA g 0) (8 + j)) cv0, lfP ct (fun j => (hsA g 0) (16 + j)) ps0])) H locs (F0 m 55 ls []) := by
    intro fu
    induction fu with
    | zero =>
      intro v3 v1 ex H locs ls hP hD hS hl hf
      exact absurd hf (by unfold f_X11_digest_l55 lp; exact fun h => by cases h)
    | succ fu ih =>
      intro v3 v1 ex H locs ls hP hD hS hl hf hE
      unfold f_X11_digest_l55 at hf
      obtain ⟨q, hf, hor⟩ := lp_e hf
      replace hf : f_X11_digest_b55 n xo rv h0 nt0 cv0 ps0 v3 v1 = some q := hf
      unfold f_X11_digest_b55 at hf
      refine lv_iload_n hx hb dX11_digest_55 rfl (lv_at hl 0 rfl) ?_
      refine lv_aload_n hx hb dX11_digest_56 rfl (lv_at hl 2 rfl) ?_
      refine va_get (D := G) (C := RX11) (T := TX11) (N := 11) (v := .ref ((hsA g 0) 0)) hx hb hts iu_X11 hown hK hP 0 rfl rfl 0 (by decide) (hts _ kw262) (fun _ h9 => h9) rfl dX11_digest_57 ?_
      refine va_get (D := G) (C := RX1) (T := TX1) (N := 16) (v := .int (h0.1 0)) hx hb hts iu_X1 hown hK hP 5 rfl rfl 1 (by decide) (hts _ kw124) (fun _ h9 => h9) rfl dX11_digest_60 ?_
      refine lv_icmp_ge (tgt := 113) hx hb dX11_digest_63 (by decide) (fun c_5 => ?_) (fun c_5 => ?_)
      · replace hf := bc_t hf c_5
        exact hE v1 (lp_inr hor hf).symm _ _ _ hP hD hS (lv_sub hl [1, 2] rfl)
      · replace hf := bc_f hf c_5
        refine lv_lload_n hx hb dX11_digest_66 rfl (lv_at hl 1 rfl) ?_
        refine lv_aload_n hx hb dX11_digest_67 rfl (lv_at hl 2 rfl) ?_
        refine va_get (D := G) (C := RX11) (T := TX11) (N := 11) (v := .ref ((hsA g 0) 0)) hx hb hts iu_X11 hown hK hP 0 rfl rfl 0 (by decide) (hts _ kw262) (fun _ h9 => h9) rfl dX11_digest_68 ?_
        refine va_get (D := G) (C := RX1) (T := TX1) (N := 16) (v := .ref ((hsA g 0) 1)) hx hb hts iu_X1 hown hK hP 5 rfl rfl 2 (by decide) (hts _ kw128) (fun _ h9 => h9) rfl dX11_digest_71 ?_
        refine lv_iload_n hx hb dX11_digest_74 rfl (lv_at hl 0 rfl) ?_
        obtain ⟨g_6, hf⟩ := gd_e hf
        refine va_iald (f := h0.2.1 0) hx hb hK hP 6 0 rfl rfl g_6 dX11_digest_75 ?_
        refine lv_i2l (v := (h0.2.1 0 (ix v3) : Int32).toInt64) hx hb dX11_digest_76 rfl ?_
        obtain ⟨r_7, hc7, hf⟩ := bd_e hf
        refine call_S (As := [.long v1, .long ((h0.2.1 0 (ix v3) : Int32).toInt64)]) (rest := []) hx hb hml hown hts hK hP hD hS hA hZ lkX11_327 (Ctr.upL (c_X11_mix l G ct sk sv  n v1 ((h0.2.1 0 (ix v3) : Int32).toInt64) hc7) [lfX ct g xo, lfR ct (fun j => g (18 + j)) rv, lfH ct (hsA g 0) g h0, lfS ct (fun j => (hsA g 0) (12 + j)) nt0, lfS ct (fun j => (hsA g 0) (8 + j)) cv0, lfP ct (fun j => (hsA g 0) (16 + j)) ps0] [lfX ct g xo, lfR ct (fun j => g (18 + j)) rv, lfH ct (hsA g 0) g h0, lfS ct (fun j => (hsA g 0) (12 + j)) nt0, lfS ct (fun j => (hsA g 0) (8 + j)) cv0, lfP ct (fun j => (hsA g 0) (16 + j)) ps0] [lfX ct g xo, lfR ct (fun j => g (18 + j)) rv, lfH ct (hsA g 0) g h0, lfS ct (fun j => (hsA g 0) (12 + j)) nt0, lfS ct (fun j => (hsA g 0) (8 + j)) cv0, lfP ct (fun j => (hsA g 0) (16 + j)) ps0] [0, 1, 2, 3, 4, 5] 6 (by decide) rfl rfl rfl rfl) ⟨Nat.le_of_ble_eq_true rfl, Nat.le_of_ble_eq_true rfl⟩ rfl hl.1 rfl (Nat.le_of_ble_eq_true rfl) dX11_digest_77 ⟨Nat.le_of_ble_eq_true rfl, Nat.le_of_ble_eq_true rfl⟩ (fun r9 w9 H locs hB hP hD hS => ?_)
        obtain ⟨rfl, rfl⟩ := hB
        refine WG_eq (g2 := F0 m 80 ls [.long r_7]) rfl ?_
        refine lv_aload_n hx hb dX11_digest_80 rfl (lv_at hl 2 rfl) ?_
        refine va_get (D := G) (C := RX11) (T := TX11) (N := 11) (v := .ref ((hsA g 0) 0)) hx hb hts iu_X11 hown hK hP 0 rfl rfl 0 (by decide) (hts _ kw262) (fun _ h9 => h9) rfl dX11_digest_81 ?_
        refine va_get (D := G) (C := RX1) (T := TX1) (N := 16) (v := .ref ((hsA g 0) 2)) hx hb hts iu_X1 hown hK hP 5 rfl rfl 3 (by decide) (hts _ kw131) (fun _ h9 => h9) rfl dX11_digest_84 ?_
        refine lv_iload_n hx hb dX11_digest_87 rfl (lv_at hl 0 rfl) ?_
        obtain ⟨g_8, hf⟩ := gd_e hf
        refine va_iald (f := h0.2.1 1) hx hb hK hP 7 0 rfl rfl g_8 dX11_digest_88 ?_
        refine lv_i2l (v := (h0.2.1 1 (ix v3) : Int32).toInt64) hx hb dX11_digest_89 rfl ?_
        obtain ⟨r_9, hc9, hf⟩ := bd_e hf
        refine call_S (As := [.long r_7, .long ((h0.2.1 1 (ix v3) : Int32).toInt64)]) (rest := []) hx hb hml hown hts hK hP hD hS hA hZ lkX11_327 (Ctr.upL (c_X11_mix l G ct sk sv  n r_7 ((h0.2.1 1 (ix v3) : Int32).toInt64) hc9) [lfX ct g xo, lfR ct (fun j => g (18 + j)) rv, lfH ct (hsA g 0) g h0, lfS ct (fun j => (hsA g 0) (12 + j)) nt0, lfS ct (fun j => (hsA g 0) (8 + j)) cv0, lfP ct (fun j => (hsA g 0) (16 + j)) ps0] [lfX ct g xo, lfR ct (fun j => g (18 + j)) rv, lfH ct (hsA g 0) g h0, lfS ct (fun j => (hsA g 0) (12 + j)) nt0, lfS ct (fun j => (hsA g 0) (8 + j)) cv0, lfP ct (fun j => (hsA g 0) (16 + j)) ps0] [lfX ct g xo, lfR ct (fun j => g (18 + j)) rv, lfH ct (hsA g 0) g h0, lfS ct (fun j => (hsA g 0) (12 + j)) nt0, lfS ct (fun j => (hsA g 0) (8 + j)) cv0, lfP ct (fun j => (hsA g 0) (16 + j)) ps0] [0, 1, 2, 3, 4, 5] 6 (by decide) rfl rfl rfl rfl) ⟨Nat.le_of_ble_eq_true rfl, Nat.le_of_ble_eq_true rfl⟩ rfl hl.1 rfl (Nat.le_of_ble_eq_true rfl) dX11_digest_90 ⟨Nat.le_of_ble_eq_true rfl, Nat.le_of_ble_eq_true rfl⟩ (fun r9 w9 H locs hB hP hD hS => ?_)
        obtain ⟨rfl, rfl⟩ := hB
        refine WG_eq (g2 := F0 m 93 ls [.long r_9]) rfl ?_
        refine lv_aload_n hx hb dX11_digest_93 rfl (lv_at hl 2 rfl) ?_
        refine va_get (D := G) (C := RX11) (T := TX11) (N := 11) (v := .ref ((hsA g 0) 0)) hx hb hts iu_X11 hown hK hP 0 rfl rfl 0 (by decide) (hts _ kw262) (fun _ h9 => h9) rfl dX11_digest_94 ?_
        refine va_get (D := G) (C := RX1) (T := TX1) (N := 16) (v := .ref ((hsA g 0) 3)) hx hb hts iu_X1 hown hK hP 5 rfl rfl 4 (by decide) (hts _ kw134) (fun _ h9 => h9) rfl dX11_digest_97 ?_
        refine lv_iload_n hx hb dX11_digest_100 rfl (lv_at hl 0 rfl) ?_
        obtain ⟨g_10, hf⟩ := gd_e hf
        refine va_iald (f := h0.2.1 2) hx hb hK hP 8 0 rfl rfl g_10 dX11_digest_101 ?_
        refine lv_i2l (v := (h0.2.1 2 (ix v3) : Int32).toInt64) hx hb dX11_digest_102 rfl ?_
        obtain ⟨r_11, hc11, hf⟩ := bd_e hf
        refine call_S (As := [.long r_9, .long ((h0.2.1 2 (ix v3) : Int32).toInt64)]) (rest := []) hx hb hml hown hts hK hP hD hS hA hZ lkX11_327 (Ctr.upL (c_X11_mix l G ct sk sv  n r_9 ((h0.2.1 2 (ix v3) : Int32).toInt64) hc11) [lfX ct g xo, lfR ct (fun j => g (18 + j)) rv, lfH ct (hsA g 0) g h0, lfS ct (fun j => (hsA g 0) (12 + j)) nt0, lfS ct (fun j => (hsA g 0) (8 + j)) cv0, lfP ct (fun j => (hsA g 0) (16 + j)) ps0] [lfX ct g xo, lfR ct (fun j => g (18 + j)) rv, lfH ct (hsA g 0) g h0, lfS ct (fun j => (hsA g 0) (12 + j)) nt0, lfS ct (fun j => (hsA g 0) (8 + j)) cv0, lfP ct (fun j => (hsA g 0) (16 + j)) ps0] [lfX ct g xo, lfR ct (fun j => g (18 + j)) rv, lfH ct (hsA g 0) g h0, lfS ct (fun j => (hsA g 0) (12 + j)) nt0, lfS ct (fun j => (hsA g 0) (8 + j)) cv0, lfP ct (fun j => (hsA g 0) (16 + j)) ps0] [0, 1, 2, 3, 4, 5] 6 (by decide) rfl rfl rfl rfl) ⟨Nat.le_of_ble_eq_true rfl, Nat.le_of_ble_eq_true rfl⟩ rfl hl.1 rfl (Nat.le_of_ble_eq_true rfl) dX11_digest_103 ⟨Nat.le_of_ble_eq_true rfl, Nat.le_of_ble_eq_true rfl⟩ (fun r9 w9 H locs hB hP hD hS => ?_)
        obtain ⟨rfl, rfl⟩ := hB
        refine WG_eq (g2 := F0 m 106 ls [.long r_11]) rfl ?_
        refine lv_lstore_n (lv' := [(1, .long r_11), (3, .int v3), (0, .ref (g 7))]) hx hb dX11_digest_106 rfl hl (by decide) rfl (fun ls hl => ?_)
        obtain ⟨v3_12, ev3_12, hf⟩ := bl_e hf
        refine lv_iinc (v := v3_12) (lv' := [(3, .int v3_12), (1, .long r_11), (0, .ref (g 7))]) hx hb dX11_digest_107 hl (k := 1) rfl ev3_12 (by decide) rfl (fun ls hl => ?_)
        refine lv_goto (tgt := 55) hx hb dX11_digest_110 (by decide) ?_
        exact ih v3_12 r_11 ex _ _ _ hP hD hS hl (lp_inl hor hf) hE
  have L115 : ∀ (fu : Nat) (v3 : Int32) (v1 : Int64) (ex : Int64) (H : Heap) (locs : List Loc) (ls : Array Slot), va_P G classes (wl [lfX ct g xo, lfR ct (fun j => g (18 + j)) rv, lfH ct (hsA g 0) g h0, lfS ct (fun j => (hsA g 0) (12 + j)) nt0, lfS ct (fun j => (hsA g 0) (8 + j)) cv0, lfP ct (fun j => (hsA g 0) (16 + j)) ps0]) H → va_D A (wl [lfX ct g xo, lfR ct (fun j => g (18 + j)) rv, lfH ct (hsA g 0) g h0, lfS ct (fun j => (hsA g 0) (12 + j)) nt0, lfS ct (fun j => (hsA g 0) (8 + j)) cv0, lfP ct (fun j => (hsA g 0) (16 + j)) ps0]) → va_S A s.heap H locs → lv_has ls 4 [(3, .int v3), (1, .long v1), (0, .ref (g 7))] → f_X11_digest_l115 fu n xo rv h0 nt0 cv0 ps0 v3 v1 = some ex → (∀ (x : Int64), ex = x → ∀ (H : Heap) (locs : List Loc) (ls : Array Slot), va_P G classes (wl [lfX ct g xo, lfR ct (fun j => g (18 + j)) rv, lfH ct (hsA g 0) g h0, lfS ct (fun j => (hsA g 0) (12 + j)) nt0, lfS ct (fun j => (hsA g 0) (8 + j)) cv0, lfP ct (fun j => (hsA g 0) (16 + j)) ps0]) H → va_D A (wl [lfX ct g xo, lfR ct (fun j => g (18 + j)) rv, lfH ct (hsA g 0) g h0, lfS ct (fun j => (hsA g 0) (12 + j)) nt0, lfS ct (fun j => (hsA g 0) (8 + j)) cv0, lfP ct (fun j => (hsA g 0) (16 + j)) ps0]) → va_S A s.heap H locs → lv_has ls 4 [(1, .long x), (0, .ref (g 7))] → WG l G ct sk sv p e (RM 3 64 0 0) s m args below meth c A (Eq2 (some (.long r)) (wl [lfX ct g xo, lfR ct (fun j => g (18 + j)) rv, lfH ct (hsA g 0) g h0, lfS ct (fun j => (hsA g 0) (12 + j)) nt0, lfS ct (fun j => (hsA g 0) (8 + j)) cv0, lfP ct (fun j => (hsA g 0) (16 + j)) ps0])) H locs (F0 m 188 ls [])) → WG l G ct sk sv p e (RM 3 64 0 0) s m args below meth c A (Eq2 (some (.long r)) (wl [lfX ct g xo, lfR ct (fun j => g (18 + j)) rv, lfH ct (hsA g 0) g h0, lfS ct (fun j => (hsA g 0) (12 + j)) nt0, lfS ct (fun j => (hsA g 0) (8 + j)) cv0, lfP ct (fun j => (hsA g 0) (16 + j)) ps0])) H locs (F0 m 115 ls []) := by
    intro fu
    induction fu with
    | zero =>
      intro v3 v1 ex H locs ls hP hD hS hl hf
      exact absurd hf (by unfold f_X11_digest_l115 lp; exact fun h => by cases h)
    | succ fu ih =>
      intro v3 v1 ex H locs ls hP hD hS hl hf hE
      unfold f_X11_digest_l115 at hf
      obtain ⟨q, hf, hor⟩ := lp_e hf
      replace hf : f_X11_digest_b115 n xo rv h0 nt0 cv0 ps0 v3 v1 = some q := hf
      unfold f_X11_digest_b115 at hf
      refine lv_iload_n hx hb dX11_digest_115 rfl (lv_at hl 0 rfl) ?_
      refine lv_aload_n hx hb dX11_digest_116 rfl (lv_at hl 2 rfl) ?_
      refine va_get (D := G) (C := RX11) (T := TX11) (N := 11) (v := .ref ((hsA g 0) 0)) hx hb hts iu_X11 hown hK hP 0 rfl rfl 0 (by decide) (hts _ kw262) (fun _ h9 => h9) rfl dX11_digest_117 ?_
      refine va_get (D := G) (C := RX1) (T := TX1) (N := 16) (v := .int (h0.1 1)) hx hb hts iu_X1 hown hK hP 5 rfl rfl 5 (by decide) (hts _ kw137) (fun _ h9 => h9) rfl dX11_digest_120 ?_
      refine lv_icmp_ge (tgt := 188) hx hb dX11_digest_123 (by decide) (fun c_13 => ?_) (fun c_13 => ?_)
      · replace hf := bc_t hf c_13
        exact hE v1 (lp_inr hor hf).symm _ _ _ hP hD hS (lv_sub hl [1, 2] rfl)
      · replace hf := bc_f hf c_13
        refine lv_lload_n hx hb dX11_digest_126 rfl (lv_at hl 1 rfl) ?_
        refine lv_aload_n hx hb dX11_digest_127 rfl (lv_at hl 2 rfl) ?_
        refine va_get (D := G) (C := RX11) (T := TX11) (N := 11) (v := .ref ((hsA g 0) 0)) hx hb hts iu_X11 hown hK hP 0 rfl rfl 0 (by decide) (hts _ kw262) (fun _ h9 => h9) rfl dX11_digest_128 ?_
        refine va_get (D := G) (C := RX1) (T := TX1) (N := 16) (v := .ref ((hsA g 0) 4)) hx hb hts iu_X1 hown hK hP 5 rfl rfl 6 (by decide) (hts _ kw140) (fun _ h9 => h9) rfl dX11_digest_131 ?_
        refine lv_iload_n hx hb dX11_digest_134 rfl (lv_at hl 0 rfl) ?_
        obtain ⟨g_14, hf⟩ := gd_e hf
        refine va_iald (f := h0.2.1 3) hx hb hK hP 9 0 rfl rfl g_14 dX11_digest_135 ?_
        refine lv_i2l (v := (h0.2.1 3 (ix v3) : Int32).toInt64) hx hb dX11_digest_136 rfl ?_
        obtain ⟨r_15, hc15, hf⟩ := bd_e hf
        refine call_S (As := [.long v1, .long ((h0.2.1 3 (ix v3) : Int32).toInt64)]) (rest := []) hx hb hml hown hts hK hP hD hS hA hZ lkX11_327 (Ctr.upL (c_X11_mix l G ct sk sv  n v1 ((h0.2.1 3 (ix v3) : Int32).toInt64) hc15) [lfX ct g xo, lfR ct (fun j => g (18 + j)) rv, lfH ct (hsA g 0) g h0, lfS ct (fun j => (hsA g 0) (12 + j)) nt0, lfS ct (fun j => (hsA g 0) (8 + j)) cv0, lfP ct (fun j => (hsA g 0) (16 + j)) ps0] [lfX ct g xo, lfR ct (fun j => g (18 + j)) rv, lfH ct (hsA g 0) g h0, lfS ct (fun j => (hsA g 0) (12 + j)) nt0, lfS ct (fun j => (hsA g 0) (8 + j)) cv0, lfP ct (fun j => (hsA g 0) (16 + j)) ps0] [lfX ct g xo, lfR ct (fun j => g (18 + j)) rv, lfH ct (hsA g 0) g h0, lfS ct (fun j => (hsA g 0) (12 + j)) nt0, lfS ct (fun j => (hsA g 0) (8 + j)) cv0, lfP ct (fun j => (hsA g 0) (16 + j)) ps0] [0, 1, 2, 3, 4, 5] 6 (by decide) rfl rfl rfl rfl) ⟨Nat.le_of_ble_eq_true rfl, Nat.le_of_ble_eq_true rfl⟩ rfl hl.1 rfl (Nat.le_of_ble_eq_true rfl) dX11_digest_137 ⟨Nat.le_of_ble_eq_true rfl, Nat.le_of_ble_eq_true rfl⟩ (fun r9 w9 H locs hB hP hD hS => ?_)
        obtain ⟨rfl, rfl⟩ := hB
        refine WG_eq (g2 := F0 m 140 ls [.long r_15]) rfl ?_
        refine lv_aload_n hx hb dX11_digest_140 rfl (lv_at hl 2 rfl) ?_
        refine va_get (D := G) (C := RX11) (T := TX11) (N := 11) (v := .ref ((hsA g 0) 0)) hx hb hts iu_X11 hown hK hP 0 rfl rfl 0 (by decide) (hts _ kw262) (fun _ h9 => h9) rfl dX11_digest_141 ?_
        refine va_get (D := G) (C := RX1) (T := TX1) (N := 16) (v := .ref ((hsA g 0) 5)) hx hb hts iu_X1 hown hK hP 5 rfl rfl 7 (by decide) (hts _ kw142) (fun _ h9 => h9) rfl dX11_digest_144 ?_
        refine lv_iload_n hx hb dX11_digest_147 rfl (lv_at hl 0 rfl) ?_
        obtain ⟨g_16, hf⟩ := gd_e hf
        refine va_iald (f := h0.2.1 4) hx hb hK hP 10 0 rfl rfl g_16 dX11_digest_148 ?_
        refine lv_i2l (v := (h0.2.1 4 (ix v3) : Int32).toInt64) hx hb dX11_digest_149 rfl ?_
        obtain ⟨r_17, hc17, hf⟩ := bd_e hf
        refine call_S (As := [.long r_15, .long ((h0.2.1 4 (ix v3) : Int32).toInt64)]) (rest := []) hx hb hml hown hts hK hP hD hS hA hZ lkX11_327 (Ctr.upL (c_X11_mix l G ct sk sv  n r_15 ((h0.2.1 4 (ix v3) : Int32).toInt64) hc17) [lfX ct g xo, lfR ct (fun j => g (18 + j)) rv, lfH ct (hsA g 0) g h0, lfS ct (fun j => (hsA g 0) (12 + j)) nt0, lfS ct (fun j => (hsA g 0) (8 + j)) cv0, lfP ct (fun j => (hsA g 0) (16 + j)) ps0] [lfX ct g xo, lfR ct (fun j => g (18 + j)) rv, lfH ct (hsA g 0) g h0, lfS ct (fun j => (hsA g 0) (12 + j)) nt0, lfS ct (fun j => (hsA g 0) (8 + j)) cv0, lfP ct (fun j => (hsA g 0) (16 + j)) ps0] [lfX ct g xo, lfR ct (fun j => g (18 + j)) rv, lfH ct (hsA g 0) g h0, lfS ct (fun j => (hsA g 0) (12 + j)) nt0, lfS ct (fun j => (hsA g 0) (8 + j)) cv0, lfP ct (fun j => (hsA g 0) (16 + j)) ps0] [0, 1, 2, 3, 4, 5] 6 (by decide) rfl rfl rfl rfl) ⟨Nat.le_of_ble_eq_true rfl, Nat.le_of_ble_eq_true rfl⟩ rfl hl.1 rfl (Nat.le_of_ble_eq_true rfl) dX11_digest_150 ⟨Nat.le_of_ble_eq_true rfl, Nat.le_of_ble_eq_true rfl⟩ (fun r9 w9 H locs hB hP hD hS => ?_)
        obtain ⟨rfl, rfl⟩ := hB
        refine WG_eq (g2 := F0 m 153 ls [.long r_17]) rfl ?_
        refine lv_lstore_n (lv' := [(1, .long r_17), (3, .int v3), (0, .ref (g 7))]) hx hb dX11_digest_153 rfl hl (by decide) rfl (fun ls hl => ?_)
        refine lv_lload_n hx hb dX11_digest_154 rfl (lv_at hl 0 rfl) ?_
        refine lv_aload_n hx hb dX11_digest_155 rfl (lv_at hl 2 rfl) ?_
        refine va_get (D := G) (C := RX11) (T := TX11) (N := 11) (v := .ref ((hsA g 0) 0)) hx hb hts iu_X11 hown hK hP 0 rfl rfl 0 (by decide) (hts _ kw262) (fun _ h9 => h9) rfl dX11_digest_156 ?_
        refine va_get (D := G) (C := RX1) (T := TX1) (N := 16) (v := .ref ((hsA g 0) 6)) hx hb hts iu_X1 hown hK hP 5 rfl rfl 8 (by decide) (hts _ kw144) (fun _ h9 => h9) rfl dX11_digest_159 ?_
        refine lv_iload_n hx hb dX11_digest_162 rfl (lv_at hl 1 rfl) ?_
        obtain ⟨g_18, hf⟩ := gd_e hf
        refine va_iald (f := h0.2.1 5) hx hb hK hP 11 0 rfl rfl g_18 dX11_digest_163 ?_
        refine lv_i2l (v := (h0.2.1 5 (ix v3) : Int32).toInt64) hx hb dX11_digest_164 rfl ?_
        obtain ⟨r_19, hc19, hf⟩ := bd_e hf
        refine call_S (As := [.long r_17, .long ((h0.2.1 5 (ix v3) : Int32).toInt64)]) (rest := []) hx hb hml hown hts hK hP hD hS hA hZ lkX11_327 (Ctr.upL (c_X11_mix l G ct sk sv  n r_17 ((h0.2.1 5 (ix v3) : Int32).toInt64) hc19) [lfX ct g xo, lfR ct (fun j => g (18 + j)) rv, lfH ct (hsA g 0) g h0, lfS ct (fun j => (hsA g 0) (12 + j)) nt0, lfS ct (fun j => (hsA g 0) (8 + j)) cv0, lfP ct (fun j => (hsA g 0) (16 + j)) ps0] [lfX ct g xo, lfR ct (fun j => g (18 + j)) rv, lfH ct (hsA g 0) g h0, lfS ct (fun j => (hsA g 0) (12 + j)) nt0, lfS ct (fun j => (hsA g 0) (8 + j)) cv0, lfP ct (fun j => (hsA g 0) (16 + j)) ps0] [lfX ct g xo, lfR ct (fun j => g (18 + j)) rv, lfH ct (hsA g 0) g h0, lfS ct (fun j => (hsA g 0) (12 + j)) nt0, lfS ct (fun j => (hsA g 0) (8 + j)) cv0, lfP ct (fun j => (hsA g 0) (16 + j)) ps0] [0, 1, 2, 3, 4, 5] 6 (by decide) rfl rfl rfl rfl) ⟨Nat.le_of_ble_eq_true rfl, Nat.le_of_ble_eq_true rfl⟩ rfl hl.1 rfl (Nat.le_of_ble_eq_true rfl) dX11_digest_165 ⟨Nat.le_of_ble_eq_true rfl, Nat.le_of_ble_eq_true rfl⟩ (fun r9 w9 H locs hB hP hD hS => ?_)
        obtain ⟨rfl, rfl⟩ := hB
        refine WG_eq (g2 := F0 m 168 ls [.long r_19]) rfl ?_
        refine lv_aload_n hx hb dX11_digest_168 rfl (lv_at hl 2 rfl) ?_
        refine va_get (D := G) (C := RX11) (T := TX11) (N := 11) (v := .ref ((hsA g 0) 0)) hx hb hts iu_X11 hown hK hP 0 rfl rfl 0 (by decide) (hts _ kw262) (fun _ h9 => h9) rfl dX11_digest_169 ?_
        refine va_get (D := G) (C := RX1) (T := TX1) (N := 16) (v := .ref ((hsA g 0) 7)) hx hb hts iu_X1 hown hK hP 5 rfl rfl 9 (by decide) (hts _ kw147) (fun _ h9 => h9) rfl dX11_digest_172 ?_
        refine lv_iload_n hx hb dX11_digest_175 rfl (lv_at hl 1 rfl) ?_
        obtain ⟨g_20, hf⟩ := gd_e hf
        refine va_iald (f := h0.2.1 6) hx hb hK hP 12 0 rfl rfl g_20 dX11_digest_176 ?_
        refine lv_i2l (v := (h0.2.1 6 (ix v3) : Int32).toInt64) hx hb dX11_digest_177 rfl ?_
        obtain ⟨r_21, hc21, hf⟩ := bd_e hf
        refine call_S (As := [.long r_19, .long ((h0.2.1 6 (ix v3) : Int32).toInt64)]) (rest := []) hx hb hml hown hts hK hP hD hS hA hZ lkX11_327 (Ctr.upL (c_X11_mix l G ct sk sv  n r_19 ((h0.2.1 6 (ix v3) : Int32).toInt64) hc21) [lfX ct g xo, lfR ct (fun j => g (18 + j)) rv, lfH ct (hsA g 0) g h0, lfS ct (fun j => (hsA g 0) (12 + j)) nt0, lfS ct (fun j => (hsA g 0) (8 + j)) cv0, lfP ct (fun j => (hsA g 0) (16 + j)) ps0] [lfX ct g xo, lfR ct (fun j => g (18 + j)) rv, lfH ct (hsA g 0) g h0, lfS ct (fun j => (hsA g 0) (12 + j)) nt0, lfS ct (fun j => (hsA g 0) (8 + j)) cv0, lfP ct (fun j => (hsA g 0) (16 + j)) ps0] [lfX ct g xo, lfR ct (fun j => g (18 + j)) rv, lfH ct (hsA g 0) g h0, lfS ct (fun j => (hsA g 0) (12 + j)) nt0, lfS ct (fun j => (hsA g 0) (8 + j)) cv0, lfP ct (fun j => (hsA g 0) (16 + j)) ps0] [0, 1, 2, 3, 4, 5] 6 (by decide) rfl rfl rfl rfl) ⟨Nat.le_of_ble_eq_true rfl, Nat.le_of_ble_eq_true rfl⟩ rfl hl.1 rfl (Nat.le_of_ble_eq_true rfl) dX11_digest_178 ⟨Nat.le_of_ble_eq_true rfl, Nat.le_of_ble_eq_true rfl⟩ (fun r9 w9 H locs hB hP hD hS => ?_)
        obtain ⟨rfl, rfl⟩ := hB
        refine WG_eq (g2 := F0 m 181 ls [.long r_21]) rfl ?_
        refine lv_lstore_n (lv' := [(1, .long r_21), (3, .int v3), (0, .ref (g 7))]) hx hb dX11_digest_181 rfl hl (by decide) rfl (fun ls hl => ?_)
        obtain ⟨v3_22, ev3_22, hf⟩ := bl_e hf
        refine lv_iinc (v := v3_22) (lv' := [(3, .int v3_22), (1, .long r_21), (0, .ref (g 7))]) hx hb dX11_digest_182 hl (k := 1) rfl ev3_22 (by decide) rfl (fun ls hl => ?_)
        refine lv_goto (tgt := 115) hx hb dX11_digest_185 (by decide) ?_
        exact ih v3_22 r_21 ex _ _ _ hP hD hS hl (lp_inl hor hf) hE
  unfold f_X11_digest at hf
  show WG l G ct sk sv p e (RM 3 64 0 0) s m args below meth c A (Eq2 (some (.long r)) (wl [lfX ct g xo, lfR ct (fun j => g (18 + j)) rv, lfH ct (hsA g 0) g h0, lfS ct (fun j => (hsA g 0) (12 + j)) nt0, lfS ct (fun j => (hsA g 0) (8 + j)) cv0, lfP ct (fun j => (hsA g 0) (16 + j)) ps0])) s.heap [] (F0 m 0 ls [])
  refine lv_ldc2 (v := 1289) hx hb hown (hts _ kw870) dX11_digest_0 ?_
  refine lv_lstore_n (lv' := [(1, .long 1289), (0, .ref (g 7))]) hx hb dX11_digest_3 rfl hl (by decide) rfl (fun ls hl => ?_)
  refine lv_iconst (v := 0) hx hb dX11_digest_4 (by decide) ?_
  refine lv_istore_n (lv' := [(3, .int 0), (1, .long 1289), (0, .ref (g 7))]) hx hb dX11_digest_5 rfl hl (by decide) rfl (fun ls hl => ?_)
  obtain ⟨v1_23, hx_24, hf⟩ := bd_e hf
  refine L6 n 0 1289 v1_23 _ _ _ hP hD hS hl hx_24 ?_
  intro x9 e9 H locs ls hP hD hS hl
  subst e9
  have hP : va_P G classes (wl [lfX ct g xo, lfR ct (fun j => g (18 + j)) rv, lfH ct (hsA g 0) g h0, lfS ct (fun j => (hsA g 0) (12 + j)) nt0, lfS ct (fun j => (hsA g 0) (8 + j)) cv0, lfP ct (fun j => (hsA g 0) (16 + j)) ps0]) H := hP
  have hD : va_D A (wl [lfX ct g xo, lfR ct (fun j => g (18 + j)) rv, lfH ct (hsA g 0) g h0, lfS ct (fun j => (hsA g 0) (12 + j)) nt0, lfS ct (fun j => (hsA g 0) (8 + j)) cv0, lfP ct (fun j => (hsA g 0) (16 + j)) ps0]) := hD
  have hl : lv_has ls 4 [(1, .long v1_23), (0, .ref (g 7))] := hl
  refine lv_lload_n hx hb dX11_digest_29 rfl (lv_at hl 0 rfl) ?_
  refine lv_aload_n hx hb dX11_digest_30 rfl (lv_at hl 1 rfl) ?_
  refine va_get (D := G) (C := RX11) (T := TX11) (N := 11) (v := .ref ((hsA g 0) 0)) hx hb hts iu_X11 hown hK hP 0 rfl rfl 0 (by decide) (hts _ kw262) (fun _ h9 => h9) rfl dX11_digest_31 ?_
  refine va_get (D := G) (C := RX1) (T := TX1) (N := 16) (v := .int (h0.1 3)) hx hb hts iu_X1 hown hK hP 5 rfl rfl 11 (by decide) (hts _ kw153) (fun _ h9 => h9) rfl dX11_digest_34 ?_
  refine lv_i2l (v := (h0.1 3 : Int32).toInt64) hx hb dX11_digest_37 rfl ?_
  obtain ⟨r_25, hc25, hf⟩ := bd_e hf
  refine call_S (As := [.long v1_23, .long ((h0.1 3 : Int32).toInt64)]) (rest := []) hx hb hml hown hts hK hP hD hS hA hZ lkX11_327 (Ctr.upL (c_X11_mix l G ct sk sv  n v1_23 ((h0.1 3 : Int32).toInt64) hc25) [lfX ct g xo, lfR ct (fun j => g (18 + j)) rv, lfH ct (hsA g 0) g h0, lfS ct (fun j => (hsA g 0) (12 + j)) nt0, lfS ct (fun j => (hsA g 0) (8 + j)) cv0, lfP ct (fun j => (hsA g 0) (16 + j)) ps0] [lfX ct g xo, lfR ct (fun j => g (18 + j)) rv, lfH ct (hsA g 0) g h0, lfS ct (fun j => (hsA g 0) (12 + j)) nt0, lfS ct (fun j => (hsA g 0) (8 + j)) cv0, lfP ct (fun j => (hsA g 0) (16 + j)) ps0] [lfX ct g xo, lfR ct (fun j => g (18 + j)) rv, lfH ct (hsA g 0) g h0, lfS ct (fun j => (hsA g 0) (12 + j)) nt0, lfS ct (fun j => (hsA g 0) (8 + j)) cv0, lfP ct (fun j => (hsA g 0) (16 + j)) ps0] [0, 1, 2, 3, 4, 5] 6 (by decide) rfl rfl rfl rfl) ⟨Nat.le_of_ble_eq_true rfl, Nat.le_of_ble_eq_true rfl⟩ rfl hl.1 rfl (Nat.le_of_ble_eq_true rfl) dX11_digest_38 ⟨Nat.le_of_ble_eq_true rfl, Nat.le_of_ble_eq_true rfl⟩ (fun r9 w9 H locs hB hP hD hS => ?_)
  obtain ⟨rfl, rfl⟩ := hB
  refine WG_eq (g2 := F0 m 41 ls [.long r_25]) rfl ?_
  refine lv_aload_n hx hb dX11_digest_41 rfl (lv_at hl 1 rfl) ?_
  refine va_get (D := G) (C := RX11) (T := TX11) (N := 11) (v := .ref ((hsA g 0) 0)) hx hb hts iu_X11 hown hK hP 0 rfl rfl 0 (by decide) (hts _ kw262) (fun _ h9 => h9) rfl dX11_digest_42 ?_
  refine va_get (D := G) (C := RX1) (T := TX1) (N := 16) (v := .int (h0.1 4)) hx hb hts iu_X1 hown hK hP 5 rfl rfl 12 (by decide) (hts _ kw156) (fun _ h9 => h9) rfl dX11_digest_45 ?_
  refine lv_i2l (v := (h0.1 4 : Int32).toInt64) hx hb dX11_digest_48 rfl ?_
  obtain ⟨r_26, hc26, hf⟩ := bd_e hf
  refine call_S (As := [.long r_25, .long ((h0.1 4 : Int32).toInt64)]) (rest := []) hx hb hml hown hts hK hP hD hS hA hZ lkX11_327 (Ctr.upL (c_X11_mix l G ct sk sv  n r_25 ((h0.1 4 : Int32).toInt64) hc26) [lfX ct g xo, lfR ct (fun j => g (18 + j)) rv, lfH ct (hsA g 0) g h0, lfS ct (fun j => (hsA g 0) (12 + j)) nt0, lfS ct (fun j => (hsA g 0) (8 + j)) cv0, lfP ct (fun j => (hsA g 0) (16 + j)) ps0] [lfX ct g xo, lfR ct (fun j => g (18 + j)) rv, lfH ct (hsA g 0) g h0, lfS ct (fun j => (hsA g 0) (12 + j)) nt0, lfS ct (fun j => (hsA g 0) (8 + j)) cv0, lfP ct (fun j => (hsA g 0) (16 + j)) ps0] [lfX ct g xo, lfR ct (fun j => g (18 + j)) rv, lfH ct (hsA g 0) g h0, lfS ct (fun j => (hsA g 0) (12 + j)) nt0, lfS ct (fun j => (hsA g 0) (8 + j)) cv0, lfP ct (fun j => (hsA g 0) (16 + j)) ps0] [0, 1, 2, 3, 4, 5] 6 (by decide) rfl rfl rfl rfl) ⟨Nat.le_of_ble_eq_true rfl, Nat.le_of_ble_eq_true rfl⟩ rfl hl.1 rfl (Nat.le_of_ble_eq_true rfl) dX11_digest_49 ⟨Nat.le_of_ble_eq_true rfl, Nat.le_of_ble_eq_true rfl⟩ (fun r9 w9 H locs hB hP hD hS => ?_)
  obtain ⟨rfl, rfl⟩ := hB
  refine WG_eq (g2 := F0 m 52 ls [.long r_26]) rfl ?_
  refine lv_lstore_n (lv' := [(1, .long r_26), (0, .ref (g 7))]) hx hb dX11_digest_52 rfl hl (by decide) rfl (fun ls hl => ?_)
  refine lv_iconst (v := 0) hx hb dX11_digest_53 (by decide) ?_
  refine lv_istore_n (lv' := [(3, .int 0), (1, .long r_26), (0, .ref (g 7))]) hx hb dX11_digest_54 rfl hl (by decide) rfl (fun ls hl => ?_)
  obtain ⟨v1_27, hx_28, hf⟩ := bd_e hf
  refine L55 n 0 r_26 v1_27 _ _ _ hP hD hS hl hx_28 ?_
  intro x9 e9 H locs ls hP hD hS hl
  subst e9
  have hP : va_P G classes (wl [lfX ct g xo, lfR ct (fun j => g (18 + j)) rv, lfH ct (hsA g 0) g h0, lfS ct (fun j => (hsA g 0) (12 + j)) nt0, lfS ct (fun j => (hsA g 0) (8 + j)) cv0, lfP ct (fun j => (hsA g 0) (16 + j)) ps0]) H := hP
  have hD : va_D A (wl [lfX ct g xo, lfR ct (fun j => g (18 + j)) rv, lfH ct (hsA g 0) g h0, lfS ct (fun j => (hsA g 0) (12 + j)) nt0, lfS ct (fun j => (hsA g 0) (8 + j)) cv0, lfP ct (fun j => (hsA g 0) (16 + j)) ps0]) := hD
  have hl : lv_has ls 4 [(1, .long v1_27), (0, .ref (g 7))] := hl
  refine lv_iconst (v := 0) hx hb dX11_digest_113 (by decide) ?_
  refine lv_istore_n (lv' := [(3, .int 0), (1, .long v1_27), (0, .ref (g 7))]) hx hb dX11_digest_114 rfl hl (by decide) rfl (fun ls hl => ?_)
  obtain ⟨v1_29, hx_30, hf⟩ := bd_e hf
  refine L115 n 0 v1_27 v1_29 _ _ _ hP hD hS hl hx_30 ?_
  intro x9 e9 H locs ls hP hD hS hl
  subst e9
  have hP : va_P G classes (wl [lfX ct g xo, lfR ct (fun j => g (18 + j)) rv, lfH ct (hsA g 0) g h0, lfS ct (fun j => (hsA g 0) (12 + j)) nt0, lfS ct (fun j => (hsA g 0) (8 + j)) cv0, lfP ct (fun j => (hsA g 0) (16 + j)) ps0]) H := hP
  have hD : va_D A (wl [lfX ct g xo, lfR ct (fun j => g (18 + j)) rv, lfH ct (hsA g 0) g h0, lfS ct (fun j => (hsA g 0) (12 + j)) nt0, lfS ct (fun j => (hsA g 0) (8 + j)) cv0, lfP ct (fun j => (hsA g 0) (16 + j)) ps0]) := hD
  have hl : lv_has ls 4 [(1, .long v1_29), (0, .ref (g 7))] := hl
  refine lv_lload_n hx hb dX11_digest_188 rfl (lv_at hl 0 rfl) ?_
  refine lv_aload_n hx hb dX11_digest_189 rfl (lv_at hl 1 rfl) ?_
  refine va_get (D := G) (C := RX11) (T := TX11) (N := 11) (v := .ref ((hsA g 0) 0)) hx hb hts iu_X11 hown hK hP 0 rfl rfl 0 (by decide) (hts _ kw262) (fun _ h9 => h9) rfl dX11_digest_190 ?_
  refine va_get (D := G) (C := RX1) (T := TX1) (N := 16) (v := .ref ((hsA g 0) 8)) hx hb hts iu_X1 hown hK hP 5 rfl rfl 13 (by decide) (hts _ kw158) (fun _ h9 => h9) rfl dX11_digest_193 ?_
  obtain ⟨r_31, hc31, hf⟩ := bd_e hf
  refine call_S (As := [.long v1_29, .ref ((hsA g 0) 8)]) (rest := []) hx hb hml hown hts hK hP hD hS hA hZ lkX11_331 (Ctr.upL (c_X11_mixSlips l G ct sk sv (fun j => (hsA g 0) (8 + j)) n cv0 v1_29 hc31) [lfX ct g xo, lfR ct (fun j => g (18 + j)) rv, lfH ct (hsA g 0) g h0, lfS ct (fun j => (hsA g 0) (12 + j)) nt0, lfP ct (fun j => (hsA g 0) (16 + j)) ps0] [lfX ct g xo, lfR ct (fun j => g (18 + j)) rv, lfH ct (hsA g 0) g h0, lfS ct (fun j => (hsA g 0) (12 + j)) nt0, lfS ct (fun j => (hsA g 0) (8 + j)) cv0, lfP ct (fun j => (hsA g 0) (16 + j)) ps0] [lfX ct g xo, lfR ct (fun j => g (18 + j)) rv, lfH ct (hsA g 0) g h0, lfS ct (fun j => (hsA g 0) (12 + j)) nt0, lfS ct (fun j => (hsA g 0) (8 + j)) cv0, lfP ct (fun j => (hsA g 0) (16 + j)) ps0] [4, 0, 1, 2, 3, 5] 6 (by decide) rfl rfl rfl rfl) ⟨Nat.le_of_ble_eq_true rfl, Nat.le_of_ble_eq_true rfl⟩ rfl hl.1 rfl (Nat.le_of_ble_eq_true rfl) dX11_digest_196 ⟨Nat.le_of_ble_eq_true rfl, Nat.le_of_ble_eq_true rfl⟩ (fun r9 w9 H locs hB hP hD hS => ?_)
  obtain ⟨rfl, rfl⟩ := hB
  refine WG_eq (g2 := F0 m 199 ls [.long r_31]) rfl ?_
  refine lv_aload_n hx hb dX11_digest_199 rfl (lv_at hl 1 rfl) ?_
  refine va_get (D := G) (C := RX11) (T := TX11) (N := 11) (v := .ref ((hsA g 0) 0)) hx hb hts iu_X11 hown hK hP 0 rfl rfl 0 (by decide) (hts _ kw262) (fun _ h9 => h9) rfl dX11_digest_200 ?_
  refine va_get (D := G) (C := RX1) (T := TX1) (N := 16) (v := .ref ((hsA g 0) 12)) hx hb hts iu_X1 hown hK hP 5 rfl rfl 14 (by decide) (hts _ kw160) (fun _ h9 => h9) rfl dX11_digest_203 ?_
  obtain ⟨r_32, hc32, hf⟩ := bd_e hf
  refine call_S (As := [.long r_31, .ref ((hsA g 0) 12)]) (rest := []) hx hb hml hown hts hK hP hD hS hA hZ lkX11_331 (Ctr.upL (c_X11_mixSlips l G ct sk sv (fun j => (hsA g 0) (12 + j)) n nt0 r_31 hc32) [lfX ct g xo, lfR ct (fun j => g (18 + j)) rv, lfH ct (hsA g 0) g h0, lfS ct (fun j => (hsA g 0) (8 + j)) cv0, lfP ct (fun j => (hsA g 0) (16 + j)) ps0] [lfX ct g xo, lfR ct (fun j => g (18 + j)) rv, lfH ct (hsA g 0) g h0, lfS ct (fun j => (hsA g 0) (12 + j)) nt0, lfS ct (fun j => (hsA g 0) (8 + j)) cv0, lfP ct (fun j => (hsA g 0) (16 + j)) ps0] [lfX ct g xo, lfR ct (fun j => g (18 + j)) rv, lfH ct (hsA g 0) g h0, lfS ct (fun j => (hsA g 0) (12 + j)) nt0, lfS ct (fun j => (hsA g 0) (8 + j)) cv0, lfP ct (fun j => (hsA g 0) (16 + j)) ps0] [3, 0, 1, 2, 4, 5] 6 (by decide) rfl rfl rfl rfl) ⟨Nat.le_of_ble_eq_true rfl, Nat.le_of_ble_eq_true rfl⟩ rfl hl.1 rfl (Nat.le_of_ble_eq_true rfl) dX11_digest_206 ⟨Nat.le_of_ble_eq_true rfl, Nat.le_of_ble_eq_true rfl⟩ (fun r9 w9 H locs hB hP hD hS => ?_)
  obtain ⟨rfl, rfl⟩ := hB
  refine WG_eq (g2 := F0 m 209 ls [.long r_32]) rfl ?_
  refine lv_lstore_n (lv' := [(1, .long r_32), (0, .ref (g 7))]) hx hb dX11_digest_209 rfl hl (by decide) rfl (fun ls hl => ?_)
  refine lv_lload_n hx hb dX11_digest_210 rfl (lv_at hl 0 rfl) ?_
  refine lv_aload_n hx hb dX11_digest_211 rfl (lv_at hl 1 rfl) ?_
  refine va_get (D := G) (C := RX11) (T := TX11) (N := 11) (v := .long (xo.2.2 0)) hx hb hts iu_X11 hown hK hP 0 rfl rfl 6 (by decide) (hts _ kw268) (fun _ h9 => h9) rfl dX11_digest_212 ?_
  obtain ⟨r_33, hc33, hf⟩ := bd_e hf
  refine call_S (As := [.long r_32, .long (xo.2.2 0)]) (rest := []) hx hb hml hown hts hK hP hD hS hA hZ lkX11_327 (Ctr.upL (c_X11_mix l G ct sk sv  n r_32 (xo.2.2 0) hc33) [lfX ct g xo, lfR ct (fun j => g (18 + j)) rv, lfH ct (hsA g 0) g h0, lfS ct (fun j => (hsA g 0) (12 + j)) nt0, lfS ct (fun j => (hsA g 0) (8 + j)) cv0, lfP ct (fun j => (hsA g 0) (16 + j)) ps0] [lfX ct g xo, lfR ct (fun j => g (18 + j)) rv, lfH ct (hsA g 0) g h0, lfS ct (fun j => (hsA g 0) (12 + j)) nt0, lfS ct (fun j => (hsA g 0) (8 + j)) cv0, lfP ct (fun j => (hsA g 0) (16 + j)) ps0] [lfX ct g xo, lfR ct (fun j => g (18 + j)) rv, lfH ct (hsA g 0) g h0, lfS ct (fun j => (hsA g 0) (12 + j)) nt0, lfS ct (fun j => (hsA g 0) (8 + j)) cv0, lfP ct (fun j => (hsA g 0) (16 + j)) ps0] [0, 1, 2, 3, 4, 5] 6 (by decide) rfl rfl rfl rfl) ⟨Nat.le_of_ble_eq_true rfl, Nat.le_of_ble_eq_true rfl⟩ rfl hl.1 rfl (Nat.le_of_ble_eq_true rfl) dX11_digest_215 ⟨Nat.le_of_ble_eq_true rfl, Nat.le_of_ble_eq_true rfl⟩ (fun r9 w9 H locs hB hP hD hS => ?_)
  obtain ⟨rfl, rfl⟩ := hB
  refine WG_eq (g2 := F0 m 218 ls [.long r_33]) rfl ?_
  refine lv_aload_n hx hb dX11_digest_218 rfl (lv_at hl 1 rfl) ?_
  refine va_get (D := G) (C := RX11) (T := TX11) (N := 11) (v := .long (xo.2.2 1)) hx hb hts iu_X11 hown hK hP 0 rfl rfl 7 (by decide) (hts _ kw269) (fun _ h9 => h9) rfl dX11_digest_219 ?_
  obtain ⟨r_34, hc34, hf⟩ := bd_e hf
  refine call_S (As := [.long r_33, .long (xo.2.2 1)]) (rest := []) hx hb hml hown hts hK hP hD hS hA hZ lkX11_327 (Ctr.upL (c_X11_mix l G ct sk sv  n r_33 (xo.2.2 1) hc34) [lfX ct g xo, lfR ct (fun j => g (18 + j)) rv, lfH ct (hsA g 0) g h0, lfS ct (fun j => (hsA g 0) (12 + j)) nt0, lfS ct (fun j => (hsA g 0) (8 + j)) cv0, lfP ct (fun j => (hsA g 0) (16 + j)) ps0] [lfX ct g xo, lfR ct (fun j => g (18 + j)) rv, lfH ct (hsA g 0) g h0, lfS ct (fun j => (hsA g 0) (12 + j)) nt0, lfS ct (fun j => (hsA g 0) (8 + j)) cv0, lfP ct (fun j => (hsA g 0) (16 + j)) ps0] [lfX ct g xo, lfR ct (fun j => g (18 + j)) rv, lfH ct (hsA g 0) g h0, lfS ct (fun j => (hsA g 0) (12 + j)) nt0, lfS ct (fun j => (hsA g 0) (8 + j)) cv0, lfP ct (fun j => (hsA g 0) (16 + j)) ps0] [0, 1, 2, 3, 4, 5] 6 (by decide) rfl rfl rfl rfl) ⟨Nat.le_of_ble_eq_true rfl, Nat.le_of_ble_eq_true rfl⟩ rfl hl.1 rfl (Nat.le_of_ble_eq_true rfl) dX11_digest_222 ⟨Nat.le_of_ble_eq_true rfl, Nat.le_of_ble_eq_true rfl⟩ (fun r9 w9 H locs hB hP hD hS => ?_)
  obtain ⟨rfl, rfl⟩ := hB
  refine WG_eq (g2 := F0 m 225 ls [.long r_34]) rfl ?_
  have e1 := Option.some.inj hf
  exact end_l (w' := (wl [lfX ct g xo, lfR ct (fun j => g (18 + j)) rv, lfH ct (hsA g 0) g h0, lfS ct (fun j => (hsA g 0) (12 + j)) nt0, lfS ct (fun j => (hsA g 0) (8 + j)) cv0, lfP ct (fun j => (hsA g 0) (16 + j)) ps0])) hx hb hr hlocks hK hP hD hS dX11_digest_225  ⟨by rw [← e1], rfl⟩
