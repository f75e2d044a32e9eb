theorem lkX1_127 : lkV "SignedOutside$House" 127 mX1_postage 1 := lkV_mk kw535 kw536 kw537 kw8 kw538 (by decide +kernel)
theorem lkX1_115 : lkV "SignedOutside$House" 115 mX1_lies 1 := lkV_mk kw462 kw463 kw464 kw8 kw465 (by decide +kernel)
theorem lkX1_95 : lkV "SignedOutside$House" 95 mX1_kindAt 1 := lkV_mk kw466 kw467 kw468 kw8 kw469 (by decide +kernel)
theorem lkX1_119 : lkV "SignedOutside$House" 119 mX1_suits 3 := lkV_mk kw491 kw492 kw493 kw8 kw494 (by decide +kernel)
theorem lkX1_123 : lkV "SignedOutside$House" 123 mX1_mayFrank 2 := lkV_mk kw643 kw459 kw460 kw8 kw461 (by decide +kernel)
theorem lkX1_130 : lkS "SignedOutside$House" 130 mJ7_fill_53178 2 := ⟨kw600, kw601, kw20, kw602, by decide +kernel⟩
noncomputable def f_J6_bitCount (n : Nat) (v0 : Int32) : Option (Int32) :=
  bl (v0 - (((v0.toUInt32 >>> ((1 : Int32).toUInt32 &&& Int32.toUInt32 31)).toInt32) &&& 1431655765)) fun v0_1 =>
  bl ((v0_1 &&& 858993459) + (((v0_1.toUInt32 >>> ((2 : Int32).toUInt32 &&& Int32.toUInt32 31)).toInt32) &&& 858993459)) fun v0_2 =>
  bl ((v0_2 + ((v0_2.toUInt32 >>> ((4 : Int32).toUInt32 &&& Int32.toUInt32 31)).toInt32)) &&& 252645135) fun v0_3 =>
  bl (v0_3 + ((v0_3.toUInt32 >>> ((8 : Int32).toUInt32 &&& Int32.toUInt32 31)).toInt32)) fun v0_4 =>
  bl (v0_4 + ((v0_4.toUInt32 >>> ((16 : Int32).toUInt32 &&& Int32.toUInt32 31)).toInt32)) fun v0_5 =>
  some (v0_5 &&& 63)
set_option maxHeartbeats 4000000 in
set_option maxRecDepth 100000 in
theorem c_J6_bitCount (l : Launch) (G : va_G) (ct : Nat → ClassId) (sk sv : Nat → Nat)  (n : Nat) (v0 : Int32) {r : Int32} (hf : f_J6_bitCount n v0 = some r) : Ctr (l, G, ct, sk, sv) mJ6_bitCount_0f7a4 0 0 [.int v0] (wl []) (wl []) (some (.int r)) := by
  refine ctr_intro (by decide) (Nat.le_of_ble_eq_true rfl) ?_
  intro p e s m args below meth c A C hP hD hS hA ls hl
  obtain ⟨hx, hb, hml, hown, hts, hr, hlocks, hK, hnm, hZ⟩ := C
  have hb : c.code = cJ6_bitCount_0f7a4 := hb
  have hml : c.maxLocals = 1 := hml
  have hown : s.vm.findClass "java/lang/Integer" = some m.cls := hown
  have hr : meth.sig.returnType = some .int := hr
  have hP : va_P G classes (wl []) s.heap := hP
  have hD : va_D A (wl []) := hD
  have hK : va_K G classes (TYS ct) s := hK
  have hl : lv_has ls 1 [(0, .int v0)] := hl
  unfold f_J6_bitCount at hf
  show WG l G ct sk sv p e (RM 0 0 0 0) s m args below meth c A (Eq2 (some (.int r)) (wl [])) s.heap [] (F0 m 0 ls [])
  refine lv_iload_n hx hb dJ6_bitCount_0f7a4_0 rfl (lv_at hl 0 rfl) ?_
  refine lv_iload_n hx hb dJ6_bitCount_0f7a4_1 rfl (lv_at hl 0 rfl) ?_
  refine lv_iconst (v := 1) hx hb dJ6_bitCount_0f7a4_2 (by decide) ?_
  refine lv_iushr (v := (v0.toUInt32 >>> ((1 : Int32).toUInt32 &&& Int32.toUInt32 31)).toInt32) hx hb dJ6_bitCount_0f7a4_3 rfl ?_
  refine lv_ldcw (v := 1431655765) hx hb hown (hts _ kw678) dJ6_bitCount_0f7a4_4 ?_
  refine lv_iand hx hb dJ6_bitCount_0f7a4_7 ?_
  refine lv_isub hx hb dJ6_bitCount_0f7a4_8 ?_
  refine lv_topi (fun v0_1 ev0_1 => ?_)
  replace hf := bl_i hf ev0_1
  refine lv_istore_n (lv' := [(0, .int v0_1)]) hx hb dJ6_bitCount_0f7a4_9 rfl hl (by decide) rfl (fun ls hl => ?_)
  refine lv_iload_n hx hb dJ6_bitCount_0f7a4_10 rfl (lv_at hl 0 rfl) ?_
  refine lv_ldcw (v := 858993459) hx hb hown (hts _ kw679) dJ6_bitCount_0f7a4_11 ?_
  refine lv_iand hx hb dJ6_bitCount_0f7a4_14 ?_
  refine lv_iload_n hx hb dJ6_bitCount_0f7a4_15 rfl (lv_at hl 0 rfl) ?_
  refine lv_iconst (v := 2) hx hb dJ6_bitCount_0f7a4_16 (by decide) ?_
  refine lv_iushr (v := (v0_1.toUInt32 >>> ((2 : Int32).toUInt32 &&& Int32.toUInt32 31)).toInt32) hx hb dJ6_bitCount_0f7a4_17 rfl ?_
  refine lv_ldcw (v := 858993459) hx hb hown (hts _ kw679) dJ6_bitCount_0f7a4_18 ?_
  refine lv_iand hx hb dJ6_bitCount_0f7a4_21 ?_
  refine lv_iadd hx hb dJ6_bitCount_0f7a4_22 ?_
  refine lv_topi (fun v0_2 ev0_2 => ?_)
  replace hf := bl_i hf ev0_2
  refine lv_istore_n (lv' := [(0, .int v0_2)]) hx hb dJ6_bitCount_0f7a4_23 rfl hl (by decide) rfl (fun ls hl => ?_)
  refine lv_iload_n hx hb dJ6_bitCount_0f7a4_24 rfl (lv_at hl 0 rfl) ?_
  refine lv_iload_n hx hb dJ6_bitCount_0f7a4_25 rfl (lv_at hl 0 rfl) ?_
  refine lv_iconst (v := 4) hx hb dJ6_bitCount_0f7a4_26 (by decide) ?_
  refine lv_iushr (v := (v0_2.toUInt32 >>> ((4 : Int32).toUInt32 &&& Int32.toUInt32 31)).toInt32) hx hb dJ6_bitCount_0f7a4_27 rfl ?_
  refine lv_iadd hx hb dJ6_bitCount_0f7a4_28 ?_
  refine lv_ldcw (v := 252645135) hx hb hown (hts _ kw680) dJ6_bitCount_0f7a4_29 ?_
  refine lv_iand hx hb dJ6_bitCount_0f7a4_32 ?_
  refine lv_topi (fun v0_3 ev0_3 => ?_)
  replace hf := bl_i hf ev0_3
  refine lv_istore_n (lv' := [(0, .int v0_3)]) hx hb dJ6_bitCount_0f7a4_33 rfl hl (by decide) rfl (fun ls hl => ?_)
  refine lv_iload_n hx hb dJ6_bitCount_0f7a4_34 rfl (lv_at hl 0 rfl) ?_
  refine lv_iload_n hx hb dJ6_bitCount_0f7a4_35 rfl (lv_at hl 0 rfl) ?_
  refine lv_bipush (v := 8) hx hb dJ6_bitCount_0f7a4_36 (by decide) ?_
  refine lv_iushr (v := (v0_3.toUInt32 >>> ((8 : Int32).toUInt32 &&& Int32.toUInt32 31)).toInt32) hx hb dJ6_bitCount_0f7a4_38 rfl ?_
  refine lv_iadd hx hb dJ6_bitCount_0f7a4_39 ?_
  refine lv_topi (fun v0_4 ev0_4 => ?_)
  replace hf := bl_i hf ev0_4
  refine lv_istore_n (lv' := [(0, .int v0_4)]) hx hb dJ6_bitCount_0f7a4_40 rfl hl (by decide) rfl (fun ls hl => ?_)
  refine lv_iload_n hx hb dJ6_bitCount_0f7a4_41 rfl (lv_at hl 0 rfl) ?_
  refine lv_iload_n hx hb dJ6_bitCount_0f7a4_42 rfl (lv_at hl 0 rfl) ?_
  refine lv_bipush (v := 16) hx hb dJ6_bitCount_0f7a4_43 (by decide) ?_
  refine lv_iushr (v := (v0_4.toUInt32 >>> ((16 : Int32).toUInt32 &&& Int32.toUInt32 31)).toInt32) hx hb dJ6_bitCount_0f7a4_45 rfl ?_
  refine lv_iadd hx hb dJ6_bitCount_0f7a4_46 ?_
  refine lv_topi (fun v0_5 ev0_5 => ?_)
  replace hf := bl_i hf ev0_5
  refine lv_istore_n (lv' := [(0, .int v0_5)]) hx hb dJ6_bitCount_0f7a4_47 rfl hl (by decide) rfl (fun ls hl => ?_)
  refine lv_iload_n hx hb dJ6_bitCount_0f7a4_48 rfl (lv_at hl 0 rfl) ?_
  refine lv_bipush (v := 63) hx hb dJ6_bitCount_0f7a4_49 (by decide) ?_
  refine lv_iand hx hb dJ6_bitCount_0f7a4_51 ?_
  have e1 := Option.some.inj hf
  exact end_i (w' := (wl [])) hx hb hr hlocks hK hP hD hS dJ6_bitCount_0f7a4_52  ⟨by rw [← e1], rfl⟩
noncomputable def f_J7_fill_b5 (n : Nat) (z : Nat) (t : (Nat → Int32)) (v3 : Int32) (v2 : Int32) (v1 : Int32) : Option ((Int32 × (Nat → Int32)) ⊕ ((Nat → Int32))) :=
  bc (v3 ≤ v2) (some (.inr t))
  (gd (vp_in v2 z) <|
  bl (upd t (ix v2) v1) fun t_3 =>
  bl (v2 + 1) fun v2_4 =>
  some (.inl (v2_4, t_3)))
noncomputable def f_J7_fill_l5 (fu : Nat) (n : Nat) (z : Nat) (t : (Nat → Int32)) (v3 : Int32) (v1 : Int32) (v2 : Int32) : Option ((Nat → Int32)) :=
  lp (fun q => f_J7_fill_b5 n z q.2 v3 q.1 v1) fu (v2, t)
noncomputable def f_J7_fill (n : Nat) (z : Nat) (t : (Nat → Int32)) (v1 : Int32) : Option ((Nat → Int32)) :=
  bl (Int32.ofNat z) fun v3_5 =>
  bd (f_J7_fill_l5 n n z t v3_5 v1 0) fun t_6 =>
  some t_6
set_option maxHeartbeats 4000000 in
set_option maxRecDepth 100000 in
theorem c_J7_fill (l : Launch) (G : va_G) (ct : Nat → ClassId) (sk sv : Nat → Nat) (a : Nat → Nat) (n : Nat) (z : Nat) (t : (Nat → Int32)) (v1 : Int32) {t' : (Nat → Int32)} (hf : f_J7_fill n z t v1 = some t') : Ctr (l, G, ct, sk, sv) mJ7_fill_53178 0 0 [.ref (a 0), .int v1] (wl [lfA ct a z t]) (wl [lfA ct a z t']) (none) := by
  refine ctr_intro (by decide) (Nat.le_of_ble_eq_true rfl) ?_
  intro p e s m args below meth c A C hP hD hS hA ls hl
  obtain ⟨hx, hb, hml, hown, hts, hr, hlocks, hK, hnm, hZ⟩ := C
  have hb : c.code = cJ7_fill_53178 := hb
  have hml : c.maxLocals = 4 := hml
  have hown : s.vm.findClass "java/util/Arrays" = some m.cls := hown
  have hr : meth.sig.returnType = none := hr
  have hP : va_P G classes (wl [lfA ct a z t]) s.heap := hP
  have hD : va_D A (wl [lfA ct a z t]) := hD
  have hK : va_K G classes (TYS ct) s := hK
  have hl : lv_has ls 4 [(0, .ref (a 0)), (1, .int v1)] := hl
  have L5 : ∀ (fu : Nat) (t : (Nat → Int32)) (v3 : Int32) (v1 : Int32) (v2 : Int32) (ex : (Nat → Int32)) (H : Heap) (locs : List Loc) (ls : Array Slot), va_P G classes (wl [lfA ct a z t]) H → va_D A (wl [lfA ct a z t]) → va_S A s.heap H locs → lv_has ls 4 [(3, .int v3), (2, .int v2), (0, .ref (a 0)), (1, .int v1)] → f_J7_fill_l5 fu n z t v3 v1 v2 = some ex → (∀ (x : (Nat → Int32)), ex = x → ∀ (H : Heap) (locs : List Loc) (ls : Array Slot), va_P G classes (wl [lfA ct a z x]) H → va_D A (wl [lfA ct a z x]) → va_S A s.heap H locs → lv_has ls 4 [] → WG l G ct sk sv p e (RM 0 0 0 0) s m args below meth c A (Eq2 (none) (wl [lfA ct a z t'])) H locs (F0 m 20 ls [])) → WG l G ct sk sv p e (RM 0 0 0 0) s m args below meth c A (Eq2 (none) (wl [lfA ct a z t'])) H locs (F0 m 5 ls []) := by
    intro fu
    induction fu with
    | zero =>
      intro t v3 v1 v2 ex H locs ls hP hD hS hl hf
      exact absurd hf (by unfold f_J7_fill_l5 lp; exact fun h => by cases h)
    | succ fu ih =>
      intro t v3 v1 v2 ex H locs ls hP hD hS hl hf hE
      unfold f_J7_fill_l5 at hf
      obtain ⟨q, hf, hor⟩ := lp_e hf
      replace hf : f_J7_fill_b5 n z t v3 v2 v1 = some q := hf
      unfold f_J7_fill_b5 at hf
      refine lv_iload_n hx hb dJ7_fill_53178_5 rfl (lv_at hl 1 rfl) ?_
      refine lv_iload_n hx hb dJ7_fill_53178_6 rfl (lv_at hl 0 rfl) ?_
      refine lv_icmp_ge (tgt := 20) hx hb dJ7_fill_53178_7 (by decide) (fun c_1 => ?_) (fun c_1 => ?_)
      · replace hf := bc_t hf c_1
        exact hE t (lp_inr hor hf).symm _ _ _ hP hD hS (lv_sub hl [] rfl)
      · replace hf := bc_f hf c_1
        refine lv_aload_n hx hb dJ7_fill_53178_10 rfl (lv_at hl 2 rfl) ?_
        refine lv_iload_n hx hb dJ7_fill_53178_11 rfl (lv_at hl 1 rfl) ?_
        refine lv_iload_n hx hb dJ7_fill_53178_12 rfl (lv_at hl 3 rfl) ?_
        obtain ⟨g_2, hf⟩ := gd_e hf
        obtain ⟨t_3, et_3, hf⟩ := bl_e hf
        refine va_iast hx hb hK hP hD hS 0 0 rfl rfl g_2 dJ7_fill_53178_13 (fun H locs hP hD hS => ?_)
        have hP : va_P G classes (wl [lfA ct a z t_3]) H := by rw [← et_3]; exact hP
        have hD : va_D A (wl [lfA ct a z t_3]) := by rw [← et_3]; exact hD
        obtain ⟨v2_4, ev2_4, hf⟩ := bl_e hf
        refine lv_iinc (v := v2_4) (lv' := [(2, .int v2_4), (3, .int v3), (0, .ref (a 0)), (1, .int v1)]) hx hb dJ7_fill_53178_14 hl (k := 1) rfl ev2_4 (by decide) rfl (fun ls hl => ?_)
        refine lv_goto (tgt := 5) hx hb dJ7_fill_53178_17 (by decide) ?_
        exact ih t_3 v3 v1 v2_4 ex _ _ _ hP hD hS (lv_sub hl [1, 0, 2, 3] rfl) (lp_inl hor hf) hE
  unfold f_J7_fill at hf
  show WG l G ct sk sv p e (RM 0 0 0 0) s m args below meth c A (Eq2 (none) (wl [lfA ct a z t'])) s.heap [] (F0 m 0 ls [])
  refine lv_iconst (v := 0) hx hb dJ7_fill_53178_0 (by decide) ?_
  refine lv_istore_n (lv' := [(2, .int 0), (0, .ref (a 0)), (1, .int v1)]) hx hb dJ7_fill_53178_1 rfl hl (by decide) rfl (fun ls hl => ?_)
  refine lv_aload_n hx hb dJ7_fill_53178_2 rfl (lv_at hl 1 rfl) ?_
  refine va_alen (v := Int32.ofNat z) hx hb hK hP 0 0 rfl rfl rfl dJ7_fill_53178_3 ?_
  refine lv_topi (fun v3_5 ev3_5 => ?_)
  replace hf := bl_i hf ev3_5
  refine lv_istore_n (lv' := [(3, .int v3_5), (2, .int 0), (0, .ref (a 0)), (1, .int v1)]) hx hb dJ7_fill_53178_4 rfl hl (by decide) rfl (fun ls hl => ?_)
  obtain ⟨t_6, hx_7, hf⟩ := bd_e hf
  refine L5 n t v3_5 v1 0 t_6 _ _ _ hP hD hS hl hx_7 ?_
  intro x9 e9 H locs ls hP hD hS hl
  subst e9
  have hP : va_P G classes (wl [lfA ct a z t_6]) H := hP
  have hD : va_D A (wl [lfA ct a z t_6]) := hD
  have hl : lv_has ls 4 [] := hl
  have e1 := Option.some.inj hf
  exact end_v (w' := (wl [lfA ct a z t_6])) hx hb hr hlocks hK hP hD hS dJ7_fill_53178_20  ⟨rfl, by rw [← e1]⟩
noncomputable def f_X1_lies_j15 (n : Nat) (h : MV) (s0 : Int32) : Option (Int32) :=
  gd (s0 = 0 ∨ s0 = 1) <| some s0
noncomputable def f_X1_lies (n : Nat) (h : MV) (v1 : Int32) : Option (Int32) :=
  gd (vp_in v1 6) <|
  bc ((h.2.1 6 (ix v1)) = (-1)) (f_X1_lies_j15 n h 1)
  (f_X1_lies_j15 n h 0)
set_option maxHeartbeats 4000000 in
set_option maxRecDepth 100000 in
theorem c_X1_lies (l : Launch) (G : va_G) (ct : Nat → ClassId) (sk sv : Nat → Nat) (a : Nat → Nat) (k : Nat → Nat) (n : Nat) (h : MV) (v1 : Int32) {r : Int32} (hf : f_X1_lies n h v1 = some r) : Ctr (l, G, ct, sk, sv) mX1_lies 0 0 [.ref (a 0), .int v1] (wl [lfH ct a k h]) (wl [lfH ct a k h]) (some (.int r)) := by
  refine ctr_intro (by decide) (Nat.le_of_ble_eq_true rfl) ?_
  intro p e s m args below meth c A C hP hD hS hA ls hl
  obtain ⟨hx, hb, hml, hown, hts, hr, hlocks, hK, hnm, hZ⟩ := C
  have hb : c.code = cX1_lies := hb
  have hml : c.maxLocals = 2 := hml
  have hown : s.vm.findClass "SignedOutside$House" = some m.cls := hown
  have hr : meth.sig.returnType = some .boolean := hr
  have hP : va_P G classes (wl [lfH ct a k h]) s.heap := hP
  have hD : va_D A (wl [lfH ct a k h]) := hD
  have hK : va_K G classes (TYS ct) s := hK
  have hl : lv_has ls 2 [(0, .ref (a 0)), (1, .int v1)] := hl
  have J15 : ∀ (s0 : Int32) (H : Heap) (locs : List Loc) (ls : Array Slot), va_P G classes (wl [lfH ct a k h]) H → va_D A (wl [lfH ct a k h]) → va_S A s.heap H locs → lv_has ls 2 [] → f_X1_lies_j15 n h s0 = some r → WG l G ct sk sv p e (RM 0 0 0 0) s m args below meth c A (Eq2 (some (.int r)) (wl [lfH ct a k h])) H locs (F0 m 15 ls [.int s0]) := by
    intro s0 H locs ls hP hD hS hl hf
    unfold f_X1_lies_j15 at hf
    obtain ⟨g_1, hf⟩ := gd_e hf
    have e1 := Option.some.inj hf
    exact end_z (w' := (wl [lfH ct a k h])) hx hb hr hlocks hK hP hD hS dX1_lies_15 g_1 ⟨by rw [← e1], rfl⟩
  unfold f_X1_lies at hf
  show WG l G ct sk sv p e (RM 0 0 0 0) s m args below meth c A (Eq2 (some (.int r)) (wl [lfH ct a k h])) s.heap [] (F0 m 0 ls [])
  refine lv_aload_n hx hb dX1_lies_0 rfl (lv_at hl 0 rfl) ?_
  refine va_get (D := G) (C := RX1) (T := TX1) (N := 16) (v := .ref (a 7)) hx hb hts iu_X1 hown hK hP 0 rfl rfl 9 (by decide) (hts _ kw145) (fun _ h9 => h9) rfl dX1_lies_1 ?_
  refine lv_iload_n hx hb dX1_lies_4 rfl (lv_at hl 1 rfl) ?_
  obtain ⟨g_2, hf⟩ := gd_e hf
  refine va_iald (f := h.2.1 6) hx hb hK hP 7 0 rfl rfl g_2 dX1_lies_5 ?_
  refine lv_iconst (v := (-1)) hx hb dX1_lies_6 (by decide) ?_
  refine lv_icmp_ne (tgt := 14) hx hb dX1_lies_7 (by decide) (fun c_3 => ?_) (fun c_3 => ?_)
  · replace hf := bc_f hf c_3
    refine lv_iconst (v := 0) hx hb dX1_lies_14 (by decide) ?_
    exact J15 0 _ _ _ hP hD hS (lv_sub hl [] rfl) hf
  · replace hf := bc_t hf c_3
    refine lv_iconst (v := 1) hx hb dX1_lies_10 (by decide) ?_
    refine lv_goto (tgt := 15) hx hb dX1_lies_11 (by decide) ?_
    exact J15 1 _ _ _ hP hD hS (lv_sub hl [] rfl) hf
noncomputable def f_X1_postage (n : Nat) (h : MV) (v1 : Int32) : Option (Int32) :=
  gd (vp_in v1 6) <|
  gd (vp_in v1 6) <|
  gd (vp_in v1 6) <|
  bl (if 0 ≤ ((h.2.1 3 (ix v1)) - (h.2.1 4 (ix v1))) then ((h.2.1 3 (ix v1)) - (h.2.1 4 (ix v1))) else 0 - ((h.2.1 3 (ix v1)) - (h.2.1 4 (ix v1)))) fun w_4 =>
  some ((h.2.1 5 (ix v1)) * (1 + (w_4 / 15)))
set_option maxHeartbeats 4000000 in
set_option maxRecDepth 100000 in
theorem c_X1_postage (l : Launch) (G : va_G) (ct : Nat → ClassId) (sk sv : Nat → Nat) (a : Nat → Nat) (k : Nat → Nat) (n : Nat) (h : MV) (v1 : Int32) {r : Int32} (hf : f_X1_postage n h v1 = some r) : Ctr (l, G, ct, sk, sv) mX1_postage 1 64 [.ref (a 0), .int v1] (wl [lfH ct a k h]) (wl [lfH ct a k h]) (some (.int r)) := by
  refine ctr_intro (by decide) (Nat.le_of_ble_eq_true rfl) ?_
  intro p e s m args below meth c A C hP hD hS hA ls hl
  obtain ⟨hx, hb, hml, hown, hts, hr, hlocks, hK, hnm, hZ⟩ := C
  have hb : c.code = cX1_postage := hb
  have hml : c.maxLocals = 2 := hml
  have hown : s.vm.findClass "SignedOutside$House" = some m.cls := hown
  have hr : meth.sig.returnType = some .int := hr
  have hP : va_P G classes (wl [lfH ct a k h]) s.heap := hP
  have hD : va_D A (wl [lfH ct a k h]) := hD
  have hK : va_K G classes (TYS ct) s := hK
  have hl : lv_has ls 2 [(0, .ref (a 0)), (1, .int v1)] := hl
  unfold f_X1_postage at hf
  show WG l G ct sk sv p e (RM 1 64 0 0) s m args below meth c A (Eq2 (some (.int r)) (wl [lfH ct a k h])) s.heap [] (F0 m 0 ls [])
  refine lv_aload_n hx hb dX1_postage_0 rfl (lv_at hl 0 rfl) ?_
  refine va_get (D := G) (C := RX1) (T := TX1) (N := 16) (v := .ref (a 6)) hx hb hts iu_X1 hown hK hP 0 rfl rfl 8 (by decide) (hts _ kw143) (fun _ h9 => h9) rfl dX1_postage_1 ?_
  refine lv_iload_n hx hb dX1_postage_4 rfl (lv_at hl 1 rfl) ?_
  obtain ⟨g_1, hf⟩ := gd_e hf
  refine va_iald (f := h.2.1 5) hx hb hK hP 6 0 rfl rfl g_1 dX1_postage_5 ?_
  refine lv_iconst (v := 1) hx hb dX1_postage_6 (by decide) ?_
  refine lv_aload_n hx hb dX1_postage_7 rfl (lv_at hl 0 rfl) ?_
  refine va_get (D := G) (C := RX1) (T := TX1) (N := 16) (v := .ref (a 4)) hx hb hts iu_X1 hown hK hP 0 rfl rfl 6 (by decide) (hts _ kw139) (fun _ h9 => h9) rfl dX1_postage_8 ?_
  refine lv_iload_n hx hb dX1_postage_11 rfl (lv_at hl 1 rfl) ?_
  obtain ⟨g_2, hf⟩ := gd_e hf
  refine va_iald (f := h.2.1 3) hx hb hK hP 4 0 rfl rfl g_2 dX1_postage_12 ?_
  refine lv_aload_n hx hb dX1_postage_13 rfl (lv_at hl 0 rfl) ?_
  refine va_get (D := G) (C := RX1) (T := TX1) (N := 16) (v := .ref (a 5)) hx hb hts iu_X1 hown hK hP 0 rfl rfl 7 (by decide) (hts _ kw141) (fun _ h9 => h9) rfl dX1_postage_14 ?_
  refine lv_iload_n hx hb dX1_postage_17 rfl (lv_at hl 1 rfl) ?_
  obtain ⟨g_3, hf⟩ := gd_e hf
  refine va_iald (f := h.2.1 4) hx hb hK hP 5 0 rfl rfl g_3 dX1_postage_18 ?_
  refine lv_isub hx hb dX1_postage_19 ?_
  refine va_mabs hx hb (hml.trans hl.1.symm) hown (hts _ kw495) (hts _ kw496) (hts _ kw18) (hts _ kw497) (Nat.le_of_ble_eq_true rfl) (Nat.le_of_ble_eq_true rfl) (Nat.le_of_ble_eq_true rfl) (Nat.le_of_ble_eq_true rfl) dX1_postage_20 ?_
  refine lv_topi (fun w_4 ew_4 => ?_)
  replace hf := bl_i hf ew_4
  refine lv_bipush (v := 15) hx hb dX1_postage_23 (by decide) ?_
  refine lv_idiv hx hb dX1_postage_25 (by decide) ?_
  refine lv_iadd hx hb dX1_postage_26 ?_
  refine lv_imul hx hb dX1_postage_27 ?_
  have e1 := Option.some.inj hf
  exact end_i (w' := (wl [lfH ct a k h])) hx hb hr hlocks hK hP hD hS dX1_postage_28  ⟨by rw [← e1], rfl⟩
noncomputable def f_X1_addMember (n : Nat) (h : MV) (v1 : Int32) (v2 : Int32) : Option (Int32 × MV) :=
  gd (vp_in (h.1 0) 5) <|
  bl (setA h 0 (upd (h.2.1 0) (ix (h.1 0)) v1)) fun h_2 =>
  gd (vp_in (h_2.1 0) 5) <|
  bl (setA h_2 1 (upd (h_2.2.1 1) (ix (h_2.1 0)) v2)) fun h_4 =>
  gd (vp_in (h_4.1 0) 5) <|
  bl (setA h_4 2 (upd (h_4.2.1 2) (ix (h_4.1 0)) 0)) fun h_6 =>
  bl (setS h_6 0 ((h_6.1 0) + 1)) fun h_7 =>
  some ((h_7.1 0) - 1, h_7)
set_option maxHeartbeats 4000000 in
set_option maxRecDepth 100000 in
theorem c_X1_addMember (l : Launch) (G : va_G) (ct : Nat → ClassId) (sk sv : Nat → Nat) (a : Nat → Nat) (k : Nat → Nat) (n : Nat) (h : MV) (v1 : Int32) (v2 : Int32) {r : Int32} {h' : MV} (hf : f_X1_addMember n h v1 v2 = some (r, h')) : Ctr (l, G, ct, sk, sv) mX1_addMember 0 0 [.ref (a 0), .int v1, .int v2] (wl [lfH ct a k h]) (wl [lfH ct a k h']) (some (.int r)) := by
  refine ctr_intro (by decide) (Nat.le_of_ble_eq_true rfl) ?_
  intro p e s m args below meth c A C hP hD hS hA ls hl
  obtain ⟨hx, hb, hml, hown, hts, hr, hlocks, hK, hnm, hZ⟩ := C
  have hb : c.code = cX1_addMember := hb
  have hml : c.maxLocals = 3 := hml
  have hown : s.vm.findClass "SignedOutside$House" = some m.cls := hown
  have hr : meth.sig.returnType = some .int := hr
  have hP : va_P G classes (wl [lfH ct a k h]) s.heap := hP
  have hD : va_D A (wl [lfH ct a k h]) := hD
  have hK : va_K G classes (TYS ct) s := hK
  have hl : lv_has ls 3 [(0, .ref (a 0)), (1, .int v1), (2, .int v2)] := hl
  unfold f_X1_addMember at hf
  show WG l G ct sk sv p e (RM 0 0 0 0) s m args below meth c A (Eq2 (some (.int r)) (wl [lfH ct a k h'])) s.heap [] (F0 m 0 ls [])
  refine lv_aload_n hx hb dX1_addMember_0 rfl (lv_at hl 0 rfl) ?_
  refine va_get (D := G) (C := RX1) (T := TX1) (N := 16) (v := .ref (a 1)) hx hb hts iu_X1 hown hK hP 0 rfl rfl 2 (by decide) (hts _ kw127) (fun _ h9 => h9) rfl dX1_addMember_1 ?_
  refine lv_aload_n hx hb dX1_addMember_4 rfl (lv_at hl 0 rfl) ?_
  refine va_get (D := G) (C := RX1) (T := TX1) (N := 16) (v := .int (h.1 0)) hx hb hts iu_X1 hown hK hP 0 rfl rfl 1 (by decide) (hts _ kw123) (fun _ h9 => h9) rfl dX1_addMember_5 ?_
  refine lv_iload_n hx hb dX1_addMember_8 rfl (lv_at hl 1 rfl) ?_
  obtain ⟨g_1, hf⟩ := gd_e hf
  obtain ⟨h_2, eh_2, hf⟩ := bl_e hf
  refine va_iast hx hb hK hP hD hS 1 0 rfl rfl g_1 dX1_addMember_9 (fun H locs hP hD hS => ?_)
  have hP : va_P G classes (wl [lfH ct a k h_2]) H := by rw [← eh_2]; exact hP
  have hD : va_D A (wl [lfH ct a k h_2]) := by rw [← eh_2]; exact hD
  refine lv_aload_n hx hb dX1_addMember_10 rfl (lv_at hl 0 rfl) ?_
  refine va_get (D := G) (C := RX1) (T := TX1) (N := 16) (v := .ref (a 2)) hx hb hts iu_X1 hown hK hP 0 rfl rfl 3 (by decide) (hts _ kw129) (fun _ h9 => h9) rfl dX1_addMember_11 ?_
  refine lv_aload_n hx hb dX1_addMember_14 rfl (lv_at hl 0 rfl) ?_
  refine va_get (D := G) (C := RX1) (T := TX1) (N := 16) (v := .int (h_2.1 0)) hx hb hts iu_X1 hown hK hP 0 rfl rfl 1 (by decide) (hts _ kw123) (fun _ h9 => h9) rfl dX1_addMember_15 ?_
  refine lv_iload_n hx hb dX1_addMember_18 rfl (lv_at hl 2 rfl) ?_
  obtain ⟨g_3, hf⟩ := gd_e hf
  obtain ⟨h_4, eh_4, hf⟩ := bl_e hf
  refine va_iast hx hb hK hP hD hS 2 0 rfl rfl g_3 dX1_addMember_19 (fun H locs hP hD hS => ?_)
  have hP : va_P G classes (wl [lfH ct a k h_4]) H := by rw [← eh_4]; exact hP
  have hD : va_D A (wl [lfH ct a k h_4]) := by rw [← eh_4]; exact hD
  refine lv_aload_n hx hb dX1_addMember_20 rfl (lv_at hl 0 rfl) ?_
  refine va_get (D := G) (C := RX1) (T := TX1) (N := 16) (v := .ref (a 3)) hx hb hts iu_X1 hown hK hP 0 rfl rfl 4 (by decide) (hts _ kw132) (fun _ h9 => h9) rfl dX1_addMember_21 ?_
  refine lv_aload_n hx hb dX1_addMember_24 rfl (lv_at hl 0 rfl) ?_
  refine va_get (D := G) (C := RX1) (T := TX1) (N := 16) (v := .int (h_4.1 0)) hx hb hts iu_X1 hown hK hP 0 rfl rfl 1 (by decide) (hts _ kw123) (fun _ h9 => h9) rfl dX1_addMember_25 ?_
  refine lv_iconst (v := 0) hx hb dX1_addMember_28 (by decide) ?_
  obtain ⟨g_5, hf⟩ := gd_e hf
  obtain ⟨h_6, eh_6, hf⟩ := bl_e hf
  refine va_iast hx hb hK hP hD hS 3 0 rfl rfl g_5 dX1_addMember_29 (fun H locs hP hD hS => ?_)
  have hP : va_P G classes (wl [lfH ct a k h_6]) H := by rw [← eh_6]; exact hP
  have hD : va_D A (wl [lfH ct a k h_6]) := by rw [← eh_6]; exact hD
  refine lv_aload_n hx hb dX1_addMember_30 rfl (lv_at hl 0 rfl) ?_
  refine lv_dup hx hb dX1_addMember_31 rfl ?_
  refine va_get (D := G) (C := RX1) (T := TX1) (N := 16) (v := .int (h_6.1 0)) hx hb hts iu_X1 hown hK hP 0 rfl rfl 1 (by decide) (hts _ kw123) (fun _ h9 => h9) rfl dX1_addMember_32 ?_
  refine lv_iconst (v := 1) hx hb dX1_addMember_35 (by decide) ?_
  refine lv_iadd hx hb dX1_addMember_36 ?_
  obtain ⟨h_7, eh_7, hf⟩ := bl_e hf
  refine va_put (D := G) (C := RX1) (T := TX1) (N := 16) (ty := .int) hx hb hts iu_X1 tyX1 tyX1_ok nmX1 hown hK hP hD hS 0 rfl rfl 1 (by decide) (hts _ kw123) (fun _ h9 => h9) rfl (by decide +kernel) rfl rfl (Nat.le_of_ble_eq_true rfl) dX1_addMember_37 (fun H locs hP hD hS => ?_)
  have hP : va_P G classes (wl [lfH ct a k h_7]) H := by rw [← eh_7]; exact hP
  have hD : va_D A (wl [lfH ct a k h_7]) := by rw [← eh_7]; exact hD
  refine lv_aload_n hx hb dX1_addMember_40 rfl (lv_at hl 0 rfl) ?_
  refine va_get (D := G) (C := RX1) (T := TX1) (N := 16) (v := .int (h_7.1 0)) hx hb hts iu_X1 hown hK hP 0 rfl rfl 1 (by decide) (hts _ kw123) (fun _ h9 => h9) rfl dX1_addMember_41 ?_
  refine lv_iconst (v := 1) hx hb dX1_addMember_44 (by decide) ?_
  refine lv_isub hx hb dX1_addMember_45 ?_
  obtain ⟨e1, e2⟩ := inj2 (Option.some.inj hf)
  exact end_i (w' := (wl [lfH ct a k h_7])) hx hb hr hlocks hK hP hD hS dX1_addMember_46  ⟨by rw [← e1], by rw [← e2]⟩
noncomputable def f_X1_addLetter (n : Nat) (h : MV) (v1 : Int32) (v2 : Int32) (v3 : Int32) : Option (Int32 × MV) :=
  gd (vp_in (h.1 1) 6) <|
  bl (setA h 3 (upd (h.2.1 3) (ix (h.1 1)) v1)) fun h_2 =>
  gd (vp_in (h_2.1 1) 6) <|
  bl (setA h_2 4 (upd (h_2.2.1 4) (ix (h_2.1 1)) v2)) fun h_4 =>
  gd (vp_in (h_4.1 1) 6) <|
  bl (setA h_4 5 (upd (h_4.2.1 5) (ix (h_4.1 1)) v3)) fun h_6 =>
  gd (vp_in (h_6.1 1) 6) <|
  bl (setA h_6 6 (upd (h_6.2.1 6) (ix (h_6.1 1)) (-1))) fun h_8 =>
  bl (setS h_8 1 ((h_8.1 1) + 1)) fun h_9 =>
  some ((h_9.1 1) - 1, h_9)
set_option maxHeartbeats 4000000 in
set_option maxRecDepth 100000 in
theorem c_X1_addLetter (l : Launch) (G : va_G) (ct : Nat → ClassId) (sk sv : Nat → Nat) (a : Nat → Nat) (k : Nat → Nat) (n : Nat) (h : MV) (v1 : Int32) (v2 : Int32) (v3 : Int32) {r : Int32} {h' : MV} (hf : f_X1_addLetter n h v1 v2 v3 = some (r, h')) : Ctr (l, G, ct, sk, sv) mX1_addLetter 0 0 [.ref (a 0), .int v1, .int v2, .int v3] (wl [lfH ct a k h]) (wl [lfH ct a k h']) (some (.int r)) := by
  refine ctr_intro (by decide) (Nat.le_of_ble_eq_true rfl) ?_
  intro p e s m args below meth c A C hP hD hS hA ls hl
  obtain ⟨hx, hb, hml, hown, hts, hr, hlocks, hK, hnm, hZ⟩ := C
  have hb : c.code = cX1_addLetter := hb
  have hml : c.maxLocals = 4 := hml
  have hown : s.vm.findClass "SignedOutside$House" = some m.cls := hown
  have hr : meth.sig.returnType = some .int := hr
  have hP : va_P G classes (wl [lfH ct a k h]) s.heap := hP
  have hD : va_D A (wl [lfH ct a k h]) := hD
  have hK : va_K G classes (TYS ct) s := hK
  have hl : lv_has ls 4 [(0, .ref (a 0)), (1, .int v1), (2, .int v2), (3, .int v3)] := hl
  unfold f_X1_addLetter at hf
  show WG l G ct sk sv p e (RM 0 0 0 0) s m args below meth c A (Eq2 (some (.int r)) (wl [lfH ct a k h'])) s.heap [] (F0 m 0 ls [])
  refine lv_aload_n hx hb dX1_addLetter_0 rfl (lv_at hl 0 rfl) ?_
  refine va_get (D := G) (C := RX1) (T := TX1) (N := 16) (v := .ref (a 4)) hx hb hts iu_X1 hown hK hP 0 rfl rfl 6 (by decide) (hts _ kw139) (fun _ h9 => h9) rfl dX1_addLetter_1 ?_
  refine lv_aload_n hx hb dX1_addLetter_4 rfl (lv_at hl 0 rfl) ?_
  refine va_get (D := G) (C := RX1) (T := TX1) (N := 16) (v := .int (h.1 1)) hx hb hts iu_X1 hown hK hP 0 rfl rfl 5 (by decide) (hts _ kw136) (fun _ h9 => h9) rfl dX1_addLetter_5 ?_
  refine lv_iload_n hx hb dX1_addLetter_8 rfl (lv_at hl 1 rfl) ?_
  obtain ⟨g_1, hf⟩ := gd_e hf
  obtain ⟨h_2, eh_2, hf⟩ := bl_e hf
  refine va_iast hx hb hK hP hD hS 4 0 rfl rfl g_1 dX1_addLetter_9 (fun H locs hP hD hS => ?_)
  have hP : va_P G classes (wl [lfH ct a k h_2]) H := by rw [← eh_2]; exact hP
  have hD : va_D A (wl [lfH ct a k h_2]) := by rw [← eh_2]; exact hD
  refine lv_aload_n hx hb dX1_addLetter_10 rfl (lv_at hl 0 rfl) ?_
  refine va_get (D := G) (C := RX1) (T := TX1) (N := 16) (v := .ref (a 5)) hx hb hts iu_X1 hown hK hP 0 rfl rfl 7 (by decide) (hts _ kw141) (fun _ h9 => h9) rfl dX1_addLetter_11 ?_
  refine lv_aload_n hx hb dX1_addLetter_14 rfl (lv_at hl 0 rfl) ?_
  refine va_get (D := G) (C := RX1) (T := TX1) (N := 16) (v := .int (h_2.1 1)) hx hb hts iu_X1 hown hK hP 0 rfl rfl 5 (by decide) (hts _ kw136) (fun _ h9 => h9) rfl dX1_addLetter_15 ?_
  refine lv_iload_n hx hb dX1_addLetter_18 rfl (lv_at hl 2 rfl) ?_
  obtain ⟨g_3, hf⟩ := gd_e hf
  obtain ⟨h_4, eh_4, hf⟩ := bl_e hf
  refine va_iast hx hb hK hP hD hS 5 0 rfl rfl g_3 dX1_addLetter_19 (fun H locs hP hD hS => ?_)
  have hP : va_P G classes (wl [lfH ct a k h_4]) H := by rw [← eh_4]; exact hP
  have hD : va_D A (wl [lfH ct a k h_4]) := by rw [← eh_4]; exact hD
  refine lv_aload_n hx hb dX1_addLetter_20 rfl (lv_at hl 0 rfl) ?_
  refine va_get (D := G) (C := RX1) (T := TX1) (N := 16) (v := .ref (a 6)) hx hb hts iu_X1 hown hK hP 0 rfl rfl 8 (by decide) (hts _ kw143) (fun _ h9 => h9) rfl dX1_addLetter_21 ?_
  refine lv_aload_n hx hb dX1_addLetter_24 rfl (lv_at hl 0 rfl) ?_
  refine va_get (D := G) (C := RX1) (T := TX1) (N := 16) (v := .int (h_4.1 1)) hx hb hts iu_X1 hown hK hP 0 rfl rfl 5 (by decide) (hts _ kw136) (fun _ h9 => h9) rfl dX1_addLetter_25 ?_
  refine lv_iload_n hx hb dX1_addLetter_28 rfl (lv_at hl 3 rfl) ?_
  obtain ⟨g_5, hf⟩ := gd_e hf
  obtain ⟨h_6, eh_6, hf⟩ := bl_e hf
  refine va_iast hx hb hK hP hD hS 6 0 rfl rfl g_5 dX1_addLetter_29 (fun H locs hP hD hS => ?_)
  have hP : va_P G classes (wl [lfH ct a k h_6]) H := by rw [← eh_6]; exact hP
  have hD : va_D A (wl [lfH ct a k h_6]) := by rw [← eh_6]; exact hD
  refine lv_aload_n hx hb dX1_addLetter_30 rfl (lv_at hl 0 rfl) ?_
  refine va_get (D := G) (C := RX1) (T := TX1) (N := 16) (v := .ref (a 7)) hx hb hts iu_X1 hown hK hP 0 rfl rfl 9 (by decide) (hts _ kw145) (fun _ h9 => h9) rfl dX1_addLetter_31 ?_
  refine lv_aload_n hx hb dX1_addLetter_34 rfl (lv_at hl 0 rfl) ?_
  refine va_get (D := G) (C := RX1) (T := TX1) (N := 16) (v := .int (h_6.1 1)) hx hb hts iu_X1 hown hK hP 0 rfl rfl 5 (by decide) (hts _ kw136) (fun _ h9 => h9) rfl dX1_addLetter_35 ?_
  refine lv_iconst (v := (-1)) hx hb dX1_addLetter_38 (by decide) ?_
  obtain ⟨g_7, hf⟩ := gd_e hf
  obtain ⟨h_8, eh_8, hf⟩ := bl_e hf
  refine va_iast hx hb hK hP hD hS 7 0 rfl rfl g_7 dX1_addLetter_39 (fun H locs hP hD hS => ?_)
  have hP : va_P G classes (wl [lfH ct a k h_8]) H := by rw [← eh_8]; exact hP
  have hD : va_D A (wl [lfH ct a k h_8]) := by rw [← eh_8]; exact hD
  refine lv_aload_n hx hb dX1_addLetter_40 rfl (lv_at hl 0 rfl) ?_
  refine lv_dup hx hb dX1_addLetter_41 rfl ?_
  refine va_get (D := G) (C := RX1) (T := TX1) (N := 16) (v := .int (h_8.1 1)) hx hb hts iu_X1 hown hK hP 0 rfl rfl 5 (by decide) (hts _ kw136) (fun _ h9 => h9) rfl dX1_addLetter_42 ?_
  refine lv_iconst (v := 1) hx hb dX1_addLetter_45 (by decide) ?_
  refine lv_iadd hx hb dX1_addLetter_46 ?_
  obtain ⟨h_9, eh_9, hf⟩ := bl_e hf
  refine va_put (D := G) (C := RX1) (T := TX1) (N := 16) (ty := .int) hx hb hts iu_X1 tyX1 tyX1_ok nmX1 hown hK hP hD hS 0 rfl rfl 5 (by decide) (hts _ kw136) (fun _ h9 => h9) rfl (by decide +kernel) rfl rfl (Nat.le_of_ble_eq_true rfl) dX1_addLetter_47 (fun H locs hP hD hS => ?_)
  have hP : va_P G classes (wl [lfH ct a k h_9]) H := by rw [← eh_9]; exact hP
  have hD : va_D A (wl [lfH ct a k h_9]) := by rw [← eh_9]; exact hD
  refine lv_aload_n hx hb dX1_addLetter_50 rfl (lv_at hl 0 rfl) ?_
  refine va_get (D := G) (C := RX1) (T := TX1) (N := 16) (v := .int (h_9.1 1)) hx hb hts iu_X1 hown hK hP 0 rfl rfl 5 (by decide) (hts _ kw136) (fun _ h9 => h9) rfl dX1_addLetter_51 ?_
  refine lv_iconst (v := 1) hx hb dX1_addLetter_54 (by decide) ?_
  refine lv_isub hx hb dX1_addLetter_55 ?_
  obtain ⟨e1, e2⟩ := inj2 (Option.some.inj hf)
  exact end_i (w' := (wl [lfH ct a k h_9])) hx hb hr hlocks hK hP hD hS dX1_addLetter_56  ⟨by rw [← e1], by rw [← e2]⟩
noncomputable def f_X1_settle (n : Nat) (h : MV) (v1 : Int32) : Option (MV) :=
  gd (vp_in v1 6) <|
  bl (setA h 6 (upd (h.2.1 6) (ix v1) 5)) fun h_2 =>
  bd (f_X1_postage n h_2 v1) fun r_3 =>
  bl (setS h_2 4 ((h_2.1 4) + r_3)) fun h_4 =>
  some h_4
set_option maxHeartbeats 4000000 in
set_option maxRecDepth 100000 in
theorem c_X1_settle (l : Launch) (G : va_G) (ct : Nat → ClassId) (sk sv : Nat → Nat) (a : Nat → Nat) (k : Nat → Nat) (n : Nat) (h : MV) (v1 : Int32) {h' : MV} (hf : f_X1_settle n h v1 = some h') : Ctr (l, G, ct, sk, sv) mX1_settle 2 85 [.ref (a 0), .int v1] (wl [lfH ct a k h]) (wl [lfH ct a k h']) (none) := by
  refine ctr_intro (by decide) (Nat.le_of_ble_eq_true rfl) ?_
  intro p e s m args below meth c A C hP hD hS hA ls hl
  obtain ⟨hx, hb, hml, hown, hts, hr, hlocks, hK, hnm, hZ⟩ := C
  have hb : c.code = cX1_settle := hb
  have hml : c.maxLocals = 2 := hml
  have hown : s.vm.findClass "SignedOutside$House" = some m.cls := hown
  have hr : meth.sig.returnType = none := hr
  have hP : va_P G classes (wl [lfH ct a k h]) s.heap := hP
  have hD : va_D A (wl [lfH ct a k h]) := hD
  have hK : va_K G classes (TYS ct) s := hK
  have hl : lv_has ls 2 [(0, .ref (a 0)), (1, .int v1)] := hl
  unfold f_X1_settle at hf
  show WG l G ct sk sv p e (RM 2 85 0 0) s m args below meth c A (Eq2 (none) (wl [lfH ct a k h'])) s.heap [] (F0 m 0 ls [])
  refine lv_aload_n hx hb dX1_settle_0 rfl (lv_at hl 0 rfl) ?_
  refine va_get (D := G) (C := RX1) (T := TX1) (N := 16) (v := .ref (a 7)) hx hb hts iu_X1 hown hK hP 0 rfl rfl 9 (by decide) (hts _ kw145) (fun _ h9 => h9) rfl dX1_settle_1 ?_
  refine lv_iload_n hx hb dX1_settle_4 rfl (lv_at hl 1 rfl) ?_
  refine lv_iconst (v := 5) hx hb dX1_settle_5 (by decide) ?_
  obtain ⟨g_1, hf⟩ := gd_e hf
  obtain ⟨h_2, eh_2, hf⟩ := bl_e hf
  refine va_iast hx hb hK hP hD hS 7 0 rfl rfl g_1 dX1_settle_6 (fun H locs hP hD hS => ?_)
  have hP : va_P G classes (wl [lfH ct a k h_2]) H := by rw [← eh_2]; exact hP
  have hD : va_D A (wl [lfH ct a k h_2]) := by rw [← eh_2]; exact hD
  refine lv_aload_n hx hb dX1_settle_7 rfl (lv_at hl 0 rfl) ?_
  refine lv_dup hx hb dX1_settle_8 rfl ?_
  refine va_get (D := G) (C := RX1) (T := TX1) (N := 16) (v := .int (h_2.1 4)) hx hb hts iu_X1 hown hK hP 0 rfl rfl 12 (by decide) (hts _ kw154) (fun _ h9 => h9) rfl dX1_settle_9 ?_
  refine lv_aload_n hx hb dX1_settle_12 rfl (lv_at hl 0 rfl) ?_
  refine lv_iload_n hx hb dX1_settle_13 rfl (lv_at hl 1 rfl) ?_
  obtain ⟨r_3, hc3, hf⟩ := bd_e hf
  refine call_V (As := [.int v1]) (rest := [.int (h_2.1 4), .ref (a 0)]) hx hb hml hown hts hK hP hD hS hA hZ lkX1_127 (c_X1_postage l G ct sk sv a k n h_2 v1 hc3) 0 rfl rfl ⟨Nat.le_of_ble_eq_true rfl, Nat.le_of_ble_eq_true rfl⟩ rfl hl.1 rfl (Nat.le_of_ble_eq_true rfl) dX1_settle_14 ⟨Nat.le_of_ble_eq_true rfl, Nat.le_of_ble_eq_true rfl⟩ (fun r9 w9 H locs hB hP hD hS => ?_)
  obtain ⟨rfl, rfl⟩ := hB
  refine WG_eq (g2 := F0 m 17 ls [.int r_3, .int (h_2.1 4), .ref (a 0)]) rfl ?_
  refine lv_iadd hx hb dX1_settle_17 ?_
  obtain ⟨h_4, eh_4, hf⟩ := bl_e hf
  refine va_put (D := G) (C := RX1) (T := TX1) (N := 16) (ty := .int) hx hb hts iu_X1 tyX1 tyX1_ok nmX1 hown hK hP hD hS 0 rfl rfl 12 (by decide) (hts _ kw154) (fun _ h9 => h9) rfl (by decide +kernel) rfl rfl (Nat.le_of_ble_eq_true rfl) dX1_settle_18 (fun H locs hP hD hS => ?_)
  have hP : va_P G classes (wl [lfH ct a k h_4]) H := by rw [← eh_4]; exact hP
  have hD : va_D A (wl [lfH ct a k h_4]) := by rw [← eh_4]; exact hD
  have e1 := Option.some.inj hf
  exact end_v (w' := (wl [lfH ct a k h_4])) hx hb hr hlocks hK hP hD hS dX1_settle_21  ⟨rfl, by rw [← e1]⟩
noncomputable def f_X1_sign (n : Nat) (h : MV) (v1 : Int32) (v2 : Int32) : Option (MV) :=
  gd (vp_in v1 6) <|
  bl (setA h 6 (upd (h.2.1 6) (ix v1) v2)) fun h_2 =>
  gd (vp_in v2 5) <|
  gd (vp_in v2 5) <|
  bl (setA h_2 2 (upd (h_2.2.1 2) (ix v2) ((h_2.2.1 2 (ix v2)) + 1))) fun h_5 =>
  bd (f_X1_postage n h_5 v1) fun r_6 =>
  bl (setS h_5 3 ((h_5.1 3) + r_6)) fun h_7 =>
  some h_7
set_option maxHeartbeats 4000000 in
set_option maxRecDepth 100000 in
theorem c_X1_sign (l : Launch) (G : va_G) (ct : Nat → ClassId) (sk sv : Nat → Nat) (a : Nat → Nat) (k : Nat → Nat) (n : Nat) (h : MV) (v1 : Int32) (v2 : Int32) {h' : MV} (hf : f_X1_sign n h v1 v2 = some h') : Ctr (l, G, ct, sk, sv) mX1_sign 2 85 [.ref (a 0), .int v1, .int v2] (wl [lfH ct a k h]) (wl [lfH ct a k h']) (none) := by
  refine ctr_intro (by decide) (Nat.le_of_ble_eq_true rfl) ?_
  intro p e s m args below meth c A C hP hD hS hA ls hl
  obtain ⟨hx, hb, hml, hown, hts, hr, hlocks, hK, hnm, hZ⟩ := C
  have hb : c.code = cX1_sign := hb
  have hml : c.maxLocals = 3 := hml
  have hown : s.vm.findClass "SignedOutside$House" = some m.cls := hown
  have hr : meth.sig.returnType = none := hr
  have hP : va_P G classes (wl [lfH ct a k h]) s.heap := hP
  have hD : va_D A (wl [lfH ct a k h]) := hD
  have hK : va_K G classes (TYS ct) s := hK
  have hl : lv_has ls 3 [(0, .ref (a 0)), (1, .int v1), (2, .int v2)] := hl
  unfold f_X1_sign at hf
  show WG l G ct sk sv p e (RM 2 85 0 0) s m args below meth c A (Eq2 (none) (wl [lfH ct a k h'])) s.heap [] (F0 m 0 ls [])
  refine lv_aload_n hx hb dX1_sign_0 rfl (lv_at hl 0 rfl) ?_
  refine va_get (D := G) (C := RX1) (T := TX1) (N := 16) (v := .ref (a 7)) hx hb hts iu_X1 hown hK hP 0 rfl rfl 9 (by decide) (hts _ kw145) (fun _ h9 => h9) rfl dX1_sign_1 ?_
  refine lv_iload_n hx hb dX1_sign_4 rfl (lv_at hl 1 rfl) ?_
  refine lv_iload_n hx hb dX1_sign_5 rfl (lv_at hl 2 rfl) ?_
  obtain ⟨g_1, hf⟩ := gd_e hf
  obtain ⟨h_2, eh_2, hf⟩ := bl_e hf
  refine va_iast hx hb hK hP hD hS 7 0 rfl rfl g_1 dX1_sign_6 (fun H locs hP hD hS => ?_)
  have hP : va_P G classes (wl [lfH ct a k h_2]) H := by rw [← eh_2]; exact hP
  have hD : va_D A (wl [lfH ct a k h_2]) := by rw [← eh_2]; exact hD
  refine lv_aload_n hx hb dX1_sign_7 rfl (lv_at hl 0 rfl) ?_
  refine va_get (D := G) (C := RX1) (T := TX1) (N := 16) (v := .ref (a 3)) hx hb hts iu_X1 hown hK hP 0 rfl rfl 4 (by decide) (hts _ kw132) (fun _ h9 => h9) rfl dX1_sign_8 ?_
  refine lv_iload_n hx hb dX1_sign_11 rfl (lv_at hl 2 rfl) ?_
  refine lv_dup2_11 hx hb dX1_sign_12 rfl rfl ?_
  obtain ⟨g_3, hf⟩ := gd_e hf
  refine va_iald (f := h_2.2.1 2) hx hb hK hP 3 0 rfl rfl g_3 dX1_sign_13 ?_
  refine lv_iconst (v := 1) hx hb dX1_sign_14 (by decide) ?_
  refine lv_iadd hx hb dX1_sign_15 ?_
  obtain ⟨g_4, hf⟩ := gd_e hf
  obtain ⟨h_5, eh_5, hf⟩ := bl_e hf
  refine va_iast hx hb hK hP hD hS 3 0 rfl rfl g_4 dX1_sign_16 (fun H locs hP hD hS => ?_)
  have hP : va_P G classes (wl [lfH ct a k h_5]) H := by rw [← eh_5]; exact hP
  have hD : va_D A (wl [lfH ct a k h_5]) := by rw [← eh_5]; exact hD
  refine lv_aload_n hx hb dX1_sign_17 rfl (lv_at hl 0 rfl) ?_
  refine lv_dup hx hb dX1_sign_18 rfl ?_
  refine va_get (D := G) (C := RX1) (T := TX1) (N := 16) (v := .int (h_5.1 3)) hx hb hts iu_X1 hown hK hP 0 rfl rfl 11 (by decide) (hts _ kw151) (fun _ h9 => h9) rfl dX1_sign_19 ?_
  refine lv_aload_n hx hb dX1_sign_22 rfl (lv_at hl 0 rfl) ?_
  refine lv_iload_n hx hb dX1_sign_23 rfl (lv_at hl 1 rfl) ?_
  obtain ⟨r_6, hc6, hf⟩ := bd_e hf
  refine call_V (As := [.int v1]) (rest := [.int (h_5.1 3), .ref (a 0)]) hx hb hml hown hts hK hP hD hS hA hZ lkX1_127 (c_X1_postage l G ct sk sv a k n h_5 v1 hc6) 0 rfl rfl ⟨Nat.le_of_ble_eq_true rfl, Nat.le_of_ble_eq_true rfl⟩ rfl hl.1 rfl (Nat.le_of_ble_eq_true rfl) dX1_sign_24 ⟨Nat.le_of_ble_eq_true rfl, Nat.le_of_ble_eq_true rfl⟩ (fun r9 w9 H locs hB hP hD hS => ?_)
  obtain ⟨rfl, rfl⟩ := hB
  refine WG_eq (g2 := F0 m 27 ls [.int r_6, .int (h_5.1 3), .ref (a 0)]) rfl ?_
  refine lv_iadd hx hb dX1_sign_27 ?_
  obtain ⟨h_7, eh_7, hf⟩ := bl_e hf
  refine va_put (D := G) (C := RX1) (T := TX1) (N := 16) (ty := .int) hx hb hts iu_X1 tyX1 tyX1_ok nmX1 hown hK hP hD hS 0 rfl rfl 11 (by decide) (hts _ kw151) (fun _ h9 => h9) rfl (by decide +kernel) rfl rfl (Nat.le_of_ble_eq_true rfl) dX1_sign_28 (fun H locs hP hD hS => ?_)
  have hP : va_P G classes (wl [lfH ct a k h_7]) H := by rw [← eh_7]; exact hP
  have hD : va_D A (wl [lfH ct a k h_7]) := by rw [← eh_7]; exact hD
  have e1 := Option.some.inj hf
  exact end_v (w' := (wl [lfH ct a k h_7])) hx hb hr hlocks hK hP hD hS dX1_sign_31  ⟨rfl, by rw [← e1]⟩
noncomputable def f_X1_howManyLie_j23 (n : Nat) (h : MV) (v2 : Int32) (v1 : Int32) : Option ((Int32 × Int32) ⊕ (Int32)) :=
  bl (v2 + 1) fun v2_1 =>
  some (.inl (v2_1, v1))
noncomputable def f_X1_howManyLie_b4 (n : Nat) (h : MV) (v2 : Int32) (v1 : Int32) : Option ((Int32 × Int32) ⊕ (Int32)) :=
  bc ((h.1 1) ≤ v2) (some (.inr v1))
  (bd (f_X1_lies n h v2) fun r_3 =>
  bc (r_3 = 0) (f_X1_howManyLie_j23 n h v2 v1)
  (bl (v1 + 1) fun v1_5 =>
  f_X1_howManyLie_j23 n h v2 v1_5))
noncomputable def f_X1_howManyLie_l4 (fu : Nat) (n : Nat) (h : MV) (v2 : Int32) (v1 : Int32) : Option (Int32) :=
  lp (fun q => f_X1_howManyLie_b4 n h q.1 q.2) fu (v2, v1)
noncomputable def f_X1_howManyLie (n : Nat) (h : MV) : Option (Int32) :=
  bd (f_X1_howManyLie_l4 n n h 0 0) fun v1_6 =>
  some v1_6
set_option maxHeartbeats 4000000 in
set_option maxRecDepth 100000 in
theorem c_X1_howManyLie (l : Launch) (G : va_G) (ct : Nat → ClassId) (sk sv : Nat → Nat) (a : Nat → Nat) (k : Nat → Nat) (n : Nat) (h : MV) {r : Int32} (hf : f_X1_howManyLie n h = some r) : Ctr (l, G, ct, sk, sv) mX1_howManyLie 1 21 [.ref (a 0)] (wl [lfH ct a k h]) (wl [lfH ct a k h]) (some (.int r)) := by
  refine ctr_intro (by decide) (Nat.le_of_ble_eq_true rfl) ?_
  intro p e s m args below meth c A C hP hD hS hA ls hl
  obtain ⟨hx, hb, hml, hown, hts, hr, hlocks, hK, hnm, hZ⟩ := C
  have hb : c.code = cX1_howManyLie := hb
  have hml : c.maxLocals = 3 := hml
  have hown : s.vm.findClass "SignedOutside$House" = some m.cls := hown
  have hr : meth.sig.returnType = some .int := hr
  have hP : va_P G classes (wl [lfH ct a k h]) s.heap := hP
  have hD : va_D A (wl [lfH ct a k h]) := hD
  have hK : va_K G classes (TYS ct) s := hK
  have hl : lv_has ls 3 [(0, .ref (a 0))] := hl
  have L4 : ∀ (fu : Nat) (v2 : Int32) (v1 : Int32) (ex : Int32) (H : Heap) (locs : List Loc) (ls : Array Slot), va_P G classes (wl [lfH ct a k h]) H → va_D A (wl [lfH ct a k h]) → va_S A s.heap H locs → lv_has ls 3 [(2, .int v2), (1, .int v1), (0, .ref (a 0))] → f_X1_howManyLie_l4 fu n h v2 v1 = some ex → (∀ (x : Int32), ex = x → ∀ (H : Heap) (locs : List Loc) (ls : Array Slot), va_P G classes (wl [lfH ct a k h]) H → va_D A (wl [lfH ct a k h]) → va_S A s.heap H locs → lv_has ls 3 [(1, .int x)] → WG l G ct sk sv p e (RM 1 21 0 0) s m args below meth c A (Eq2 (some (.int r)) (wl [lfH ct a k h])) H locs (F0 m 29 ls [])) → WG l G ct sk sv p e (RM 1 21 0 0) s m args below meth c A (Eq2 (some (.int r)) (wl [lfH ct a k h])) H locs (F0 m 4 ls []) := by
    intro fu
    induction fu with
    | zero =>
      intro v2 v1 ex H locs ls hP hD hS hl hf
      exact absurd hf (by unfold f_X1_howManyLie_l4 lp; exact fun h => by cases h)
    | succ fu ih =>
      intro v2 v1 ex H locs ls hP hD hS hl hf hE
      unfold f_X1_howManyLie_l4 at hf
      obtain ⟨q, hf, hor⟩ := lp_e hf
      have J23 : ∀ (v2 : Int32) (v1 : Int32) (H : Heap) (locs : List Loc) (ls : Array Slot), va_P G classes (wl [lfH ct a k h]) H → va_D A (wl [lfH ct a k h]) → va_S A s.heap H locs → lv_has ls 3 [(2, .int v2), (1, .int v1), (0, .ref (a 0))] → f_X1_howManyLie_j23 n h v2 v1 = some q → WG l G ct sk sv p e (RM 1 21 0 0) s m args below meth c A (Eq2 (some (.int r)) (wl [lfH ct a k h])) H locs (F0 m 23 ls []) := by
        intro v2 v1 H locs ls hP hD hS hl hf
        unfold f_X1_howManyLie_j23 at hf
        obtain ⟨v2_1, ev2_1, hf⟩ := bl_e hf
        refine lv_iinc (v := v2_1) (lv' := [(2, .int v2_1), (1, .int v1), (0, .ref (a 0))]) hx hb dX1_howManyLie_23 hl (k := 0) rfl ev2_1 (by decide) rfl (fun ls hl => ?_)
        refine lv_goto (tgt := 4) hx hb dX1_howManyLie_26 (by decide) ?_
        exact ih v2_1 v1 ex _ _ _ hP hD hS hl (lp_inl hor hf) hE
      replace hf : f_X1_howManyLie_b4 n h v2 v1 = some q := hf
      unfold f_X1_howManyLie_b4 at hf
      refine lv_iload_n hx hb dX1_howManyLie_4 rfl (lv_at hl 0 rfl) ?_
      refine lv_aload_n hx hb dX1_howManyLie_5 rfl (lv_at hl 2 rfl) ?_
      refine va_get (D := G) (C := RX1) (T := TX1) (N := 16) (v := .int (h.1 1)) hx hb hts iu_X1 hown hK hP 0 rfl rfl 5 (by decide) (hts _ kw136) (fun _ h9 => h9) rfl dX1_howManyLie_6 ?_
      refine lv_icmp_ge (tgt := 29) hx hb dX1_howManyLie_9 (by decide) (fun c_2 => ?_) (fun c_2 => ?_)
      · replace hf := bc_t hf c_2
        exact hE v1 (lp_inr hor hf).symm _ _ _ hP hD hS (lv_sub hl [1] rfl)
      · replace hf := bc_f hf c_2
        refine lv_aload_n hx hb dX1_howManyLie_12 rfl (lv_at hl 2 rfl) ?_
        refine lv_iload_n hx hb dX1_howManyLie_13 rfl (lv_at hl 0 rfl) ?_
        obtain ⟨r_3, hc3, hf⟩ := bd_e hf
        refine call_V (As := [.int v2]) (rest := []) hx hb hml hown hts hK hP hD hS hA hZ lkX1_115 (c_X1_lies l G ct sk sv a k n h v2 hc3) 0 rfl rfl ⟨Nat.le_of_ble_eq_true rfl, Nat.le_of_ble_eq_true rfl⟩ rfl hl.1 rfl (Nat.le_of_ble_eq_true rfl) dX1_howManyLie_14 ⟨Nat.le_of_ble_eq_true rfl, Nat.le_of_ble_eq_true rfl⟩ (fun r9 w9 H locs hB hP hD hS => ?_)
        obtain ⟨rfl, rfl⟩ := hB
        refine WG_eq (g2 := F0 m 17 ls [.int r_3]) rfl ?_
        refine lv_if_eq (tgt := 23) hx hb dX1_howManyLie_17 (by decide) (fun c_4 => ?_) (fun c_4 => ?_)
        · replace hf := bc_t hf c_4
          exact J23 v2 v1 _ _ _ hP hD hS hl hf
        · replace hf := bc_f hf c_4
          obtain ⟨v1_5, ev1_5, hf⟩ := bl_e hf
          refine lv_iinc (v := v1_5) (lv' := [(1, .int v1_5), (2, .int v2), (0, .ref (a 0))]) hx hb dX1_howManyLie_20 hl (k := 1) rfl ev1_5 (by decide) rfl (fun ls hl => ?_)
          exact J23 v2 v1_5 _ _ _ hP hD hS (lv_sub hl [1, 0, 2] rfl) hf
  unfold f_X1_howManyLie at hf
  show WG l G ct sk sv p e (RM 1 21 0 0) s m args below meth c A (Eq2 (some (.int r)) (wl [lfH ct a k h])) s.heap [] (F0 m 0 ls [])
  refine lv_iconst (v := 0) hx hb dX1_howManyLie_0 (by decide) ?_
  refine lv_istore_n (lv' := [(1, .int 0), (0, .ref (a 0))]) hx hb dX1_howManyLie_1 rfl hl (by decide) rfl (fun ls hl => ?_)
  refine lv_iconst (v := 0) hx hb dX1_howManyLie_2 (by decide) ?_
  refine lv_istore_n (lv' := [(2, .int 0), (1, .int 0), (0, .ref (a 0))]) hx hb dX1_howManyLie_3 rfl hl (by decide) rfl (fun ls hl => ?_)
  obtain ⟨v1_6, hx_7, hf⟩ := bd_e hf
  refine L4 n 0 0 v1_6 _ _ _ hP hD hS hl hx_7 ?_
  intro x9 e9 H locs ls hP hD hS hl
  subst e9
  have hP : va_P G classes (wl [lfH ct a k h]) H := hP
  have hD : va_D A (wl [lfH ct a k h]) := hD
  have hl : lv_has ls 3 [(1, .int v1_6)] := hl
  refine lv_iload_n hx hb dX1_howManyLie_29 rfl (lv_at hl 0 rfl) ?_
  have e1 := Option.some.inj hf
  exact end_i (w' := (wl [lfH ct a k h])) hx hb hr hlocks hK hP hD hS dX1_howManyLie_30  ⟨by rw [← e1], rfl⟩
noncomputable def f_X1_postageDue_j28 (n : Nat) (h : MV) (v2 : Int32) (v1 : Int32) : Option ((Int32 × Int32) ⊕ (Int32)) :=
  bl (v2 + 1) fun v2_1 =>
  some (.inl (v2_1, v1))
noncomputable def f_X1_postageDue_b4 (n : Nat) (h : MV) (v2 : Int32) (v1 : Int32) : Option ((Int32 × Int32) ⊕ (Int32)) :=
  bc ((h.1 1) ≤ v2) (some (.inr v1))
  (bd (f_X1_lies n h v2) fun r_3 =>
  bc (r_3 = 0) (f_X1_postageDue_j28 n h v2 v1)
  (bd (f_X1_postage n h v2) fun r_5 =>
  bl (v1 + r_5) fun v1_6 =>
  f_X1_postageDue_j28 n h v2 v1_6))
noncomputable def f_X1_postageDue_l4 (fu : Nat) (n : Nat) (h : MV) (v2 : Int32) (v1 : Int32) : Option (Int32) :=
  lp (fun q => f_X1_postageDue_b4 n h q.1 q.2) fu (v2, v1)
noncomputable def f_X1_postageDue (n : Nat) (h : MV) : Option (Int32) :=
  bd (f_X1_postageDue_l4 n n h 0 0) fun v1_7 =>
  some v1_7
set_option maxHeartbeats 4000000 in
set_option maxRecDepth 100000 in
theorem c_X1_postageDue (l : Launch) (G : va_G) (ct : Nat → ClassId) (sk sv : Nat → Nat) (a : Nat → Nat) (k : Nat → Nat) (n : Nat) (h : MV) {r : Int32} (hf : f_X1_postageDue n h = some r) : Ctr (l, G, ct, sk, sv) mX1_postageDue 2 85 [.ref (a 0)] (wl [lfH ct a k h]) (wl [lfH ct a k h]) (some (.int r)) := by
  refine ctr_intro (by decide) (Nat.le_of_ble_eq_true rfl) ?_
  intro p e s m args below meth c A C hP hD hS hA ls hl
  obtain ⟨hx, hb, hml, hown, hts, hr, hlocks, hK, hnm, hZ⟩ := C
  have hb : c.code = cX1_postageDue := hb
  have hml : c.maxLocals = 3 := hml
  have hown : s.vm.findClass "SignedOutside$House" = some m.cls := hown
  have hr : meth.sig.returnType = some .int := hr
  have hP : va_P G classes (wl [lfH ct a k h]) s.heap := hP
  have hD : va_D A (wl [lfH ct a k h]) := hD
  have hK : va_K G classes (TYS ct) s := hK
  have hl : lv_has ls 3 [(0, .ref (a 0))] := hl
  have L4 : ∀ (fu : Nat) (v2 : Int32) (v1 : Int32) (ex : Int32) (H : Heap) (locs : List Loc) (ls : Array Slot), va_P G classes (wl [lfH ct a k h]) H → va_D A (wl [lfH ct a k h]) → va_S A s.heap H locs → lv_has ls 3 [(2, .int v2), (1, .int v1), (0, .ref (a 0))] → f_X1_postageDue_l4 fu n h v2 v1 = some ex → (∀ (x : Int32), ex = x → ∀ (H : Heap) (locs : List Loc) (ls : Array Slot), va_P G classes (wl [lfH ct a k h]) H → va_D A (wl [lfH ct a k h]) → va_S A s.heap H locs → lv_has ls 3 [(1, .int x)] → WG l G ct sk sv p e (RM 2 85 0 0) s m args below meth c A (Eq2 (some (.int r)) (wl [lfH ct a k h])) H locs (F0 m 34 ls [])) → WG l G ct sk sv p e (RM 2 85 0 0) s m args below meth c A (Eq2 (some (.int r)) (wl [lfH ct a k h])) H locs (F0 m 4 ls []) := by
    intro fu
    induction fu with
    | zero =>
      intro v2 v1 ex H locs ls hP hD hS hl hf
      exact absurd hf (by unfold f_X1_postageDue_l4 lp; exact fun h => by cases h)
    | succ fu ih =>
      intro v2 v1 ex H locs ls hP hD hS hl hf hE
      unfold f_X1_postageDue_l4 at hf
      obtain ⟨q, hf, hor⟩ := lp_e hf
      have J28 : ∀ (v2 : Int32) (v1 : Int32) (H : Heap) (locs : List Loc) (ls : Array Slot), va_P G classes (wl [lfH ct a k h]) H → va_D A (wl [lfH ct a k h]) → va_S A s.heap H locs → lv_has ls 3 [(2, .int v2), (1, .int v1), (0, .ref (a 0))] → f_X1_postageDue_j28 n h v2 v1 = some q → WG l G ct sk sv p e (RM 2 85 0 0) s m args below meth c A (Eq2 (some (.int r)) (wl [lfH ct a k h])) H locs (F0 m 28 ls []) := by
        intro v2 v1 H locs ls hP hD hS hl hf
        unfold f_X1_postageDue_j28 at hf
        obtain ⟨v2_1, ev2_1, hf⟩ := bl_e hf
        refine lv_iinc (v := v2_1) (lv' := [(2, .int v2_1), (1, .int v1), (0, .ref (a 0))]) hx hb dX1_postageDue_28 hl (k := 0) rfl ev2_1 (by decide) rfl (fun ls hl => ?_)
        refine lv_goto (tgt := 4) hx hb dX1_postageDue_31 (by decide) ?_
        exact ih v2_1 v1 ex _ _ _ hP hD hS hl (lp_inl hor hf) hE
      replace hf : f_X1_postageDue_b4 n h v2 v1 = some q := hf
      unfold f_X1_postageDue_b4 at hf
      refine lv_iload_n hx hb dX1_postageDue_4 rfl (lv_at hl 0 rfl) ?_
      refine lv_aload_n hx hb dX1_postageDue_5 rfl (lv_at hl 2 rfl) ?_
      refine va_get (D := G) (C := RX1) (T := TX1) (N := 16) (v := .int (h.1 1)) hx hb hts iu_X1 hown hK hP 0 rfl rfl 5 (by decide) (hts _ kw136) (fun _ h9 => h9) rfl dX1_postageDue_6 ?_
      refine lv_icmp_ge (tgt := 34) hx hb dX1_postageDue_9 (by decide) (fun c_2 => ?_) (fun c_2 => ?_)
      · replace hf := bc_t hf c_2
        exact hE v1 (lp_inr hor hf).symm _ _ _ hP hD hS (lv_sub hl [1] rfl)
      · replace hf := bc_f hf c_2
        refine lv_aload_n hx hb dX1_postageDue_12 rfl (lv_at hl 2 rfl) ?_
        refine lv_iload_n hx hb dX1_postageDue_13 rfl (lv_at hl 0 rfl) ?_
        obtain ⟨r_3, hc3, hf⟩ := bd_e hf
        refine call_V (As := [.int v2]) (rest := []) hx hb hml hown hts hK hP hD hS hA hZ lkX1_115 (c_X1_lies l G ct sk sv a k n h v2 hc3) 0 rfl rfl ⟨Nat.le_of_ble_eq_true rfl, Nat.le_of_ble_eq_true rfl⟩ rfl hl.1 rfl (Nat.le_of_ble_eq_true rfl) dX1_postageDue_14 ⟨Nat.le_of_ble_eq_true rfl, Nat.le_of_ble_eq_true rfl⟩ (fun r9 w9 H locs hB hP hD hS => ?_)
        obtain ⟨rfl, rfl⟩ := hB
        refine WG_eq (g2 := F0 m 17 ls [.int r_3]) rfl ?_
        refine lv_if_eq (tgt := 28) hx hb dX1_postageDue_17 (by decide) (fun c_4 => ?_) (fun c_4 => ?_)
        · replace hf := bc_t hf c_4
          exact J28 v2 v1 _ _ _ hP hD hS hl hf
        · replace hf := bc_f hf c_4
          refine lv_iload_n hx hb dX1_postageDue_20 rfl (lv_at hl 1 rfl) ?_
          refine lv_aload_n hx hb dX1_postageDue_21 rfl (lv_at hl 2 rfl) ?_
          refine lv_iload_n hx hb dX1_postageDue_22 rfl (lv_at hl 0 rfl) ?_
          obtain ⟨r_5, hc5, hf⟩ := bd_e hf
          refine call_V (As := [.int v2]) (rest := [.int v1]) hx hb hml hown hts hK hP hD hS hA hZ lkX1_127 (c_X1_postage l G ct sk sv a k n h v2 hc5) 0 rfl rfl ⟨Nat.le_of_ble_eq_true rfl, Nat.le_of_ble_eq_true rfl⟩ rfl hl.1 rfl (Nat.le_of_ble_eq_true rfl) dX1_postageDue_23 ⟨Nat.le_of_ble_eq_true rfl, Nat.le_of_ble_eq_true rfl⟩ (fun r9 w9 H locs hB hP hD hS => ?_)
          obtain ⟨rfl, rfl⟩ := hB
          refine WG_eq (g2 := F0 m 26 ls [.int r_5, .int v1]) rfl ?_
          refine lv_iadd hx hb dX1_postageDue_26 ?_
          refine lv_topi (fun v1_6 ev1_6 => ?_)
          replace hf := bl_i hf ev1_6
          refine lv_istore_n (lv' := [(1, .int v1_6), (2, .int v2), (0, .ref (a 0))]) hx hb dX1_postageDue_27 rfl hl (by decide) rfl (fun ls hl => ?_)
          exact J28 v2 v1_6 _ _ _ hP hD hS (lv_sub hl [1, 0, 2] rfl) hf
  unfold f_X1_postageDue at hf
  show WG l G ct sk sv p e (RM 2 85 0 0) s m args below meth c A (Eq2 (some (.int r)) (wl [lfH ct a k h])) s.heap [] (F0 m 0 ls [])
  refine lv_iconst (v := 0) hx hb dX1_postageDue_0 (by decide) ?_
  refine lv_istore_n (lv' := [(1, .int 0), (0, .ref (a 0))]) hx hb dX1_postageDue_1 rfl hl (by decide) rfl (fun ls hl => ?_)
  refine lv_iconst (v := 0) hx hb dX1_postageDue_2 (by decide) ?_
  refine lv_istore_n (lv' := [(2, .int 0), (1, .int 0), (0, .ref (a 0))]) hx hb dX1_postageDue_3 rfl hl (by decide) rfl (fun ls hl => ?_)
  obtain ⟨v1_7, hx_8, hf⟩ := bd_e hf
  refine L4 n 0 0 v1_7 _ _ _ hP hD hS hl hx_8 ?_
  intro x9 e9 H locs ls hP hD hS hl
  subst e9
  have hP : va_P G classes (wl [lfH ct a k h]) H := hP
  have hD : va_D A (wl [lfH ct a k h]) := hD
  have hl : lv_has ls 3 [(1, .int v1_7)] := hl
  refine lv_iload_n hx hb dX1_postageDue_34 rfl (lv_at hl 0 rfl) ?_
  have e1 := Option.some.inj hf
  exact end_i (w' := (wl [lfH ct a k h])) hx hb hr hlocks hK hP hD hS dX1_postageDue_35  ⟨by rw [← e1], rfl⟩
noncomputable def f_X1_postageFranked_j38 (n : Nat) (h : MV) (v2 : Int32) (v1 : Int32) : Option ((Int32 × Int32) ⊕ (Int32)) :=
  bl (v2 + 1) fun v2_1 =>
  some (.inl (v2_1, v1))
noncomputable def f_X1_postageFranked_b4 (n : Nat) (h : MV) (v2 : Int32) (v1 : Int32) : Option ((Int32 × Int32) ⊕ (Int32)) :=
  bc ((h.1 1) ≤ v2) (some (.inr v1))
  (bd (f_X1_lies n h v2) fun r_3 =>
  bc (r_3 = 0) (gd (vp_in v2 6) <|
  bc ((h.2.1 6 (ix v2)) = 5) (f_X1_postageFranked_j38 n h v2 v1)
  (bd (f_X1_postage n h v2) fun r_7 =>
  bl (v1 + r_7) fun v1_8 =>
  f_X1_postageFranked_j38 n h v2 v1_8))
  (f_X1_postageFranked_j38 n h v2 v1))
noncomputable def f_X1_postageFranked_l4 (fu : Nat) (n : Nat) (h : MV) (v2 : Int32) (v1 : Int32) : Option (Int32) :=
  lp (fun q => f_X1_postageFranked_b4 n h q.1 q.2) fu (v2, v1)
noncomputable def f_X1_postageFranked (n : Nat) (h : MV) : Option (Int32) :=
  bd (f_X1_postageFranked_l4 n n h 0 0) fun v1_9 =>
  some v1_9
set_option maxHeartbeats 4000000 in
set_option maxRecDepth 100000 in
theorem c_X1_postageFranked (l : Launch) (G : va_G) (ct : Nat → ClassId) (sk sv : Nat → Nat) (a : Nat → Nat) (k : Nat → Nat) (n : Nat) (h : MV) {r : Int32} (hf : f_X1_postageFranked n h = some r) : Ctr (l, G, ct, sk, sv) mX1_postageFranked 2 85 [.ref (a 0)] (wl [lfH ct a k h]) (wl [lfH ct a k h]) (some (.int r)) := by
  refine ctr_intro (by decide) (Nat.le_of_ble_eq_true rfl) ?_
  intro p e s m args below meth c A C hP hD hS hA ls hl
  obtain ⟨hx, hb, hml, hown, hts, hr, hlocks, hK, hnm, hZ⟩ := C
  have hb : c.code = cX1_postageFranked := hb
  have hml : c.maxLocals = 3 := hml
  have hown : s.vm.findClass "SignedOutside$House" = some m.cls := hown
  have hr : meth.sig.returnType = some .int := hr
  have hP : va_P G classes (wl [lfH ct a k h]) s.heap := hP
  have hD : va_D A (wl [lfH ct a k h]) := hD
  have hK : va_K G classes (TYS ct) s := hK
  have hl : lv_has ls 3 [(0, .ref (a 0))] := hl
  have L4 : ∀ (fu : Nat) (v2 : Int32) (v1 : Int32) (ex : Int32) (H : Heap) (locs : List Loc) (ls : Array Slot), va_P G classes (wl [lfH ct a k h]) H → va_D A (wl [lfH ct a k h]) → va_S A s.heap H locs → lv_has ls 3 [(2, .int v2), (1, .int v1), (0, .ref (a 0))] → f_X1_postageFranked_l4 fu n h v2 v1 = some ex → (∀ (x : Int32), ex = x → ∀ (H : Heap) (locs : List Loc) (ls : Array Slot), va_P G classes (wl [lfH ct a k h]) H → va_D A (wl [lfH ct a k h]) → va_S A s.heap H locs → lv_has ls 3 [(1, .int x)] → WG l G ct sk sv p e (RM 2 85 0 0) s m args below meth c A (Eq2 (some (.int r)) (wl [lfH ct a k h])) H locs (F0 m 44 ls [])) → WG l G ct sk sv p e (RM 2 85 0 0) s m args below meth c A (Eq2 (some (.int r)) (wl [lfH ct a k h])) H locs (F0 m 4 ls []) := by
    intro fu
    induction fu with
    | zero =>
      intro v2 v1 ex H locs ls hP hD hS hl hf
      exact absurd hf (by unfold f_X1_postageFranked_l4 lp; exact fun h => by cases h)
    | succ fu ih =>
      intro v2 v1 ex H locs ls hP hD hS hl hf hE
      unfold f_X1_postageFranked_l4 at hf
      obtain ⟨q, hf, hor⟩ := lp_e hf
      have J38 : ∀ (v2 : Int32) (v1 : Int32) (H : Heap) (locs : List Loc) (ls : Array Slot), va_P G classes (wl [lfH ct a k h]) H → va_D A (wl [lfH ct a k h]) → va_S A s.heap H locs → lv_has ls 3 [(2, .int v2), (1, .int v1), (0, .ref (a 0))] → f_X1_postageFranked_j38 n h v2 v1 = some q → WG l G ct sk sv p e (RM 2 85 0 0) s m args below meth c A (Eq2 (some (.int r)) (wl [lfH ct a k h])) H locs (F0 m 38 ls []) := by
        intro v2 v1 H locs ls hP hD hS hl hf
        unfold f_X1_postageFranked_j38 at hf
        obtain ⟨v2_1, ev2_1, hf⟩ := bl_e hf
        refine lv_iinc (v := v2_1) (lv' := [(2, .int v2_1), (1, .int v1), (0, .ref (a 0))]) hx hb dX1_postageFranked_38 hl (k := 0) rfl ev2_1 (by decide) rfl (fun ls hl => ?_)
        refine lv_goto (tgt := 4) hx hb dX1_postageFranked_41 (by decide) ?_
        exact ih v2_1 v1 ex _ _ _ hP hD hS hl (lp_inl hor hf) hE
      replace hf : f_X1_postageFranked_b4 n h v2 v1 = some q := hf
      unfold f_X1_postageFranked_b4 at hf
      refine lv_iload_n hx hb dX1_postageFranked_4 rfl (lv_at hl 0 rfl) ?_
      refine lv_aload_n hx hb dX1_postageFranked_5 rfl (lv_at hl 2 rfl) ?_
      refine va_get (D := G) (C := RX1) (T := TX1) (N := 16) (v := .int (h.1 1)) hx hb hts iu_X1 hown hK hP 0 rfl rfl 5 (by decide) (hts _ kw136) (fun _ h9 => h9) rfl dX1_postageFranked_6 ?_
      refine lv_icmp_ge (tgt := 44) hx hb dX1_postageFranked_9 (by decide) (fun c_2 => ?_) (fun c_2 => ?_)
      · replace hf := bc_t hf c_2
        exact hE v1 (lp_inr hor hf).symm _ _ _ hP hD hS (lv_sub hl [1] rfl)
      · replace hf := bc_f hf c_2
        refine lv_aload_n hx hb dX1_postageFranked_12 rfl (lv_at hl 2 rfl) ?_
        refine lv_iload_n hx hb dX1_postageFranked_13 rfl (lv_at hl 0 rfl) ?_
        obtain ⟨r_3, hc3, hf⟩ := bd_e hf
        refine call_V (As := [.int v2]) (rest := []) hx hb hml hown hts hK hP hD hS hA hZ lkX1_115 (c_X1_lies l G ct sk sv a k n h v2 hc3) 0 rfl rfl ⟨Nat.le_of_ble_eq_true rfl, Nat.le_of_ble_eq_true rfl⟩ rfl hl.1 rfl (Nat.le_of_ble_eq_true rfl) dX1_postageFranked_14 ⟨Nat.le_of_ble_eq_true rfl, Nat.le_of_ble_eq_true rfl⟩ (fun r9 w9 H locs hB hP hD hS => ?_)
        obtain ⟨rfl, rfl⟩ := hB
        refine WG_eq (g2 := F0 m 17 ls [.int r_3]) rfl ?_
        refine lv_if_ne (tgt := 38) hx hb dX1_postageFranked_17 (by decide) (fun c_4 => ?_) (fun c_4 => ?_)
        · replace hf := bc_f hf c_4
          exact J38 v2 v1 _ _ _ hP hD hS hl hf
        · replace hf := bc_t hf c_4
          refine lv_aload_n hx hb dX1_postageFranked_20 rfl (lv_at hl 2 rfl) ?_
          refine va_get (D := G) (C := RX1) (T := TX1) (N := 16) (v := .ref (a 7)) hx hb hts iu_X1 hown hK hP 0 rfl rfl 9 (by decide) (hts _ kw145) (fun _ h9 => h9) rfl dX1_postageFranked_21 ?_
          refine lv_iload_n hx hb dX1_postageFranked_24 rfl (lv_at hl 0 rfl) ?_
          obtain ⟨g_5, hf⟩ := gd_e hf
          refine va_iald (f := h.2.1 6) hx hb hK hP 7 0 rfl rfl g_5 dX1_postageFranked_25 ?_
          refine lv_iconst (v := 5) hx hb dX1_postageFranked_26 (by decide) ?_
          refine lv_icmp_eq (tgt := 38) hx hb dX1_postageFranked_27 (by decide) (fun c_6 => ?_) (fun c_6 => ?_)
          · replace hf := bc_t hf c_6
            exact J38 v2 v1 _ _ _ hP hD hS hl hf
          · replace hf := bc_f hf c_6
            refine lv_iload_n hx hb dX1_postageFranked_30 rfl (lv_at hl 1 rfl) ?_
            refine lv_aload_n hx hb dX1_postageFranked_31 rfl (lv_at hl 2 rfl) ?_
            refine lv_iload_n hx hb dX1_postageFranked_32 rfl (lv_at hl 0 rfl) ?_
            obtain ⟨r_7, hc7, hf⟩ := bd_e hf
            refine call_V (As := [.int v2]) (rest := [.int v1]) hx hb hml hown hts hK hP hD hS hA hZ lkX1_127 (c_X1_postage l G ct sk sv a k n h v2 hc7) 0 rfl rfl ⟨Nat.le_of_ble_eq_true rfl, Nat.le_of_ble_eq_true rfl⟩ rfl hl.1 rfl (Nat.le_of_ble_eq_true rfl) dX1_postageFranked_33 ⟨Nat.le_of_ble_eq_true rfl, Nat.le_of_ble_eq_true rfl⟩ (fun r9 w9 H locs hB hP hD hS => ?_)
            obtain ⟨rfl, rfl⟩ := hB
            refine WG_eq (g2 := F0 m 36 ls [.int r_7, .int v1]) rfl ?_
            refine lv_iadd hx hb dX1_postageFranked_36 ?_
            refine lv_topi (fun v1_8 ev1_8 => ?_)
            replace hf := bl_i hf ev1_8
            refine lv_istore_n (lv' := [(1, .int v1_8), (2, .int v2), (0, .ref (a 0))]) hx hb dX1_postageFranked_37 rfl hl (by decide) rfl (fun ls hl => ?_)
            exact J38 v2 v1_8 _ _ _ hP hD hS (lv_sub hl [1, 0, 2] rfl) hf
  unfold f_X1_postageFranked at hf
  show WG l G ct sk sv p e (RM 2 85 0 0) s m args below meth c A (Eq2 (some (.int r)) (wl [lfH ct a k h])) s.heap [] (F0 m 0 ls [])
  refine lv_iconst (v := 0) hx hb dX1_postageFranked_0 (by decide) ?_
  refine lv_istore_n (lv' := [(1, .int 0), (0, .ref (a 0))]) hx hb dX1_postageFranked_1 rfl hl (by decide) rfl (fun ls hl => ?_)
  refine lv_iconst (v := 0) hx hb dX1_postageFranked_2 (by decide) ?_
  refine lv_istore_n (lv' := [(2, .int 0), (1, .int 0), (0, .ref (a 0))]) hx hb dX1_postageFranked_3 rfl hl (by decide) rfl (fun ls hl => ?_)
  obtain ⟨v1_9, hx_10, hf⟩ := bd_e hf
  refine L4 n 0 0 v1_9 _ _ _ hP hD hS hl hx_10 ?_
  intro x9 e9 H locs ls hP hD hS hl
  subst e9
  have hP : va_P G classes (wl [lfH ct a k h]) H := hP
  have hD : va_D A (wl [lfH ct a k h]) := hD
  have hl : lv_has ls 3 [(1, .int v1_9)] := hl
  refine lv_iload_n hx hb dX1_postageFranked_44 rfl (lv_at hl 0 rfl) ?_
  have e1 := Option.some.inj hf
  exact end_i (w' := (wl [lfH ct a k h])) hx hb hr hlocks hK hP hD hS dX1_postageFranked_45  ⟨by rw [← e1], rfl⟩
noncomputable def f_X1_postageOfEvery_b4 (n : Nat) (h : MV) (v2 : Int32) (v1 : Int32) : Option ((Int32 × Int32) ⊕ (Int32)) :=
  bc ((h.1 1) ≤ v2) (some (.inr v1))
  (bd (f_X1_postage n h v2) fun r_2 =>
  bl (v1 + r_2) fun v1_3 =>
  bl (v2 + 1) fun v2_4 =>
  some (.inl (v2_4, v1_3)))
noncomputable def f_X1_postageOfEvery_l4 (fu : Nat) (n : Nat) (h : MV) (v2 : Int32) (v1 : Int32) : Option (Int32) :=
  lp (fun q => f_X1_postageOfEvery_b4 n h q.1 q.2) fu (v2, v1)
noncomputable def f_X1_postageOfEvery (n : Nat) (h : MV) : Option (Int32) :=
  bd (f_X1_postageOfEvery_l4 n n h 0 0) fun v1_5 =>
  some v1_5
set_option maxHeartbeats 4000000 in
set_option maxRecDepth 100000 in
theorem c_X1_postageOfEvery (l : Launch) (G : va_G) (ct : Nat → ClassId) (sk sv : Nat → Nat) (a : Nat → Nat) (k : Nat → Nat) (n : Nat) (h : MV) {r : Int32} (hf : f_X1_postageOfEvery n h = some r) : Ctr (l, G, ct, sk, sv) mX1_postageOfEvery 2 85 [.ref (a 0)] (wl [lfH ct a k h]) (wl [lfH ct a k h]) (some (.int r)) := by
  refine ctr_intro (by decide) (Nat.le_of_ble_eq_true rfl) ?_
  intro p e s m args below meth c A C hP hD hS hA ls hl
  obtain ⟨hx, hb, hml, hown, hts, hr, hlocks, hK, hnm, hZ⟩ := C
  have hb : c.code = cX1_postageOfEvery := hb
  have hml : c.maxLocals = 3 := hml
  have hown : s.vm.findClass "SignedOutside$House" = some m.cls := hown
  have hr : meth.sig.returnType = some .int := hr
  have hP : va_P G classes (wl [lfH ct a k h]) s.heap := hP
  have hD : va_D A (wl [lfH ct a k h]) := hD
  have hK : va_K G classes (TYS ct) s := hK
  have hl : lv_has ls 3 [(0, .ref (a 0))] := hl
  have L4 : ∀ (fu : Nat) (v2 : Int32) (v1 : Int32) (ex : Int32) (H : Heap) (locs : List Loc) (ls : Array Slot), va_P G classes (wl [lfH ct a k h]) H → va_D A (wl [lfH ct a k h]) → va_S A s.heap H locs → lv_has ls 3 [(2, .int v2), (1, .int v1), (0, .ref (a 0))] → f_X1_postageOfEvery_l4 fu n h v2 v1 = some ex → (∀ (x : Int32), ex = x → ∀ (H : Heap) (locs : List Loc) (ls : Array Slot), va_P G classes (wl [lfH ct a k h]) H → va_D A (wl [lfH ct a k h]) → va_S A s.heap H locs → lv_has ls 3 [(1, .int x)] → WG l G ct sk sv p e (RM 2 85 0 0) s m args below meth c A (Eq2 (some (.int r)) (wl [lfH ct a k h])) H locs (F0 m 26 ls [])) → WG l G ct sk sv p e (RM 2 85 0 0) s m args below meth c A (Eq2 (some (.int r)) (wl [lfH ct a k h])) H locs (F0 m 4 ls []) := by
    intro fu
    induction fu with
    | zero =>
      intro v2 v1 ex H locs ls hP hD hS hl hf
      exact absurd hf (by unfold f_X1_postageOfEvery_l4 lp; exact fun h => by cases h)
    | succ fu ih =>
      intro v2 v1 ex H locs ls hP hD hS hl hf hE
      unfold f_X1_postageOfEvery_l4 at hf
      obtain ⟨q, hf, hor⟩ := lp_e hf
      replace hf : f_X1_postageOfEvery_b4 n h v2 v1 = some q := hf
      unfold f_X1_postageOfEvery_b4 at hf
      refine lv_iload_n hx hb dX1_postageOfEvery_4 rfl (lv_at hl 0 rfl) ?_
      refine lv_aload_n hx hb dX1_postageOfEvery_5 rfl (lv_at hl 2 rfl) ?_
      refine va_get (D := G) (C := RX1) (T := TX1) (N := 16) (v := .int (h.1 1)) hx hb hts iu_X1 hown hK hP 0 rfl rfl 5 (by decide) (hts _ kw136) (fun _ h9 => h9) rfl dX1_postageOfEvery_6 ?_
      refine lv_icmp_ge (tgt := 26) hx hb dX1_postageOfEvery_9 (by decide) (fun c_1 => ?_) (fun c_1 => ?_)
      · replace hf := bc_t hf c_1
        exact hE v1 (lp_inr hor hf).symm _ _ _ hP hD hS (lv_sub hl [1] rfl)
      · replace hf := bc_f hf c_1
        refine lv_iload_n hx hb dX1_postageOfEvery_12 rfl (lv_at hl 1 rfl) ?_
        refine lv_aload_n hx hb dX1_postageOfEvery_13 rfl (lv_at hl 2 rfl) ?_
        refine lv_iload_n hx hb dX1_postageOfEvery_14 rfl (lv_at hl 0 rfl) ?_
        obtain ⟨r_2, hc2, hf⟩ := bd_e hf
        refine call_V (As := [.int v2]) (rest := [.int v1]) hx hb hml hown hts hK hP hD hS hA hZ lkX1_127 (c_X1_postage l G ct sk sv a k n h v2 hc2) 0 rfl rfl ⟨Nat.le_of_ble_eq_true rfl, Nat.le_of_ble_eq_true rfl⟩ rfl hl.1 rfl (Nat.le_of_ble_eq_true rfl) dX1_postageOfEvery_15 ⟨Nat.le_of_ble_eq_true rfl, Nat.le_of_ble_eq_true rfl⟩ (fun r9 w9 H locs hB hP hD hS => ?_)
        obtain ⟨rfl, rfl⟩ := hB
        refine WG_eq (g2 := F0 m 18 ls [.int r_2, .int v1]) rfl ?_
        refine lv_iadd hx hb dX1_postageOfEvery_18 ?_
        refine lv_topi (fun v1_3 ev1_3 => ?_)
        replace hf := bl_i hf ev1_3
        refine lv_istore_n (lv' := [(1, .int v1_3), (2, .int v2), (0, .ref (a 0))]) hx hb dX1_postageOfEvery_19 rfl hl (by decide) rfl (fun ls hl => ?_)
        obtain ⟨v2_4, ev2_4, hf⟩ := bl_e hf
        refine lv_iinc (v := v2_4) (lv' := [(2, .int v2_4), (1, .int v1_3), (0, .ref (a 0))]) hx hb dX1_postageOfEvery_20 hl (k := 1) rfl ev2_4 (by decide) rfl (fun ls hl => ?_)
        refine lv_goto (tgt := 4) hx hb dX1_postageOfEvery_23 (by decide) ?_
        exact ih v2_4 v1_3 ex _ _ _ hP hD hS hl (lp_inl hor hf) hE
  unfold f_X1_postageOfEvery at hf
  show WG l G ct sk sv p e (RM 2 85 0 0) s m args below meth c A (Eq2 (some (.int r)) (wl [lfH ct a k h])) s.heap [] (F0 m 0 ls [])
  refine lv_iconst (v := 0) hx hb dX1_postageOfEvery_0 (by decide) ?_
  refine lv_istore_n (lv' := [(1, .int 0), (0, .ref (a 0))]) hx hb dX1_postageOfEvery_1 rfl hl (by decide) rfl (fun ls hl => ?_)
  refine lv_iconst (v := 0) hx hb dX1_postageOfEvery_2 (by decide) ?_
  refine lv_istore_n (lv' := [(2, .int 0), (1, .int 0), (0, .ref (a 0))]) hx hb dX1_postageOfEvery_3 rfl hl (by decide) rfl (fun ls hl => ?_)
  obtain ⟨v1_5, hx_6, hf⟩ := bd_e hf
  refine L4 n 0 0 v1_5 _ _ _ hP hD hS hl hx_6 ?_
  intro x9 e9 H locs ls hP hD hS hl
  subst e9
  have hP : va_P G classes (wl [lfH ct a k h]) H := hP
  have hD : va_D A (wl [lfH ct a k h]) := hD
  have hl : lv_has ls 3 [(1, .int v1_5)] := hl
  refine lv_iload_n hx hb dX1_postageOfEvery_26 rfl (lv_at hl 0 rfl) ?_
  have e1 := Option.some.inj hf
  exact end_i (w' := (wl [lfH ct a k h])) hx hb hr hlocks hK hP hD hS dX1_postageOfEvery_27  ⟨by rw [← e1], rfl⟩
noncomputable def f_X1_weightOfEvery_b4 (n : Nat) (h : MV) (v2 : Int32) (v1 : Int32) : Option ((Int32 × Int32) ⊕ (Int32)) :=
  bc ((h.1 1) ≤ v2) (some (.inr v1))
  (gd (vp_in v2 6) <|
  bl (v1 + (h.2.1 5 (ix v2))) fun v1_3 =>
  bl (v2 + 1) fun v2_4 =>
  some (.inl (v2_4, v1_3)))
noncomputable def f_X1_weightOfEvery_l4 (fu : Nat) (n : Nat) (h : MV) (v2 : Int32) (v1 : Int32) : Option (Int32) :=
  lp (fun q => f_X1_weightOfEvery_b4 n h q.1 q.2) fu (v2, v1)
noncomputable def f_X1_weightOfEvery (n : Nat) (h : MV) : Option (Int32) :=
  bd (f_X1_weightOfEvery_l4 n n h 0 0) fun v1_5 =>
  some v1_5
set_option maxHeartbeats 4000000 in
set_option maxRecDepth 100000 in
theorem c_X1_weightOfEvery (l : Launch) (G : va_G) (ct : Nat → ClassId) (sk sv : Nat → Nat) (a : Nat → Nat) (k : Nat → Nat) (n : Nat) (h : MV) {r : Int32} (hf : f_X1_weightOfEvery n h = some r) : Ctr (l, G, ct, sk, sv) mX1_weightOfEvery 0 0 [.ref (a 0)] (wl [lfH ct a k h]) (wl [lfH ct a k h]) (some (.int r)) := by
  refine ctr_intro (by decide) (Nat.le_of_ble_eq_true rfl) ?_
  intro p e s m args below meth c A C hP hD hS hA ls hl
  obtain ⟨hx, hb, hml, hown, hts, hr, hlocks, hK, hnm, hZ⟩ := C
  have hb : c.code = cX1_weightOfEvery := hb
  have hml : c.maxLocals = 3 := hml
  have hown : s.vm.findClass "SignedOutside$House" = some m.cls := hown
  have hr : meth.sig.returnType = some .int := hr
  have hP : va_P G classes (wl [lfH ct a k h]) s.heap := hP
  have hD : va_D A (wl [lfH ct a k h]) := hD
  have hK : va_K G classes (TYS ct) s := hK
  have hl : lv_has ls 3 [(0, .ref (a 0))] := hl
  have L4 : ∀ (fu : Nat) (v2 : Int32) (v1 : Int32) (ex : Int32) (H : Heap) (locs : List Loc) (ls : Array Slot), va_P G classes (wl [lfH ct a k h]) H → va_D A (wl [lfH ct a k h]) → va_S A s.heap H locs → lv_has ls 3 [(2, .int v2), (1, .int v1), (0, .ref (a 0))] → f_X1_weightOfEvery_l4 fu n h v2 v1 = some ex → (∀ (x : Int32), ex = x → ∀ (H : Heap) (locs : List Loc) (ls : Array Slot), va_P G classes (wl [lfH ct a k h]) H → va_D A (wl [lfH ct a k h]) → va_S A s.heap H locs → lv_has ls 3 [(1, .int x)] → WG l G ct sk sv p e (RM 0 0 0 0) s m args below meth c A (Eq2 (some (.int r)) (wl [lfH ct a k h])) H locs (F0 m 27 ls [])) → WG l G ct sk sv p e (RM 0 0 0 0) s m args below meth c A (Eq2 (some (.int r)) (wl [lfH ct a k h])) H locs (F0 m 4 ls []) := by
    intro fu
    induction fu with
    | zero =>
      intro v2 v1 ex H locs ls hP hD hS hl hf
      exact absurd hf (by unfold f_X1_weightOfEvery_l4 lp; exact fun h => by cases h)
    | succ fu ih =>
      intro v2 v1 ex H locs ls hP hD hS hl hf hE
      unfold f_X1_weightOfEvery_l4 at hf
      obtain ⟨q, hf, hor⟩ := lp_e hf
      replace hf : f_X1_weightOfEvery_b4 n h v2 v1 = some q := hf
      unfold f_X1_weightOfEvery_b4 at hf
      refine lv_iload_n hx hb dX1_weightOfEvery_4 rfl (lv_at hl 0 rfl) ?_
      refine lv_aload_n hx hb dX1_weightOfEvery_5 rfl (lv_at hl 2 rfl) ?_
      refine va_get (D := G) (C := RX1) (T := TX1) (N := 16) (v := .int (h.1 1)) hx hb hts iu_X1 hown hK hP 0 rfl rfl 5 (by decide) (hts _ kw136) (fun _ h9 => h9) rfl dX1_weightOfEvery_6 ?_
      refine lv_icmp_ge (tgt := 27) hx hb dX1_weightOfEvery_9 (by decide) (fun c_1 => ?_) (fun c_1 => ?_)
      · replace hf := bc_t hf c_1
        exact hE v1 (lp_inr hor hf).symm _ _ _ hP hD hS (lv_sub hl [1] rfl)
      · replace hf := bc_f hf c_1
        refine lv_iload_n hx hb dX1_weightOfEvery_12 rfl (lv_at hl 1 rfl) ?_
        refine lv_aload_n hx hb dX1_weightOfEvery_13 rfl (lv_at hl 2 rfl) ?_
        refine va_get (D := G) (C := RX1) (T := TX1) (N := 16) (v := .ref (a 6)) hx hb hts iu_X1 hown hK hP 0 rfl rfl 8 (by decide) (hts _ kw143) (fun _ h9 => h9) rfl dX1_weightOfEvery_14 ?_
        refine lv_iload_n hx hb dX1_weightOfEvery_17 rfl (lv_at hl 0 rfl) ?_
        obtain ⟨g_2, hf⟩ := gd_e hf
        refine va_iald (f := h.2.1 5) hx hb hK hP 6 0 rfl rfl g_2 dX1_weightOfEvery_18 ?_
        refine lv_iadd hx hb dX1_weightOfEvery_19 ?_
        refine lv_topi (fun v1_3 ev1_3 => ?_)
        replace hf := bl_i hf ev1_3
        refine lv_istore_n (lv' := [(1, .int v1_3), (2, .int v2), (0, .ref (a 0))]) hx hb dX1_weightOfEvery_20 rfl hl (by decide) rfl (fun ls hl => ?_)
        obtain ⟨v2_4, ev2_4, hf⟩ := bl_e hf
        refine lv_iinc (v := v2_4) (lv' := [(2, .int v2_4), (1, .int v1_3), (0, .ref (a 0))]) hx hb dX1_weightOfEvery_21 hl (k := 1) rfl ev2_4 (by decide) rfl (fun ls hl => ?_)
        refine lv_goto (tgt := 4) hx hb dX1_weightOfEvery_24 (by decide) ?_
        exact ih v2_4 v1_3 ex _ _ _ hP hD hS hl (lp_inl hor hf) hE
  unfold f_X1_weightOfEvery at hf
  show WG l G ct sk sv p e (RM 0 0 0 0) s m args below meth c A (Eq2 (some (.int r)) (wl [lfH ct a k h])) s.heap [] (F0 m 0 ls [])
  refine lv_iconst (v := 0) hx hb dX1_weightOfEvery_0 (by decide) ?_
  refine lv_istore_n (lv' := [(1, .int 0), (0, .ref (a 0))]) hx hb dX1_weightOfEvery_1 rfl hl (by decide) rfl (fun ls hl => ?_)
  refine lv_iconst (v := 0) hx hb dX1_weightOfEvery_2 (by decide) ?_
  refine lv_istore_n (lv' := [(2, .int 0), (1, .int 0), (0, .ref (a 0))]) hx hb dX1_weightOfEvery_3 rfl hl (by decide) rfl (fun ls hl => ?_)
  obtain ⟨v1_5, hx_6, hf⟩ := bd_e hf
  refine L4 n 0 0 v1_5 _ _ _ hP hD hS hl hx_6 ?_
  intro x9 e9 H locs ls hP hD hS hl
  subst e9
  have hP : va_P G classes (wl [lfH ct a k h]) H := hP
  have hD : va_D A (wl [lfH ct a k h]) := hD
  have hl : lv_has ls 3 [(1, .int v1_5)] := hl
  refine lv_iload_n hx hb dX1_weightOfEvery_27 rfl (lv_at hl 0 rfl) ?_
  have e1 := Option.some.inj hf
  exact end_i (w' := (wl [lfH ct a k h])) hx hb hr hlocks hK hP hD hS dX1_weightOfEvery_28  ⟨by rw [← e1], rfl⟩
noncomputable def f_X1_kindAt (n : Nat) (h : MV) (v1 : Int32) : Option (Nat) :=
  gd (vp_in v1 5) <|
  gd (vp_in (h.2.1 0 (ix v1)) 6) <|
  some (ix (h.2.1 0 (ix v1)))
set_option maxHeartbeats 4000000 in
set_option maxRecDepth 100000 in
theorem c_X1_kindAt (l : Launch) (G : va_G) (ct : Nat → ClassId) (sk sv : Nat → Nat) (a : Nat → Nat) (k : Nat → Nat) (n : Nat) (h : MV) (v1 : Int32) {r : Nat} (hf : f_X1_kindAt n h v1 = some r) : Ctr (l, G, ct, sk, sv) mX1_kindAt 0 0 [.ref (a 0), .int v1] (wl [lfH ct a k h, lfK ct k]) (wl [lfH ct a k h, lfK ct k]) (some (.ref (k (1 + r)))) := by
  refine ctr_intro (by decide) (Nat.le_of_ble_eq_true rfl) ?_
  intro p e s m args below meth c A C hP hD hS hA ls hl
  obtain ⟨hx, hb, hml, hown, hts, hr, hlocks, hK, hnm, hZ⟩ := C
  have hb : c.code = cX1_kindAt := hb
  have hml : c.maxLocals = 2 := hml
  have hown : s.vm.findClass "SignedOutside$House" = some m.cls := hown
  have hr : meth.sig.returnType = some (.object "SignedOutside$Plain") := hr
  have hP : va_P G classes (wl [lfH ct a k h, lfK ct k]) s.heap := hP
  have hD : va_D A (wl [lfH ct a k h, lfK ct k]) := hD
  have hK : va_K G classes (TYS ct) s := hK
  have hl : lv_has ls 2 [(0, .ref (a 0)), (1, .int v1)] := hl
  unfold f_X1_kindAt at hf
  show WG l G ct sk sv p e (RM 0 0 0 0) s m args below meth c A (Eq2 (some (.ref (k (1 + r)))) (wl [lfH ct a k h, lfK ct k])) s.heap [] (F0 m 0 ls [])
  refine lv_aload_n hx hb dX1_kindAt_0 rfl (lv_at hl 0 rfl) ?_
  refine va_get (D := G) (C := RX1) (T := TX1) (N := 16) (v := .ref (k 0)) hx hb hts iu_X1 hown hK hP 0 rfl rfl 0 (by decide) (hts _ kw121) (fun _ h9 => h9) rfl dX1_kindAt_1 ?_
  refine lv_aload_n hx hb dX1_kindAt_4 rfl (lv_at hl 0 rfl) ?_
  refine va_get (D := G) (C := RX1) (T := TX1) (N := 16) (v := .ref (a 1)) hx hb hts iu_X1 hown hK hP 0 rfl rfl 2 (by decide) (hts _ kw127) (fun _ h9 => h9) rfl dX1_kindAt_5 ?_
  refine lv_iload_n hx hb dX1_kindAt_8 rfl (lv_at hl 1 rfl) ?_
  obtain ⟨g_1, hf⟩ := gd_e hf
  refine va_iald (f := h.2.1 0) hx hb hK hP 1 0 rfl rfl g_1 dX1_kindAt_9 ?_
  obtain ⟨g_2, hf⟩ := gd_e hf
  refine va_aldq (f := fun j => some (k (1 + j))) hx hb hK hP 8 3 rfl rfl g_2 dX1_kindAt_10 ?_
  have e1 := Option.some.inj hf
  exact end_a (w' := (wl [lfH ct a k h, lfK ct k])) hx hb hr hlocks hK hP hD hS dX1_kindAt_11  ⟨by rw [← e1], rfl⟩
noncomputable def f_X1_coversLeft (n : Nat) (h : MV) (v1 : Int32) : Option (Int32) :=
  bd (f_X1_kindAt n h v1) fun i_1 =>
  bd (f_K_signs n i_1 (h.1 2)) fun r_2 =>
  gd (vp_in v1 5) <|
  bl (if 0 < (r_2 - (h.2.1 2 (ix v1))) then (r_2 - (h.2.1 2 (ix v1))) else 0) fun w_4 =>
  some w_4
set_option maxHeartbeats 4000000 in
set_option maxRecDepth 100000 in
theorem c_X1_coversLeft (l : Launch) (G : va_G) (ct : Nat → ClassId) (sk sv : Nat → Nat) (a : Nat → Nat) (k : Nat → Nat) (n : Nat) (h : MV) (v1 : Int32) {r : Int32} (hf : f_X1_coversLeft n h v1 = some r) : Ctr (l, G, ct, sk, sv) mX1_coversLeft 4 160 [.ref (a 0), .int v1] (wl [lfH ct a k h, lfK ct k]) (wl [lfH ct a k h, lfK ct k]) (some (.int r)) := by
  refine ctr_intro (by decide) (Nat.le_of_ble_eq_true rfl) ?_
  intro p e s m args below meth c A C hP hD hS hA ls hl
  obtain ⟨hx, hb, hml, hown, hts, hr, hlocks, hK, hnm, hZ⟩ := C
  have hb : c.code = cX1_coversLeft := hb
  have hml : c.maxLocals = 2 := hml
  have hown : s.vm.findClass "SignedOutside$House" = some m.cls := hown
  have hr : meth.sig.returnType = some .int := hr
  have hP : va_P G classes (wl [lfH ct a k h, lfK ct k]) s.heap := hP
  have hD : va_D A (wl [lfH ct a k h, lfK ct k]) := hD
  have hK : va_K G classes (TYS ct) s := hK
  have hl : lv_has ls 2 [(0, .ref (a 0)), (1, .int v1)] := hl
  unfold f_X1_coversLeft at hf
  show WG l G ct sk sv p e (RM 4 160 0 0) s m args below meth c A (Eq2 (some (.int r)) (wl [lfH ct a k h, lfK ct k])) s.heap [] (F0 m 0 ls [])
  refine lv_iconst (v := 0) hx hb dX1_coversLeft_0 (by decide) ?_
  refine lv_aload_n hx hb dX1_coversLeft_1 rfl (lv_at hl 0 rfl) ?_
  refine lv_iload_n hx hb dX1_coversLeft_2 rfl (lv_at hl 1 rfl) ?_
  obtain ⟨i_1, hc1, hf⟩ := bd_e hf
  refine call_V (As := [.int v1]) (rest := [.int 0]) hx hb hml hown hts hK hP hD hS hA hZ lkX1_95 (c_X1_kindAt l G ct sk sv a k n h v1 hc1) 0 rfl rfl ⟨Nat.le_of_ble_eq_true rfl, Nat.le_of_ble_eq_true rfl⟩ rfl hl.1 rfl (Nat.le_of_ble_eq_true rfl) dX1_coversLeft_3 ⟨Nat.le_of_ble_eq_true rfl, Nat.le_of_ble_eq_true rfl⟩ (fun r9 w9 H locs hB hP hD hS => ?_)
  obtain ⟨rfl, rfl⟩ := hB
  refine WG_eq (g2 := F0 m 6 ls [.ref (k (1 + i_1)), .int 0]) rfl ?_
  refine lv_aload_n hx hb dX1_coversLeft_6 rfl (lv_at hl 0 rfl) ?_
  refine va_get (D := G) (C := RX1) (T := TX1) (N := 16) (v := .int (h.1 2)) hx hb hts iu_X1 hown hK hP 0 rfl rfl 10 (by decide) (hts _ kw148) (fun _ h9 => h9) rfl dX1_coversLeft_7 ?_
  obtain ⟨r_2, hc2, hf⟩ := bd_e hf
  refine disp_X1_99 n (k := k) i_1 hx hb hml hown hts hK hP hD hS hA hZ hc2 9 rfl rfl rfl rfl rfl rfl (Nat.le_of_ble_eq_true rfl) (Nat.le_of_ble_eq_true rfl) hl.1 (Nat.le_of_ble_eq_true rfl) dX1_coversLeft_10 ⟨Nat.zero_le _, Nat.zero_le _⟩ (fun H locs hP hD hS => ?_)
  refine WG_eq (g2 := F0 m 13 ls [.int r_2, .int 0]) rfl ?_
  refine lv_aload_n hx hb dX1_coversLeft_13 rfl (lv_at hl 0 rfl) ?_
  refine va_get (D := G) (C := RX1) (T := TX1) (N := 16) (v := .ref (a 3)) hx hb hts iu_X1 hown hK hP 0 rfl rfl 4 (by decide) (hts _ kw132) (fun _ h9 => h9) rfl dX1_coversLeft_14 ?_
  refine lv_iload_n hx hb dX1_coversLeft_17 rfl (lv_at hl 1 rfl) ?_
  obtain ⟨g_3, hf⟩ := gd_e hf
  refine va_iald (f := h.2.1 2) hx hb hK hP 3 0 rfl rfl g_3 dX1_coversLeft_18 ?_
  refine lv_isub hx hb dX1_coversLeft_19 ?_
  refine va_mmax hx hb (hml.trans hl.1.symm) hown (hts _ kw663) (hts _ kw664) (hts _ kw18) (hts _ kw665) (Nat.le_of_ble_eq_true rfl) (Nat.le_of_ble_eq_true rfl) (Nat.le_of_ble_eq_true rfl) (Nat.le_of_ble_eq_true rfl) dX1_coversLeft_20 ?_
  refine lv_topi (fun w_4 ew_4 => ?_)
  replace hf := bl_i hf ew_4
  have e1 := Option.some.inj hf
  exact end_i (w' := (wl [lfH ct a k h, lfK ct k])) hx hb hr hlocks hK hP hD hS dX1_coversLeft_23  ⟨by rw [← e1], rfl⟩
noncomputable def f_X1_suits_j45 (n : Nat) (h : MV) (s0 : Int32) : Option (Int32) :=
  gd (s0 = 0 ∨ s0 = 1) <| some s0
noncomputable def f_X1_suits_j44 (n : Nat) (h : MV) : Option (Int32) :=
  f_X1_suits_j45 n h 0
noncomputable def f_X1_suits (n : Nat) (h : MV) (v1 : Int32) (v2 : Int32) (v3 : Int32) : Option (Int32) :=
  bd (f_X1_kindAt n h v2) fun i_2 =>
  gd (vp_in v1 6) <|
  bl (if 0 ≤ (v3 - (h.2.1 3 (ix v1))) then (v3 - (h.2.1 3 (ix v1))) else 0 - (v3 - (h.2.1 3 (ix v1)))) fun w_4 =>
  bd (f_K_reach n i_2 ) fun r_5 =>
  bc (r_5 < w_4) (f_X1_suits_j44 n h)
  (gd (vp_in v1 6) <|
  bd (f_K_bears n i_2 ) fun r_8 =>
  bc (r_8 < (h.2.1 5 (ix v1))) (f_X1_suits_j44 n h)
  (f_X1_suits_j45 n h 1))
set_option maxHeartbeats 4000000 in
set_option maxRecDepth 100000 in
theorem c_X1_suits (l : Launch) (G : va_G) (ct : Nat → ClassId) (sk sv : Nat → Nat) (a : Nat → Nat) (k : Nat → Nat) (n : Nat) (h : MV) (v1 : Int32) (v2 : Int32) (v3 : Int32) {r : Int32} (hf : f_X1_suits n h v1 v2 v3 = some r) : Ctr (l, G, ct, sk, sv) mX1_suits 4 160 [.ref (a 0), .int v1, .int v2, .int v3] (wl [lfH ct a k h, lfK ct k]) (wl [lfH ct a k h, lfK ct k]) (some (.int r)) := by
  refine ctr_intro (by decide) (Nat.le_of_ble_eq_true rfl) ?_
  intro p e s m args below meth c A C hP hD hS hA ls hl
  obtain ⟨hx, hb, hml, hown, hts, hr, hlocks, hK, hnm, hZ⟩ := C
  have hb : c.code = cX1_suits := hb
  have hml : c.maxLocals = 5 := hml
  have hown : s.vm.findClass "SignedOutside$House" = some m.cls := hown
  have hr : meth.sig.returnType = some .boolean := hr
  have hP : va_P G classes (wl [lfH ct a k h, lfK ct k]) s.heap := hP
  have hD : va_D A (wl [lfH ct a k h, lfK ct k]) := hD
  have hK : va_K G classes (TYS ct) s := hK
  have hl : lv_has ls 5 [(0, .ref (a 0)), (1, .int v1), (2, .int v2), (3, .int v3)] := hl
  have J45 : ∀ (s0 : Int32) (H : Heap) (locs : List Loc) (ls : Array Slot), va_P G classes (wl [lfH ct a k h, lfK ct k]) H → va_D A (wl [lfH ct a k h, lfK ct k]) → va_S A s.heap H locs → lv_has ls 5 [] → f_X1_suits_j45 n h s0 = some r → WG l G ct sk sv p e (RM 4 160 0 0) s m args below meth c A (Eq2 (some (.int r)) (wl [lfH ct a k h, lfK ct k])) H locs (F0 m 45 ls [.int s0]) := by
    intro s0 H locs ls hP hD hS hl hf
    unfold f_X1_suits_j45 at hf
    obtain ⟨g_1, hf⟩ := gd_e hf
    have e1 := Option.some.inj hf
    exact end_z (w' := (wl [lfH ct a k h, lfK ct k])) hx hb hr hlocks hK hP hD hS dX1_suits_45 g_1 ⟨by rw [← e1], rfl⟩
  have J44 : ∀ (H : Heap) (locs : List Loc) (ls : Array Slot), va_P G classes (wl [lfH ct a k h, lfK ct k]) H → va_D A (wl [lfH ct a k h, lfK ct k]) → va_S A s.heap H locs → lv_has ls 5 [] → f_X1_suits_j44 n h = some r → WG l G ct sk sv p e (RM 4 160 0 0) s m args below meth c A (Eq2 (some (.int r)) (wl [lfH ct a k h, lfK ct k])) H locs (F0 m 44 ls []) := by
    intro  H locs ls hP hD hS hl hf
    unfold f_X1_suits_j44 at hf
    refine lv_iconst (v := 0) hx hb dX1_suits_44 (by decide) ?_
    exact J45 0 _ _ _ hP hD hS hl hf
  unfold f_X1_suits at hf
  show WG l G ct sk sv p e (RM 4 160 0 0) s m args below meth c A (Eq2 (some (.int r)) (wl [lfH ct a k h, lfK ct k])) s.heap [] (F0 m 0 ls [])
  refine lv_aload_n hx hb dX1_suits_0 rfl (lv_at hl 0 rfl) ?_
  refine lv_iload_n hx hb dX1_suits_1 rfl (lv_at hl 2 rfl) ?_
  obtain ⟨i_2, hc2, hf⟩ := bd_e hf
  refine call_V (As := [.int v2]) (rest := []) hx hb hml hown hts hK hP hD hS hA hZ lkX1_95 (c_X1_kindAt l G ct sk sv a k n h v2 hc2) 0 rfl rfl ⟨Nat.le_of_ble_eq_true rfl, Nat.le_of_ble_eq_true rfl⟩ rfl hl.1 rfl (Nat.le_of_ble_eq_true rfl) dX1_suits_2 ⟨Nat.le_of_ble_eq_true rfl, Nat.le_of_ble_eq_true rfl⟩ (fun r9 w9 H locs hB hP hD hS => ?_)
  obtain ⟨rfl, rfl⟩ := hB
  refine WG_eq (g2 := F0 m 5 ls [.ref (k (1 + i_2))]) rfl ?_
  refine lv_astore (lv' := [(4, .ref (k (1 + i_2))), (0, .ref (a 0)), (1, .int v1), (2, .int v2), (3, .int v3)]) hx hb dX1_suits_5 hl (by decide) rfl (fun ls hl => ?_)
  refine lv_iload_n hx hb dX1_suits_7 rfl (lv_at hl 4 rfl) ?_
  refine lv_aload_n hx hb dX1_suits_8 rfl (lv_at hl 1 rfl) ?_
  refine va_get (D := G) (C := RX1) (T := TX1) (N := 16) (v := .ref (a 4)) hx hb hts iu_X1 hown hK hP 0 rfl rfl 6 (by decide) (hts _ kw139) (fun _ h9 => h9) rfl dX1_suits_9 ?_
  refine lv_iload_n hx hb dX1_suits_12 rfl (lv_at hl 2 rfl) ?_
  obtain ⟨g_3, hf⟩ := gd_e hf
  refine va_iald (f := h.2.1 3) hx hb hK hP 4 0 rfl rfl g_3 dX1_suits_13 ?_
  refine lv_isub hx hb dX1_suits_14 ?_
  refine va_mabs hx hb (hml.trans hl.1.symm) hown (hts _ kw495) (hts _ kw496) (hts _ kw18) (hts _ kw497) (Nat.le_of_ble_eq_true rfl) (Nat.le_of_ble_eq_true rfl) (Nat.le_of_ble_eq_true rfl) (Nat.le_of_ble_eq_true rfl) dX1_suits_15 ?_
  refine lv_topi (fun w_4 ew_4 => ?_)
  replace hf := bl_i hf ew_4
  refine lv_aload hx hb dX1_suits_18 (lv_at hl 0 rfl) ?_
  obtain ⟨r_5, hc5, hf⟩ := bd_e hf
  refine disp_X1_108 n (k := k) i_2 hx hb hml hown hts hK hP hD hS hA hZ hc5 9 rfl rfl rfl rfl rfl rfl (Nat.le_of_ble_eq_true rfl) (Nat.le_of_ble_eq_true rfl) hl.1 (Nat.le_of_ble_eq_true rfl) dX1_suits_20 ⟨Nat.zero_le _, Nat.zero_le _⟩ (fun H locs hP hD hS => ?_)
  refine WG_eq (g2 := F0 m 23 ls [.int r_5, .int w_4]) rfl ?_
  refine lv_icmp_gt (tgt := 44) hx hb dX1_suits_23 (by decide) (fun c_6 => ?_) (fun c_6 => ?_)
  · replace hf := bc_t hf c_6
    exact J44  _ _ _ hP hD hS (lv_sub hl [] rfl) hf
  · replace hf := bc_f hf c_6
    refine lv_aload_n hx hb dX1_suits_26 rfl (lv_at hl 1 rfl) ?_
    refine va_get (D := G) (C := RX1) (T := TX1) (N := 16) (v := .ref (a 6)) hx hb hts iu_X1 hown hK hP 0 rfl rfl 8 (by decide) (hts _ kw143) (fun _ h9 => h9) rfl dX1_suits_27 ?_
    refine lv_iload_n hx hb dX1_suits_30 rfl (lv_at hl 2 rfl) ?_
    obtain ⟨g_7, hf⟩ := gd_e hf
    refine va_iald (f := h.2.1 5) hx hb hK hP 6 0 rfl rfl g_7 dX1_suits_31 ?_
    refine lv_aload hx hb dX1_suits_32 (lv_at hl 0 rfl) ?_
    obtain ⟨r_8, hc8, hf⟩ := bd_e hf
    refine disp_X1_112 n (k := k) i_2 hx hb hml hown hts hK hP hD hS hA hZ hc8 9 rfl rfl rfl rfl rfl rfl (Nat.le_of_ble_eq_true rfl) (Nat.le_of_ble_eq_true rfl) hl.1 (Nat.le_of_ble_eq_true rfl) dX1_suits_34 ⟨Nat.zero_le _, Nat.zero_le _⟩ (fun H locs hP hD hS => ?_)
    refine WG_eq (g2 := F0 m 37 ls [.int r_8, .int (h.2.1 5 (ix v1))]) rfl ?_
    refine lv_icmp_gt (tgt := 44) hx hb dX1_suits_37 (by decide) (fun c_9 => ?_) (fun c_9 => ?_)
    · replace hf := bc_t hf c_9
      exact J44  _ _ _ hP hD hS (lv_sub hl [] rfl) hf
    · replace hf := bc_f hf c_9
      refine lv_iconst (v := 1) hx hb dX1_suits_40 (by decide) ?_
      refine lv_goto (tgt := 45) hx hb dX1_suits_41 (by decide) ?_
      exact J45 1 _ _ _ hP hD hS (lv_sub hl [] rfl) hf
noncomputable def f_X1_mayFrank_j49 (n : Nat) (h : MV) (s0 : Int32) : Option (Int32) :=
  gd (s0 = 0 ∨ s0 = 1) <| some s0
noncomputable def f_X1_mayFrank_j48 (n : Nat) (h : MV) : Option (Int32) :=
  f_X1_mayFrank_j49 n h 0
noncomputable def f_X1_mayFrank (n : Nat) (h : MV) (v1 : Int32) (v2 : Int32) : Option (Int32) :=
  bd (f_X1_lies n h v1) fun r_2 =>
  bc (r_2 = 0) (f_X1_mayFrank_j48 n h)
  (gd (vp_in v2 5) <|
  bd (f_X1_kindAt n h v2) fun i_5 =>
  bd (f_K_signs n i_5 (h.1 2)) fun r_6 =>
  bc (r_6 ≤ (h.2.1 2 (ix v2))) (f_X1_mayFrank_j48 n h)
  (gd (vp_in v2 5) <|
  bd (f_X1_suits n h v1 v2 (h.2.1 1 (ix v2))) fun r_9 =>
  bc (r_9 = 0) (f_X1_mayFrank_j48 n h)
  (f_X1_mayFrank_j49 n h 1)))
set_option maxHeartbeats 4000000 in
set_option maxRecDepth 100000 in
theorem c_X1_mayFrank (l : Launch) (G : va_G) (ct : Nat → ClassId) (sk sv : Nat → Nat) (a : Nat → Nat) (k : Nat → Nat) (n : Nat) (h : MV) (v1 : Int32) (v2 : Int32) {r : Int32} (hf : f_X1_mayFrank n h v1 v2 = some r) : Ctr (l, G, ct, sk, sv) mX1_mayFrank 5 184 [.ref (a 0), .int v1, .int v2] (wl [lfH ct a k h, lfK ct k]) (wl [lfH ct a k h, lfK ct k]) (some (.int r)) := by
  refine ctr_intro (by decide) (Nat.le_of_ble_eq_true rfl) ?_
  intro p e s m args below meth c A C hP hD hS hA ls hl
  obtain ⟨hx, hb, hml, hown, hts, hr, hlocks, hK, hnm, hZ⟩ := C
  have hb : c.code = cX1_mayFrank := hb
  have hml : c.maxLocals = 3 := hml
  have hown : s.vm.findClass "SignedOutside$House" = some m.cls := hown
  have hr : meth.sig.returnType = some .boolean := hr
  have hP : va_P G classes (wl [lfH ct a k h, lfK ct k]) s.heap := hP
  have hD : va_D A (wl [lfH ct a k h, lfK ct k]) := hD
  have hK : va_K G classes (TYS ct) s := hK
  have hl : lv_has ls 3 [(0, .ref (a 0)), (1, .int v1), (2, .int v2)] := hl
  have J49 : ∀ (s0 : Int32) (H : Heap) (locs : List Loc) (ls : Array Slot), va_P G classes (wl [lfH ct a k h, lfK ct k]) H → va_D A (wl [lfH ct a k h, lfK ct k]) → va_S A s.heap H locs → lv_has ls 3 [] → f_X1_mayFrank_j49 n h s0 = some r → WG l G ct sk sv p e (RM 5 184 0 0) s m args below meth c A (Eq2 (some (.int r)) (wl [lfH ct a k h, lfK ct k])) H locs (F0 m 49 ls [.int s0]) := by
    intro s0 H locs ls hP hD hS hl hf
    unfold f_X1_mayFrank_j49 at hf
    obtain ⟨g_1, hf⟩ := gd_e hf
    have e1 := Option.some.inj hf
    exact end_z (w' := (wl [lfH ct a k h, lfK ct k])) hx hb hr hlocks hK hP hD hS dX1_mayFrank_49 g_1 ⟨by rw [← e1], rfl⟩
  have J48 : ∀ (H : Heap) (locs : List Loc) (ls : Array Slot), va_P G classes (wl [lfH ct a k h, lfK ct k]) H → va_D A (wl [lfH ct a k h, lfK ct k]) → va_S A s.heap H locs → lv_has ls 3 [] → f_X1_mayFrank_j48 n h = some r → WG l G ct sk sv p e (RM 5 184 0 0) s m args below meth c A (Eq2 (some (.int r)) (wl [lfH ct a k h, lfK ct k])) H locs (F0 m 48 ls []) := by
    intro  H locs ls hP hD hS hl hf
    unfold f_X1_mayFrank_j48 at hf
    refine lv_iconst (v := 0) hx hb dX1_mayFrank_48 (by decide) ?_
    exact J49 0 _ _ _ hP hD hS hl hf
  unfold f_X1_mayFrank at hf
  show WG l G ct sk sv p e (RM 5 184 0 0) s m args below meth c A (Eq2 (some (.int r)) (wl [lfH ct a k h, lfK ct k])) s.heap [] (F0 m 0 ls [])
  refine lv_aload_n hx hb dX1_mayFrank_0 rfl (lv_at hl 0 rfl) ?_
  refine lv_iload_n hx hb dX1_mayFrank_1 rfl (lv_at hl 1 rfl) ?_
  obtain ⟨r_2, hc2, hf⟩ := bd_e hf
  refine call_V (As := [.int v1]) (rest := []) hx hb hml hown hts hK hP hD hS hA hZ lkX1_115 (Ctr.upL (c_X1_lies l G ct sk sv a k n h v1 hc2) [lfK ct k] [lfH ct a k h, lfK ct k] [lfH ct a k h, lfK ct k] [0, 1] 2 (by decide) rfl rfl rfl rfl) 0 rfl rfl ⟨Nat.le_of_ble_eq_true rfl, Nat.le_of_ble_eq_true rfl⟩ rfl hl.1 rfl (Nat.le_of_ble_eq_true rfl) dX1_mayFrank_2 ⟨Nat.le_of_ble_eq_true rfl, Nat.le_of_ble_eq_true rfl⟩ (fun r9 w9 H locs hB hP hD hS => ?_)
  obtain ⟨rfl, rfl⟩ := hB
  refine WG_eq (g2 := F0 m 5 ls [.int r_2]) rfl ?_
  refine lv_if_eq (tgt := 48) hx hb dX1_mayFrank_5 (by decide) (fun c_3 => ?_) (fun c_3 => ?_)
  · replace hf := bc_t hf c_3
    exact J48  _ _ _ hP hD hS (lv_sub hl [] rfl) hf
  · replace hf := bc_f hf c_3
    refine lv_aload_n hx hb dX1_mayFrank_8 rfl (lv_at hl 0 rfl) ?_
    refine va_get (D := G) (C := RX1) (T := TX1) (N := 16) (v := .ref (a 3)) hx hb hts iu_X1 hown hK hP 0 rfl rfl 4 (by decide) (hts _ kw132) (fun _ h9 => h9) rfl dX1_mayFrank_9 ?_
    refine lv_iload_n hx hb dX1_mayFrank_12 rfl (lv_at hl 2 rfl) ?_
    obtain ⟨g_4, hf⟩ := gd_e hf
    refine va_iald (f := h.2.1 2) hx hb hK hP 3 0 rfl rfl g_4 dX1_mayFrank_13 ?_
    refine lv_aload_n hx hb dX1_mayFrank_14 rfl (lv_at hl 0 rfl) ?_
    refine lv_iload_n hx hb dX1_mayFrank_15 rfl (lv_at hl 2 rfl) ?_
    obtain ⟨i_5, hc5, hf⟩ := bd_e hf
    refine call_V (As := [.int v2]) (rest := [.int (h.2.1 2 (ix v2))]) hx hb hml hown hts hK hP hD hS hA hZ lkX1_95 (c_X1_kindAt l G ct sk sv a k n h v2 hc5) 0 rfl rfl ⟨Nat.le_of_ble_eq_true rfl, Nat.le_of_ble_eq_true rfl⟩ rfl hl.1 rfl (Nat.le_of_ble_eq_true rfl) dX1_mayFrank_16 ⟨Nat.le_of_ble_eq_true rfl, Nat.le_of_ble_eq_true rfl⟩ (fun r9 w9 H locs hB hP hD hS => ?_)
    obtain ⟨rfl, rfl⟩ := hB
    refine WG_eq (g2 := F0 m 19 ls [.ref (k (1 + i_5)), .int (h.2.1 2 (ix v2))]) rfl ?_
    refine lv_aload_n hx hb dX1_mayFrank_19 rfl (lv_at hl 0 rfl) ?_
    refine va_get (D := G) (C := RX1) (T := TX1) (N := 16) (v := .int (h.1 2)) hx hb hts iu_X1 hown hK hP 0 rfl rfl 10 (by decide) (hts _ kw148) (fun _ h9 => h9) rfl dX1_mayFrank_20 ?_
    obtain ⟨r_6, hc6, hf⟩ := bd_e hf
    refine disp_X1_99 n (k := k) i_5 hx hb hml hown hts hK hP hD hS hA hZ hc6 9 rfl rfl rfl rfl rfl rfl (Nat.le_of_ble_eq_true rfl) (Nat.le_of_ble_eq_true rfl) hl.1 (Nat.le_of_ble_eq_true rfl) dX1_mayFrank_23 ⟨Nat.zero_le _, Nat.zero_le _⟩ (fun H locs hP hD hS => ?_)
    refine WG_eq (g2 := F0 m 26 ls [.int r_6, .int (h.2.1 2 (ix v2))]) rfl ?_
    refine lv_icmp_ge (tgt := 48) hx hb dX1_mayFrank_26 (by decide) (fun c_7 => ?_) (fun c_7 => ?_)
    · replace hf := bc_t hf c_7
      exact J48  _ _ _ hP hD hS (lv_sub hl [] rfl) hf
    · replace hf := bc_f hf c_7
      refine lv_aload_n hx hb dX1_mayFrank_29 rfl (lv_at hl 0 rfl) ?_
      refine lv_iload_n hx hb dX1_mayFrank_30 rfl (lv_at hl 1 rfl) ?_
      refine lv_iload_n hx hb dX1_mayFrank_31 rfl (lv_at hl 2 rfl) ?_
      refine lv_aload_n hx hb dX1_mayFrank_32 rfl (lv_at hl 0 rfl) ?_
      refine va_get (D := G) (C := RX1) (T := TX1) (N := 16) (v := .ref (a 2)) hx hb hts iu_X1 hown hK hP 0 rfl rfl 3 (by decide) (hts _ kw129) (fun _ h9 => h9) rfl dX1_mayFrank_33 ?_
      refine lv_iload_n hx hb dX1_mayFrank_36 rfl (lv_at hl 2 rfl) ?_
      obtain ⟨g_8, hf⟩ := gd_e hf
      refine va_iald (f := h.2.1 1) hx hb hK hP 2 0 rfl rfl g_8 dX1_mayFrank_37 ?_
      obtain ⟨r_9, hc9, hf⟩ := bd_e hf
      refine call_V (As := [.int v1, .int v2, .int (h.2.1 1 (ix v2))]) (rest := []) hx hb hml hown hts hK hP hD hS hA hZ lkX1_119 (c_X1_suits l G ct sk sv a k n h v1 v2 (h.2.1 1 (ix v2)) hc9) 0 rfl rfl ⟨Nat.le_of_ble_eq_true rfl, Nat.le_of_ble_eq_true rfl⟩ rfl hl.1 rfl (Nat.le_of_ble_eq_true rfl) dX1_mayFrank_38 ⟨Nat.le_of_ble_eq_true rfl, Nat.le_of_ble_eq_true rfl⟩ (fun r9 w9 H locs hB hP hD hS => ?_)
      obtain ⟨rfl, rfl⟩ := hB
      refine WG_eq (g2 := F0 m 41 ls [.int r_9]) rfl ?_
      refine lv_if_eq (tgt := 48) hx hb dX1_mayFrank_41 (by decide) (fun c_10 => ?_) (fun c_10 => ?_)
      · replace hf := bc_t hf c_10
        exact J48  _ _ _ hP hD hS (lv_sub hl [] rfl) hf
      · replace hf := bc_f hf c_10
        refine lv_iconst (v := 1) hx hb dX1_mayFrank_44 (by decide) ?_
        refine lv_goto (tgt := 49) hx hb dX1_mayFrank_45 (by decide) ?_
        exact J49 1 _ _ _ hP hD hS (lv_sub hl [] rfl) hf
noncomputable def f_X1_whoMayFrank_j27 (n : Nat) (h : MV) (v3 : Int32) (v2 : Int32) (v1 : Int32) : Option ((Int32 × Int32) ⊕ (Int32)) :=
  bl (v3 + 1) fun v3_1 =>
  some (.inl (v3_1, v2))
noncomputable def f_X1_whoMayFrank_b4 (n : Nat) (h : MV) (v3 : Int32) (v2 : Int32) (v1 : Int32) : Option ((Int32 × Int32) ⊕ (Int32)) :=
  bc ((h.1 0) ≤ v3) (some (.inr v2))
  (bd (f_X1_mayFrank n h v1 v3) fun r_3 =>
  bc (r_3 = 0) (f_X1_whoMayFrank_j27 n h v3 v2 v1)
  (bl (v2 ||| (1 <<< (v3 &&& 31))) fun v2_5 =>
  f_X1_whoMayFrank_j27 n h v3 v2_5 v1))
noncomputable def f_X1_whoMayFrank_l4 (fu : Nat) (n : Nat) (h : MV) (v1 : Int32) (v3 : Int32) (v2 : Int32) : Option (Int32) :=
  lp (fun q => f_X1_whoMayFrank_b4 n h q.1 q.2 v1) fu (v3, v2)
noncomputable def f_X1_whoMayFrank (n : Nat) (h : MV) (v1 : Int32) : Option (Int32) :=
  bd (f_X1_whoMayFrank_l4 n n h v1 0 0) fun v2_6 =>
  some v2_6
set_option maxHeartbeats 4000000 in
set_option maxRecDepth 100000 in
theorem c_X1_whoMayFrank (l : Launch) (G : va_G) (ct : Nat → ClassId) (sk sv : Nat → Nat) (a : Nat → Nat) (k : Nat → Nat) (n : Nat) (h : MV) (v1 : Int32) {r : Int32} (hf : f_X1_whoMayFrank n h v1 = some r) : Ctr (l, G, ct, sk, sv) mX1_whoMayFrank 6 206 [.ref (a 0), .int v1] (wl [lfH ct a k h, lfK ct k]) (wl [lfH ct a k h, lfK ct k]) (some (.int r)) := by
  refine ctr_intro (by decide) (Nat.le_of_ble_eq_true rfl) ?_
  intro p e s m args below meth c A C hP hD hS hA ls hl
  obtain ⟨hx, hb, hml, hown, hts, hr, hlocks, hK, hnm, hZ⟩ := C
  have hb : c.code = cX1_whoMayFrank := hb
  have hml : c.maxLocals = 4 := hml
  have hown : s.vm.findClass "SignedOutside$House" = some m.cls := hown
  have hr : meth.sig.returnType = some .int := hr
  have hP : va_P G classes (wl [lfH ct a k h, lfK ct k]) s.heap := hP
  have hD : va_D A (wl [lfH ct a k h, lfK ct k]) := hD
  have hK : va_K G classes (TYS ct) s := hK
  have hl : lv_has ls 4 [(0, .ref (a 0)), (1, .int v1)] := hl
  have L4 : ∀ (fu : Nat) (v1 : Int32) (v3 : Int32) (v2 : Int32) (ex : Int32) (H : Heap) (locs : List Loc) (ls : Array Slot), va_P G classes (wl [lfH ct a k h, lfK ct k]) H → va_D A (wl [lfH ct a k h, lfK ct k]) → va_S A s.heap H locs → lv_has ls 4 [(3, .int v3), (2, .int v2), (0, .ref (a 0)), (1, .int v1)] → f_X1_whoMayFrank_l4 fu n h v1 v3 v2 = some ex → (∀ (x : Int32), ex = x → ∀ (H : Heap) (locs : List Loc) (ls : Array Slot), va_P G classes (wl [lfH ct a k h, lfK ct k]) H → va_D A (wl [lfH ct a k h, lfK ct k]) → va_S A s.heap H locs → lv_has ls 4 [(2, .int x)] → WG l G ct sk sv p e (RM 6 206 0 0) s m args below meth c A (Eq2 (some (.int r)) (wl [lfH ct a k h, lfK ct k])) H locs (F0 m 33 ls [])) → WG l G ct sk sv p e (RM 6 206 0 0) s m args below meth c A (Eq2 (some (.int r)) (wl [lfH ct a k h, lfK ct k])) H locs (F0 m 4 ls []) := by
    intro fu
    induction fu with
    | zero =>
      intro v1 v3 v2 ex H locs ls hP hD hS hl hf
      exact absurd hf (by unfold f_X1_whoMayFrank_l4 lp; exact fun h => by cases h)
    | succ fu ih =>
      intro v1 v3 v2 ex H locs ls hP hD hS hl hf hE
      unfold f_X1_whoMayFrank_l4 at hf
      obtain ⟨q, hf, hor⟩ := lp_e hf
      have J27 : ∀ (v3 : Int32) (v2 : Int32) (H : Heap) (locs : List Loc) (ls : Array Slot), va_P G classes (wl [lfH ct a k h, lfK ct k]) H → va_D A (wl [lfH ct a k h, lfK ct k]) → va_S A s.heap H locs → lv_has ls 4 [(3, .int v3), (2, .int v2), (0, .ref (a 0)), (1, .int v1)] → f_X1_whoMayFrank_j27 n h v3 v2 v1 = some q → WG l G ct sk sv p e (RM 6 206 0 0) s m args below meth c A (Eq2 (some (.int r)) (wl [lfH ct a k h, lfK ct k])) H locs (F0 m 27 ls []) := by
        intro v3 v2 H locs ls hP hD hS hl hf
        unfold f_X1_whoMayFrank_j27 at hf
        obtain ⟨v3_1, ev3_1, hf⟩ := bl_e hf
        refine lv_iinc (v := v3_1) (lv' := [(3, .int v3_1), (2, .int v2), (0, .ref (a 0)), (1, .int v1)]) hx hb dX1_whoMayFrank_27 hl (k := 0) rfl ev3_1 (by decide) rfl (fun ls hl => ?_)
        refine lv_goto (tgt := 4) hx hb dX1_whoMayFrank_30 (by decide) ?_
        exact ih v1 v3_1 v2 ex _ _ _ hP hD hS hl (lp_inl hor hf) hE
      replace hf : f_X1_whoMayFrank_b4 n h v3 v2 v1 = some q := hf
      unfold f_X1_whoMayFrank_b4 at hf
      refine lv_iload_n hx hb dX1_whoMayFrank_4 rfl (lv_at hl 0 rfl) ?_
      refine lv_aload_n hx hb dX1_whoMayFrank_5 rfl (lv_at hl 2 rfl) ?_
      refine va_get (D := G) (C := RX1) (T := TX1) (N := 16) (v := .int (h.1 0)) hx hb hts iu_X1 hown hK hP 0 rfl rfl 1 (by decide) (hts _ kw123) (fun _ h9 => h9) rfl dX1_whoMayFrank_6 ?_
      refine lv_icmp_ge (tgt := 33) hx hb dX1_whoMayFrank_9 (by decide) (fun c_2 => ?_) (fun c_2 => ?_)
      · replace hf := bc_t hf c_2
        exact hE v2 (lp_inr hor hf).symm _ _ _ hP hD hS (lv_sub hl [1] rfl)
      · replace hf := bc_f hf c_2
        refine lv_aload_n hx hb dX1_whoMayFrank_12 rfl (lv_at hl 2 rfl) ?_
        refine lv_iload_n hx hb dX1_whoMayFrank_13 rfl (lv_at hl 3 rfl) ?_
        refine lv_iload_n hx hb dX1_whoMayFrank_14 rfl (lv_at hl 0 rfl) ?_
        obtain ⟨r_3, hc3, hf⟩ := bd_e hf
        refine call_V (As := [.int v1, .int v3]) (rest := []) hx hb hml hown hts hK hP hD hS hA hZ lkX1_123 (c_X1_mayFrank l G ct sk sv a k n h v1 v3 hc3) 0 rfl rfl ⟨Nat.le_of_ble_eq_true rfl, Nat.le_of_ble_eq_true rfl⟩ rfl hl.1 rfl (Nat.le_of_ble_eq_true rfl) dX1_whoMayFrank_15 ⟨Nat.le_of_ble_eq_true rfl, Nat.le_of_ble_eq_true rfl⟩ (fun r9 w9 H locs hB hP hD hS => ?_)
        obtain ⟨rfl, rfl⟩ := hB
        refine WG_eq (g2 := F0 m 18 ls [.int r_3]) rfl ?_
        refine lv_if_eq (tgt := 27) hx hb dX1_whoMayFrank_18 (by decide) (fun c_4 => ?_) (fun c_4 => ?_)
        · replace hf := bc_t hf c_4
          exact J27 v3 v2 _ _ _ hP hD hS hl hf
        · replace hf := bc_f hf c_4
          refine lv_iload_n hx hb dX1_whoMayFrank_21 rfl (lv_at hl 1 rfl) ?_
          refine lv_iconst (v := 1) hx hb dX1_whoMayFrank_22 (by decide) ?_
          refine lv_iload_n hx hb dX1_whoMayFrank_23 rfl (lv_at hl 0 rfl) ?_
          refine lv_ishl hx hb dX1_whoMayFrank_24 ?_
          refine lv_ior hx hb dX1_whoMayFrank_25 ?_
          refine lv_topi (fun v2_5 ev2_5 => ?_)
          replace hf := bl_i hf ev2_5
          refine lv_istore_n (lv' := [(2, .int v2_5), (3, .int v3), (0, .ref (a 0)), (1, .int v1)]) hx hb dX1_whoMayFrank_26 rfl hl (by decide) rfl (fun ls hl => ?_)
          exact J27 v3 v2_5 _ _ _ hP hD hS (lv_sub hl [1, 0, 2, 3] rfl) hf
  unfold f_X1_whoMayFrank at hf
  show WG l G ct sk sv p e (RM 6 206 0 0) s m args below meth c A (Eq2 (some (.int r)) (wl [lfH ct a k h, lfK ct k])) s.heap [] (F0 m 0 ls [])
  refine lv_iconst (v := 0) hx hb dX1_whoMayFrank_0 (by decide) ?_
  refine lv_istore_n (lv' := [(2, .int 0), (0, .ref (a 0)), (1, .int v1)]) hx hb dX1_whoMayFrank_1 rfl hl (by decide) rfl (fun ls hl => ?_)
  refine lv_iconst (v := 0) hx hb dX1_whoMayFrank_2 (by decide) ?_
  refine lv_istore_n (lv' := [(3, .int 0), (2, .int 0), (0, .ref (a 0)), (1, .int v1)]) hx hb dX1_whoMayFrank_3 rfl hl (by decide) rfl (fun ls hl => ?_)
  obtain ⟨v2_6, hx_7, hf⟩ := bd_e hf
  refine L4 n v1 0 0 v2_6 _ _ _ hP hD hS hl hx_7 ?_
  intro x9 e9 H locs ls hP hD hS hl
  subst e9
  have hP : va_P G classes (wl [lfH ct a k h, lfK ct k]) H := hP
  have hD : va_D A (wl [lfH ct a k h, lfK ct k]) := hD
  have hl : lv_has ls 4 [(2, .int v2_6)] := hl
  refine lv_iload_n hx hb dX1_whoMayFrank_33 rfl (lv_at hl 0 rfl) ?_
  have e1 := Option.some.inj hf
  exact end_i (w' := (wl [lfH ct a k h, lfK ct k])) hx hb hr hlocks hK hP hD hS dX1_whoMayFrank_34  ⟨by rw [← e1], rfl⟩
noncomputable def f_X1_passDay_j28 (n : Nat) (h : MV) : Option (MV) :=
  some h
noncomputable def f_X1_passDay (n : Nat) (h : MV) : Option (MV) :=
  bd (f_J7_fill n 5 (h.2.1 2) 0) fun t_1 =>
  bl (setA h 2 t_1) fun h_2 =>
  bc (999 ≤ (h_2.1 2)) (f_X1_passDay_j28 n h_2)
  (bl (setS h_2 2 ((h_2.1 2) + 1)) fun h_4 =>
  f_X1_passDay_j28 n h_4)
set_option maxHeartbeats 4000000 in
set_option maxRecDepth 100000 in
theorem c_X1_passDay (l : Launch) (G : va_G) (ct : Nat → ClassId) (sk sv : Nat → Nat) (a : Nat → Nat) (k : Nat → Nat) (n : Nat) (h : MV) {h' : MV} (hf : f_X1_passDay n h = some h') : Ctr (l, G, ct, sk, sv) mX1_passDay 1 23 [.ref (a 0)] (wl [lfH ct a k h]) (wl [lfH ct a k h']) (none) := by
  refine ctr_intro (by decide) (Nat.le_of_ble_eq_true rfl) ?_
  intro p e s m args below meth c A C hP hD hS hA ls hl
  obtain ⟨hx, hb, hml, hown, hts, hr, hlocks, hK, hnm, hZ⟩ := C
  have hb : c.code = cX1_passDay := hb
  have hml : c.maxLocals = 1 := hml
  have hown : s.vm.findClass "SignedOutside$House" = some m.cls := hown
  have hr : meth.sig.returnType = none := hr
  have hP : va_P G classes (wl [lfH ct a k h]) s.heap := hP
  have hD : va_D A (wl [lfH ct a k h]) := hD
  have hK : va_K G classes (TYS ct) s := hK
  have hl : lv_has ls 1 [(0, .ref (a 0))] := hl
  have J28 : ∀ (h : MV) (H : Heap) (locs : List Loc) (ls : Array Slot), va_P G classes (wl [lfH ct a k h]) H → va_D A (wl [lfH ct a k h]) → va_S A s.heap H locs → lv_has ls 1 [] → f_X1_passDay_j28 n h = some h' → WG l G ct sk sv p e (RM 1 23 0 0) s m args below meth c A (Eq2 (none) (wl [lfH ct a k h'])) H locs (F0 m 28 ls []) := by
    intro h H locs ls hP hD hS hl hf
    unfold f_X1_passDay_j28 at hf
    have e1 := Option.some.inj hf
    exact end_v (w' := (wl [lfH ct a k h])) hx hb hr hlocks hK hP hD hS dX1_passDay_28  ⟨rfl, by rw [← e1]⟩
  unfold f_X1_passDay at hf
  show WG l G ct sk sv p e (RM 1 23 0 0) s m args below meth c A (Eq2 (none) (wl [lfH ct a k h'])) s.heap [] (F0 m 0 ls [])
  refine lv_aload_n hx hb dX1_passDay_0 rfl (lv_at hl 0 rfl) ?_
  refine va_get (D := G) (C := RX1) (T := TX1) (N := 16) (v := .ref (a 3)) hx hb hts iu_X1 hown hK hP 0 rfl rfl 4 (by decide) (hts _ kw132) (fun _ h9 => h9) rfl dX1_passDay_1 ?_
  refine lv_iconst (v := 0) hx hb dX1_passDay_4 (by decide) ?_
  obtain ⟨t_1, hc2, hf⟩ := bd_e hf
  obtain ⟨h_2, eh_2, hf⟩ := bl_e hf
  refine call_S (As := [.ref (a 3), .int 0]) (rest := []) hx hb hml hown hts hK hP hD hS hA hZ lkX1_130 (Ctr.up (W := (wl [lfH ct a k h])) (W' := (wl [lfH ct a k (setA h 2 t_1)])) (c_J7_fill l G ct sk sv (fun _ => a 3) n 5 (h.2.1 2) 0 hc2) [3] [0, 1, 2, 4, 5, 6, 7] [0, 1, 2, 7, 3, 4, 5, 6] rfl rfl rfl rfl (by decide) rfl rfl) ⟨Nat.le_of_ble_eq_true rfl, Nat.le_of_ble_eq_true rfl⟩ rfl hl.1 rfl (Nat.le_of_ble_eq_true rfl) dX1_passDay_5 ⟨Nat.le_of_ble_eq_true rfl, Nat.le_of_ble_eq_true rfl⟩ (fun r9 w9 H locs hB hP hD hS => ?_)
  obtain ⟨rfl, rfl⟩ := hB
  have hP : va_P G classes (wl [lfH ct a k h_2]) H := by rw [← eh_2]; exact hP
  have hD : va_D A (wl [lfH ct a k h_2]) := by rw [← eh_2]; exact hD
  refine WG_eq (g2 := F0 m 8 ls []) rfl ?_
  refine lv_aload_n hx hb dX1_passDay_8 rfl (lv_at hl 0 rfl) ?_
  refine va_get (D := G) (C := RX1) (T := TX1) (N := 16) (v := .int (h_2.1 2)) hx hb hts iu_X1 hown hK hP 0 rfl rfl 10 (by decide) (hts _ kw148) (fun _ h9 => h9) rfl dX1_passDay_9 ?_
  refine lv_sipush (v := 999) hx hb dX1_passDay_12 (by decide) ?_
  refine lv_icmp_ge (tgt := 28) hx hb dX1_passDay_15 (by decide) (fun c_3 => ?_) (fun c_3 => ?_)
  · replace hf := bc_t hf c_3
    exact J28 h_2 _ _ _ hP hD hS (lv_sub hl [] rfl) hf
  · replace hf := bc_f hf c_3
    refine lv_aload_n hx hb dX1_passDay_18 rfl (lv_at hl 0 rfl) ?_
    refine lv_dup hx hb dX1_passDay_19 rfl ?_
    refine va_get (D := G) (C := RX1) (T := TX1) (N := 16) (v := .int (h_2.1 2)) hx hb hts iu_X1 hown hK hP 0 rfl rfl 10 (by decide) (hts _ kw148) (fun _ h9 => h9) rfl dX1_passDay_20 ?_
    refine lv_iconst (v := 1) hx hb dX1_passDay_23 (by decide) ?_
    refine lv_iadd hx hb dX1_passDay_24 ?_
    obtain ⟨h_4, eh_4, hf⟩ := bl_e hf
    refine va_put (D := G) (C := RX1) (T := TX1) (N := 16) (ty := .int) hx hb hts iu_X1 tyX1 tyX1_ok nmX1 hown hK hP hD hS 0 rfl rfl 10 (by decide) (hts _ kw148) (fun _ h9 => h9) rfl (by decide +kernel) rfl rfl (Nat.le_of_ble_eq_true rfl) dX1_passDay_25 (fun H locs hP hD hS => ?_)
    have hP : va_P G classes (wl [lfH ct a k h_4]) H := by rw [← eh_4]; exact hP
    have hD : va_D A (wl [lfH ct a k h_4]) := by rw [← eh_4]; exact hD
    exact J28 h_4 _ _ _ hP hD hS (lv_sub hl [] rfl) hf
