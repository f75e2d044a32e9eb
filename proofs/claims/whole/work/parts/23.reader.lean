theorem lkX6_91 : lkV "SignedOutside$Reader" 91 mX6_isLower 1 := lkV_mk kw363 kw365 kp3 kw12 kw366 (by decide +kernel)
theorem lkX6_98 : lkV "SignedOutside$Reader" 98 mX6_isFigure 1 := lkV_mk kw371 kw373 kp5 kw12 kw374 (by decide +kernel)
theorem lkX6_101 : lkV "SignedOutside$Reader" 101 mX6_readNumber 0 := lkV_mk kw375 kw377 kp6 kw12 kw378 (by decide +kernel)
theorem lkX6_95 : lkV "SignedOutside$Reader" 95 mX6_readWord 0 := lkV_mk kw367 kw369 kp4 kw12 kw370 (by decide +kernel)
theorem lkX6_22 : lkV "SignedOutside$Reader" 22 mX6_nextToken 0 := lkV_mk kw359 kw361 kp2 kw12 kw362 (by decide +kernel)
theorem lkX6_84 : lkN "SignedOutside$Reader" 84 "SignedOutside" mX11_within 3 ∧ Cond.static mX11_within.1 ∈ WALL := ⟨⟨List.mem_of_getElem? (i := 15) rfl, kw1, kw314, by decide +kernel⟩, kw313⟩
theorem lkX6_59 : lkV "SignedOutside$Reader" 59 mX6_takesNumber 2 := lkV_mk kw441 kw443 kp10 kw12 kw444 (by decide +kernel)
theorem lkX6_66 : lkV "SignedOutside$Reader" 66 mX1_addMember 2 := lkV_mk kw446 kw328 kw329 kw8 kw330 (by decide +kernel)
theorem lkX6_73 : lkV "SignedOutside$Reader" 73 mX1_addLetter 3 := lkV_mk kw452 kw336 kw337 kw8 kw338 (by decide +kernel)
theorem lkX6_77 : lkV "SignedOutside$Reader" 77 mX1_mayFrank 2 := lkV_mk kw458 kw459 kw460 kw8 kw461 (by decide +kernel)
theorem lkX6_80 : lkV "SignedOutside$Reader" 80 mX1_sign 2 := lkV_mk kw531 kw532 kw533 kw8 kw534 (by decide +kernel)
theorem lkX6_104 : lkV "SignedOutside$Reader" 104 mJ0_length_8abf5 0 := lkV_mk kw384 kw385 kw386 kw14 kw387 (by decide +kernel)
theorem lkX6_109 : lkV "SignedOutside$Reader" 109 mJ0_charAt_5068e 1 := lkV_mk kw394 kw395 kw396 kw14 kw397 (by decide +kernel)
theorem lkX6_31 : lkV "SignedOutside$Reader" 31 mX6_stops 0 := lkV_mk kw432 kw434 kp8 kw12 kw435 (by decide +kernel)
theorem lkX6_27 : lkV "SignedOutside$Reader" 27 mX6_isWord 1 := lkV_mk kw380 kw382 kp7 kw12 kw383 (by decide +kernel)
theorem lkX6_51 : lkV "SignedOutside$Reader" 51 mX6_readFrank 1 := lkV_mk kw454 kw456 kp12 kw12 kw457 (by decide +kernel)
theorem lkX6_46 : lkV "SignedOutside$Reader" 46 mX6_readLetter 1 := lkV_mk kw448 kw450 kp11 kw12 kw451 (by decide +kernel)
theorem lkX6_40 : lkV "SignedOutside$Reader" 40 mX6_readMember 1 := lkV_mk kw437 kw439 kp9 kw12 kw440 (by decide +kernel)
noncomputable def f_X11_within_j15 (n : Nat) (s0 : Int32) : Option (Int32) :=
  gd (s0 = 0 ∨ s0 = 1) <| some s0
noncomputable def f_X11_within_j14 (n : Nat) : Option (Int32) :=
  f_X11_within_j15 n 0
noncomputable def f_X11_within (n : Nat) (v0 : Int32) (v1 : Int32) (v2 : Int32) : Option (Int32) :=
  bc (v0 < v1) (f_X11_within_j14 n)
  (bc (v2 < v0) (f_X11_within_j14 n)
  (f_X11_within_j15 n 1))
set_option maxHeartbeats 4000000 in
set_option maxRecDepth 100000 in
theorem c_X11_within (l : Launch) (G : va_G) (ct : Nat → ClassId) (sk sv : Nat → Nat)  (n : Nat) (v0 : Int32) (v1 : Int32) (v2 : Int32) {r : Int32} (hf : f_X11_within n v0 v1 v2 = some r) : Ctr (l, G, ct, sk, sv) mX11_within 0 0 [.int v0, .int v1, .int v2] (wl []) (wl []) (some (.int r)) := by
  refine ctr_intro (by decide) (Nat.le_of_ble_eq_true rfl) ?_
  intro p e s m args below meth c A C hP hD hS hA ls hl
  obtain ⟨hx, hb, hml, hown, hts, hr, hlocks, hK, hnm, hZ⟩ := C
  have hb : c.code = cX11_within := hb
  have hml : c.maxLocals = 3 := hml
  have hown : s.vm.findClass "SignedOutside" = some m.cls := hown
  have hr : meth.sig.returnType = some .boolean := hr
  have hP : va_P G classes (wl []) s.heap := hP
  have hD : va_D A (wl []) := hD
  have hK : va_K G classes (TYS ct) s := hK
  have hl : lv_has ls 3 [(0, .int v0), (1, .int v1), (2, .int v2)] := hl
  have J15 : ∀ (s0 : Int32) (H : Heap) (locs : List Loc) (ls : Array Slot), va_P G classes (wl []) H → va_D A (wl []) → va_S A s.heap H locs → lv_has ls 3 [] → f_X11_within_j15 n s0 = some r → WG l G ct sk sv p e (RM 0 0 0 0) s m args below meth c A (Eq2 (some (.int r)) (wl [])) H locs (F0 m 15 ls [.int s0]) := by
    intro s0 H locs ls hP hD hS hl hf
    unfold f_X11_within_j15 at hf
    obtain ⟨g_1, hf⟩ := gd_e hf
    have e1 := Option.some.inj hf
    exact end_z (w' := (wl [])) hx hb hr hlocks hK hP hD hS dX11_within_15 g_1 ⟨by rw [← e1], rfl⟩
  have J14 : ∀ (H : Heap) (locs : List Loc) (ls : Array Slot), va_P G classes (wl []) H → va_D A (wl []) → va_S A s.heap H locs → lv_has ls 3 [] → f_X11_within_j14 n = some r → WG l G ct sk sv p e (RM 0 0 0 0) s m args below meth c A (Eq2 (some (.int r)) (wl [])) H locs (F0 m 14 ls []) := by
    intro  H locs ls hP hD hS hl hf
    unfold f_X11_within_j14 at hf
    refine lv_iconst (v := 0) hx hb dX11_within_14 (by decide) ?_
    exact J15 0 _ _ _ hP hD hS hl hf
  unfold f_X11_within at hf
  show WG l G ct sk sv p e (RM 0 0 0 0) s m args below meth c A (Eq2 (some (.int r)) (wl [])) s.heap [] (F0 m 0 ls [])
  refine lv_iload_n hx hb dX11_within_0 rfl (lv_at hl 0 rfl) ?_
  refine lv_iload_n hx hb dX11_within_1 rfl (lv_at hl 1 rfl) ?_
  refine lv_icmp_lt (tgt := 14) hx hb dX11_within_2 (by decide) (fun c_2 => ?_) (fun c_2 => ?_)
  · replace hf := bc_t hf c_2
    exact J14  _ _ _ hP hD hS (lv_sub hl [] rfl) hf
  · replace hf := bc_f hf c_2
    refine lv_iload_n hx hb dX11_within_5 rfl (lv_at hl 0 rfl) ?_
    refine lv_iload_n hx hb dX11_within_6 rfl (lv_at hl 2 rfl) ?_
    refine lv_icmp_gt (tgt := 14) hx hb dX11_within_7 (by decide) (fun c_3 => ?_) (fun c_3 => ?_)
    · replace hf := bc_t hf c_3
      exact J14  _ _ _ hP hD hS (lv_sub hl [] rfl) hf
    · replace hf := bc_f hf c_3
      refine lv_iconst (v := 1) hx hb dX11_within_10 (by decide) ?_
      refine lv_goto (tgt := 15) hx hb dX11_within_11 (by decide) ?_
      exact J15 1 _ _ _ hP hD hS (lv_sub hl [] rfl) hf
noncomputable def f_X6_append (n : Nat) (rv : MV) (v1 : Int32) : Option (Int32 × MV) :=
  bc ((rv.1 0) < 150) (gd (vp_in (rv.1 0) 150) <|
  bl (setA rv 0 (upd (rv.2.1 0) (ix (rv.1 0)) (vp_nar .byte ((v1 : Int32).toInt8.toInt32)))) fun rv_3 =>
  bl (setS rv_3 0 ((rv_3.1 0) + 1)) fun rv_4 =>
  some (1, rv_4))
  (some (0, rv))
set_option maxHeartbeats 4000000 in
set_option maxRecDepth 100000 in
theorem c_X6_append (l : Launch) (G : va_G) (ct : Nat → ClassId) (sk sv : Nat → Nat) (rd : Nat → Nat) (n : Nat) (rv : MV) (v1 : Int32) {r : Int32} {rv' : MV} (hf : f_X6_append n rv v1 = some (r, rv')) : Ctr (l, G, ct, sk, sv) mX6_append 0 0 [.ref (rd 0), .int v1] (wl [lfR ct rd rv]) (wl [lfR ct rd rv']) (some (.int r)) := by
  refine ctr_intro (by decide) (Nat.le_of_ble_eq_true rfl) ?_
  intro p e s m args below meth c A C hP hD hS hA ls hl
  obtain ⟨hx, hb, hml, hown, hts, hr, hlocks, hK, hnm, hZ⟩ := C
  have hb : c.code = cX6_append := hb
  have hml : c.maxLocals = 2 := hml
  have hown : s.vm.findClass "SignedOutside$Reader" = some m.cls := hown
  have hr : meth.sig.returnType = some .boolean := hr
  have hP : va_P G classes (wl [lfR ct rd rv]) s.heap := hP
  have hD : va_D A (wl [lfR ct rd rv]) := hD
  have hK : va_K G classes (TYS ct) s := hK
  have hl : lv_has ls 2 [(0, .ref (rd 0)), (1, .int v1)] := hl
  unfold f_X6_append at hf
  show WG l G ct sk sv p e (RM 0 0 0 0) s m args below meth c A (Eq2 (some (.int r)) (wl [lfR ct rd rv'])) s.heap [] (F0 m 0 ls [])
  refine lv_aload_n hx hb dX6_append_0 rfl (lv_at hl 0 rfl) ?_
  refine va_get (D := G) (C := RX6) (T := TX6) (N := 6) (v := .int (rv.1 0)) hx hb hts iu_X6 hown hK hP 0 rfl rfl 1 (by decide) (hts _ kw241) (fun _ h9 => h9) rfl dX6_append_1 ?_
  refine lv_sipush (v := 150) hx hb dX6_append_4 (by decide) ?_
  refine lv_icmp_lt (tgt := 12) hx hb dX6_append_7 (by decide) (fun c_1 => ?_) (fun c_1 => ?_)
  · replace hf := bc_t hf c_1
    refine lv_aload_n hx hb dX6_append_12 rfl (lv_at hl 0 rfl) ?_
    refine va_get (D := G) (C := RX6) (T := TX6) (N := 6) (v := .ref (rd 1)) hx hb hts iu_X6 hown hK hP 0 rfl rfl 0 (by decide) (hts _ kw240) (fun _ h9 => h9) rfl dX6_append_13 ?_
    refine lv_aload_n hx hb dX6_append_16 rfl (lv_at hl 0 rfl) ?_
    refine va_get (D := G) (C := RX6) (T := TX6) (N := 6) (v := .int (rv.1 0)) hx hb hts iu_X6 hown hK hP 0 rfl rfl 1 (by decide) (hts _ kw241) (fun _ h9 => h9) rfl dX6_append_17 ?_
    refine lv_iload_n hx hb dX6_append_20 rfl (lv_at hl 1 rfl) ?_
    refine lv_i2b (v := (v1 : Int32).toInt8.toInt32) hx hb dX6_append_21 rfl ?_
    obtain ⟨g_2, hf⟩ := gd_e hf
    obtain ⟨rv_3, erv_3, hf⟩ := bl_e hf
    refine va_bast hx hb hK hP hD hS 1 2 rfl rfl g_2 dX6_append_22 (fun H locs hP hD hS => ?_)
    have hP : va_P G classes (wl [lfR ct rd rv_3]) H := by rw [← erv_3]; exact hP
    have hD : va_D A (wl [lfR ct rd rv_3]) := by rw [← erv_3]; exact hD
    refine lv_aload_n hx hb dX6_append_23 rfl (lv_at hl 0 rfl) ?_
    refine lv_dup hx hb dX6_append_24 rfl ?_
    refine va_get (D := G) (C := RX6) (T := TX6) (N := 6) (v := .int (rv_3.1 0)) hx hb hts iu_X6 hown hK hP 0 rfl rfl 1 (by decide) (hts _ kw241) (fun _ h9 => h9) rfl dX6_append_25 ?_
    refine lv_iconst (v := 1) hx hb dX6_append_28 (by decide) ?_
    refine lv_iadd hx hb dX6_append_29 ?_
    obtain ⟨rv_4, erv_4, hf⟩ := bl_e hf
    refine va_put (D := G) (C := RX6) (T := TX6) (N := 6) (ty := .int) hx hb hts iu_X6 tyX6 tyX6_ok nmX6 hown hK hP hD hS 0 rfl rfl 1 (by decide) (hts _ kw241) (fun _ h9 => h9) rfl (by decide +kernel) rfl rfl (Nat.le_of_ble_eq_true rfl) dX6_append_30 (fun H locs hP hD hS => ?_)
    have hP : va_P G classes (wl [lfR ct rd rv_4]) H := by rw [← erv_4]; exact hP
    have hD : va_D A (wl [lfR ct rd rv_4]) := by rw [← erv_4]; exact hD
    refine lv_iconst (v := 1) hx hb dX6_append_33 (by decide) ?_
    obtain ⟨e1, e2⟩ := inj2 (Option.some.inj hf)
    exact end_z (w' := (wl [lfR ct rd rv_4])) hx hb hr hlocks hK hP hD hS dX6_append_34 (by decide) ⟨by rw [← e1], by rw [← e2]⟩
  · replace hf := bc_f hf c_1
    refine lv_iconst (v := 0) hx hb dX6_append_10 (by decide) ?_
    obtain ⟨e1, e2⟩ := inj2 (Option.some.inj hf)
    exact end_z (w' := (wl [lfR ct rd rv])) hx hb hr hlocks hK hP hD hS dX6_append_11 (by decide) ⟨by rw [← e1], by rw [← e2]⟩
noncomputable def f_X6_isLower_j27 (n : Nat) (rv : MV) (s0 : Int32) : Option (Int32) :=
  gd (s0 = 0 ∨ s0 = 1) <| some s0
noncomputable def f_X6_isLower_j26 (n : Nat) (rv : MV) : Option (Int32) :=
  f_X6_isLower_j27 n rv 0
noncomputable def f_X6_isLower (n : Nat) (rv : MV) (v1 : Int32) : Option (Int32) :=
  gd (vp_in v1 150) <|
  bc ((rv.2.1 0 (ix v1)) < 97) (f_X6_isLower_j26 n rv)
  (gd (vp_in v1 150) <|
  bc (122 < (rv.2.1 0 (ix v1))) (f_X6_isLower_j26 n rv)
  (f_X6_isLower_j27 n rv 1))
set_option maxHeartbeats 4000000 in
set_option maxRecDepth 100000 in
theorem c_X6_isLower (l : Launch) (G : va_G) (ct : Nat → ClassId) (sk sv : Nat → Nat) (rd : Nat → Nat) (n : Nat) (rv : MV) (v1 : Int32) {r : Int32} (hf : f_X6_isLower n rv v1 = some r) : Ctr (l, G, ct, sk, sv) mX6_isLower 0 0 [.ref (rd 0), .int v1] (wl [lfR ct rd rv]) (wl [lfR ct rd rv]) (some (.int r)) := by
  refine ctr_intro (by decide) (Nat.le_of_ble_eq_true rfl) ?_
  intro p e s m args below meth c A C hP hD hS hA ls hl
  obtain ⟨hx, hb, hml, hown, hts, hr, hlocks, hK, hnm, hZ⟩ := C
  have hb : c.code = cX6_isLower := hb
  have hml : c.maxLocals = 2 := hml
  have hown : s.vm.findClass "SignedOutside$Reader" = some m.cls := hown
  have hr : meth.sig.returnType = some .boolean := hr
  have hP : va_P G classes (wl [lfR ct rd rv]) s.heap := hP
  have hD : va_D A (wl [lfR ct rd rv]) := hD
  have hK : va_K G classes (TYS ct) s := hK
  have hl : lv_has ls 2 [(0, .ref (rd 0)), (1, .int v1)] := hl
  have J27 : ∀ (s0 : Int32) (H : Heap) (locs : List Loc) (ls : Array Slot), va_P G classes (wl [lfR ct rd rv]) H → va_D A (wl [lfR ct rd rv]) → va_S A s.heap H locs → lv_has ls 2 [] → f_X6_isLower_j27 n rv s0 = some r → WG l G ct sk sv p e (RM 0 0 0 0) s m args below meth c A (Eq2 (some (.int r)) (wl [lfR ct rd rv])) H locs (F0 m 27 ls [.int s0]) := by
    intro s0 H locs ls hP hD hS hl hf
    unfold f_X6_isLower_j27 at hf
    obtain ⟨g_1, hf⟩ := gd_e hf
    have e1 := Option.some.inj hf
    exact end_z (w' := (wl [lfR ct rd rv])) hx hb hr hlocks hK hP hD hS dX6_isLower_27 g_1 ⟨by rw [← e1], rfl⟩
  have J26 : ∀ (H : Heap) (locs : List Loc) (ls : Array Slot), va_P G classes (wl [lfR ct rd rv]) H → va_D A (wl [lfR ct rd rv]) → va_S A s.heap H locs → lv_has ls 2 [] → f_X6_isLower_j26 n rv = some r → WG l G ct sk sv p e (RM 0 0 0 0) s m args below meth c A (Eq2 (some (.int r)) (wl [lfR ct rd rv])) H locs (F0 m 26 ls []) := by
    intro  H locs ls hP hD hS hl hf
    unfold f_X6_isLower_j26 at hf
    refine lv_iconst (v := 0) hx hb dX6_isLower_26 (by decide) ?_
    exact J27 0 _ _ _ hP hD hS hl hf
  unfold f_X6_isLower at hf
  show WG l G ct sk sv p e (RM 0 0 0 0) s m args below meth c A (Eq2 (some (.int r)) (wl [lfR ct rd rv])) s.heap [] (F0 m 0 ls [])
  refine lv_aload_n hx hb dX6_isLower_0 rfl (lv_at hl 0 rfl) ?_
  refine va_get (D := G) (C := RX6) (T := TX6) (N := 6) (v := .ref (rd 1)) hx hb hts iu_X6 hown hK hP 0 rfl rfl 0 (by decide) (hts _ kw240) (fun _ h9 => h9) rfl dX6_isLower_1 ?_
  refine lv_iload_n hx hb dX6_isLower_4 rfl (lv_at hl 1 rfl) ?_
  obtain ⟨g_2, hf⟩ := gd_e hf
  refine va_bald (f := rv.2.1 0) hx hb hK hP 1 2 rfl rfl g_2 dX6_isLower_5 ?_
  refine lv_bipush (v := 97) hx hb dX6_isLower_6 (by decide) ?_
  refine lv_icmp_lt (tgt := 26) hx hb dX6_isLower_8 (by decide) (fun c_3 => ?_) (fun c_3 => ?_)
  · replace hf := bc_t hf c_3
    exact J26  _ _ _ hP hD hS (lv_sub hl [] rfl) hf
  · replace hf := bc_f hf c_3
    refine lv_aload_n hx hb dX6_isLower_11 rfl (lv_at hl 0 rfl) ?_
    refine va_get (D := G) (C := RX6) (T := TX6) (N := 6) (v := .ref (rd 1)) hx hb hts iu_X6 hown hK hP 0 rfl rfl 0 (by decide) (hts _ kw240) (fun _ h9 => h9) rfl dX6_isLower_12 ?_
    refine lv_iload_n hx hb dX6_isLower_15 rfl (lv_at hl 1 rfl) ?_
    obtain ⟨g_4, hf⟩ := gd_e hf
    refine va_bald (f := rv.2.1 0) hx hb hK hP 1 2 rfl rfl g_4 dX6_isLower_16 ?_
    refine lv_bipush (v := 122) hx hb dX6_isLower_17 (by decide) ?_
    refine lv_icmp_gt (tgt := 26) hx hb dX6_isLower_19 (by decide) (fun c_5 => ?_) (fun c_5 => ?_)
    · replace hf := bc_t hf c_5
      exact J26  _ _ _ hP hD hS (lv_sub hl [] rfl) hf
    · replace hf := bc_f hf c_5
      refine lv_iconst (v := 1) hx hb dX6_isLower_22 (by decide) ?_
      refine lv_goto (tgt := 27) hx hb dX6_isLower_23 (by decide) ?_
      exact J27 1 _ _ _ hP hD hS (lv_sub hl [] rfl) hf
noncomputable def f_X6_isFigure_j27 (n : Nat) (rv : MV) (s0 : Int32) : Option (Int32) :=
  gd (s0 = 0 ∨ s0 = 1) <| some s0
noncomputable def f_X6_isFigure_j26 (n : Nat) (rv : MV) : Option (Int32) :=
  f_X6_isFigure_j27 n rv 0
noncomputable def f_X6_isFigure (n : Nat) (rv : MV) (v1 : Int32) : Option (Int32) :=
  gd (vp_in v1 150) <|
  bc ((rv.2.1 0 (ix v1)) < 48) (f_X6_isFigure_j26 n rv)
  (gd (vp_in v1 150) <|
  bc (57 < (rv.2.1 0 (ix v1))) (f_X6_isFigure_j26 n rv)
  (f_X6_isFigure_j27 n rv 1))
set_option maxHeartbeats 4000000 in
set_option maxRecDepth 100000 in
theorem c_X6_isFigure (l : Launch) (G : va_G) (ct : Nat → ClassId) (sk sv : Nat → Nat) (rd : Nat → Nat) (n : Nat) (rv : MV) (v1 : Int32) {r : Int32} (hf : f_X6_isFigure n rv v1 = some r) : Ctr (l, G, ct, sk, sv) mX6_isFigure 0 0 [.ref (rd 0), .int v1] (wl [lfR ct rd rv]) (wl [lfR ct rd rv]) (some (.int r)) := by
  refine ctr_intro (by decide) (Nat.le_of_ble_eq_true rfl) ?_
  intro p e s m args below meth c A C hP hD hS hA ls hl
  obtain ⟨hx, hb, hml, hown, hts, hr, hlocks, hK, hnm, hZ⟩ := C
  have hb : c.code = cX6_isFigure := hb
  have hml : c.maxLocals = 2 := hml
  have hown : s.vm.findClass "SignedOutside$Reader" = some m.cls := hown
  have hr : meth.sig.returnType = some .boolean := hr
  have hP : va_P G classes (wl [lfR ct rd rv]) s.heap := hP
  have hD : va_D A (wl [lfR ct rd rv]) := hD
  have hK : va_K G classes (TYS ct) s := hK
  have hl : lv_has ls 2 [(0, .ref (rd 0)), (1, .int v1)] := hl
  have J27 : ∀ (s0 : Int32) (H : Heap) (locs : List Loc) (ls : Array Slot), va_P G classes (wl [lfR ct rd rv]) H → va_D A (wl [lfR ct rd rv]) → va_S A s.heap H locs → lv_has ls 2 [] → f_X6_isFigure_j27 n rv s0 = some r → WG l G ct sk sv p e (RM 0 0 0 0) s m args below meth c A (Eq2 (some (.int r)) (wl [lfR ct rd rv])) H locs (F0 m 27 ls [.int s0]) := by
    intro s0 H locs ls hP hD hS hl hf
    unfold f_X6_isFigure_j27 at hf
    obtain ⟨g_1, hf⟩ := gd_e hf
    have e1 := Option.some.inj hf
    exact end_z (w' := (wl [lfR ct rd rv])) hx hb hr hlocks hK hP hD hS dX6_isFigure_27 g_1 ⟨by rw [← e1], rfl⟩
  have J26 : ∀ (H : Heap) (locs : List Loc) (ls : Array Slot), va_P G classes (wl [lfR ct rd rv]) H → va_D A (wl [lfR ct rd rv]) → va_S A s.heap H locs → lv_has ls 2 [] → f_X6_isFigure_j26 n rv = some r → WG l G ct sk sv p e (RM 0 0 0 0) s m args below meth c A (Eq2 (some (.int r)) (wl [lfR ct rd rv])) H locs (F0 m 26 ls []) := by
    intro  H locs ls hP hD hS hl hf
    unfold f_X6_isFigure_j26 at hf
    refine lv_iconst (v := 0) hx hb dX6_isFigure_26 (by decide) ?_
    exact J27 0 _ _ _ hP hD hS hl hf
  unfold f_X6_isFigure at hf
  show WG l G ct sk sv p e (RM 0 0 0 0) s m args below meth c A (Eq2 (some (.int r)) (wl [lfR ct rd rv])) s.heap [] (F0 m 0 ls [])
  refine lv_aload_n hx hb dX6_isFigure_0 rfl (lv_at hl 0 rfl) ?_
  refine va_get (D := G) (C := RX6) (T := TX6) (N := 6) (v := .ref (rd 1)) hx hb hts iu_X6 hown hK hP 0 rfl rfl 0 (by decide) (hts _ kw240) (fun _ h9 => h9) rfl dX6_isFigure_1 ?_
  refine lv_iload_n hx hb dX6_isFigure_4 rfl (lv_at hl 1 rfl) ?_
  obtain ⟨g_2, hf⟩ := gd_e hf
  refine va_bald (f := rv.2.1 0) hx hb hK hP 1 2 rfl rfl g_2 dX6_isFigure_5 ?_
  refine lv_bipush (v := 48) hx hb dX6_isFigure_6 (by decide) ?_
  refine lv_icmp_lt (tgt := 26) hx hb dX6_isFigure_8 (by decide) (fun c_3 => ?_) (fun c_3 => ?_)
  · replace hf := bc_t hf c_3
    exact J26  _ _ _ hP hD hS (lv_sub hl [] rfl) hf
  · replace hf := bc_f hf c_3
    refine lv_aload_n hx hb dX6_isFigure_11 rfl (lv_at hl 0 rfl) ?_
    refine va_get (D := G) (C := RX6) (T := TX6) (N := 6) (v := .ref (rd 1)) hx hb hts iu_X6 hown hK hP 0 rfl rfl 0 (by decide) (hts _ kw240) (fun _ h9 => h9) rfl dX6_isFigure_12 ?_
    refine lv_iload_n hx hb dX6_isFigure_15 rfl (lv_at hl 1 rfl) ?_
    obtain ⟨g_4, hf⟩ := gd_e hf
    refine va_bald (f := rv.2.1 0) hx hb hK hP 1 2 rfl rfl g_4 dX6_isFigure_16 ?_
    refine lv_bipush (v := 57) hx hb dX6_isFigure_17 (by decide) ?_
    refine lv_icmp_gt (tgt := 26) hx hb dX6_isFigure_19 (by decide) (fun c_5 => ?_) (fun c_5 => ?_)
    · replace hf := bc_t hf c_5
      exact J26  _ _ _ hP hD hS (lv_sub hl [] rfl) hf
    · replace hf := bc_f hf c_5
      refine lv_iconst (v := 1) hx hb dX6_isFigure_22 (by decide) ?_
      refine lv_goto (tgt := 27) hx hb dX6_isFigure_23 (by decide) ?_
      exact J27 1 _ _ _ hP hD hS (lv_sub hl [] rfl) hf
noncomputable def f_X6_readWord_b5 (n : Nat) (rv : MV) : Option ((MV) ⊕ (MV)) :=
  bc ((rv.1 0) ≤ (rv.1 3)) (some (.inr rv))
  (bd (f_X6_isLower n rv (rv.1 3)) fun r_2 =>
  bc (r_2 = 0) (some (.inr rv))
  (bl (setS rv 3 ((rv.1 3) + 1)) fun rv_4 =>
  some (.inl rv_4)))
noncomputable def f_X6_readWord_l5 (fu : Nat) (n : Nat) (rv : MV)  : Option (MV) :=
  lp (fun q => f_X6_readWord_b5 n q) fu rv
noncomputable def f_X6_readWord_j40 (n : Nat) (rv : MV) : Option (MV) :=
  some rv
noncomputable def f_X6_readWord (n : Nat) (rv : MV) : Option (MV) :=
  bl (setS rv 1 1) fun rv_5 =>
  bd (f_X6_readWord_l5 n n rv_5) fun rv_6 =>
  f_X6_readWord_j40 n rv_6
set_option maxHeartbeats 4000000 in
set_option maxRecDepth 100000 in
theorem c_X6_readWord (l : Launch) (G : va_G) (ct : Nat → ClassId) (sk sv : Nat → Nat) (rd : Nat → Nat) (n : Nat) (rv : MV) {rv' : MV} (hf : f_X6_readWord n rv = some rv') : Ctr (l, G, ct, sk, sv) mX6_readWord 1 21 [.ref (rd 0)] (wl [lfR ct rd rv]) (wl [lfR ct rd rv']) (none) := by
  refine ctr_intro (by decide) (Nat.le_of_ble_eq_true rfl) ?_
  intro p e s m args below meth c A C hP hD hS hA ls hl
  obtain ⟨hx, hb, hml, hown, hts, hr, hlocks, hK, hnm, hZ⟩ := C
  have hb : c.code = cX6_readWord := hb
  have hml : c.maxLocals = 1 := hml
  have hown : s.vm.findClass "SignedOutside$Reader" = some m.cls := hown
  have hr : meth.sig.returnType = none := hr
  have hP : va_P G classes (wl [lfR ct rd rv]) s.heap := hP
  have hD : va_D A (wl [lfR ct rd rv]) := hD
  have hK : va_K G classes (TYS ct) s := hK
  have hl : lv_has ls 1 [(0, .ref (rd 0))] := hl
  have L5 : ∀ (fu : Nat) (rv : MV) (ex : MV) (H : Heap) (locs : List Loc) (ls : Array Slot), va_P G classes (wl [lfR ct rd rv]) H → va_D A (wl [lfR ct rd rv]) → va_S A s.heap H locs → lv_has ls 1 [(0, .ref (rd 0))] → f_X6_readWord_l5 fu n rv = some ex → (∀ (x : MV), ex = x → ∀ (H : Heap) (locs : List Loc) (ls : Array Slot), va_P G classes (wl [lfR ct rd x]) H → va_D A (wl [lfR ct rd x]) → va_S A s.heap H locs → lv_has ls 1 [] → WG l G ct sk sv p e (RM 1 21 0 0) s m args below meth c A (Eq2 (none) (wl [lfR ct rd rv'])) H locs (F0 m 40 ls [])) → WG l G ct sk sv p e (RM 1 21 0 0) s m args below meth c A (Eq2 (none) (wl [lfR ct rd rv'])) H locs (F0 m 5 ls []) := by
    intro fu
    induction fu with
    | zero =>
      intro rv ex H locs ls hP hD hS hl hf
      exact absurd hf (by unfold f_X6_readWord_l5 lp; exact fun h => by cases h)
    | succ fu ih =>
      intro rv ex H locs ls hP hD hS hl hf hE
      unfold f_X6_readWord_l5 at hf
      obtain ⟨q, hf, hor⟩ := lp_e hf
      replace hf : f_X6_readWord_b5 n rv = some q := hf
      unfold f_X6_readWord_b5 at hf
      refine lv_aload_n hx hb dX6_readWord_5 rfl (lv_at hl 0 rfl) ?_
      refine va_get (D := G) (C := RX6) (T := TX6) (N := 6) (v := .int (rv.1 3)) hx hb hts iu_X6 hown hK hP 0 rfl rfl 4 (by decide) (hts _ kw246) (fun _ h9 => h9) rfl dX6_readWord_6 ?_
      refine lv_aload_n hx hb dX6_readWord_9 rfl (lv_at hl 0 rfl) ?_
      refine va_get (D := G) (C := RX6) (T := TX6) (N := 6) (v := .int (rv.1 0)) hx hb hts iu_X6 hown hK hP 0 rfl rfl 1 (by decide) (hts _ kw241) (fun _ h9 => h9) rfl dX6_readWord_10 ?_
      refine lv_icmp_ge (tgt := 40) hx hb dX6_readWord_13 (by decide) (fun c_1 => ?_) (fun c_1 => ?_)
      · replace hf := bc_t hf c_1
        exact hE rv (lp_inr hor hf).symm _ _ _ hP hD hS (lv_sub hl [] rfl)
      · replace hf := bc_f hf c_1
        refine lv_aload_n hx hb dX6_readWord_16 rfl (lv_at hl 0 rfl) ?_
        refine lv_aload_n hx hb dX6_readWord_17 rfl (lv_at hl 0 rfl) ?_
        refine va_get (D := G) (C := RX6) (T := TX6) (N := 6) (v := .int (rv.1 3)) hx hb hts iu_X6 hown hK hP 0 rfl rfl 4 (by decide) (hts _ kw246) (fun _ h9 => h9) rfl dX6_readWord_18 ?_
        obtain ⟨r_2, hc2, hf⟩ := bd_e hf
        refine call_V (As := [.int (rv.1 3)]) (rest := []) hx hb hml hown hts hK hP hD hS hA hZ lkX6_91 (c_X6_isLower l G ct sk sv rd n rv (rv.1 3) hc2) 0 rfl rfl ⟨Nat.le_of_ble_eq_true rfl, Nat.le_of_ble_eq_true rfl⟩ rfl hl.1 rfl (Nat.le_of_ble_eq_true rfl) dX6_readWord_21 ⟨Nat.le_of_ble_eq_true rfl, Nat.le_of_ble_eq_true rfl⟩ (fun r9 w9 H locs hB hP hD hS => ?_)
        obtain ⟨rfl, rfl⟩ := hB
        refine WG_eq (g2 := F0 m 24 ls [.int r_2]) rfl ?_
        refine lv_if_eq (tgt := 40) hx hb dX6_readWord_24 (by decide) (fun c_3 => ?_) (fun c_3 => ?_)
        · replace hf := bc_t hf c_3
          exact hE rv (lp_inr hor hf).symm _ _ _ hP hD hS (lv_sub hl [] rfl)
        · replace hf := bc_f hf c_3
          refine lv_aload_n hx hb dX6_readWord_27 rfl (lv_at hl 0 rfl) ?_
          refine lv_dup hx hb dX6_readWord_28 rfl ?_
          refine va_get (D := G) (C := RX6) (T := TX6) (N := 6) (v := .int (rv.1 3)) hx hb hts iu_X6 hown hK hP 0 rfl rfl 4 (by decide) (hts _ kw246) (fun _ h9 => h9) rfl dX6_readWord_29 ?_
          refine lv_iconst (v := 1) hx hb dX6_readWord_32 (by decide) ?_
          refine lv_iadd hx hb dX6_readWord_33 ?_
          obtain ⟨rv_4, erv_4, hf⟩ := bl_e hf
          refine va_put (D := G) (C := RX6) (T := TX6) (N := 6) (ty := .int) hx hb hts iu_X6 tyX6 tyX6_ok nmX6 hown hK hP hD hS 0 rfl rfl 4 (by decide) (hts _ kw246) (fun _ h9 => h9) rfl (by decide +kernel) rfl rfl (Nat.le_of_ble_eq_true rfl) dX6_readWord_34 (fun H locs hP hD hS => ?_)
          have hP : va_P G classes (wl [lfR ct rd rv_4]) H := by rw [← erv_4]; exact hP
          have hD : va_D A (wl [lfR ct rd rv_4]) := by rw [← erv_4]; exact hD
          refine lv_goto (tgt := 5) hx hb dX6_readWord_37 (by decide) ?_
          exact ih rv_4 ex _ _ _ hP hD hS hl (lp_inl hor hf) hE
  have J40 : ∀ (rv : MV) (H : Heap) (locs : List Loc) (ls : Array Slot), va_P G classes (wl [lfR ct rd rv]) H → va_D A (wl [lfR ct rd rv]) → va_S A s.heap H locs → lv_has ls 1 [] → f_X6_readWord_j40 n rv = some rv' → WG l G ct sk sv p e (RM 1 21 0 0) s m args below meth c A (Eq2 (none) (wl [lfR ct rd rv'])) H locs (F0 m 40 ls []) := by
    intro rv H locs ls hP hD hS hl hf
    unfold f_X6_readWord_j40 at hf
    have e1 := Option.some.inj hf
    exact end_v (w' := (wl [lfR ct rd rv])) hx hb hr hlocks hK hP hD hS dX6_readWord_40  ⟨rfl, by rw [← e1]⟩
  unfold f_X6_readWord at hf
  show WG l G ct sk sv p e (RM 1 21 0 0) s m args below meth c A (Eq2 (none) (wl [lfR ct rd rv'])) s.heap [] (F0 m 0 ls [])
  refine lv_aload_n hx hb dX6_readWord_0 rfl (lv_at hl 0 rfl) ?_
  refine lv_iconst (v := 1) hx hb dX6_readWord_1 (by decide) ?_
  obtain ⟨rv_5, erv_5, hf⟩ := bl_e hf
  refine va_put (D := G) (C := RX6) (T := TX6) (N := 6) (ty := .int) hx hb hts iu_X6 tyX6 tyX6_ok nmX6 hown hK hP hD hS 0 rfl rfl 2 (by decide) (hts _ kw243) (fun _ h9 => h9) rfl (by decide +kernel) rfl rfl (Nat.le_of_ble_eq_true rfl) dX6_readWord_2 (fun H locs hP hD hS => ?_)
  have hP : va_P G classes (wl [lfR ct rd rv_5]) H := by rw [← erv_5]; exact hP
  have hD : va_D A (wl [lfR ct rd rv_5]) := by rw [← erv_5]; exact hD
  obtain ⟨rv_6, hx_7, hf⟩ := bd_e hf
  refine L5 n rv_5 rv_6 _ _ _ hP hD hS hl hx_7 ?_
  intro x9 e9 H locs ls hP hD hS hl
  subst e9
  have hP : va_P G classes (wl [lfR ct rd rv_6]) H := hP
  have hD : va_D A (wl [lfR ct rd rv_6]) := hD
  have hl : lv_has ls 1 [] := hl
  exact J40 rv_6 _ _ _ hP hD hS hl hf
noncomputable def f_X6_readNumber_j64 (n : Nat) (rv : MV) : Option ((MV) ⊕ (MV)) :=
  bl (setS rv 3 ((rv.1 3) + 1)) fun rv_1 =>
  some (.inl rv_1)
noncomputable def f_X6_readNumber_b5 (n : Nat) (rv : MV) : Option ((MV) ⊕ (MV)) :=
  bc ((rv.1 0) ≤ (rv.1 3)) (some (.inr rv))
  (bd (f_X6_isFigure n rv (rv.1 3)) fun r_3 =>
  bc (r_3 = 0) (some (.inr rv))
  (bc (2 ≤ ((rv.1 3) - (rv.1 2))) (f_X6_readNumber_j64 n rv)
  (gd (vp_in (rv.1 3) 150) <|
  bl (setS rv 4 (((10 * (rv.1 4)) + (rv.2.1 0 (ix (rv.1 3)))) - 48)) fun rv_7 =>
  f_X6_readNumber_j64 n rv_7)))
noncomputable def f_X6_readNumber_l5 (fu : Nat) (n : Nat) (rv : MV)  : Option (MV) :=
  lp (fun q => f_X6_readNumber_b5 n q) fu rv
noncomputable def f_X6_readNumber_j96 (n : Nat) (rv : MV) (s0 : Int32) : Option (MV) :=
  bl (setS rv 1 s0) fun rv_8 =>
  some rv_8
noncomputable def f_X6_readNumber_j77 (n : Nat) (rv : MV) : Option (MV) :=
  bc (2 < ((rv.1 3) - (rv.1 2))) (f_X6_readNumber_j96 n rv 4)
  (f_X6_readNumber_j96 n rv 2)
noncomputable def f_X6_readNumber (n : Nat) (rv : MV) : Option (MV) :=
  bl (setS rv 4 0) fun rv_10 =>
  bd (f_X6_readNumber_l5 n n rv_10) fun rv_11 =>
  f_X6_readNumber_j77 n rv_11
set_option maxHeartbeats 4000000 in
set_option maxRecDepth 100000 in
theorem c_X6_readNumber (l : Launch) (G : va_G) (ct : Nat → ClassId) (sk sv : Nat → Nat) (rd : Nat → Nat) (n : Nat) (rv : MV) {rv' : MV} (hf : f_X6_readNumber n rv = some rv') : Ctr (l, G, ct, sk, sv) mX6_readNumber 1 21 [.ref (rd 0)] (wl [lfR ct rd rv]) (wl [lfR ct rd rv']) (none) := by
  refine ctr_intro (by decide) (Nat.le_of_ble_eq_true rfl) ?_
  intro p e s m args below meth c A C hP hD hS hA ls hl
  obtain ⟨hx, hb, hml, hown, hts, hr, hlocks, hK, hnm, hZ⟩ := C
  have hb : c.code = cX6_readNumber := hb
  have hml : c.maxLocals = 1 := hml
  have hown : s.vm.findClass "SignedOutside$Reader" = some m.cls := hown
  have hr : meth.sig.returnType = none := hr
  have hP : va_P G classes (wl [lfR ct rd rv]) s.heap := hP
  have hD : va_D A (wl [lfR ct rd rv]) := hD
  have hK : va_K G classes (TYS ct) s := hK
  have hl : lv_has ls 1 [(0, .ref (rd 0))] := hl
  have L5 : ∀ (fu : Nat) (rv : MV) (ex : MV) (H : Heap) (locs : List Loc) (ls : Array Slot), va_P G classes (wl [lfR ct rd rv]) H → va_D A (wl [lfR ct rd rv]) → va_S A s.heap H locs → lv_has ls 1 [(0, .ref (rd 0))] → f_X6_readNumber_l5 fu n rv = some ex → (∀ (x : MV), ex = x → ∀ (H : Heap) (locs : List Loc) (ls : Array Slot), va_P G classes (wl [lfR ct rd x]) H → va_D A (wl [lfR ct rd x]) → va_S A s.heap H locs → lv_has ls 1 [(0, .ref (rd 0))] → WG l G ct sk sv p e (RM 1 21 0 0) s m args below meth c A (Eq2 (none) (wl [lfR ct rd rv'])) H locs (F0 m 77 ls [])) → WG l G ct sk sv p e (RM 1 21 0 0) s m args below meth c A (Eq2 (none) (wl [lfR ct rd rv'])) H locs (F0 m 5 ls []) := by
    intro fu
    induction fu with
    | zero =>
      intro rv ex H locs ls hP hD hS hl hf
      exact absurd hf (by unfold f_X6_readNumber_l5 lp; exact fun h => by cases h)
    | succ fu ih =>
      intro rv ex H locs ls hP hD hS hl hf hE
      unfold f_X6_readNumber_l5 at hf
      obtain ⟨q, hf, hor⟩ := lp_e hf
      have J64 : ∀ (rv : MV) (H : Heap) (locs : List Loc) (ls : Array Slot), va_P G classes (wl [lfR ct rd rv]) H → va_D A (wl [lfR ct rd rv]) → va_S A s.heap H locs → lv_has ls 1 [(0, .ref (rd 0))] → f_X6_readNumber_j64 n rv = some q → WG l G ct sk sv p e (RM 1 21 0 0) s m args below meth c A (Eq2 (none) (wl [lfR ct rd rv'])) H locs (F0 m 64 ls []) := by
        intro rv H locs ls hP hD hS hl hf
        unfold f_X6_readNumber_j64 at hf
        refine lv_aload_n hx hb dX6_readNumber_64 rfl (lv_at hl 0 rfl) ?_
        refine lv_dup hx hb dX6_readNumber_65 rfl ?_
        refine va_get (D := G) (C := RX6) (T := TX6) (N := 6) (v := .int (rv.1 3)) hx hb hts iu_X6 hown hK hP 0 rfl rfl 4 (by decide) (hts _ kw246) (fun _ h9 => h9) rfl dX6_readNumber_66 ?_
        refine lv_iconst (v := 1) hx hb dX6_readNumber_69 (by decide) ?_
        refine lv_iadd hx hb dX6_readNumber_70 ?_
        obtain ⟨rv_1, erv_1, hf⟩ := bl_e hf
        refine va_put (D := G) (C := RX6) (T := TX6) (N := 6) (ty := .int) hx hb hts iu_X6 tyX6 tyX6_ok nmX6 hown hK hP hD hS 0 rfl rfl 4 (by decide) (hts _ kw246) (fun _ h9 => h9) rfl (by decide +kernel) rfl rfl (Nat.le_of_ble_eq_true rfl) dX6_readNumber_71 (fun H locs hP hD hS => ?_)
        have hP : va_P G classes (wl [lfR ct rd rv_1]) H := by rw [← erv_1]; exact hP
        have hD : va_D A (wl [lfR ct rd rv_1]) := by rw [← erv_1]; exact hD
        refine lv_goto (tgt := 5) hx hb dX6_readNumber_74 (by decide) ?_
        exact ih rv_1 ex _ _ _ hP hD hS hl (lp_inl hor hf) hE
      replace hf : f_X6_readNumber_b5 n rv = some q := hf
      unfold f_X6_readNumber_b5 at hf
      refine lv_aload_n hx hb dX6_readNumber_5 rfl (lv_at hl 0 rfl) ?_
      refine va_get (D := G) (C := RX6) (T := TX6) (N := 6) (v := .int (rv.1 3)) hx hb hts iu_X6 hown hK hP 0 rfl rfl 4 (by decide) (hts _ kw246) (fun _ h9 => h9) rfl dX6_readNumber_6 ?_
      refine lv_aload_n hx hb dX6_readNumber_9 rfl (lv_at hl 0 rfl) ?_
      refine va_get (D := G) (C := RX6) (T := TX6) (N := 6) (v := .int (rv.1 0)) hx hb hts iu_X6 hown hK hP 0 rfl rfl 1 (by decide) (hts _ kw241) (fun _ h9 => h9) rfl dX6_readNumber_10 ?_
      refine lv_icmp_ge (tgt := 77) hx hb dX6_readNumber_13 (by decide) (fun c_2 => ?_) (fun c_2 => ?_)
      · replace hf := bc_t hf c_2
        exact hE rv (lp_inr hor hf).symm _ _ _ hP hD hS hl
      · replace hf := bc_f hf c_2
        refine lv_aload_n hx hb dX6_readNumber_16 rfl (lv_at hl 0 rfl) ?_
        refine lv_aload_n hx hb dX6_readNumber_17 rfl (lv_at hl 0 rfl) ?_
        refine va_get (D := G) (C := RX6) (T := TX6) (N := 6) (v := .int (rv.1 3)) hx hb hts iu_X6 hown hK hP 0 rfl rfl 4 (by decide) (hts _ kw246) (fun _ h9 => h9) rfl dX6_readNumber_18 ?_
        obtain ⟨r_3, hc3, hf⟩ := bd_e hf
        refine call_V (As := [.int (rv.1 3)]) (rest := []) hx hb hml hown hts hK hP hD hS hA hZ lkX6_98 (c_X6_isFigure l G ct sk sv rd n rv (rv.1 3) hc3) 0 rfl rfl ⟨Nat.le_of_ble_eq_true rfl, Nat.le_of_ble_eq_true rfl⟩ rfl hl.1 rfl (Nat.le_of_ble_eq_true rfl) dX6_readNumber_21 ⟨Nat.le_of_ble_eq_true rfl, Nat.le_of_ble_eq_true rfl⟩ (fun r9 w9 H locs hB hP hD hS => ?_)
        obtain ⟨rfl, rfl⟩ := hB
        refine WG_eq (g2 := F0 m 24 ls [.int r_3]) rfl ?_
        refine lv_if_eq (tgt := 77) hx hb dX6_readNumber_24 (by decide) (fun c_4 => ?_) (fun c_4 => ?_)
        · replace hf := bc_t hf c_4
          exact hE rv (lp_inr hor hf).symm _ _ _ hP hD hS hl
        · replace hf := bc_f hf c_4
          refine lv_aload_n hx hb dX6_readNumber_27 rfl (lv_at hl 0 rfl) ?_
          refine va_get (D := G) (C := RX6) (T := TX6) (N := 6) (v := .int (rv.1 3)) hx hb hts iu_X6 hown hK hP 0 rfl rfl 4 (by decide) (hts _ kw246) (fun _ h9 => h9) rfl dX6_readNumber_28 ?_
          refine lv_aload_n hx hb dX6_readNumber_31 rfl (lv_at hl 0 rfl) ?_
          refine va_get (D := G) (C := RX6) (T := TX6) (N := 6) (v := .int (rv.1 2)) hx hb hts iu_X6 hown hK hP 0 rfl rfl 3 (by decide) (hts _ kw245) (fun _ h9 => h9) rfl dX6_readNumber_32 ?_
          refine lv_isub hx hb dX6_readNumber_35 ?_
          refine lv_iconst (v := 2) hx hb dX6_readNumber_36 (by decide) ?_
          refine lv_icmp_ge (tgt := 64) hx hb dX6_readNumber_37 (by decide) (fun c_5 => ?_) (fun c_5 => ?_)
          · replace hf := bc_t hf c_5
            exact J64 rv _ _ _ hP hD hS hl hf
          · replace hf := bc_f hf c_5
            refine lv_aload_n hx hb dX6_readNumber_40 rfl (lv_at hl 0 rfl) ?_
            refine lv_bipush (v := 10) hx hb dX6_readNumber_41 (by decide) ?_
            refine lv_aload_n hx hb dX6_readNumber_43 rfl (lv_at hl 0 rfl) ?_
            refine va_get (D := G) (C := RX6) (T := TX6) (N := 6) (v := .int (rv.1 4)) hx hb hts iu_X6 hown hK hP 0 rfl rfl 5 (by decide) (hts _ kw247) (fun _ h9 => h9) rfl dX6_readNumber_44 ?_
            refine lv_imul hx hb dX6_readNumber_47 ?_
            refine lv_aload_n hx hb dX6_readNumber_48 rfl (lv_at hl 0 rfl) ?_
            refine va_get (D := G) (C := RX6) (T := TX6) (N := 6) (v := .ref (rd 1)) hx hb hts iu_X6 hown hK hP 0 rfl rfl 0 (by decide) (hts _ kw240) (fun _ h9 => h9) rfl dX6_readNumber_49 ?_
            refine lv_aload_n hx hb dX6_readNumber_52 rfl (lv_at hl 0 rfl) ?_
            refine va_get (D := G) (C := RX6) (T := TX6) (N := 6) (v := .int (rv.1 3)) hx hb hts iu_X6 hown hK hP 0 rfl rfl 4 (by decide) (hts _ kw246) (fun _ h9 => h9) rfl dX6_readNumber_53 ?_
            obtain ⟨g_6, hf⟩ := gd_e hf
            refine va_bald (f := rv.2.1 0) hx hb hK hP 1 2 rfl rfl g_6 dX6_readNumber_56 ?_
            refine lv_iadd hx hb dX6_readNumber_57 ?_
            refine lv_bipush (v := 48) hx hb dX6_readNumber_58 (by decide) ?_
            refine lv_isub hx hb dX6_readNumber_60 ?_
            obtain ⟨rv_7, erv_7, hf⟩ := bl_e hf
            refine va_put (D := G) (C := RX6) (T := TX6) (N := 6) (ty := .int) hx hb hts iu_X6 tyX6 tyX6_ok nmX6 hown hK hP hD hS 0 rfl rfl 5 (by decide) (hts _ kw247) (fun _ h9 => h9) rfl (by decide +kernel) rfl rfl (Nat.le_of_ble_eq_true rfl) dX6_readNumber_61 (fun H locs hP hD hS => ?_)
            have hP : va_P G classes (wl [lfR ct rd rv_7]) H := by rw [← erv_7]; exact hP
            have hD : va_D A (wl [lfR ct rd rv_7]) := by rw [← erv_7]; exact hD
            exact J64 rv_7 _ _ _ hP hD hS hl hf
  have J96 : ∀ (rv : MV) (s0 : Int32) (H : Heap) (locs : List Loc) (ls : Array Slot), va_P G classes (wl [lfR ct rd rv]) H → va_D A (wl [lfR ct rd rv]) → va_S A s.heap H locs → lv_has ls 1 [] → f_X6_readNumber_j96 n rv s0 = some rv' → WG l G ct sk sv p e (RM 1 21 0 0) s m args below meth c A (Eq2 (none) (wl [lfR ct rd rv'])) H locs (F0 m 96 ls [.int s0, .ref (rd 0)]) := by
    intro rv s0 H locs ls hP hD hS hl hf
    unfold f_X6_readNumber_j96 at hf
    obtain ⟨rv_8, erv_8, hf⟩ := bl_e hf
    refine va_put (D := G) (C := RX6) (T := TX6) (N := 6) (ty := .int) hx hb hts iu_X6 tyX6 tyX6_ok nmX6 hown hK hP hD hS 0 rfl rfl 2 (by decide) (hts _ kw243) (fun _ h9 => h9) rfl (by decide +kernel) rfl rfl (Nat.le_of_ble_eq_true rfl) dX6_readNumber_96 (fun H locs hP hD hS => ?_)
    have hP : va_P G classes (wl [lfR ct rd rv_8]) H := by rw [← erv_8]; exact hP
    have hD : va_D A (wl [lfR ct rd rv_8]) := by rw [← erv_8]; exact hD
    have e1 := Option.some.inj hf
    exact end_v (w' := (wl [lfR ct rd rv_8])) hx hb hr hlocks hK hP hD hS dX6_readNumber_99  ⟨rfl, by rw [← e1]⟩
  have J77 : ∀ (rv : MV) (H : Heap) (locs : List Loc) (ls : Array Slot), va_P G classes (wl [lfR ct rd rv]) H → va_D A (wl [lfR ct rd rv]) → va_S A s.heap H locs → lv_has ls 1 [(0, .ref (rd 0))] → f_X6_readNumber_j77 n rv = some rv' → WG l G ct sk sv p e (RM 1 21 0 0) s m args below meth c A (Eq2 (none) (wl [lfR ct rd rv'])) H locs (F0 m 77 ls []) := by
    intro rv H locs ls hP hD hS hl hf
    unfold f_X6_readNumber_j77 at hf
    refine lv_aload_n hx hb dX6_readNumber_77 rfl (lv_at hl 0 rfl) ?_
    refine lv_aload_n hx hb dX6_readNumber_78 rfl (lv_at hl 0 rfl) ?_
    refine va_get (D := G) (C := RX6) (T := TX6) (N := 6) (v := .int (rv.1 3)) hx hb hts iu_X6 hown hK hP 0 rfl rfl 4 (by decide) (hts _ kw246) (fun _ h9 => h9) rfl dX6_readNumber_79 ?_
    refine lv_aload_n hx hb dX6_readNumber_82 rfl (lv_at hl 0 rfl) ?_
    refine va_get (D := G) (C := RX6) (T := TX6) (N := 6) (v := .int (rv.1 2)) hx hb hts iu_X6 hown hK hP 0 rfl rfl 3 (by decide) (hts _ kw245) (fun _ h9 => h9) rfl dX6_readNumber_83 ?_
    refine lv_isub hx hb dX6_readNumber_86 ?_
    refine lv_iconst (v := 2) hx hb dX6_readNumber_87 (by decide) ?_
    refine lv_icmp_gt (tgt := 95) hx hb dX6_readNumber_88 (by decide) (fun c_9 => ?_) (fun c_9 => ?_)
    · replace hf := bc_t hf c_9
      refine lv_iconst (v := 4) hx hb dX6_readNumber_95 (by decide) ?_
      exact J96 rv 4 _ _ _ hP hD hS (lv_sub hl [] rfl) hf
    · replace hf := bc_f hf c_9
      refine lv_iconst (v := 2) hx hb dX6_readNumber_91 (by decide) ?_
      refine lv_goto (tgt := 96) hx hb dX6_readNumber_92 (by decide) ?_
      exact J96 rv 2 _ _ _ hP hD hS (lv_sub hl [] rfl) hf
  unfold f_X6_readNumber at hf
  show WG l G ct sk sv p e (RM 1 21 0 0) s m args below meth c A (Eq2 (none) (wl [lfR ct rd rv'])) s.heap [] (F0 m 0 ls [])
  refine lv_aload_n hx hb dX6_readNumber_0 rfl (lv_at hl 0 rfl) ?_
  refine lv_iconst (v := 0) hx hb dX6_readNumber_1 (by decide) ?_
  obtain ⟨rv_10, erv_10, hf⟩ := bl_e hf
  refine va_put (D := G) (C := RX6) (T := TX6) (N := 6) (ty := .int) hx hb hts iu_X6 tyX6 tyX6_ok nmX6 hown hK hP hD hS 0 rfl rfl 5 (by decide) (hts _ kw247) (fun _ h9 => h9) rfl (by decide +kernel) rfl rfl (Nat.le_of_ble_eq_true rfl) dX6_readNumber_2 (fun H locs hP hD hS => ?_)
  have hP : va_P G classes (wl [lfR ct rd rv_10]) H := by rw [← erv_10]; exact hP
  have hD : va_D A (wl [lfR ct rd rv_10]) := by rw [← erv_10]; exact hD
  obtain ⟨rv_11, hx_12, hf⟩ := bd_e hf
  refine L5 n rv_10 rv_11 _ _ _ hP hD hS hl hx_12 ?_
  intro x9 e9 H locs ls hP hD hS hl
  subst e9
  have hP : va_P G classes (wl [lfR ct rd rv_11]) H := hP
  have hD : va_D A (wl [lfR ct rd rv_11]) := hD
  have hl : lv_has ls 1 [(0, .ref (rd 0))] := hl
  exact J77 rv_11 _ _ _ hP hD hS hl hf
noncomputable def f_X6_nextToken_b8 (n : Nat) (rv : MV) : Option ((MV) ⊕ (MV)) :=
  bc ((rv.1 0) ≤ (rv.1 2)) (some (.inr rv))
  (gd (vp_in (rv.1 2) 150) <|
  bc ((rv.2.1 0 (ix (rv.1 2))) = 32) (bl (setS rv 2 ((rv.1 2) + 1)) fun rv_4 =>
  some (.inl rv_4))
  (some (.inr rv)))
noncomputable def f_X6_nextToken_l8 (fu : Nat) (n : Nat) (rv : MV)  : Option (MV) :=
  lp (fun q => f_X6_nextToken_b8 n q) fu rv
noncomputable def f_X6_nextToken_j142 (n : Nat) (rv : MV) : Option (MV) :=
  some rv
noncomputable def f_X6_nextToken_j129 (n : Nat) (rv : MV) (s0 : Int32) : Option (MV) :=
  bl (setS rv 1 s0) fun rv_5 =>
  bl (setS rv_5 3 ((rv_5.1 2) + 1)) fun rv_6 =>
  f_X6_nextToken_j142 n rv_6
noncomputable def f_X6_nextToken_j46 (n : Nat) (rv : MV) : Option (MV) :=
  bl (setS rv 3 (rv.1 2)) fun rv_7 =>
  bc ((rv_7.1 2) < (rv_7.1 0)) (bd (f_X6_isLower n rv_7 (rv_7.1 2)) fun r_9 =>
  bc (r_9 = 0) (bd (f_X6_isFigure n rv_7 (rv_7.1 2)) fun r_11 =>
  bc (r_11 = 0) (gd (vp_in (rv_7.1 2) 150) <|
  bc ((rv_7.2.1 0 (ix (rv_7.1 2))) = 59) (f_X6_nextToken_j129 n rv_7 3)
  (f_X6_nextToken_j129 n rv_7 4))
  (bd (f_X6_readNumber n rv_7) fun rv_15 =>
  f_X6_nextToken_j142 n rv_15))
  (bd (f_X6_readWord n rv_7) fun rv_16 =>
  f_X6_nextToken_j142 n rv_16))
  (bl (setS rv_7 1 0) fun rv_17 =>
  f_X6_nextToken_j142 n rv_17)
noncomputable def f_X6_nextToken (n : Nat) (rv : MV) : Option (MV) :=
  bl (setS rv 2 (rv.1 3)) fun rv_18 =>
  bd (f_X6_nextToken_l8 n n rv_18) fun rv_19 =>
  f_X6_nextToken_j46 n rv_19
set_option maxHeartbeats 4000000 in
set_option maxRecDepth 100000 in
theorem c_X6_nextToken (l : Launch) (G : va_G) (ct : Nat → ClassId) (sk sv : Nat → Nat) (rd : Nat → Nat) (n : Nat) (rv : MV) {rv' : MV} (hf : f_X6_nextToken n rv = some rv') : Ctr (l, G, ct, sk, sv) mX6_nextToken 2 41 [.ref (rd 0)] (wl [lfR ct rd rv]) (wl [lfR ct rd rv']) (none) := by
  refine ctr_intro (by decide) (Nat.le_of_ble_eq_true rfl) ?_
  intro p e s m args below meth c A C hP hD hS hA ls hl
  obtain ⟨hx, hb, hml, hown, hts, hr, hlocks, hK, hnm, hZ⟩ := C
  have hb : c.code = cX6_nextToken := hb
  have hml : c.maxLocals = 1 := hml
  have hown : s.vm.findClass "SignedOutside$Reader" = some m.cls := hown
  have hr : meth.sig.returnType = none := hr
  have hP : va_P G classes (wl [lfR ct rd rv]) s.heap := hP
  have hD : va_D A (wl [lfR ct rd rv]) := hD
  have hK : va_K G classes (TYS ct) s := hK
  have hl : lv_has ls 1 [(0, .ref (rd 0))] := hl
  have L8 : ∀ (fu : Nat) (rv : MV) (ex : MV) (H : Heap) (locs : List Loc) (ls : Array Slot), va_P G classes (wl [lfR ct rd rv]) H → va_D A (wl [lfR ct rd rv]) → va_S A s.heap H locs → lv_has ls 1 [(0, .ref (rd 0))] → f_X6_nextToken_l8 fu n rv = some ex → (∀ (x : MV), ex = x → ∀ (H : Heap) (locs : List Loc) (ls : Array Slot), va_P G classes (wl [lfR ct rd x]) H → va_D A (wl [lfR ct rd x]) → va_S A s.heap H locs → lv_has ls 1 [(0, .ref (rd 0))] → WG l G ct sk sv p e (RM 2 41 0 0) s m args below meth c A (Eq2 (none) (wl [lfR ct rd rv'])) H locs (F0 m 46 ls [])) → WG l G ct sk sv p e (RM 2 41 0 0) s m args below meth c A (Eq2 (none) (wl [lfR ct rd rv'])) H locs (F0 m 8 ls []) := by
    intro fu
    induction fu with
    | zero =>
      intro rv ex H locs ls hP hD hS hl hf
      exact absurd hf (by unfold f_X6_nextToken_l8 lp; exact fun h => by cases h)
    | succ fu ih =>
      intro rv ex H locs ls hP hD hS hl hf hE
      unfold f_X6_nextToken_l8 at hf
      obtain ⟨q, hf, hor⟩ := lp_e hf
      replace hf : f_X6_nextToken_b8 n rv = some q := hf
      unfold f_X6_nextToken_b8 at hf
      refine lv_aload_n hx hb dX6_nextToken_8 rfl (lv_at hl 0 rfl) ?_
      refine va_get (D := G) (C := RX6) (T := TX6) (N := 6) (v := .int (rv.1 2)) hx hb hts iu_X6 hown hK hP 0 rfl rfl 3 (by decide) (hts _ kw245) (fun _ h9 => h9) rfl dX6_nextToken_9 ?_
      refine lv_aload_n hx hb dX6_nextToken_12 rfl (lv_at hl 0 rfl) ?_
      refine va_get (D := G) (C := RX6) (T := TX6) (N := 6) (v := .int (rv.1 0)) hx hb hts iu_X6 hown hK hP 0 rfl rfl 1 (by decide) (hts _ kw241) (fun _ h9 => h9) rfl dX6_nextToken_13 ?_
      refine lv_icmp_ge (tgt := 46) hx hb dX6_nextToken_16 (by decide) (fun c_1 => ?_) (fun c_1 => ?_)
      · replace hf := bc_t hf c_1
        exact hE rv (lp_inr hor hf).symm _ _ _ hP hD hS hl
      · replace hf := bc_f hf c_1
        refine lv_aload_n hx hb dX6_nextToken_19 rfl (lv_at hl 0 rfl) ?_
        refine va_get (D := G) (C := RX6) (T := TX6) (N := 6) (v := .ref (rd 1)) hx hb hts iu_X6 hown hK hP 0 rfl rfl 0 (by decide) (hts _ kw240) (fun _ h9 => h9) rfl dX6_nextToken_20 ?_
        refine lv_aload_n hx hb dX6_nextToken_23 rfl (lv_at hl 0 rfl) ?_
        refine va_get (D := G) (C := RX6) (T := TX6) (N := 6) (v := .int (rv.1 2)) hx hb hts iu_X6 hown hK hP 0 rfl rfl 3 (by decide) (hts _ kw245) (fun _ h9 => h9) rfl dX6_nextToken_24 ?_
        obtain ⟨g_2, hf⟩ := gd_e hf
        refine va_bald (f := rv.2.1 0) hx hb hK hP 1 2 rfl rfl g_2 dX6_nextToken_27 ?_
        refine lv_bipush (v := 32) hx hb dX6_nextToken_28 (by decide) ?_
        refine lv_icmp_ne (tgt := 46) hx hb dX6_nextToken_30 (by decide) (fun c_3 => ?_) (fun c_3 => ?_)
        · replace hf := bc_f hf c_3
          exact hE rv (lp_inr hor hf).symm _ _ _ hP hD hS hl
        · replace hf := bc_t hf c_3
          refine lv_aload_n hx hb dX6_nextToken_33 rfl (lv_at hl 0 rfl) ?_
          refine lv_dup hx hb dX6_nextToken_34 rfl ?_
          refine va_get (D := G) (C := RX6) (T := TX6) (N := 6) (v := .int (rv.1 2)) hx hb hts iu_X6 hown hK hP 0 rfl rfl 3 (by decide) (hts _ kw245) (fun _ h9 => h9) rfl dX6_nextToken_35 ?_
          refine lv_iconst (v := 1) hx hb dX6_nextToken_38 (by decide) ?_
          refine lv_iadd hx hb dX6_nextToken_39 ?_
          obtain ⟨rv_4, erv_4, hf⟩ := bl_e hf
          refine va_put (D := G) (C := RX6) (T := TX6) (N := 6) (ty := .int) hx hb hts iu_X6 tyX6 tyX6_ok nmX6 hown hK hP hD hS 0 rfl rfl 3 (by decide) (hts _ kw245) (fun _ h9 => h9) rfl (by decide +kernel) rfl rfl (Nat.le_of_ble_eq_true rfl) dX6_nextToken_40 (fun H locs hP hD hS => ?_)
          have hP : va_P G classes (wl [lfR ct rd rv_4]) H := by rw [← erv_4]; exact hP
          have hD : va_D A (wl [lfR ct rd rv_4]) := by rw [← erv_4]; exact hD
          refine lv_goto (tgt := 8) hx hb dX6_nextToken_43 (by decide) ?_
          exact ih rv_4 ex _ _ _ hP hD hS hl (lp_inl hor hf) hE
  have J142 : ∀ (rv : MV) (H : Heap) (locs : List Loc) (ls : Array Slot), va_P G classes (wl [lfR ct rd rv]) H → va_D A (wl [lfR ct rd rv]) → va_S A s.heap H locs → lv_has ls 1 [] → f_X6_nextToken_j142 n rv = some rv' → WG l G ct sk sv p e (RM 2 41 0 0) s m args below meth c A (Eq2 (none) (wl [lfR ct rd rv'])) H locs (F0 m 142 ls []) := by
    intro rv H locs ls hP hD hS hl hf
    unfold f_X6_nextToken_j142 at hf
    have e1 := Option.some.inj hf
    exact end_v (w' := (wl [lfR ct rd rv])) hx hb hr hlocks hK hP hD hS dX6_nextToken_142  ⟨rfl, by rw [← e1]⟩
  have J129 : ∀ (rv : MV) (s0 : Int32) (H : Heap) (locs : List Loc) (ls : Array Slot), va_P G classes (wl [lfR ct rd rv]) H → va_D A (wl [lfR ct rd rv]) → va_S A s.heap H locs → lv_has ls 1 [(0, .ref (rd 0))] → f_X6_nextToken_j129 n rv s0 = some rv' → WG l G ct sk sv p e (RM 2 41 0 0) s m args below meth c A (Eq2 (none) (wl [lfR ct rd rv'])) H locs (F0 m 129 ls [.int s0, .ref (rd 0)]) := by
    intro rv s0 H locs ls hP hD hS hl hf
    unfold f_X6_nextToken_j129 at hf
    obtain ⟨rv_5, erv_5, hf⟩ := bl_e hf
    refine va_put (D := G) (C := RX6) (T := TX6) (N := 6) (ty := .int) hx hb hts iu_X6 tyX6 tyX6_ok nmX6 hown hK hP hD hS 0 rfl rfl 2 (by decide) (hts _ kw243) (fun _ h9 => h9) rfl (by decide +kernel) rfl rfl (Nat.le_of_ble_eq_true rfl) dX6_nextToken_129 (fun H locs hP hD hS => ?_)
    have hP : va_P G classes (wl [lfR ct rd rv_5]) H := by rw [← erv_5]; exact hP
    have hD : va_D A (wl [lfR ct rd rv_5]) := by rw [← erv_5]; exact hD
    refine lv_aload_n hx hb dX6_nextToken_132 rfl (lv_at hl 0 rfl) ?_
    refine lv_aload_n hx hb dX6_nextToken_133 rfl (lv_at hl 0 rfl) ?_
    refine va_get (D := G) (C := RX6) (T := TX6) (N := 6) (v := .int (rv_5.1 2)) hx hb hts iu_X6 hown hK hP 0 rfl rfl 3 (by decide) (hts _ kw245) (fun _ h9 => h9) rfl dX6_nextToken_134 ?_
    refine lv_iconst (v := 1) hx hb dX6_nextToken_137 (by decide) ?_
    refine lv_iadd hx hb dX6_nextToken_138 ?_
    obtain ⟨rv_6, erv_6, hf⟩ := bl_e hf
    refine va_put (D := G) (C := RX6) (T := TX6) (N := 6) (ty := .int) hx hb hts iu_X6 tyX6 tyX6_ok nmX6 hown hK hP hD hS 0 rfl rfl 4 (by decide) (hts _ kw246) (fun _ h9 => h9) rfl (by decide +kernel) rfl rfl (Nat.le_of_ble_eq_true rfl) dX6_nextToken_139 (fun H locs hP hD hS => ?_)
    have hP : va_P G classes (wl [lfR ct rd rv_6]) H := by rw [← erv_6]; exact hP
    have hD : va_D A (wl [lfR ct rd rv_6]) := by rw [← erv_6]; exact hD
    exact J142 rv_6 _ _ _ hP hD hS (lv_sub hl [] rfl) hf
  have J46 : ∀ (rv : MV) (H : Heap) (locs : List Loc) (ls : Array Slot), va_P G classes (wl [lfR ct rd rv]) H → va_D A (wl [lfR ct rd rv]) → va_S A s.heap H locs → lv_has ls 1 [(0, .ref (rd 0))] → f_X6_nextToken_j46 n rv = some rv' → WG l G ct sk sv p e (RM 2 41 0 0) s m args below meth c A (Eq2 (none) (wl [lfR ct rd rv'])) H locs (F0 m 46 ls []) := by
    intro rv H locs ls hP hD hS hl hf
    unfold f_X6_nextToken_j46 at hf
    refine lv_aload_n hx hb dX6_nextToken_46 rfl (lv_at hl 0 rfl) ?_
    refine lv_aload_n hx hb dX6_nextToken_47 rfl (lv_at hl 0 rfl) ?_
    refine va_get (D := G) (C := RX6) (T := TX6) (N := 6) (v := .int (rv.1 2)) hx hb hts iu_X6 hown hK hP 0 rfl rfl 3 (by decide) (hts _ kw245) (fun _ h9 => h9) rfl dX6_nextToken_48 ?_
    obtain ⟨rv_7, erv_7, hf⟩ := bl_e hf
    refine va_put (D := G) (C := RX6) (T := TX6) (N := 6) (ty := .int) hx hb hts iu_X6 tyX6 tyX6_ok nmX6 hown hK hP hD hS 0 rfl rfl 4 (by decide) (hts _ kw246) (fun _ h9 => h9) rfl (by decide +kernel) rfl rfl (Nat.le_of_ble_eq_true rfl) dX6_nextToken_51 (fun H locs hP hD hS => ?_)
    have hP : va_P G classes (wl [lfR ct rd rv_7]) H := by rw [← erv_7]; exact hP
    have hD : va_D A (wl [lfR ct rd rv_7]) := by rw [← erv_7]; exact hD
    refine lv_aload_n hx hb dX6_nextToken_54 rfl (lv_at hl 0 rfl) ?_
    refine va_get (D := G) (C := RX6) (T := TX6) (N := 6) (v := .int (rv_7.1 2)) hx hb hts iu_X6 hown hK hP 0 rfl rfl 3 (by decide) (hts _ kw245) (fun _ h9 => h9) rfl dX6_nextToken_55 ?_
    refine lv_aload_n hx hb dX6_nextToken_58 rfl (lv_at hl 0 rfl) ?_
    refine va_get (D := G) (C := RX6) (T := TX6) (N := 6) (v := .int (rv_7.1 0)) hx hb hts iu_X6 hown hK hP 0 rfl rfl 1 (by decide) (hts _ kw241) (fun _ h9 => h9) rfl dX6_nextToken_59 ?_
    refine lv_icmp_lt (tgt := 73) hx hb dX6_nextToken_62 (by decide) (fun c_8 => ?_) (fun c_8 => ?_)
    · replace hf := bc_t hf c_8
      refine lv_aload_n hx hb dX6_nextToken_73 rfl (lv_at hl 0 rfl) ?_
      refine lv_aload_n hx hb dX6_nextToken_74 rfl (lv_at hl 0 rfl) ?_
      refine va_get (D := G) (C := RX6) (T := TX6) (N := 6) (v := .int (rv_7.1 2)) hx hb hts iu_X6 hown hK hP 0 rfl rfl 3 (by decide) (hts _ kw245) (fun _ h9 => h9) rfl dX6_nextToken_75 ?_
      obtain ⟨r_9, hc9, hf⟩ := bd_e hf
      refine call_V (As := [.int (rv_7.1 2)]) (rest := []) hx hb hml hown hts hK hP hD hS hA hZ lkX6_91 (c_X6_isLower l G ct sk sv rd n rv_7 (rv_7.1 2) hc9) 0 rfl rfl ⟨Nat.le_of_ble_eq_true rfl, Nat.le_of_ble_eq_true rfl⟩ rfl hl.1 rfl (Nat.le_of_ble_eq_true rfl) dX6_nextToken_78 ⟨Nat.le_of_ble_eq_true rfl, Nat.le_of_ble_eq_true rfl⟩ (fun r9 w9 H locs hB hP hD hS => ?_)
      obtain ⟨rfl, rfl⟩ := hB
      refine WG_eq (g2 := F0 m 81 ls [.int r_9]) rfl ?_
      refine lv_if_eq (tgt := 91) hx hb dX6_nextToken_81 (by decide) (fun c_10 => ?_) (fun c_10 => ?_)
      · replace hf := bc_t hf c_10
        refine lv_aload_n hx hb dX6_nextToken_91 rfl (lv_at hl 0 rfl) ?_
        refine lv_aload_n hx hb dX6_nextToken_92 rfl (lv_at hl 0 rfl) ?_
        refine va_get (D := G) (C := RX6) (T := TX6) (N := 6) (v := .int (rv_7.1 2)) hx hb hts iu_X6 hown hK hP 0 rfl rfl 3 (by decide) (hts _ kw245) (fun _ h9 => h9) rfl dX6_nextToken_93 ?_
        obtain ⟨r_11, hc11, hf⟩ := bd_e hf
        refine call_V (As := [.int (rv_7.1 2)]) (rest := []) hx hb hml hown hts hK hP hD hS hA hZ lkX6_98 (c_X6_isFigure l G ct sk sv rd n rv_7 (rv_7.1 2) hc11) 0 rfl rfl ⟨Nat.le_of_ble_eq_true rfl, Nat.le_of_ble_eq_true rfl⟩ rfl hl.1 rfl (Nat.le_of_ble_eq_true rfl) dX6_nextToken_96 ⟨Nat.le_of_ble_eq_true rfl, Nat.le_of_ble_eq_true rfl⟩ (fun r9 w9 H locs hB hP hD hS => ?_)
        obtain ⟨rfl, rfl⟩ := hB
        refine WG_eq (g2 := F0 m 99 ls [.int r_11]) rfl ?_
        refine lv_if_eq (tgt := 109) hx hb dX6_nextToken_99 (by decide) (fun c_12 => ?_) (fun c_12 => ?_)
        · replace hf := bc_t hf c_12
          refine lv_aload_n hx hb dX6_nextToken_109 rfl (lv_at hl 0 rfl) ?_
          refine lv_aload_n hx hb dX6_nextToken_110 rfl (lv_at hl 0 rfl) ?_
          refine va_get (D := G) (C := RX6) (T := TX6) (N := 6) (v := .ref (rd 1)) hx hb hts iu_X6 hown hK hP 0 rfl rfl 0 (by decide) (hts _ kw240) (fun _ h9 => h9) rfl dX6_nextToken_111 ?_
          refine lv_aload_n hx hb dX6_nextToken_114 rfl (lv_at hl 0 rfl) ?_
          refine va_get (D := G) (C := RX6) (T := TX6) (N := 6) (v := .int (rv_7.1 2)) hx hb hts iu_X6 hown hK hP 0 rfl rfl 3 (by decide) (hts _ kw245) (fun _ h9 => h9) rfl dX6_nextToken_115 ?_
          obtain ⟨g_13, hf⟩ := gd_e hf
          refine va_bald (f := rv_7.2.1 0) hx hb hK hP 1 2 rfl rfl g_13 dX6_nextToken_118 ?_
          refine lv_bipush (v := 59) hx hb dX6_nextToken_119 (by decide) ?_
          refine lv_icmp_ne (tgt := 128) hx hb dX6_nextToken_121 (by decide) (fun c_14 => ?_) (fun c_14 => ?_)
          · replace hf := bc_f hf c_14
            refine lv_iconst (v := 4) hx hb dX6_nextToken_128 (by decide) ?_
            exact J129 rv_7 4 _ _ _ hP hD hS hl hf
          · replace hf := bc_t hf c_14
            refine lv_iconst (v := 3) hx hb dX6_nextToken_124 (by decide) ?_
            refine lv_goto (tgt := 129) hx hb dX6_nextToken_125 (by decide) ?_
            exact J129 rv_7 3 _ _ _ hP hD hS hl hf
        · replace hf := bc_f hf c_12
          refine lv_aload_n hx hb dX6_nextToken_102 rfl (lv_at hl 0 rfl) ?_
          obtain ⟨rv_15, hc15, hf⟩ := bd_e hf
          refine call_V (As := []) (rest := []) hx hb hml hown hts hK hP hD hS hA hZ lkX6_101 (c_X6_readNumber l G ct sk sv rd n rv_7 hc15) 0 rfl rfl ⟨Nat.le_of_ble_eq_true rfl, Nat.le_of_ble_eq_true rfl⟩ rfl hl.1 rfl (Nat.le_of_ble_eq_true rfl) dX6_nextToken_103 ⟨Nat.le_of_ble_eq_true rfl, Nat.le_of_ble_eq_true rfl⟩ (fun r9 w9 H locs hB hP hD hS => ?_)
          obtain ⟨rfl, rfl⟩ := hB
          refine WG_eq (g2 := F0 m 106 ls []) rfl ?_
          refine lv_goto (tgt := 142) hx hb dX6_nextToken_106 (by decide) ?_
          exact J142 rv_15 _ _ _ hP hD hS (lv_sub hl [] rfl) hf
      · replace hf := bc_f hf c_10
        refine lv_aload_n hx hb dX6_nextToken_84 rfl (lv_at hl 0 rfl) ?_
        obtain ⟨rv_16, hc16, hf⟩ := bd_e hf
        refine call_V (As := []) (rest := []) hx hb hml hown hts hK hP hD hS hA hZ lkX6_95 (c_X6_readWord l G ct sk sv rd n rv_7 hc16) 0 rfl rfl ⟨Nat.le_of_ble_eq_true rfl, Nat.le_of_ble_eq_true rfl⟩ rfl hl.1 rfl (Nat.le_of_ble_eq_true rfl) dX6_nextToken_85 ⟨Nat.le_of_ble_eq_true rfl, Nat.le_of_ble_eq_true rfl⟩ (fun r9 w9 H locs hB hP hD hS => ?_)
        obtain ⟨rfl, rfl⟩ := hB
        refine WG_eq (g2 := F0 m 88 ls []) rfl ?_
        refine lv_goto (tgt := 142) hx hb dX6_nextToken_88 (by decide) ?_
        exact J142 rv_16 _ _ _ hP hD hS (lv_sub hl [] rfl) hf
    · replace hf := bc_f hf c_8
      refine lv_aload_n hx hb dX6_nextToken_65 rfl (lv_at hl 0 rfl) ?_
      refine lv_iconst (v := 0) hx hb dX6_nextToken_66 (by decide) ?_
      obtain ⟨rv_17, erv_17, hf⟩ := bl_e hf
      refine va_put (D := G) (C := RX6) (T := TX6) (N := 6) (ty := .int) hx hb hts iu_X6 tyX6 tyX6_ok nmX6 hown hK hP hD hS 0 rfl rfl 2 (by decide) (hts _ kw243) (fun _ h9 => h9) rfl (by decide +kernel) rfl rfl (Nat.le_of_ble_eq_true rfl) dX6_nextToken_67 (fun H locs hP hD hS => ?_)
      have hP : va_P G classes (wl [lfR ct rd rv_17]) H := by rw [← erv_17]; exact hP
      have hD : va_D A (wl [lfR ct rd rv_17]) := by rw [← erv_17]; exact hD
      refine lv_goto (tgt := 142) hx hb dX6_nextToken_70 (by decide) ?_
      exact J142 rv_17 _ _ _ hP hD hS (lv_sub hl [] rfl) hf
  unfold f_X6_nextToken at hf
  show WG l G ct sk sv p e (RM 2 41 0 0) s m args below meth c A (Eq2 (none) (wl [lfR ct rd rv'])) s.heap [] (F0 m 0 ls [])
  refine lv_aload_n hx hb dX6_nextToken_0 rfl (lv_at hl 0 rfl) ?_
  refine lv_aload_n hx hb dX6_nextToken_1 rfl (lv_at hl 0 rfl) ?_
  refine va_get (D := G) (C := RX6) (T := TX6) (N := 6) (v := .int (rv.1 3)) hx hb hts iu_X6 hown hK hP 0 rfl rfl 4 (by decide) (hts _ kw246) (fun _ h9 => h9) rfl dX6_nextToken_2 ?_
  obtain ⟨rv_18, erv_18, hf⟩ := bl_e hf
  refine va_put (D := G) (C := RX6) (T := TX6) (N := 6) (ty := .int) hx hb hts iu_X6 tyX6 tyX6_ok nmX6 hown hK hP hD hS 0 rfl rfl 3 (by decide) (hts _ kw245) (fun _ h9 => h9) rfl (by decide +kernel) rfl rfl (Nat.le_of_ble_eq_true rfl) dX6_nextToken_5 (fun H locs hP hD hS => ?_)
  have hP : va_P G classes (wl [lfR ct rd rv_18]) H := by rw [← erv_18]; exact hP
  have hD : va_D A (wl [lfR ct rd rv_18]) := by rw [← erv_18]; exact hD
  obtain ⟨rv_19, hx_20, hf⟩ := bd_e hf
  refine L8 n rv_18 rv_19 _ _ _ hP hD hS hl hx_20 ?_
  intro x9 e9 H locs ls hP hD hS hl
  subst e9
  have hP : va_P G classes (wl [lfR ct rd rv_19]) H := hP
  have hD : va_D A (wl [lfR ct rd rv_19]) := hD
  have hl : lv_has ls 1 [(0, .ref (rd 0))] := hl
  exact J46 rv_19 _ _ _ hP hD hS hl hf
noncomputable def f_X6_stops_j17 (n : Nat) (rv : MV) (s0 : Int32) : Option (Int32 × MV) :=
  gd (s0 = 0 ∨ s0 = 1) <| some (s0, rv)
noncomputable def f_X6_stops (n : Nat) (rv : MV) : Option (Int32 × MV) :=
  bd (f_X6_nextToken n rv) fun rv_2 =>
  bc ((rv_2.1 1) = 3) (f_X6_stops_j17 n rv_2 1)
  (f_X6_stops_j17 n rv_2 0)
set_option maxHeartbeats 4000000 in
set_option maxRecDepth 100000 in
theorem c_X6_stops (l : Launch) (G : va_G) (ct : Nat → ClassId) (sk sv : Nat → Nat) (rd : Nat → Nat) (n : Nat) (rv : MV) {r : Int32} {rv' : MV} (hf : f_X6_stops n rv = some (r, rv')) : Ctr (l, G, ct, sk, sv) mX6_stops 3 61 [.ref (rd 0)] (wl [lfR ct rd rv]) (wl [lfR ct rd rv']) (some (.int r)) := by
  refine ctr_intro (by decide) (Nat.le_of_ble_eq_true rfl) ?_
  intro p e s m args below meth c A C hP hD hS hA ls hl
  obtain ⟨hx, hb, hml, hown, hts, hr, hlocks, hK, hnm, hZ⟩ := C
  have hb : c.code = cX6_stops := hb
  have hml : c.maxLocals = 1 := hml
  have hown : s.vm.findClass "SignedOutside$Reader" = some m.cls := hown
  have hr : meth.sig.returnType = some .boolean := hr
  have hP : va_P G classes (wl [lfR ct rd rv]) s.heap := hP
  have hD : va_D A (wl [lfR ct rd rv]) := hD
  have hK : va_K G classes (TYS ct) s := hK
  have hl : lv_has ls 1 [(0, .ref (rd 0))] := hl
  have J17 : ∀ (rv : MV) (s0 : Int32) (H : Heap) (locs : List Loc) (ls : Array Slot), va_P G classes (wl [lfR ct rd rv]) H → va_D A (wl [lfR ct rd rv]) → va_S A s.heap H locs → lv_has ls 1 [] → f_X6_stops_j17 n rv s0 = some (r, rv') → WG l G ct sk sv p e (RM 3 61 0 0) s m args below meth c A (Eq2 (some (.int r)) (wl [lfR ct rd rv'])) H locs (F0 m 17 ls [.int s0]) := by
    intro rv s0 H locs ls hP hD hS hl hf
    unfold f_X6_stops_j17 at hf
    obtain ⟨g_1, hf⟩ := gd_e hf
    obtain ⟨e1, e2⟩ := inj2 (Option.some.inj hf)
    exact end_z (w' := (wl [lfR ct rd rv])) hx hb hr hlocks hK hP hD hS dX6_stops_17 g_1 ⟨by rw [← e1], by rw [← e2]⟩
  unfold f_X6_stops at hf
  show WG l G ct sk sv p e (RM 3 61 0 0) s m args below meth c A (Eq2 (some (.int r)) (wl [lfR ct rd rv'])) s.heap [] (F0 m 0 ls [])
  refine lv_aload_n hx hb dX6_stops_0 rfl (lv_at hl 0 rfl) ?_
  obtain ⟨rv_2, hc2, hf⟩ := bd_e hf
  refine call_V (As := []) (rest := []) hx hb hml hown hts hK hP hD hS hA hZ lkX6_22 (c_X6_nextToken l G ct sk sv rd n rv hc2) 0 rfl rfl ⟨Nat.le_of_ble_eq_true rfl, Nat.le_of_ble_eq_true rfl⟩ rfl hl.1 rfl (Nat.le_of_ble_eq_true rfl) dX6_stops_1 ⟨Nat.le_of_ble_eq_true rfl, Nat.le_of_ble_eq_true rfl⟩ (fun r9 w9 H locs hB hP hD hS => ?_)
  obtain ⟨rfl, rfl⟩ := hB
  refine WG_eq (g2 := F0 m 4 ls []) rfl ?_
  refine lv_aload_n hx hb dX6_stops_4 rfl (lv_at hl 0 rfl) ?_
  refine va_get (D := G) (C := RX6) (T := TX6) (N := 6) (v := .int (rv_2.1 1)) hx hb hts iu_X6 hown hK hP 0 rfl rfl 2 (by decide) (hts _ kw243) (fun _ h9 => h9) rfl dX6_stops_5 ?_
  refine lv_iconst (v := 3) hx hb dX6_stops_8 (by decide) ?_
  refine lv_icmp_ne (tgt := 16) hx hb dX6_stops_9 (by decide) (fun c_3 => ?_) (fun c_3 => ?_)
  · replace hf := bc_f hf c_3
    refine lv_iconst (v := 0) hx hb dX6_stops_16 (by decide) ?_
    exact J17 rv_2 0 _ _ _ hP hD hS (lv_sub hl [] rfl) hf
  · replace hf := bc_t hf c_3
    refine lv_iconst (v := 1) hx hb dX6_stops_12 (by decide) ?_
    refine lv_goto (tgt := 17) hx hb dX6_stops_13 (by decide) ?_
    exact J17 rv_2 1 _ _ _ hP hD hS (lv_sub hl [] rfl) hf
noncomputable def f_X6_takesNumber_j29 (n : Nat) (rv : MV) (s0 : Int32) : Option (Int32 × MV) :=
  gd (s0 = 0 ∨ s0 = 1) <| some (s0, rv)
noncomputable def f_X6_takesNumber_j28 (n : Nat) (rv : MV) : Option (Int32 × MV) :=
  f_X6_takesNumber_j29 n rv 0
noncomputable def f_X6_takesNumber (n : Nat) (rv : MV) (v1 : Int32) (v2 : Int32) : Option (Int32 × MV) :=
  bd (f_X6_nextToken n rv) fun rv_2 =>
  bc ((rv_2.1 1) = 2) (bd (f_X11_within n (rv_2.1 4) v1 v2) fun r_4 =>
  bc (r_4 = 0) (f_X6_takesNumber_j28 n rv_2)
  (f_X6_takesNumber_j29 n rv_2 1))
  (f_X6_takesNumber_j28 n rv_2)
set_option maxHeartbeats 4000000 in
set_option maxRecDepth 100000 in
theorem c_X6_takesNumber (l : Launch) (G : va_G) (ct : Nat → ClassId) (sk sv : Nat → Nat) (rd : Nat → Nat) (n : Nat) (rv : MV) (v1 : Int32) (v2 : Int32) {r : Int32} {rv' : MV} (hf : f_X6_takesNumber n rv v1 v2 = some (r, rv')) : Ctr (l, G, ct, sk, sv) mX6_takesNumber 3 61 [.ref (rd 0), .int v1, .int v2] (wl [lfR ct rd rv]) (wl [lfR ct rd rv']) (some (.int r)) := by
  refine ctr_intro (by decide) (Nat.le_of_ble_eq_true rfl) ?_
  intro p e s m args below meth c A C hP hD hS hA ls hl
  obtain ⟨hx, hb, hml, hown, hts, hr, hlocks, hK, hnm, hZ⟩ := C
  have hb : c.code = cX6_takesNumber := hb
  have hml : c.maxLocals = 3 := hml
  have hown : s.vm.findClass "SignedOutside$Reader" = some m.cls := hown
  have hr : meth.sig.returnType = some .boolean := hr
  have hP : va_P G classes (wl [lfR ct rd rv]) s.heap := hP
  have hD : va_D A (wl [lfR ct rd rv]) := hD
  have hK : va_K G classes (TYS ct) s := hK
  have hl : lv_has ls 3 [(0, .ref (rd 0)), (1, .int v1), (2, .int v2)] := hl
  have J29 : ∀ (rv : MV) (s0 : Int32) (H : Heap) (locs : List Loc) (ls : Array Slot), va_P G classes (wl [lfR ct rd rv]) H → va_D A (wl [lfR ct rd rv]) → va_S A s.heap H locs → lv_has ls 3 [] → f_X6_takesNumber_j29 n rv s0 = some (r, rv') → WG l G ct sk sv p e (RM 3 61 0 0) s m args below meth c A (Eq2 (some (.int r)) (wl [lfR ct rd rv'])) H locs (F0 m 29 ls [.int s0]) := by
    intro rv s0 H locs ls hP hD hS hl hf
    unfold f_X6_takesNumber_j29 at hf
    obtain ⟨g_1, hf⟩ := gd_e hf
    obtain ⟨e1, e2⟩ := inj2 (Option.some.inj hf)
    exact end_z (w' := (wl [lfR ct rd rv])) hx hb hr hlocks hK hP hD hS dX6_takesNumber_29 g_1 ⟨by rw [← e1], by rw [← e2]⟩
  have J28 : ∀ (rv : MV) (H : Heap) (locs : List Loc) (ls : Array Slot), va_P G classes (wl [lfR ct rd rv]) H → va_D A (wl [lfR ct rd rv]) → va_S A s.heap H locs → lv_has ls 3 [] → f_X6_takesNumber_j28 n rv = some (r, rv') → WG l G ct sk sv p e (RM 3 61 0 0) s m args below meth c A (Eq2 (some (.int r)) (wl [lfR ct rd rv'])) H locs (F0 m 28 ls []) := by
    intro rv H locs ls hP hD hS hl hf
    unfold f_X6_takesNumber_j28 at hf
    refine lv_iconst (v := 0) hx hb dX6_takesNumber_28 (by decide) ?_
    exact J29 rv 0 _ _ _ hP hD hS hl hf
  unfold f_X6_takesNumber at hf
  show WG l G ct sk sv p e (RM 3 61 0 0) s m args below meth c A (Eq2 (some (.int r)) (wl [lfR ct rd rv'])) s.heap [] (F0 m 0 ls [])
  refine lv_aload_n hx hb dX6_takesNumber_0 rfl (lv_at hl 0 rfl) ?_
  obtain ⟨rv_2, hc2, hf⟩ := bd_e hf
  refine call_V (As := []) (rest := []) hx hb hml hown hts hK hP hD hS hA hZ lkX6_22 (c_X6_nextToken l G ct sk sv rd n rv hc2) 0 rfl rfl ⟨Nat.le_of_ble_eq_true rfl, Nat.le_of_ble_eq_true rfl⟩ rfl hl.1 rfl (Nat.le_of_ble_eq_true rfl) dX6_takesNumber_1 ⟨Nat.le_of_ble_eq_true rfl, Nat.le_of_ble_eq_true rfl⟩ (fun r9 w9 H locs hB hP hD hS => ?_)
  obtain ⟨rfl, rfl⟩ := hB
  refine WG_eq (g2 := F0 m 4 ls []) rfl ?_
  refine lv_aload_n hx hb dX6_takesNumber_4 rfl (lv_at hl 0 rfl) ?_
  refine va_get (D := G) (C := RX6) (T := TX6) (N := 6) (v := .int (rv_2.1 1)) hx hb hts iu_X6 hown hK hP 0 rfl rfl 2 (by decide) (hts _ kw243) (fun _ h9 => h9) rfl dX6_takesNumber_5 ?_
  refine lv_iconst (v := 2) hx hb dX6_takesNumber_8 (by decide) ?_
  refine lv_icmp_ne (tgt := 28) hx hb dX6_takesNumber_9 (by decide) (fun c_3 => ?_) (fun c_3 => ?_)
  · replace hf := bc_f hf c_3
    exact J28 rv_2 _ _ _ hP hD hS (lv_sub hl [] rfl) hf
  · replace hf := bc_t hf c_3
    refine lv_aload_n hx hb dX6_takesNumber_12 rfl (lv_at hl 0 rfl) ?_
    refine va_get (D := G) (C := RX6) (T := TX6) (N := 6) (v := .int (rv_2.1 4)) hx hb hts iu_X6 hown hK hP 0 rfl rfl 5 (by decide) (hts _ kw247) (fun _ h9 => h9) rfl dX6_takesNumber_13 ?_
    refine lv_iload_n hx hb dX6_takesNumber_16 rfl (lv_at hl 1 rfl) ?_
    refine lv_iload_n hx hb dX6_takesNumber_17 rfl (lv_at hl 2 rfl) ?_
    obtain ⟨r_4, hc4, hf⟩ := bd_e hf
    refine call_SN (As := [.int (rv_2.1 4), .int v1, .int v2]) (rest := []) hx hb hml hown hts hK hP hD hS hA hZ lkX6_84 (Ctr.upL (c_X11_within l G ct sk sv  n (rv_2.1 4) v1 v2 hc4) [lfR ct rd rv_2] [lfR ct rd rv_2] [lfR ct rd rv_2] [0] 1 (by decide) rfl rfl rfl rfl) ⟨Nat.le_of_ble_eq_true rfl, Nat.le_of_ble_eq_true rfl⟩ rfl hl.1 rfl (Nat.le_of_ble_eq_true rfl) dX6_takesNumber_18 ⟨Nat.le_of_ble_eq_true rfl, Nat.le_of_ble_eq_true rfl⟩ (fun r9 w9 H locs hB hP hD hS => ?_)
    obtain ⟨rfl, rfl⟩ := hB
    refine WG_eq (g2 := F0 m 21 ls [.int r_4]) rfl ?_
    refine lv_if_eq (tgt := 28) hx hb dX6_takesNumber_21 (by decide) (fun c_5 => ?_) (fun c_5 => ?_)
    · replace hf := bc_t hf c_5
      exact J28 rv_2 _ _ _ hP hD hS (lv_sub hl [] rfl) hf
    · replace hf := bc_f hf c_5
      refine lv_iconst (v := 1) hx hb dX6_takesNumber_24 (by decide) ?_
      refine lv_goto (tgt := 29) hx hb dX6_takesNumber_25 (by decide) ?_
      exact J29 rv_2 1 _ _ _ hP hD hS (lv_sub hl [] rfl) hf
noncomputable def f_X6_readMember_j17 (n : Nat) (rv : MV) (h : MV) : Option (Int32 × MV × MV) :=
  some (0, rv, h)
noncomputable def f_X6_readMember (n : Nat) (rv : MV) (h : MV) : Option (Int32 × MV × MV) :=
  bc (5 ≤ (h.1 0)) (f_X6_readMember_j17 n rv h)
  (bd2 (f_X6_takesNumber n rv 0 5) fun r_2 rv_3 =>
  bc (r_2 = 0) (f_X6_readMember_j17 n rv_3 h)
  (bl (rv_3.1 4) fun v2_5 =>
  bd2 (f_X6_takesNumber n rv_3 0 99) fun r_6 rv_7 =>
  bc (r_6 = 0) (some (0, rv_7, h))
  (bd2 (f_X1_addMember n h v2_5 (rv_7.1 4)) fun r_9 h_10 =>
  some (1, rv_7, h_10))))
set_option maxHeartbeats 4000000 in
set_option maxRecDepth 100000 in
theorem c_X6_readMember (l : Launch) (G : va_G) (ct : Nat → ClassId) (sk sv : Nat → Nat) (rd : Nat → Nat) (a : Nat → Nat) (k : Nat → Nat) (n : Nat) (rv : MV) (h : MV) {r : Int32} {rv' : MV} {h' : MV} (hf : f_X6_readMember n rv h = some (r, rv', h')) : Ctr (l, G, ct, sk, sv) mX6_readMember 4 83 [.ref (rd 0), .ref (a 0)] (wl [lfR ct rd rv, lfH ct a k h]) (wl [lfR ct rd rv', lfH ct a k h']) (some (.int r)) := by
  refine ctr_intro (by decide) (Nat.le_of_ble_eq_true rfl) ?_
  intro p e s m args below meth c A C hP hD hS hA ls hl
  obtain ⟨hx, hb, hml, hown, hts, hr, hlocks, hK, hnm, hZ⟩ := C
  have hb : c.code = cX6_readMember := hb
  have hml : c.maxLocals = 3 := hml
  have hown : s.vm.findClass "SignedOutside$Reader" = some m.cls := hown
  have hr : meth.sig.returnType = some .boolean := hr
  have hP : va_P G classes (wl [lfR ct rd rv, lfH ct a k h]) s.heap := hP
  have hD : va_D A (wl [lfR ct rd rv, lfH ct a k h]) := hD
  have hK : va_K G classes (TYS ct) s := hK
  have hl : lv_has ls 3 [(0, .ref (rd 0)), (1, .ref (a 0))] := hl
  have J17 : ∀ (rv : MV) (h : MV) (H : Heap) (locs : List Loc) (ls : Array Slot), va_P G classes (wl [lfR ct rd rv, lfH ct a k h]) H → va_D A (wl [lfR ct rd rv, lfH ct a k h]) → va_S A s.heap H locs → lv_has ls 3 [] → f_X6_readMember_j17 n rv h = some (r, rv', h') → WG l G ct sk sv p e (RM 4 83 0 0) s m args below meth c A (Eq2 (some (.int r)) (wl [lfR ct rd rv', lfH ct a k h'])) H locs (F0 m 17 ls []) := by
    intro rv h H locs ls hP hD hS hl hf
    unfold f_X6_readMember_j17 at hf
    refine lv_iconst (v := 0) hx hb dX6_readMember_17 (by decide) ?_
    obtain ⟨e1, e2, e3⟩ := inj3 (Option.some.inj hf)
    exact end_z (w' := (wl [lfR ct rd rv, lfH ct a k h])) hx hb hr hlocks hK hP hD hS dX6_readMember_18 (by decide) ⟨by rw [← e1], by rw [← e2, ← e3]⟩
  unfold f_X6_readMember at hf
  show WG l G ct sk sv p e (RM 4 83 0 0) s m args below meth c A (Eq2 (some (.int r)) (wl [lfR ct rd rv', lfH ct a k h'])) s.heap [] (F0 m 0 ls [])
  refine lv_aload_n hx hb dX6_readMember_0 rfl (lv_at hl 1 rfl) ?_
  refine va_get (D := G) (C := RX1) (T := TX1) (N := 16) (v := .int (h.1 0)) hx hb hts iu_X1 hown hK hP 2 rfl rfl 1 (by decide) (hts _ kw126) (fun _ h9 => h9) rfl dX6_readMember_1 ?_
  refine lv_iconst (v := 5) hx hb dX6_readMember_4 (by decide) ?_
  refine lv_icmp_ge (tgt := 17) hx hb dX6_readMember_5 (by decide) (fun c_1 => ?_) (fun c_1 => ?_)
  · replace hf := bc_t hf c_1
    exact J17 rv h _ _ _ hP hD hS (lv_sub hl [] rfl) hf
  · replace hf := bc_f hf c_1
    refine lv_aload_n hx hb dX6_readMember_8 rfl (lv_at hl 0 rfl) ?_
    refine lv_iconst (v := 0) hx hb dX6_readMember_9 (by decide) ?_
    refine lv_iconst (v := 5) hx hb dX6_readMember_10 (by decide) ?_
    obtain ⟨r_2, rv_3, hc3, hf⟩ := bd2_e hf
    refine call_V (As := [.int 0, .int 5]) (rest := []) hx hb hml hown hts hK hP hD hS hA hZ lkX6_59 (Ctr.upL (c_X6_takesNumber l G ct sk sv rd n rv 0 5 hc3) [lfH ct a k h] [lfR ct rd rv, lfH ct a k h] [lfR ct rd rv_3, lfH ct a k h] [0, 1] 2 (by decide) rfl rfl rfl rfl) 0 rfl rfl ⟨Nat.le_of_ble_eq_true rfl, Nat.le_of_ble_eq_true rfl⟩ rfl hl.1 rfl (Nat.le_of_ble_eq_true rfl) dX6_readMember_11 ⟨Nat.le_of_ble_eq_true rfl, Nat.le_of_ble_eq_true rfl⟩ (fun r9 w9 H locs hB hP hD hS => ?_)
    obtain ⟨rfl, rfl⟩ := hB
    refine WG_eq (g2 := F0 m 14 ls [.int r_2]) rfl ?_
    refine lv_if_ne (tgt := 19) hx hb dX6_readMember_14 (by decide) (fun c_4 => ?_) (fun c_4 => ?_)
    · replace hf := bc_f hf c_4
      refine lv_aload_n hx hb dX6_readMember_19 rfl (lv_at hl 0 rfl) ?_
      refine va_get (D := G) (C := RX6) (T := TX6) (N := 6) (v := .int (rv_3.1 4)) hx hb hts iu_X6 hown hK hP 0 rfl rfl 5 (by decide) (hts _ kw247) (fun _ h9 => h9) rfl dX6_readMember_20 ?_
      refine lv_topi (fun v2_5 ev2_5 => ?_)
      replace hf := bl_i hf ev2_5
      refine lv_istore_n (lv' := [(2, .int v2_5), (0, .ref (rd 0)), (1, .ref (a 0))]) hx hb dX6_readMember_23 rfl hl (by decide) rfl (fun ls hl => ?_)
      refine lv_aload_n hx hb dX6_readMember_24 rfl (lv_at hl 1 rfl) ?_
      refine lv_iconst (v := 0) hx hb dX6_readMember_25 (by decide) ?_
      refine lv_bipush (v := 99) hx hb dX6_readMember_26 (by decide) ?_
      obtain ⟨r_6, rv_7, hc7, hf⟩ := bd2_e hf
      refine call_V (As := [.int 0, .int 99]) (rest := []) hx hb hml hown hts hK hP hD hS hA hZ lkX6_59 (Ctr.upL (c_X6_takesNumber l G ct sk sv rd n rv_3 0 99 hc7) [lfH ct a k h] [lfR ct rd rv_3, lfH ct a k h] [lfR ct rd rv_7, lfH ct a k h] [0, 1] 2 (by decide) rfl rfl rfl rfl) 0 rfl rfl ⟨Nat.le_of_ble_eq_true rfl, Nat.le_of_ble_eq_true rfl⟩ rfl hl.1 rfl (Nat.le_of_ble_eq_true rfl) dX6_readMember_28 ⟨Nat.le_of_ble_eq_true rfl, Nat.le_of_ble_eq_true rfl⟩ (fun r9 w9 H locs hB hP hD hS => ?_)
      obtain ⟨rfl, rfl⟩ := hB
      refine WG_eq (g2 := F0 m 31 ls [.int r_6]) rfl ?_
      refine lv_if_ne (tgt := 36) hx hb dX6_readMember_31 (by decide) (fun c_8 => ?_) (fun c_8 => ?_)
      · replace hf := bc_f hf c_8
        refine lv_aload_n hx hb dX6_readMember_36 rfl (lv_at hl 2 rfl) ?_
        refine lv_iload_n hx hb dX6_readMember_37 rfl (lv_at hl 0 rfl) ?_
        refine lv_aload_n hx hb dX6_readMember_38 rfl (lv_at hl 1 rfl) ?_
        refine va_get (D := G) (C := RX6) (T := TX6) (N := 6) (v := .int (rv_7.1 4)) hx hb hts iu_X6 hown hK hP 0 rfl rfl 5 (by decide) (hts _ kw247) (fun _ h9 => h9) rfl dX6_readMember_39 ?_
        obtain ⟨r_9, h_10, hc10, hf⟩ := bd2_e hf
        refine call_V (As := [.int v2_5, .int (rv_7.1 4)]) (rest := []) hx hb hml hown hts hK hP hD hS hA hZ lkX6_66 (Ctr.upL (c_X1_addMember l G ct sk sv a k n h v2_5 (rv_7.1 4) hc10) [lfR ct rd rv_7] [lfR ct rd rv_7, lfH ct a k h] [lfR ct rd rv_7, lfH ct a k h_10] [1, 0] 2 (by decide) rfl rfl rfl rfl) 2 rfl rfl ⟨Nat.le_of_ble_eq_true rfl, Nat.le_of_ble_eq_true rfl⟩ rfl hl.1 rfl (Nat.le_of_ble_eq_true rfl) dX6_readMember_42 ⟨Nat.le_of_ble_eq_true rfl, Nat.le_of_ble_eq_true rfl⟩ (fun r9 w9 H locs hB hP hD hS => ?_)
        obtain ⟨rfl, rfl⟩ := hB
        refine WG_eq (g2 := F0 m 45 ls [.int r_9]) rfl ?_
        refine lv_pop hx hb dX6_readMember_45 rfl ?_
        refine lv_iconst (v := 1) hx hb dX6_readMember_46 (by decide) ?_
        obtain ⟨e1, e2, e3⟩ := inj3 (Option.some.inj hf)
        exact end_z (w' := (wl [lfR ct rd rv_7, lfH ct a k h_10])) hx hb hr hlocks hK hP hD hS dX6_readMember_47 (by decide) ⟨by rw [← e1], by rw [← e2, ← e3]⟩
      · replace hf := bc_t hf c_8
        refine lv_iconst (v := 0) hx hb dX6_readMember_34 (by decide) ?_
        obtain ⟨e1, e2, e3⟩ := inj3 (Option.some.inj hf)
        exact end_z (w' := (wl [lfR ct rd rv_7, lfH ct a k h])) hx hb hr hlocks hK hP hD hS dX6_readMember_35 (by decide) ⟨by rw [← e1], by rw [← e2, ← e3]⟩
    · replace hf := bc_t hf c_4
      exact J17 rv_3 h _ _ _ hP hD hS (lv_sub hl [] rfl) hf
noncomputable def f_X6_readLetter_j19 (n : Nat) (rv : MV) (h : MV) : Option (Int32 × MV × MV) :=
  some (0, rv, h)
noncomputable def f_X6_readLetter (n : Nat) (rv : MV) (h : MV) : Option (Int32 × MV × MV) :=
  bc (6 ≤ (h.1 1)) (f_X6_readLetter_j19 n rv h)
  (bd2 (f_X6_takesNumber n rv 0 99) fun r_2 rv_3 =>
  bc (r_2 = 0) (f_X6_readLetter_j19 n rv_3 h)
  (bl (rv_3.1 4) fun v2_5 =>
  bd2 (f_X6_takesNumber n rv_3 0 99) fun r_6 rv_7 =>
  bc (r_6 = 0) (some (0, rv_7, h))
  (bl (rv_7.1 4) fun v3_9 =>
  bd2 (f_X6_takesNumber n rv_7 1 9) fun r_10 rv_11 =>
  bc (r_10 = 0) (some (0, rv_11, h))
  (bd2 (f_X1_addLetter n h v2_5 v3_9 (rv_11.1 4)) fun r_13 h_14 =>
  some (1, rv_11, h_14)))))
set_option maxHeartbeats 4000000 in
set_option maxRecDepth 100000 in
theorem c_X6_readLetter (l : Launch) (G : va_G) (ct : Nat → ClassId) (sk sv : Nat → Nat) (rd : Nat → Nat) (a : Nat → Nat) (k : Nat → Nat) (n : Nat) (rv : MV) (h : MV) {r : Int32} {rv' : MV} {h' : MV} (hf : f_X6_readLetter n rv h = some (r, rv', h')) : Ctr (l, G, ct, sk, sv) mX6_readLetter 4 83 [.ref (rd 0), .ref (a 0)] (wl [lfR ct rd rv, lfH ct a k h]) (wl [lfR ct rd rv', lfH ct a k h']) (some (.int r)) := by
  refine ctr_intro (by decide) (Nat.le_of_ble_eq_true rfl) ?_
  intro p e s m args below meth c A C hP hD hS hA ls hl
  obtain ⟨hx, hb, hml, hown, hts, hr, hlocks, hK, hnm, hZ⟩ := C
  have hb : c.code = cX6_readLetter := hb
  have hml : c.maxLocals = 4 := hml
  have hown : s.vm.findClass "SignedOutside$Reader" = some m.cls := hown
  have hr : meth.sig.returnType = some .boolean := hr
  have hP : va_P G classes (wl [lfR ct rd rv, lfH ct a k h]) s.heap := hP
  have hD : va_D A (wl [lfR ct rd rv, lfH ct a k h]) := hD
  have hK : va_K G classes (TYS ct) s := hK
  have hl : lv_has ls 4 [(0, .ref (rd 0)), (1, .ref (a 0))] := hl
  have J19 : ∀ (rv : MV) (h : MV) (H : Heap) (locs : List Loc) (ls : Array Slot), va_P G classes (wl [lfR ct rd rv, lfH ct a k h]) H → va_D A (wl [lfR ct rd rv, lfH ct a k h]) → va_S A s.heap H locs → lv_has ls 4 [] → f_X6_readLetter_j19 n rv h = some (r, rv', h') → WG l G ct sk sv p e (RM 4 83 0 0) s m args below meth c A (Eq2 (some (.int r)) (wl [lfR ct rd rv', lfH ct a k h'])) H locs (F0 m 19 ls []) := by
    intro rv h H locs ls hP hD hS hl hf
    unfold f_X6_readLetter_j19 at hf
    refine lv_iconst (v := 0) hx hb dX6_readLetter_19 (by decide) ?_
    obtain ⟨e1, e2, e3⟩ := inj3 (Option.some.inj hf)
    exact end_z (w' := (wl [lfR ct rd rv, lfH ct a k h])) hx hb hr hlocks hK hP hD hS dX6_readLetter_20 (by decide) ⟨by rw [← e1], by rw [← e2, ← e3]⟩
  unfold f_X6_readLetter at hf
  show WG l G ct sk sv p e (RM 4 83 0 0) s m args below meth c A (Eq2 (some (.int r)) (wl [lfR ct rd rv', lfH ct a k h'])) s.heap [] (F0 m 0 ls [])
  refine lv_aload_n hx hb dX6_readLetter_0 rfl (lv_at hl 1 rfl) ?_
  refine va_get (D := G) (C := RX1) (T := TX1) (N := 16) (v := .int (h.1 1)) hx hb hts iu_X1 hown hK hP 2 rfl rfl 5 (by decide) (hts _ kw138) (fun _ h9 => h9) rfl dX6_readLetter_1 ?_
  refine lv_bipush (v := 6) hx hb dX6_readLetter_4 (by decide) ?_
  refine lv_icmp_ge (tgt := 19) hx hb dX6_readLetter_6 (by decide) (fun c_1 => ?_) (fun c_1 => ?_)
  · replace hf := bc_t hf c_1
    exact J19 rv h _ _ _ hP hD hS (lv_sub hl [] rfl) hf
  · replace hf := bc_f hf c_1
    refine lv_aload_n hx hb dX6_readLetter_9 rfl (lv_at hl 0 rfl) ?_
    refine lv_iconst (v := 0) hx hb dX6_readLetter_10 (by decide) ?_
    refine lv_bipush (v := 99) hx hb dX6_readLetter_11 (by decide) ?_
    obtain ⟨r_2, rv_3, hc3, hf⟩ := bd2_e hf
    refine call_V (As := [.int 0, .int 99]) (rest := []) hx hb hml hown hts hK hP hD hS hA hZ lkX6_59 (Ctr.upL (c_X6_takesNumber l G ct sk sv rd n rv 0 99 hc3) [lfH ct a k h] [lfR ct rd rv, lfH ct a k h] [lfR ct rd rv_3, lfH ct a k h] [0, 1] 2 (by decide) rfl rfl rfl rfl) 0 rfl rfl ⟨Nat.le_of_ble_eq_true rfl, Nat.le_of_ble_eq_true rfl⟩ rfl hl.1 rfl (Nat.le_of_ble_eq_true rfl) dX6_readLetter_13 ⟨Nat.le_of_ble_eq_true rfl, Nat.le_of_ble_eq_true rfl⟩ (fun r9 w9 H locs hB hP hD hS => ?_)
    obtain ⟨rfl, rfl⟩ := hB
    refine WG_eq (g2 := F0 m 16 ls [.int r_2]) rfl ?_
    refine lv_if_ne (tgt := 21) hx hb dX6_readLetter_16 (by decide) (fun c_4 => ?_) (fun c_4 => ?_)
    · replace hf := bc_f hf c_4
      refine lv_aload_n hx hb dX6_readLetter_21 rfl (lv_at hl 0 rfl) ?_
      refine va_get (D := G) (C := RX6) (T := TX6) (N := 6) (v := .int (rv_3.1 4)) hx hb hts iu_X6 hown hK hP 0 rfl rfl 5 (by decide) (hts _ kw247) (fun _ h9 => h9) rfl dX6_readLetter_22 ?_
      refine lv_topi (fun v2_5 ev2_5 => ?_)
      replace hf := bl_i hf ev2_5
      refine lv_istore_n (lv' := [(2, .int v2_5), (0, .ref (rd 0)), (1, .ref (a 0))]) hx hb dX6_readLetter_25 rfl hl (by decide) rfl (fun ls hl => ?_)
      refine lv_aload_n hx hb dX6_readLetter_26 rfl (lv_at hl 1 rfl) ?_
      refine lv_iconst (v := 0) hx hb dX6_readLetter_27 (by decide) ?_
      refine lv_bipush (v := 99) hx hb dX6_readLetter_28 (by decide) ?_
      obtain ⟨r_6, rv_7, hc7, hf⟩ := bd2_e hf
      refine call_V (As := [.int 0, .int 99]) (rest := []) hx hb hml hown hts hK hP hD hS hA hZ lkX6_59 (Ctr.upL (c_X6_takesNumber l G ct sk sv rd n rv_3 0 99 hc7) [lfH ct a k h] [lfR ct rd rv_3, lfH ct a k h] [lfR ct rd rv_7, lfH ct a k h] [0, 1] 2 (by decide) rfl rfl rfl rfl) 0 rfl rfl ⟨Nat.le_of_ble_eq_true rfl, Nat.le_of_ble_eq_true rfl⟩ rfl hl.1 rfl (Nat.le_of_ble_eq_true rfl) dX6_readLetter_30 ⟨Nat.le_of_ble_eq_true rfl, Nat.le_of_ble_eq_true rfl⟩ (fun r9 w9 H locs hB hP hD hS => ?_)
      obtain ⟨rfl, rfl⟩ := hB
      refine WG_eq (g2 := F0 m 33 ls [.int r_6]) rfl ?_
      refine lv_if_ne (tgt := 38) hx hb dX6_readLetter_33 (by decide) (fun c_8 => ?_) (fun c_8 => ?_)
      · replace hf := bc_f hf c_8
        refine lv_aload_n hx hb dX6_readLetter_38 rfl (lv_at hl 1 rfl) ?_
        refine va_get (D := G) (C := RX6) (T := TX6) (N := 6) (v := .int (rv_7.1 4)) hx hb hts iu_X6 hown hK hP 0 rfl rfl 5 (by decide) (hts _ kw247) (fun _ h9 => h9) rfl dX6_readLetter_39 ?_
        refine lv_topi (fun v3_9 ev3_9 => ?_)
        replace hf := bl_i hf ev3_9
        refine lv_istore_n (lv' := [(3, .int v3_9), (2, .int v2_5), (0, .ref (rd 0)), (1, .ref (a 0))]) hx hb dX6_readLetter_42 rfl hl (by decide) rfl (fun ls hl => ?_)
        refine lv_aload_n hx hb dX6_readLetter_43 rfl (lv_at hl 2 rfl) ?_
        refine lv_iconst (v := 1) hx hb dX6_readLetter_44 (by decide) ?_
        refine lv_bipush (v := 9) hx hb dX6_readLetter_45 (by decide) ?_
        obtain ⟨r_10, rv_11, hc11, hf⟩ := bd2_e hf
        refine call_V (As := [.int 1, .int 9]) (rest := []) hx hb hml hown hts hK hP hD hS hA hZ lkX6_59 (Ctr.upL (c_X6_takesNumber l G ct sk sv rd n rv_7 1 9 hc11) [lfH ct a k h] [lfR ct rd rv_7, lfH ct a k h] [lfR ct rd rv_11, lfH ct a k h] [0, 1] 2 (by decide) rfl rfl rfl rfl) 0 rfl rfl ⟨Nat.le_of_ble_eq_true rfl, Nat.le_of_ble_eq_true rfl⟩ rfl hl.1 rfl (Nat.le_of_ble_eq_true rfl) dX6_readLetter_47 ⟨Nat.le_of_ble_eq_true rfl, Nat.le_of_ble_eq_true rfl⟩ (fun r9 w9 H locs hB hP hD hS => ?_)
        obtain ⟨rfl, rfl⟩ := hB
        refine WG_eq (g2 := F0 m 50 ls [.int r_10]) rfl ?_
        refine lv_if_ne (tgt := 55) hx hb dX6_readLetter_50 (by decide) (fun c_12 => ?_) (fun c_12 => ?_)
        · replace hf := bc_f hf c_12
          refine lv_aload_n hx hb dX6_readLetter_55 rfl (lv_at hl 3 rfl) ?_
          refine lv_iload_n hx hb dX6_readLetter_56 rfl (lv_at hl 1 rfl) ?_
          refine lv_iload_n hx hb dX6_readLetter_57 rfl (lv_at hl 0 rfl) ?_
          refine lv_aload_n hx hb dX6_readLetter_58 rfl (lv_at hl 2 rfl) ?_
          refine va_get (D := G) (C := RX6) (T := TX6) (N := 6) (v := .int (rv_11.1 4)) hx hb hts iu_X6 hown hK hP 0 rfl rfl 5 (by decide) (hts _ kw247) (fun _ h9 => h9) rfl dX6_readLetter_59 ?_
          obtain ⟨r_13, h_14, hc14, hf⟩ := bd2_e hf
          refine call_V (As := [.int v2_5, .int v3_9, .int (rv_11.1 4)]) (rest := []) hx hb hml hown hts hK hP hD hS hA hZ lkX6_73 (Ctr.upL (c_X1_addLetter l G ct sk sv a k n h v2_5 v3_9 (rv_11.1 4) hc14) [lfR ct rd rv_11] [lfR ct rd rv_11, lfH ct a k h] [lfR ct rd rv_11, lfH ct a k h_14] [1, 0] 2 (by decide) rfl rfl rfl rfl) 2 rfl rfl ⟨Nat.le_of_ble_eq_true rfl, Nat.le_of_ble_eq_true rfl⟩ rfl hl.1 rfl (Nat.le_of_ble_eq_true rfl) dX6_readLetter_62 ⟨Nat.le_of_ble_eq_true rfl, Nat.le_of_ble_eq_true rfl⟩ (fun r9 w9 H locs hB hP hD hS => ?_)
          obtain ⟨rfl, rfl⟩ := hB
          refine WG_eq (g2 := F0 m 65 ls [.int r_13]) rfl ?_
          refine lv_pop hx hb dX6_readLetter_65 rfl ?_
          refine lv_iconst (v := 1) hx hb dX6_readLetter_66 (by decide) ?_
          obtain ⟨e1, e2, e3⟩ := inj3 (Option.some.inj hf)
          exact end_z (w' := (wl [lfR ct rd rv_11, lfH ct a k h_14])) hx hb hr hlocks hK hP hD hS dX6_readLetter_67 (by decide) ⟨by rw [← e1], by rw [← e2, ← e3]⟩
        · replace hf := bc_t hf c_12
          refine lv_iconst (v := 0) hx hb dX6_readLetter_53 (by decide) ?_
          obtain ⟨e1, e2, e3⟩ := inj3 (Option.some.inj hf)
          exact end_z (w' := (wl [lfR ct rd rv_11, lfH ct a k h])) hx hb hr hlocks hK hP hD hS dX6_readLetter_54 (by decide) ⟨by rw [← e1], by rw [← e2, ← e3]⟩
      · replace hf := bc_t hf c_8
        refine lv_iconst (v := 0) hx hb dX6_readLetter_36 (by decide) ?_
        obtain ⟨e1, e2, e3⟩ := inj3 (Option.some.inj hf)
        exact end_z (w' := (wl [lfR ct rd rv_7, lfH ct a k h])) hx hb hr hlocks hK hP hD hS dX6_readLetter_37 (by decide) ⟨by rw [← e1], by rw [← e2, ← e3]⟩
    · replace hf := bc_t hf c_4
      exact J19 rv_3 h _ _ _ hP hD hS (lv_sub hl [] rfl) hf
noncomputable def f_X6_readFrank_j47 (n : Nat) (rv : MV) (h : MV) : Option (Int32 × MV × MV) :=
  some (0, rv, h)
noncomputable def f_X6_readFrank (n : Nat) (rv : MV) (h : MV) : Option (Int32 × MV × MV) :=
  bd2 (f_X6_takesNumber n rv 0 ((h.1 1) - 1)) fun r_1 rv_2 =>
  bc (r_1 = 0) (some (0, rv_2, h))
  (bl (rv_2.1 4) fun v2_4 =>
  bd2 (f_X6_takesNumber n rv_2 0 ((h.1 0) - 1)) fun r_5 rv_6 =>
  bc (r_5 = 0) (f_X6_readFrank_j47 n rv_6 h)
  (bd (f_X1_mayFrank n h v2_4 (rv_6.1 4)) fun r_8 =>
  bc (r_8 = 0) (f_X6_readFrank_j47 n rv_6 h)
  (bd (f_X1_sign n h v2_4 (rv_6.1 4)) fun h_10 =>
  some (1, rv_6, h_10))))
set_option maxHeartbeats 4000000 in
set_option maxRecDepth 100000 in
theorem c_X6_readFrank (l : Launch) (G : va_G) (ct : Nat → ClassId) (sk sv : Nat → Nat) (rd : Nat → Nat) (a : Nat → Nat) (k : Nat → Nat) (n : Nat) (rv : MV) (h : MV) {r : Int32} {rv' : MV} {h' : MV} (hf : f_X6_readFrank n rv h = some (r, rv', h')) : Ctr (l, G, ct, sk, sv) mX6_readFrank 6 206 [.ref (rd 0), .ref (a 0)] (wl [lfR ct rd rv, lfH ct a k h, lfK ct k]) (wl [lfR ct rd rv', lfH ct a k h', lfK ct k]) (some (.int r)) := by
  refine ctr_intro (by decide) (Nat.le_of_ble_eq_true rfl) ?_
  intro p e s m args below meth c A C hP hD hS hA ls hl
  obtain ⟨hx, hb, hml, hown, hts, hr, hlocks, hK, hnm, hZ⟩ := C
  have hb : c.code = cX6_readFrank := hb
  have hml : c.maxLocals = 3 := hml
  have hown : s.vm.findClass "SignedOutside$Reader" = some m.cls := hown
  have hr : meth.sig.returnType = some .boolean := hr
  have hP : va_P G classes (wl [lfR ct rd rv, lfH ct a k h, lfK ct k]) s.heap := hP
  have hD : va_D A (wl [lfR ct rd rv, lfH ct a k h, lfK ct k]) := hD
  have hK : va_K G classes (TYS ct) s := hK
  have hl : lv_has ls 3 [(0, .ref (rd 0)), (1, .ref (a 0))] := hl
  have J47 : ∀ (rv : MV) (h : MV) (H : Heap) (locs : List Loc) (ls : Array Slot), va_P G classes (wl [lfR ct rd rv, lfH ct a k h, lfK ct k]) H → va_D A (wl [lfR ct rd rv, lfH ct a k h, lfK ct k]) → va_S A s.heap H locs → lv_has ls 3 [] → f_X6_readFrank_j47 n rv h = some (r, rv', h') → WG l G ct sk sv p e (RM 6 206 0 0) s m args below meth c A (Eq2 (some (.int r)) (wl [lfR ct rd rv', lfH ct a k h', lfK ct k])) H locs (F0 m 47 ls []) := by
    intro rv h H locs ls hP hD hS hl hf
    unfold f_X6_readFrank_j47 at hf
    refine lv_iconst (v := 0) hx hb dX6_readFrank_47 (by decide) ?_
    obtain ⟨e1, e2, e3⟩ := inj3 (Option.some.inj hf)
    exact end_z (w' := (wl [lfR ct rd rv, lfH ct a k h, lfK ct k])) hx hb hr hlocks hK hP hD hS dX6_readFrank_48 (by decide) ⟨by rw [← e1], by rw [← e2, ← e3]⟩
  unfold f_X6_readFrank at hf
  show WG l G ct sk sv p e (RM 6 206 0 0) s m args below meth c A (Eq2 (some (.int r)) (wl [lfR ct rd rv', lfH ct a k h', lfK ct k])) s.heap [] (F0 m 0 ls [])
  refine lv_aload_n hx hb dX6_readFrank_0 rfl (lv_at hl 0 rfl) ?_
  refine lv_iconst (v := 0) hx hb dX6_readFrank_1 (by decide) ?_
  refine lv_aload_n hx hb dX6_readFrank_2 rfl (lv_at hl 1 rfl) ?_
  refine va_get (D := G) (C := RX1) (T := TX1) (N := 16) (v := .int (h.1 1)) hx hb hts iu_X1 hown hK hP 2 rfl rfl 5 (by decide) (hts _ kw138) (fun _ h9 => h9) rfl dX6_readFrank_3 ?_
  refine lv_iconst (v := 1) hx hb dX6_readFrank_6 (by decide) ?_
  refine lv_isub hx hb dX6_readFrank_7 ?_
  obtain ⟨r_1, rv_2, hc2, hf⟩ := bd2_e hf
  refine call_V (As := [.int 0, .int ((h.1 1) - 1)]) (rest := []) hx hb hml hown hts hK hP hD hS hA hZ lkX6_59 (Ctr.upL (c_X6_takesNumber l G ct sk sv rd n rv 0 ((h.1 1) - 1) hc2) [lfH ct a k h, lfK ct k] [lfR ct rd rv, lfH ct a k h, lfK ct k] [lfR ct rd rv_2, lfH ct a k h, lfK ct k] [0, 1, 2] 3 (by decide) rfl rfl rfl rfl) 0 rfl rfl ⟨Nat.le_of_ble_eq_true rfl, Nat.le_of_ble_eq_true rfl⟩ rfl hl.1 rfl (Nat.le_of_ble_eq_true rfl) dX6_readFrank_8 ⟨Nat.le_of_ble_eq_true rfl, Nat.le_of_ble_eq_true rfl⟩ (fun r9 w9 H locs hB hP hD hS => ?_)
  obtain ⟨rfl, rfl⟩ := hB
  refine WG_eq (g2 := F0 m 11 ls [.int r_1]) rfl ?_
  refine lv_if_ne (tgt := 16) hx hb dX6_readFrank_11 (by decide) (fun c_3 => ?_) (fun c_3 => ?_)
  · replace hf := bc_f hf c_3
    refine lv_aload_n hx hb dX6_readFrank_16 rfl (lv_at hl 0 rfl) ?_
    refine va_get (D := G) (C := RX6) (T := TX6) (N := 6) (v := .int (rv_2.1 4)) hx hb hts iu_X6 hown hK hP 0 rfl rfl 5 (by decide) (hts _ kw247) (fun _ h9 => h9) rfl dX6_readFrank_17 ?_
    refine lv_topi (fun v2_4 ev2_4 => ?_)
    replace hf := bl_i hf ev2_4
    refine lv_istore_n (lv' := [(2, .int v2_4), (0, .ref (rd 0)), (1, .ref (a 0))]) hx hb dX6_readFrank_20 rfl hl (by decide) rfl (fun ls hl => ?_)
    refine lv_aload_n hx hb dX6_readFrank_21 rfl (lv_at hl 1 rfl) ?_
    refine lv_iconst (v := 0) hx hb dX6_readFrank_22 (by decide) ?_
    refine lv_aload_n hx hb dX6_readFrank_23 rfl (lv_at hl 2 rfl) ?_
    refine va_get (D := G) (C := RX1) (T := TX1) (N := 16) (v := .int (h.1 0)) hx hb hts iu_X1 hown hK hP 2 rfl rfl 1 (by decide) (hts _ kw126) (fun _ h9 => h9) rfl dX6_readFrank_24 ?_
    refine lv_iconst (v := 1) hx hb dX6_readFrank_27 (by decide) ?_
    refine lv_isub hx hb dX6_readFrank_28 ?_
    obtain ⟨r_5, rv_6, hc6, hf⟩ := bd2_e hf
    refine call_V (As := [.int 0, .int ((h.1 0) - 1)]) (rest := []) hx hb hml hown hts hK hP hD hS hA hZ lkX6_59 (Ctr.upL (c_X6_takesNumber l G ct sk sv rd n rv_2 0 ((h.1 0) - 1) hc6) [lfH ct a k h, lfK ct k] [lfR ct rd rv_2, lfH ct a k h, lfK ct k] [lfR ct rd rv_6, lfH ct a k h, lfK ct k] [0, 1, 2] 3 (by decide) rfl rfl rfl rfl) 0 rfl rfl ⟨Nat.le_of_ble_eq_true rfl, Nat.le_of_ble_eq_true rfl⟩ rfl hl.1 rfl (Nat.le_of_ble_eq_true rfl) dX6_readFrank_29 ⟨Nat.le_of_ble_eq_true rfl, Nat.le_of_ble_eq_true rfl⟩ (fun r9 w9 H locs hB hP hD hS => ?_)
    obtain ⟨rfl, rfl⟩ := hB
    refine WG_eq (g2 := F0 m 32 ls [.int r_5]) rfl ?_
    refine lv_if_eq (tgt := 47) hx hb dX6_readFrank_32 (by decide) (fun c_7 => ?_) (fun c_7 => ?_)
    · replace hf := bc_t hf c_7
      exact J47 rv_6 h _ _ _ hP hD hS (lv_sub hl [] rfl) hf
    · replace hf := bc_f hf c_7
      refine lv_aload_n hx hb dX6_readFrank_35 rfl (lv_at hl 2 rfl) ?_
      refine lv_iload_n hx hb dX6_readFrank_36 rfl (lv_at hl 0 rfl) ?_
      refine lv_aload_n hx hb dX6_readFrank_37 rfl (lv_at hl 1 rfl) ?_
      refine va_get (D := G) (C := RX6) (T := TX6) (N := 6) (v := .int (rv_6.1 4)) hx hb hts iu_X6 hown hK hP 0 rfl rfl 5 (by decide) (hts _ kw247) (fun _ h9 => h9) rfl dX6_readFrank_38 ?_
      obtain ⟨r_8, hc8, hf⟩ := bd_e hf
      refine call_V (As := [.int v2_4, .int (rv_6.1 4)]) (rest := []) hx hb hml hown hts hK hP hD hS hA hZ lkX6_77 (Ctr.upL (c_X1_mayFrank l G ct sk sv a k n h v2_4 (rv_6.1 4) hc8) [lfR ct rd rv_6] [lfR ct rd rv_6, lfH ct a k h, lfK ct k] [lfR ct rd rv_6, lfH ct a k h, lfK ct k] [1, 2, 0] 3 (by decide) rfl rfl rfl rfl) 2 rfl rfl ⟨Nat.le_of_ble_eq_true rfl, Nat.le_of_ble_eq_true rfl⟩ rfl hl.1 rfl (Nat.le_of_ble_eq_true rfl) dX6_readFrank_41 ⟨Nat.le_of_ble_eq_true rfl, Nat.le_of_ble_eq_true rfl⟩ (fun r9 w9 H locs hB hP hD hS => ?_)
      obtain ⟨rfl, rfl⟩ := hB
      refine WG_eq (g2 := F0 m 44 ls [.int r_8]) rfl ?_
      refine lv_if_ne (tgt := 49) hx hb dX6_readFrank_44 (by decide) (fun c_9 => ?_) (fun c_9 => ?_)
      · replace hf := bc_f hf c_9
        refine lv_aload_n hx hb dX6_readFrank_49 rfl (lv_at hl 2 rfl) ?_
        refine lv_iload_n hx hb dX6_readFrank_50 rfl (lv_at hl 0 rfl) ?_
        refine lv_aload_n hx hb dX6_readFrank_51 rfl (lv_at hl 1 rfl) ?_
        refine va_get (D := G) (C := RX6) (T := TX6) (N := 6) (v := .int (rv_6.1 4)) hx hb hts iu_X6 hown hK hP 0 rfl rfl 5 (by decide) (hts _ kw247) (fun _ h9 => h9) rfl dX6_readFrank_52 ?_
        obtain ⟨h_10, hc10, hf⟩ := bd_e hf
        refine call_V (As := [.int v2_4, .int (rv_6.1 4)]) (rest := []) hx hb hml hown hts hK hP hD hS hA hZ lkX6_80 (Ctr.upL (c_X1_sign l G ct sk sv a k n h v2_4 (rv_6.1 4) hc10) [lfR ct rd rv_6, lfK ct k] [lfR ct rd rv_6, lfH ct a k h, lfK ct k] [lfR ct rd rv_6, lfH ct a k h_10, lfK ct k] [1, 0, 2] 3 (by decide) rfl rfl rfl rfl) 2 rfl rfl ⟨Nat.le_of_ble_eq_true rfl, Nat.le_of_ble_eq_true rfl⟩ rfl hl.1 rfl (Nat.le_of_ble_eq_true rfl) dX6_readFrank_55 ⟨Nat.le_of_ble_eq_true rfl, Nat.le_of_ble_eq_true rfl⟩ (fun r9 w9 H locs hB hP hD hS => ?_)
        obtain ⟨rfl, rfl⟩ := hB
        refine WG_eq (g2 := F0 m 58 ls []) rfl ?_
        refine lv_iconst (v := 1) hx hb dX6_readFrank_58 (by decide) ?_
        obtain ⟨e1, e2, e3⟩ := inj3 (Option.some.inj hf)
        exact end_z (w' := (wl [lfR ct rd rv_6, lfH ct a k h_10, lfK ct k])) hx hb hr hlocks hK hP hD hS dX6_readFrank_59 (by decide) ⟨by rw [← e1], by rw [← e2, ← e3]⟩
      · replace hf := bc_t hf c_9
        exact J47 rv_6 h _ _ _ hP hD hS (lv_sub hl [] rfl) hf
  · replace hf := bc_t hf c_3
    refine lv_iconst (v := 0) hx hb dX6_readFrank_14 (by decide) ?_
    obtain ⟨e1, e2, e3⟩ := inj3 (Option.some.inj hf)
    exact end_z (w' := (wl [lfR ct rd rv_2, lfH ct a k h, lfK ct k])) hx hb hr hlocks hK hP hD hS dX6_readFrank_15 (by decide) ⟨by rw [← e1], by rw [← e2, ← e3]⟩
noncomputable def f_X6_isWord_b28 (n : Nat) (rv : MV) (i1 : Nat) (v2 : Int32) : Option ((Int32) ⊕ ((Unit) ⊕ (Int32))) :=
  gd (i1 < 4) <|
  bc ((lnS i1) ≤ v2) (some (.inr (.inl ())))
  (gd (vp_in ((rv.1 2) + v2) 150) <|
  gd (i1 < 4 ∧ vp_in v2 (lenJ.getD i1 0)) <|
  bc ((rv.2.1 0 (ix ((rv.1 2) + v2))) = (chS i1 v2)) (bl (v2 + 1) fun v2_6 =>
  some (.inl v2_6))
  (some (.inr (.inr 0))))
noncomputable def f_X6_isWord_l28 (fu : Nat) (n : Nat) (rv : MV) (i1 : Nat) (v2 : Int32) : Option ((Unit) ⊕ (Int32)) :=
  lp (fun q => f_X6_isWord_b28 n rv i1 q) fu v2
noncomputable def f_X6_isWord_j24 (n : Nat) (rv : MV) (i1 : Nat) : Option (Int32) :=
  some 0
noncomputable def f_X6_isWord (n : Nat) (rv : MV) (i1 : Nat) : Option (Int32) :=
  bc ((rv.1 1) = 1) (gd (i1 < 4) <|
  bc (((rv.1 3) - (rv.1 2)) = (lnS i1)) (bs0 (f_X6_isWord_l28 n n rv i1 0) fun _ =>
  some 1)
  (f_X6_isWord_j24 n rv i1))
  (f_X6_isWord_j24 n rv i1)
set_option maxHeartbeats 4000000 in
set_option maxRecDepth 100000 in
theorem c_X6_isWord (l : Launch) (G : va_G) (ct : Nat → ClassId) (sk sv : Nat → Nat) (rd : Nat → Nat) (n : Nat) (rv : MV) (i1 : Nat) {r : Int32} (hf : f_X6_isWord n rv i1 = some r) : Ctr (l, G, ct, sk, sv) mX6_isWord 4 85 [.ref (rd 0), .ref (sk i1)] (wl [lfR ct rd rv]) (wl [lfR ct rd rv]) (some (.int r)) := by
  refine ctr_intro (by decide) (Nat.le_of_ble_eq_true rfl) ?_
  intro p e s m args below meth c A C hP hD hS hA ls hl
  obtain ⟨hx, hb, hml, hown, hts, hr, hlocks, hK, hnm, hZ⟩ := C
  have hb : c.code = cX6_isWord := hb
  have hml : c.maxLocals = 3 := hml
  have hown : s.vm.findClass "SignedOutside$Reader" = some m.cls := hown
  have hr : meth.sig.returnType = some .boolean := hr
  have hP : va_P G classes (wl [lfR ct rd rv]) s.heap := hP
  have hD : va_D A (wl [lfR ct rd rv]) := hD
  have hK : va_K G classes (TYS ct) s := hK
  have hl : lv_has ls 3 [(0, .ref (rd 0)), (1, .ref (sk i1))] := hl
  have L28 : ∀ (fu : Nat) (v2 : Int32) (ex : (Unit) ⊕ (Int32)) (H : Heap) (locs : List Loc) (ls : Array Slot), va_P G classes (wl [lfR ct rd rv]) H → va_D A (wl [lfR ct rd rv]) → va_S A s.heap H locs → lv_has ls 3 [(2, .int v2), (0, .ref (rd 0)), (1, .ref (sk i1))] → f_X6_isWord_l28 fu n rv i1 v2 = some ex → (∀ (x : Unit), ex = .inl x → ∀ (H : Heap) (locs : List Loc) (ls : Array Slot), va_P G classes (wl [lfR ct rd rv]) H → va_D A (wl [lfR ct rd rv]) → va_S A s.heap H locs → lv_has ls 3 [] → WG l G ct sk sv p e (RM 4 85 0 0) s m args below meth c A (Eq2 (some (.int r)) (wl [lfR ct rd rv])) H locs (F0 m 63 ls [])) → (∀ rr : Int32, ex = .inr rr → rr = r) → WG l G ct sk sv p e (RM 4 85 0 0) s m args below meth c A (Eq2 (some (.int r)) (wl [lfR ct rd rv])) H locs (F0 m 28 ls []) := by
    intro fu
    induction fu with
    | zero =>
      intro v2 ex H locs ls hP hD hS hl hf
      exact absurd hf (by unfold f_X6_isWord_l28 lp; exact fun h => by cases h)
    | succ fu ih =>
      intro v2 ex H locs ls hP hD hS hl hf hE hT
      unfold f_X6_isWord_l28 at hf
      obtain ⟨q, hf, hor⟩ := lp_e hf
      replace hf : f_X6_isWord_b28 n rv i1 v2 = some q := hf
      unfold f_X6_isWord_b28 at hf
      refine lv_iload_n hx hb dX6_isWord_28 rfl (lv_at hl 0 rfl) ?_
      refine lv_aload_n hx hb dX6_isWord_29 rfl (lv_at hl 2 rfl) ?_
      obtain ⟨g_1, hf⟩ := gd_e hf
      refine call_Vr (As := []) (rest := [.int v2]) hx hb hml hown hts hK hP hD hS hA hZ lkX6_104 (Ctr.upL (c_J0_length l G ct sk sv i1 g_1) [lfR ct rd rv] [lfR ct rd rv] [lfR ct rd rv] [0] 1 (by decide) rfl rfl rfl rfl) (vk_recv hZ.2.1 g_1 hS) ⟨Nat.le_of_ble_eq_true rfl, Nat.le_of_ble_eq_true rfl⟩ rfl hl.1 rfl (Nat.le_of_ble_eq_true rfl) dX6_isWord_30 ⟨Nat.le_of_ble_eq_true rfl, Nat.le_of_ble_eq_true rfl⟩ (fun r9 w9 H locs hB hP hD hS => ?_)
      obtain ⟨rfl, rfl⟩ := hB
      refine WG_eq (g2 := F0 m 33 ls [.int (lnS i1), .int v2]) rfl ?_
      refine lv_icmp_ge (tgt := 63) hx hb dX6_isWord_33 (by decide) (fun c_2 => ?_) (fun c_2 => ?_)
      · replace hf := bc_t hf c_2
        exact hE () (lp_inr hor hf).symm _ _ _ hP hD hS (lv_sub hl [] rfl)
      · replace hf := bc_f hf c_2
        refine lv_aload_n hx hb dX6_isWord_36 rfl (lv_at hl 1 rfl) ?_
        refine va_get (D := G) (C := RX6) (T := TX6) (N := 6) (v := .ref (rd 1)) hx hb hts iu_X6 hown hK hP 0 rfl rfl 0 (by decide) (hts _ kw240) (fun _ h9 => h9) rfl dX6_isWord_37 ?_
        refine lv_aload_n hx hb dX6_isWord_40 rfl (lv_at hl 1 rfl) ?_
        refine va_get (D := G) (C := RX6) (T := TX6) (N := 6) (v := .int (rv.1 2)) hx hb hts iu_X6 hown hK hP 0 rfl rfl 3 (by decide) (hts _ kw245) (fun _ h9 => h9) rfl dX6_isWord_41 ?_
        refine lv_iload_n hx hb dX6_isWord_44 rfl (lv_at hl 0 rfl) ?_
        refine lv_iadd hx hb dX6_isWord_45 ?_
        obtain ⟨g_3, hf⟩ := gd_e hf
        refine va_bald (f := rv.2.1 0) hx hb hK hP 1 2 rfl rfl g_3 dX6_isWord_46 ?_
        refine lv_aload_n hx hb dX6_isWord_47 rfl (lv_at hl 2 rfl) ?_
        refine lv_iload_n hx hb dX6_isWord_48 rfl (lv_at hl 0 rfl) ?_
        obtain ⟨g_4, hf⟩ := gd_e hf
        refine call_Vr (As := [.int v2]) (rest := [.int (rv.2.1 0 (ix ((rv.1 2) + v2)))]) hx hb hml hown hts hK hP hD hS hA hZ lkX6_109 (Ctr.upL (c_J0_charAt l G ct sk sv i1 v2 g_4.1 g_4.2) [lfR ct rd rv] [lfR ct rd rv] [lfR ct rd rv] [0] 1 (by decide) rfl rfl rfl rfl) (vk_recv hZ.2.1 g_4.1 hS) ⟨Nat.le_of_ble_eq_true rfl, Nat.le_of_ble_eq_true rfl⟩ rfl hl.1 rfl (Nat.le_of_ble_eq_true rfl) dX6_isWord_49 ⟨Nat.le_of_ble_eq_true rfl, Nat.le_of_ble_eq_true rfl⟩ (fun r9 w9 H locs hB hP hD hS => ?_)
        obtain ⟨rfl, rfl⟩ := hB
        refine WG_eq (g2 := F0 m 52 ls [.int (chS i1 v2), .int (rv.2.1 0 (ix ((rv.1 2) + v2)))]) rfl ?_
        refine lv_icmp_eq (tgt := 57) hx hb dX6_isWord_52 (by decide) (fun c_5 => ?_) (fun c_5 => ?_)
        · replace hf := bc_t hf c_5
          obtain ⟨v2_6, ev2_6, hf⟩ := bl_e hf
          refine lv_iinc (v := v2_6) (lv' := [(2, .int v2_6), (0, .ref (rd 0)), (1, .ref (sk i1))]) hx hb dX6_isWord_57 hl (k := 0) rfl ev2_6 (by decide) rfl (fun ls hl => ?_)
          refine lv_goto (tgt := 28) hx hb dX6_isWord_60 (by decide) ?_
          exact ih v2_6 ex _ _ _ hP hD hS hl (lp_inl hor hf) hE hT
        · replace hf := bc_f hf c_5
          refine lv_iconst (v := 0) hx hb dX6_isWord_55 (by decide) ?_
          have hf := congrArg some (hT _ (lp_inr hor hf).symm)
          have e1 := Option.some.inj hf
          exact end_z (w' := (wl [lfR ct rd rv])) hx hb hr hlocks hK hP hD hS dX6_isWord_56 (by decide) ⟨by rw [← e1], rfl⟩
  have J24 : ∀ (H : Heap) (locs : List Loc) (ls : Array Slot), va_P G classes (wl [lfR ct rd rv]) H → va_D A (wl [lfR ct rd rv]) → va_S A s.heap H locs → lv_has ls 3 [] → f_X6_isWord_j24 n rv i1 = some r → WG l G ct sk sv p e (RM 4 85 0 0) s m args below meth c A (Eq2 (some (.int r)) (wl [lfR ct rd rv])) H locs (F0 m 24 ls []) := by
    intro  H locs ls hP hD hS hl hf
    unfold f_X6_isWord_j24 at hf
    refine lv_iconst (v := 0) hx hb dX6_isWord_24 (by decide) ?_
    have e1 := Option.some.inj hf
    exact end_z (w' := (wl [lfR ct rd rv])) hx hb hr hlocks hK hP hD hS dX6_isWord_25 (by decide) ⟨by rw [← e1], rfl⟩
  unfold f_X6_isWord at hf
  show WG l G ct sk sv p e (RM 4 85 0 0) s m args below meth c A (Eq2 (some (.int r)) (wl [lfR ct rd rv])) s.heap [] (F0 m 0 ls [])
  refine lv_aload_n hx hb dX6_isWord_0 rfl (lv_at hl 0 rfl) ?_
  refine va_get (D := G) (C := RX6) (T := TX6) (N := 6) (v := .int (rv.1 1)) hx hb hts iu_X6 hown hK hP 0 rfl rfl 2 (by decide) (hts _ kw243) (fun _ h9 => h9) rfl dX6_isWord_1 ?_
  refine lv_iconst (v := 1) hx hb dX6_isWord_4 (by decide) ?_
  refine lv_icmp_ne (tgt := 24) hx hb dX6_isWord_5 (by decide) (fun c_7 => ?_) (fun c_7 => ?_)
  · replace hf := bc_f hf c_7
    exact J24  _ _ _ hP hD hS (lv_sub hl [] rfl) hf
  · replace hf := bc_t hf c_7
    refine lv_aload_n hx hb dX6_isWord_8 rfl (lv_at hl 0 rfl) ?_
    refine va_get (D := G) (C := RX6) (T := TX6) (N := 6) (v := .int (rv.1 3)) hx hb hts iu_X6 hown hK hP 0 rfl rfl 4 (by decide) (hts _ kw246) (fun _ h9 => h9) rfl dX6_isWord_9 ?_
    refine lv_aload_n hx hb dX6_isWord_12 rfl (lv_at hl 0 rfl) ?_
    refine va_get (D := G) (C := RX6) (T := TX6) (N := 6) (v := .int (rv.1 2)) hx hb hts iu_X6 hown hK hP 0 rfl rfl 3 (by decide) (hts _ kw245) (fun _ h9 => h9) rfl dX6_isWord_13 ?_
    refine lv_isub hx hb dX6_isWord_16 ?_
    refine lv_aload_n hx hb dX6_isWord_17 rfl (lv_at hl 1 rfl) ?_
    obtain ⟨g_8, hf⟩ := gd_e hf
    refine call_Vr (As := []) (rest := [.int ((rv.1 3) - (rv.1 2))]) hx hb hml hown hts hK hP hD hS hA hZ lkX6_104 (Ctr.upL (c_J0_length l G ct sk sv i1 g_8) [lfR ct rd rv] [lfR ct rd rv] [lfR ct rd rv] [0] 1 (by decide) rfl rfl rfl rfl) (vk_recv hZ.2.1 g_8 hS) ⟨Nat.le_of_ble_eq_true rfl, Nat.le_of_ble_eq_true rfl⟩ rfl hl.1 rfl (Nat.le_of_ble_eq_true rfl) dX6_isWord_18 ⟨Nat.le_of_ble_eq_true rfl, Nat.le_of_ble_eq_true rfl⟩ (fun r9 w9 H locs hB hP hD hS => ?_)
    obtain ⟨rfl, rfl⟩ := hB
    refine WG_eq (g2 := F0 m 21 ls [.int (lnS i1), .int ((rv.1 3) - (rv.1 2))]) rfl ?_
    refine lv_icmp_eq (tgt := 26) hx hb dX6_isWord_21 (by decide) (fun c_9 => ?_) (fun c_9 => ?_)
    · replace hf := bc_t hf c_9
      refine lv_iconst (v := 0) hx hb dX6_isWord_26 (by decide) ?_
      refine lv_istore_n (lv' := [(2, .int 0), (0, .ref (rd 0)), (1, .ref (sk i1))]) hx hb dX6_isWord_27 rfl hl (by decide) rfl (fun ls hl => ?_)
      obtain ⟨x_10, hx_10, hf⟩ := bs0_e hf
      refine L28 n 0 x_10 _ _ _ hP hD hS hl hx_10 ?_ ?_
      · intro xx exx H locs ls hP hD hS hl
        rw [exx] at hf
        try dsimp only at hf
        refine lv_iconst (v := 1) hx hb dX6_isWord_63 (by decide) ?_
        have e1 := Option.some.inj hf
        exact end_z (w' := (wl [lfR ct rd rv])) hx hb hr hlocks hK hP hD hS dX6_isWord_64 (by decide) ⟨by rw [← e1], rfl⟩
      · intro rr err
        rw [err] at hf
        exact Option.some.inj hf
    · replace hf := bc_f hf c_9
      exact J24  _ _ _ hP hD hS (lv_sub hl [] rfl) hf
noncomputable def f_X6_readInto_j113 (n : Nat) (rv : MV) (h : MV) (v4 : Int32) (v3 : Int32) (v2 : Int32) : Option ((Int32 × Int32 × MV × MV) ⊕ ((Int32 × MV × MV) ⊕ (Int32 × MV × MV))) :=
  bc (v4 = 0) (some (.inr (.inr ((-1), rv, h))))
  (bd2 (f_X6_stops n rv) fun r_2 rv_3 =>
  bc (r_2 = 0) (some (.inr (.inr ((-1), rv_3, h))))
  (bl (v2 + 1) fun v2_5 =>
  bl (v3 + 1) fun v3_6 =>
  some (.inl (v3_6, v2_5, rv_3, h))))
noncomputable def f_X6_readInto_j111 (n : Nat) (rv : MV) (h : MV) (v3 : Int32) (v2 : Int32) (s0 : Int32) : Option ((Int32 × Int32 × MV × MV) ⊕ ((Int32 × MV × MV) ⊕ (Int32 × MV × MV))) :=
  f_X6_readInto_j113 n rv h s0 v3 v2
noncomputable def f_X6_readInto_j110 (n : Nat) (rv : MV) (h : MV) (v3 : Int32) (v2 : Int32) : Option ((Int32 × Int32 × MV × MV) ⊕ ((Int32 × MV × MV) ⊕ (Int32 × MV × MV))) :=
  f_X6_readInto_j111 n rv h v3 v2 0
noncomputable def f_X6_readInto_b31 (n : Nat) (rv : MV) (h : MV) (v3 : Int32) (v2 : Int32) : Option ((Int32 × Int32 × MV × MV) ⊕ ((Int32 × MV × MV) ⊕ (Int32 × MV × MV))) :=
  bc (150 ≤ v3) (some (.inr (.inl (v2, rv, h))))
  (bd (f_X6_nextToken n rv) fun rv_8 =>
  bc ((rv_8.1 1) = 0) (some (.inr (.inr (v2, rv_8, h))))
  (bd (f_X6_isWord n rv_8 1) fun r_10 =>
  bc (r_10 = 0) (bd (f_X6_isWord n rv_8 2) fun r_12 =>
  bc (r_12 = 0) (bd (f_X6_isWord n rv_8 3) fun r_14 =>
  bc (r_14 = 0) (f_X6_readInto_j110 n rv_8 h v3 v2)
  (bd3 (f_X6_readFrank n rv_8 h) fun r_16 rv_17 h_18 =>
  bc (r_16 = 0) (f_X6_readInto_j110 n rv_17 h_18 v3 v2)
  (f_X6_readInto_j111 n rv_17 h_18 v3 v2 1)))
  (bd3 (f_X6_readLetter n rv_8 h) fun r_20 rv_21 h_22 =>
  f_X6_readInto_j113 n rv_21 h_22 r_20 v3 v2))
  (bd3 (f_X6_readMember n rv_8 h) fun r_23 rv_24 h_25 =>
  f_X6_readInto_j113 n rv_24 h_25 r_23 v3 v2)))
noncomputable def f_X6_readInto_l31 (fu : Nat) (n : Nat) (rv : MV) (h : MV) (v3 : Int32) (v2 : Int32) : Option ((Int32 × MV × MV) ⊕ (Int32 × MV × MV)) :=
  lp (fun q => f_X6_readInto_b31 n q.2.2.1 q.2.2.2 q.1 q.2.1) fu (v3, v2, rv, h)
noncomputable def f_X6_readInto_j125 (n : Nat) (rv : MV) (h : MV) : Option (Int32 × MV × MV) :=
  some ((-1), rv, h)
noncomputable def f_X6_readInto_j25 (n : Nat) (rv : MV) (h : MV) : Option (Int32 × MV × MV) :=
  some ((-1), rv, h)
noncomputable def f_X6_readInto (n : Nat) (rv : MV) (h : MV) : Option (Int32 × MV × MV) :=
  bl (setS rv 3 0) fun rv_26 =>
  bd (f_X6_nextToken n rv_26) fun rv_27 =>
  bd (f_X6_isWord n rv_27 0) fun r_28 =>
  bc (r_28 = 0) (f_X6_readInto_j25 n rv_27 h)
  (bd2 (f_X6_stops n rv_27) fun r_30 rv_31 =>
  bc (r_30 = 0) (f_X6_readInto_j25 n rv_31 h)
  (bs3 (f_X6_readInto_l31 n n rv_31 h 0 1) fun v2_33 rv_34 h_35 =>
  some (v2_33, rv_34, h_35)))
set_option maxHeartbeats 4000000 in
set_option maxRecDepth 100000 in
theorem c_X6_readInto (l : Launch) (G : va_G) (ct : Nat → ClassId) (sk sv : Nat → Nat) (rd : Nat → Nat) (a : Nat → Nat) (k : Nat → Nat) (n : Nat) (rv : MV) (h : MV) {r : Int32} {rv' : MV} {h' : MV} (hf : f_X6_readInto n rv h = some (r, rv', h')) : Ctr (l, G, ct, sk, sv) mX6_readInto 7 228 [.ref (rd 0), .ref (a 0)] (wl [lfR ct rd rv, lfH ct a k h, lfK ct k]) (wl [lfR ct rd rv', lfH ct a k h', lfK ct k]) (some (.int r)) := by
  refine ctr_intro (by decide) (Nat.le_of_ble_eq_true rfl) ?_
  intro p e s m args below meth c A C hP hD hS hA ls hl
  obtain ⟨hx, hb, hml, hown, hts, hr, hlocks, hK, hnm, hZ⟩ := C
  have hb : c.code = cX6_readInto := hb
  have hml : c.maxLocals = 5 := hml
  have hown : s.vm.findClass "SignedOutside$Reader" = some m.cls := hown
  have hr : meth.sig.returnType = some .int := hr
  have hP : va_P G classes (wl [lfR ct rd rv, lfH ct a k h, lfK ct k]) s.heap := hP
  have hD : va_D A (wl [lfR ct rd rv, lfH ct a k h, lfK ct k]) := hD
  have hK : va_K G classes (TYS ct) s := hK
  have hl : lv_has ls 5 [(0, .ref (rd 0)), (1, .ref (a 0))] := hl
  have L31 : ∀ (fu : Nat) (rv : MV) (h : MV) (v3 : Int32) (v2 : Int32) (ex : (Int32 × MV × MV) ⊕ (Int32 × MV × MV)) (H : Heap) (locs : List Loc) (ls : Array Slot), va_P G classes (wl [lfR ct rd rv, lfH ct a k h, lfK ct k]) H → va_D A (wl [lfR ct rd rv, lfH ct a k h, lfK ct k]) → va_S A s.heap H locs → lv_has ls 5 [(3, .int v3), (2, .int v2), (0, .ref (rd 0)), (1, .ref (a 0))] → f_X6_readInto_l31 fu n rv h v3 v2 = some ex → (∀ (x : Int32 × MV × MV), ex = .inl x → ∀ (H : Heap) (locs : List Loc) (ls : Array Slot), va_P G classes (wl [lfR ct rd x.2.1, lfH ct a k x.2.2, lfK ct k]) H → va_D A (wl [lfR ct rd x.2.1, lfH ct a k x.2.2, lfK ct k]) → va_S A s.heap H locs → lv_has ls 5 [(2, .int x.1)] → WG l G ct sk sv p e (RM 7 228 0 0) s m args below meth c A (Eq2 (some (.int r)) (wl [lfR ct rd rv', lfH ct a k h', lfK ct k])) H locs (F0 m 136 ls [])) → (∀ rr : Int32 × MV × MV, ex = .inr rr → rr = (r, rv', h')) → WG l G ct sk sv p e (RM 7 228 0 0) s m args below meth c A (Eq2 (some (.int r)) (wl [lfR ct rd rv', lfH ct a k h', lfK ct k])) H locs (F0 m 31 ls []) := by
    intro fu
    induction fu with
    | zero =>
      intro rv h v3 v2 ex H locs ls hP hD hS hl hf
      exact absurd hf (by unfold f_X6_readInto_l31 lp; exact fun h => by cases h)
    | succ fu ih =>
      intro rv h v3 v2 ex H locs ls hP hD hS hl hf hE hT
      unfold f_X6_readInto_l31 at hf
      obtain ⟨q, hf, hor⟩ := lp_e hf
      have J113 : ∀ (rv : MV) (h : MV) (v4 : Int32) (v3 : Int32) (v2 : Int32) (H : Heap) (locs : List Loc) (ls : Array Slot), va_P G classes (wl [lfR ct rd rv, lfH ct a k h, lfK ct k]) H → va_D A (wl [lfR ct rd rv, lfH ct a k h, lfK ct k]) → va_S A s.heap H locs → lv_has ls 5 [(4, .int v4), (3, .int v3), (2, .int v2), (0, .ref (rd 0)), (1, .ref (a 0))] → f_X6_readInto_j113 n rv h v4 v3 v2 = some q → WG l G ct sk sv p e (RM 7 228 0 0) s m args below meth c A (Eq2 (some (.int r)) (wl [lfR ct rd rv', lfH ct a k h', lfK ct k])) H locs (F0 m 113 ls []) := by
        intro rv h v4 v3 v2 H locs ls hP hD hS hl hf
        unfold f_X6_readInto_j113 at hf
        refine lv_iload hx hb dX6_readInto_113 (lv_at hl 0 rfl) ?_
        refine lv_if_eq (tgt := 125) hx hb dX6_readInto_115 (by decide) (fun c_1 => ?_) (fun c_1 => ?_)
        · replace hf := bc_t hf c_1
          refine lv_iconst (v := (-1)) hx hb dX6_readInto_125 (by decide) ?_
          have hf := congrArg some (hT _ (lp_inr hor hf).symm)
          obtain ⟨e1, e2, e3⟩ := inj3 (Option.some.inj hf)
          exact end_i (w' := (wl [lfR ct rd rv, lfH ct a k h, lfK ct k])) hx hb hr hlocks hK hP hD hS dX6_readInto_126  ⟨by rw [← e1], by rw [← e2, ← e3]⟩
        · replace hf := bc_f hf c_1
          refine lv_aload_n hx hb dX6_readInto_118 rfl (lv_at hl 3 rfl) ?_
          obtain ⟨r_2, rv_3, hc3, hf⟩ := bd2_e hf
          refine call_V (As := []) (rest := []) hx hb hml hown hts hK hP hD hS hA hZ lkX6_31 (Ctr.upL (c_X6_stops l G ct sk sv rd n rv hc3) [lfH ct a k h, lfK ct k] [lfR ct rd rv, lfH ct a k h, lfK ct k] [lfR ct rd rv_3, lfH ct a k h, lfK ct k] [0, 1, 2] 3 (by decide) rfl rfl rfl rfl) 0 rfl rfl ⟨Nat.le_of_ble_eq_true rfl, Nat.le_of_ble_eq_true rfl⟩ rfl hl.1 rfl (Nat.le_of_ble_eq_true rfl) dX6_readInto_119 ⟨Nat.le_of_ble_eq_true rfl, Nat.le_of_ble_eq_true rfl⟩ (fun r9 w9 H locs hB hP hD hS => ?_)
          obtain ⟨rfl, rfl⟩ := hB
          refine WG_eq (g2 := F0 m 122 ls [.int r_2]) rfl ?_
          refine lv_if_ne (tgt := 127) hx hb dX6_readInto_122 (by decide) (fun c_4 => ?_) (fun c_4 => ?_)
          · replace hf := bc_f hf c_4
            obtain ⟨v2_5, ev2_5, hf⟩ := bl_e hf
            refine lv_iinc (v := v2_5) (lv' := [(2, .int v2_5), (4, .int v4), (3, .int v3), (0, .ref (rd 0)), (1, .ref (a 0))]) hx hb dX6_readInto_127 hl (k := 2) rfl ev2_5 (by decide) rfl (fun ls hl => ?_)
            obtain ⟨v3_6, ev3_6, hf⟩ := bl_e hf
            refine lv_iinc (v := v3_6) (lv' := [(3, .int v3_6), (2, .int v2_5), (4, .int v4), (0, .ref (rd 0)), (1, .ref (a 0))]) hx hb dX6_readInto_130 hl (k := 2) rfl ev3_6 (by decide) rfl (fun ls hl => ?_)
            refine lv_goto (tgt := 31) hx hb dX6_readInto_133 (by decide) ?_
            exact ih rv_3 h v3_6 v2_5 ex _ _ _ hP hD hS (lv_sub hl [0, 1, 3, 4] rfl) (lp_inl hor hf) hE hT
          · replace hf := bc_t hf c_4
            refine lv_iconst (v := (-1)) hx hb dX6_readInto_125 (by decide) ?_
            have hf := congrArg some (hT _ (lp_inr hor hf).symm)
            obtain ⟨e1, e2, e3⟩ := inj3 (Option.some.inj hf)
            exact end_i (w' := (wl [lfR ct rd rv_3, lfH ct a k h, lfK ct k])) hx hb hr hlocks hK hP hD hS dX6_readInto_126  ⟨by rw [← e1], by rw [← e2, ← e3]⟩
      have J111 : ∀ (rv : MV) (h : MV) (v3 : Int32) (v2 : Int32) (s0 : Int32) (H : Heap) (locs : List Loc) (ls : Array Slot), va_P G classes (wl [lfR ct rd rv, lfH ct a k h, lfK ct k]) H → va_D A (wl [lfR ct rd rv, lfH ct a k h, lfK ct k]) → va_S A s.heap H locs → lv_has ls 5 [(3, .int v3), (2, .int v2), (0, .ref (rd 0)), (1, .ref (a 0))] → f_X6_readInto_j111 n rv h v3 v2 s0 = some q → WG l G ct sk sv p e (RM 7 228 0 0) s m args below meth c A (Eq2 (some (.int r)) (wl [lfR ct rd rv', lfH ct a k h', lfK ct k])) H locs (F0 m 111 ls [.int s0]) := by
        intro rv h v3 v2 s0 H locs ls hP hD hS hl hf
        unfold f_X6_readInto_j111 at hf
        refine lv_istore (lv' := [(4, .int s0), (3, .int v3), (2, .int v2), (0, .ref (rd 0)), (1, .ref (a 0))]) hx hb dX6_readInto_111 hl (by decide) rfl (fun ls hl => ?_)
        exact J113 rv h s0 v3 v2 _ _ _ hP hD hS hl hf
      have J110 : ∀ (rv : MV) (h : MV) (v3 : Int32) (v2 : Int32) (H : Heap) (locs : List Loc) (ls : Array Slot), va_P G classes (wl [lfR ct rd rv, lfH ct a k h, lfK ct k]) H → va_D A (wl [lfR ct rd rv, lfH ct a k h, lfK ct k]) → va_S A s.heap H locs → lv_has ls 5 [(3, .int v3), (2, .int v2), (0, .ref (rd 0)), (1, .ref (a 0))] → f_X6_readInto_j110 n rv h v3 v2 = some q → WG l G ct sk sv p e (RM 7 228 0 0) s m args below meth c A (Eq2 (some (.int r)) (wl [lfR ct rd rv', lfH ct a k h', lfK ct k])) H locs (F0 m 110 ls []) := by
        intro rv h v3 v2 H locs ls hP hD hS hl hf
        unfold f_X6_readInto_j110 at hf
        refine lv_iconst (v := 0) hx hb dX6_readInto_110 (by decide) ?_
        exact J111 rv h v3 v2 0 _ _ _ hP hD hS hl hf
      replace hf : f_X6_readInto_b31 n rv h v3 v2 = some q := hf
      unfold f_X6_readInto_b31 at hf
      refine lv_iload_n hx hb dX6_readInto_31 rfl (lv_at hl 0 rfl) ?_
      refine lv_sipush (v := 150) hx hb dX6_readInto_32 (by decide) ?_
      refine lv_icmp_ge (tgt := 136) hx hb dX6_readInto_35 (by decide) (fun c_7 => ?_) (fun c_7 => ?_)
      · replace hf := bc_t hf c_7
        exact hE (v2, rv, h) (lp_inr hor hf).symm _ _ _ hP hD hS (lv_sub hl [1] rfl)
      · replace hf := bc_f hf c_7
        refine lv_aload_n hx hb dX6_readInto_38 rfl (lv_at hl 2 rfl) ?_
        obtain ⟨rv_8, hc8, hf⟩ := bd_e hf
        refine call_V (As := []) (rest := []) hx hb hml hown hts hK hP hD hS hA hZ lkX6_22 (Ctr.upL (c_X6_nextToken l G ct sk sv rd n rv hc8) [lfH ct a k h, lfK ct k] [lfR ct rd rv, lfH ct a k h, lfK ct k] [lfR ct rd rv_8, lfH ct a k h, lfK ct k] [0, 1, 2] 3 (by decide) rfl rfl rfl rfl) 0 rfl rfl ⟨Nat.le_of_ble_eq_true rfl, Nat.le_of_ble_eq_true rfl⟩ rfl hl.1 rfl (Nat.le_of_ble_eq_true rfl) dX6_readInto_39 ⟨Nat.le_of_ble_eq_true rfl, Nat.le_of_ble_eq_true rfl⟩ (fun r9 w9 H locs hB hP hD hS => ?_)
        obtain ⟨rfl, rfl⟩ := hB
        refine WG_eq (g2 := F0 m 42 ls []) rfl ?_
        refine lv_aload_n hx hb dX6_readInto_42 rfl (lv_at hl 2 rfl) ?_
        refine va_get (D := G) (C := RX6) (T := TX6) (N := 6) (v := .int (rv_8.1 1)) hx hb hts iu_X6 hown hK hP 0 rfl rfl 2 (by decide) (hts _ kw243) (fun _ h9 => h9) rfl dX6_readInto_43 ?_
        refine lv_if_ne (tgt := 51) hx hb dX6_readInto_46 (by decide) (fun c_9 => ?_) (fun c_9 => ?_)
        · replace hf := bc_f hf c_9
          refine lv_aload_n hx hb dX6_readInto_51 rfl (lv_at hl 2 rfl) ?_
          refine va_ldcS hx hb hown (hZ.2.2.1 (38, "member", 1) (List.mem_of_getElem? (i := 1) rfl)) dX6_readInto_52 ?_
          obtain ⟨r_10, hc10, hf⟩ := bd_e hf
          refine call_V (As := [.ref (sk 1)]) (rest := []) hx hb hml hown hts hK hP hD hS hA hZ lkX6_27 (Ctr.upL (c_X6_isWord l G ct sk sv rd n rv_8 1 hc10) [lfH ct a k h, lfK ct k] [lfR ct rd rv_8, lfH ct a k h, lfK ct k] [lfR ct rd rv_8, lfH ct a k h, lfK ct k] [0, 1, 2] 3 (by decide) rfl rfl rfl rfl) 0 rfl rfl ⟨Nat.le_of_ble_eq_true rfl, Nat.le_of_ble_eq_true rfl⟩ rfl hl.1 rfl (Nat.le_of_ble_eq_true rfl) dX6_readInto_54 ⟨Nat.le_of_ble_eq_true rfl, Nat.le_of_ble_eq_true rfl⟩ (fun r9 w9 H locs hB hP hD hS => ?_)
          obtain ⟨rfl, rfl⟩ := hB
          refine WG_eq (g2 := F0 m 57 ls [.int r_10]) rfl ?_
          refine lv_if_eq (tgt := 70) hx hb dX6_readInto_57 (by decide) (fun c_11 => ?_) (fun c_11 => ?_)
          · replace hf := bc_t hf c_11
            refine lv_aload_n hx hb dX6_readInto_70 rfl (lv_at hl 2 rfl) ?_
            refine va_ldcS hx hb hown (hZ.2.2.1 (44, "letter", 2) (List.mem_of_getElem? (i := 2) rfl)) dX6_readInto_71 ?_
            obtain ⟨r_12, hc12, hf⟩ := bd_e hf
            refine call_V (As := [.ref (sk 2)]) (rest := []) hx hb hml hown hts hK hP hD hS hA hZ lkX6_27 (Ctr.upL (c_X6_isWord l G ct sk sv rd n rv_8 2 hc12) [lfH ct a k h, lfK ct k] [lfR ct rd rv_8, lfH ct a k h, lfK ct k] [lfR ct rd rv_8, lfH ct a k h, lfK ct k] [0, 1, 2] 3 (by decide) rfl rfl rfl rfl) 0 rfl rfl ⟨Nat.le_of_ble_eq_true rfl, Nat.le_of_ble_eq_true rfl⟩ rfl hl.1 rfl (Nat.le_of_ble_eq_true rfl) dX6_readInto_73 ⟨Nat.le_of_ble_eq_true rfl, Nat.le_of_ble_eq_true rfl⟩ (fun r9 w9 H locs hB hP hD hS => ?_)
            obtain ⟨rfl, rfl⟩ := hB
            refine WG_eq (g2 := F0 m 76 ls [.int r_12]) rfl ?_
            refine lv_if_eq (tgt := 89) hx hb dX6_readInto_76 (by decide) (fun c_13 => ?_) (fun c_13 => ?_)
            · replace hf := bc_t hf c_13
              refine lv_aload_n hx hb dX6_readInto_89 rfl (lv_at hl 2 rfl) ?_
              refine va_ldcS hx hb hown (hZ.2.2.1 (49, "frank", 3) (List.mem_of_getElem? (i := 3) rfl)) dX6_readInto_90 ?_
              obtain ⟨r_14, hc14, hf⟩ := bd_e hf
              refine call_V (As := [.ref (sk 3)]) (rest := []) hx hb hml hown hts hK hP hD hS hA hZ lkX6_27 (Ctr.upL (c_X6_isWord l G ct sk sv rd n rv_8 3 hc14) [lfH ct a k h, lfK ct k] [lfR ct rd rv_8, lfH ct a k h, lfK ct k] [lfR ct rd rv_8, lfH ct a k h, lfK ct k] [0, 1, 2] 3 (by decide) rfl rfl rfl rfl) 0 rfl rfl ⟨Nat.le_of_ble_eq_true rfl, Nat.le_of_ble_eq_true rfl⟩ rfl hl.1 rfl (Nat.le_of_ble_eq_true rfl) dX6_readInto_92 ⟨Nat.le_of_ble_eq_true rfl, Nat.le_of_ble_eq_true rfl⟩ (fun r9 w9 H locs hB hP hD hS => ?_)
              obtain ⟨rfl, rfl⟩ := hB
              refine WG_eq (g2 := F0 m 95 ls [.int r_14]) rfl ?_
              refine lv_if_eq (tgt := 110) hx hb dX6_readInto_95 (by decide) (fun c_15 => ?_) (fun c_15 => ?_)
              · replace hf := bc_t hf c_15
                exact J110 rv_8 h v3 v2 _ _ _ hP hD hS hl hf
              · replace hf := bc_f hf c_15
                refine lv_aload_n hx hb dX6_readInto_98 rfl (lv_at hl 2 rfl) ?_
                refine lv_aload_n hx hb dX6_readInto_99 rfl (lv_at hl 3 rfl) ?_
                obtain ⟨r_16, rv_17, h_18, hc18, hf⟩ := bd3_e hf
                refine call_V (As := [.ref (a 0)]) (rest := []) hx hb hml hown hts hK hP hD hS hA hZ lkX6_51 (c_X6_readFrank l G ct sk sv rd a k n rv_8 h hc18) 0 rfl rfl ⟨Nat.le_of_ble_eq_true rfl, Nat.le_of_ble_eq_true rfl⟩ rfl hl.1 rfl (Nat.le_of_ble_eq_true rfl) dX6_readInto_100 ⟨Nat.le_of_ble_eq_true rfl, Nat.le_of_ble_eq_true rfl⟩ (fun r9 w9 H locs hB hP hD hS => ?_)
                obtain ⟨rfl, rfl⟩ := hB
                refine WG_eq (g2 := F0 m 103 ls [.int r_16]) rfl ?_
                refine lv_if_eq (tgt := 110) hx hb dX6_readInto_103 (by decide) (fun c_19 => ?_) (fun c_19 => ?_)
                · replace hf := bc_t hf c_19
                  exact J110 rv_17 h_18 v3 v2 _ _ _ hP hD hS hl hf
                · replace hf := bc_f hf c_19
                  refine lv_iconst (v := 1) hx hb dX6_readInto_106 (by decide) ?_
                  refine lv_goto (tgt := 111) hx hb dX6_readInto_107 (by decide) ?_
                  exact J111 rv_17 h_18 v3 v2 1 _ _ _ hP hD hS hl hf
            · replace hf := bc_f hf c_13
              refine lv_aload_n hx hb dX6_readInto_79 rfl (lv_at hl 2 rfl) ?_
              refine lv_aload_n hx hb dX6_readInto_80 rfl (lv_at hl 3 rfl) ?_
              obtain ⟨r_20, rv_21, h_22, hc22, hf⟩ := bd3_e hf
              refine call_V (As := [.ref (a 0)]) (rest := []) hx hb hml hown hts hK hP hD hS hA hZ lkX6_46 (Ctr.upL (c_X6_readLetter l G ct sk sv rd a k n rv_8 h hc22) [lfK ct k] [lfR ct rd rv_8, lfH ct a k h, lfK ct k] [lfR ct rd rv_21, lfH ct a k h_22, lfK ct k] [0, 1, 2] 3 (by decide) rfl rfl rfl rfl) 0 rfl rfl ⟨Nat.le_of_ble_eq_true rfl, Nat.le_of_ble_eq_true rfl⟩ rfl hl.1 rfl (Nat.le_of_ble_eq_true rfl) dX6_readInto_81 ⟨Nat.le_of_ble_eq_true rfl, Nat.le_of_ble_eq_true rfl⟩ (fun r9 w9 H locs hB hP hD hS => ?_)
              obtain ⟨rfl, rfl⟩ := hB
              refine WG_eq (g2 := F0 m 84 ls [.int r_20]) rfl ?_
              refine lv_istore (lv' := [(4, .int r_20), (3, .int v3), (2, .int v2), (0, .ref (rd 0)), (1, .ref (a 0))]) hx hb dX6_readInto_84 hl (by decide) rfl (fun ls hl => ?_)
              refine lv_goto (tgt := 113) hx hb dX6_readInto_86 (by decide) ?_
              exact J113 rv_21 h_22 r_20 v3 v2 _ _ _ hP hD hS hl hf
          · replace hf := bc_f hf c_11
            refine lv_aload_n hx hb dX6_readInto_60 rfl (lv_at hl 2 rfl) ?_
            refine lv_aload_n hx hb dX6_readInto_61 rfl (lv_at hl 3 rfl) ?_
            obtain ⟨r_23, rv_24, h_25, hc25, hf⟩ := bd3_e hf
            refine call_V (As := [.ref (a 0)]) (rest := []) hx hb hml hown hts hK hP hD hS hA hZ lkX6_40 (Ctr.upL (c_X6_readMember l G ct sk sv rd a k n rv_8 h hc25) [lfK ct k] [lfR ct rd rv_8, lfH ct a k h, lfK ct k] [lfR ct rd rv_24, lfH ct a k h_25, lfK ct k] [0, 1, 2] 3 (by decide) rfl rfl rfl rfl) 0 rfl rfl ⟨Nat.le_of_ble_eq_true rfl, Nat.le_of_ble_eq_true rfl⟩ rfl hl.1 rfl (Nat.le_of_ble_eq_true rfl) dX6_readInto_62 ⟨Nat.le_of_ble_eq_true rfl, Nat.le_of_ble_eq_true rfl⟩ (fun r9 w9 H locs hB hP hD hS => ?_)
            obtain ⟨rfl, rfl⟩ := hB
            refine WG_eq (g2 := F0 m 65 ls [.int r_23]) rfl ?_
            refine lv_istore (lv' := [(4, .int r_23), (3, .int v3), (2, .int v2), (0, .ref (rd 0)), (1, .ref (a 0))]) hx hb dX6_readInto_65 hl (by decide) rfl (fun ls hl => ?_)
            refine lv_goto (tgt := 113) hx hb dX6_readInto_67 (by decide) ?_
            exact J113 rv_24 h_25 r_23 v3 v2 _ _ _ hP hD hS hl hf
        · replace hf := bc_t hf c_9
          refine lv_iload_n hx hb dX6_readInto_49 rfl (lv_at hl 1 rfl) ?_
          have hf := congrArg some (hT _ (lp_inr hor hf).symm)
          obtain ⟨e1, e2, e3⟩ := inj3 (Option.some.inj hf)
          exact end_i (w' := (wl [lfR ct rd rv_8, lfH ct a k h, lfK ct k])) hx hb hr hlocks hK hP hD hS dX6_readInto_50  ⟨by rw [← e1], by rw [← e2, ← e3]⟩
  have J125 : ∀ (rv : MV) (h : MV) (H : Heap) (locs : List Loc) (ls : Array Slot), va_P G classes (wl [lfR ct rd rv, lfH ct a k h, lfK ct k]) H → va_D A (wl [lfR ct rd rv, lfH ct a k h, lfK ct k]) → va_S A s.heap H locs → lv_has ls 5 [] → f_X6_readInto_j125 n rv h = some (r, rv', h') → WG l G ct sk sv p e (RM 7 228 0 0) s m args below meth c A (Eq2 (some (.int r)) (wl [lfR ct rd rv', lfH ct a k h', lfK ct k])) H locs (F0 m 125 ls []) := by
    intro rv h H locs ls hP hD hS hl hf
    unfold f_X6_readInto_j125 at hf
    refine lv_iconst (v := (-1)) hx hb dX6_readInto_125 (by decide) ?_
    obtain ⟨e1, e2, e3⟩ := inj3 (Option.some.inj hf)
    exact end_i (w' := (wl [lfR ct rd rv, lfH ct a k h, lfK ct k])) hx hb hr hlocks hK hP hD hS dX6_readInto_126  ⟨by rw [← e1], by rw [← e2, ← e3]⟩
  have J25 : ∀ (rv : MV) (h : MV) (H : Heap) (locs : List Loc) (ls : Array Slot), va_P G classes (wl [lfR ct rd rv, lfH ct a k h, lfK ct k]) H → va_D A (wl [lfR ct rd rv, lfH ct a k h, lfK ct k]) → va_S A s.heap H locs → lv_has ls 5 [] → f_X6_readInto_j25 n rv h = some (r, rv', h') → WG l G ct sk sv p e (RM 7 228 0 0) s m args below meth c A (Eq2 (some (.int r)) (wl [lfR ct rd rv', lfH ct a k h', lfK ct k])) H locs (F0 m 25 ls []) := by
    intro rv h H locs ls hP hD hS hl hf
    unfold f_X6_readInto_j25 at hf
    refine lv_iconst (v := (-1)) hx hb dX6_readInto_25 (by decide) ?_
    obtain ⟨e1, e2, e3⟩ := inj3 (Option.some.inj hf)
    exact end_i (w' := (wl [lfR ct rd rv, lfH ct a k h, lfK ct k])) hx hb hr hlocks hK hP hD hS dX6_readInto_26  ⟨by rw [← e1], by rw [← e2, ← e3]⟩
  unfold f_X6_readInto at hf
  show WG l G ct sk sv p e (RM 7 228 0 0) s m args below meth c A (Eq2 (some (.int r)) (wl [lfR ct rd rv', lfH ct a k h', lfK ct k])) s.heap [] (F0 m 0 ls [])
  refine lv_aload_n hx hb dX6_readInto_0 rfl (lv_at hl 0 rfl) ?_
  refine lv_iconst (v := 0) hx hb dX6_readInto_1 (by decide) ?_
  obtain ⟨rv_26, erv_26, hf⟩ := bl_e hf
  refine va_put (D := G) (C := RX6) (T := TX6) (N := 6) (ty := .int) hx hb hts iu_X6 tyX6 tyX6_ok nmX6 hown hK hP hD hS 0 rfl rfl 4 (by decide) (hts _ kw246) (fun _ h9 => h9) rfl (by decide +kernel) rfl rfl (Nat.le_of_ble_eq_true rfl) dX6_readInto_2 (fun H locs hP hD hS => ?_)
  have hP : va_P G classes (wl [lfR ct rd rv_26, lfH ct a k h, lfK ct k]) H := by rw [← erv_26]; exact hP
  have hD : va_D A (wl [lfR ct rd rv_26, lfH ct a k h, lfK ct k]) := by rw [← erv_26]; exact hD
  refine lv_aload_n hx hb dX6_readInto_5 rfl (lv_at hl 0 rfl) ?_
  obtain ⟨rv_27, hc27, hf⟩ := bd_e hf
  refine call_V (As := []) (rest := []) hx hb hml hown hts hK hP hD hS hA hZ lkX6_22 (Ctr.upL (c_X6_nextToken l G ct sk sv rd n rv_26 hc27) [lfH ct a k h, lfK ct k] [lfR ct rd rv_26, lfH ct a k h, lfK ct k] [lfR ct rd rv_27, lfH ct a k h, lfK ct k] [0, 1, 2] 3 (by decide) rfl rfl rfl rfl) 0 rfl rfl ⟨Nat.le_of_ble_eq_true rfl, Nat.le_of_ble_eq_true rfl⟩ rfl hl.1 rfl (Nat.le_of_ble_eq_true rfl) dX6_readInto_6 ⟨Nat.le_of_ble_eq_true rfl, Nat.le_of_ble_eq_true rfl⟩ (fun r9 w9 H locs hB hP hD hS => ?_)
  obtain ⟨rfl, rfl⟩ := hB
  refine WG_eq (g2 := F0 m 9 ls []) rfl ?_
  refine lv_aload_n hx hb dX6_readInto_9 rfl (lv_at hl 0 rfl) ?_
  refine va_ldcS hx hb hown (hZ.2.2.1 (25, "house", 0) (List.mem_of_getElem? (i := 0) rfl)) dX6_readInto_10 ?_
  obtain ⟨r_28, hc28, hf⟩ := bd_e hf
  refine call_V (As := [.ref (sk 0)]) (rest := []) hx hb hml hown hts hK hP hD hS hA hZ lkX6_27 (Ctr.upL (c_X6_isWord l G ct sk sv rd n rv_27 0 hc28) [lfH ct a k h, lfK ct k] [lfR ct rd rv_27, lfH ct a k h, lfK ct k] [lfR ct rd rv_27, lfH ct a k h, lfK ct k] [0, 1, 2] 3 (by decide) rfl rfl rfl rfl) 0 rfl rfl ⟨Nat.le_of_ble_eq_true rfl, Nat.le_of_ble_eq_true rfl⟩ rfl hl.1 rfl (Nat.le_of_ble_eq_true rfl) dX6_readInto_12 ⟨Nat.le_of_ble_eq_true rfl, Nat.le_of_ble_eq_true rfl⟩ (fun r9 w9 H locs hB hP hD hS => ?_)
  obtain ⟨rfl, rfl⟩ := hB
  refine WG_eq (g2 := F0 m 15 ls [.int r_28]) rfl ?_
  refine lv_if_eq (tgt := 25) hx hb dX6_readInto_15 (by decide) (fun c_29 => ?_) (fun c_29 => ?_)
  · replace hf := bc_t hf c_29
    exact J25 rv_27 h _ _ _ hP hD hS (lv_sub hl [] rfl) hf
  · replace hf := bc_f hf c_29
    refine lv_aload_n hx hb dX6_readInto_18 rfl (lv_at hl 0 rfl) ?_
    obtain ⟨r_30, rv_31, hc31, hf⟩ := bd2_e hf
    refine call_V (As := []) (rest := []) hx hb hml hown hts hK hP hD hS hA hZ lkX6_31 (Ctr.upL (c_X6_stops l G ct sk sv rd n rv_27 hc31) [lfH ct a k h, lfK ct k] [lfR ct rd rv_27, lfH ct a k h, lfK ct k] [lfR ct rd rv_31, lfH ct a k h, lfK ct k] [0, 1, 2] 3 (by decide) rfl rfl rfl rfl) 0 rfl rfl ⟨Nat.le_of_ble_eq_true rfl, Nat.le_of_ble_eq_true rfl⟩ rfl hl.1 rfl (Nat.le_of_ble_eq_true rfl) dX6_readInto_19 ⟨Nat.le_of_ble_eq_true rfl, Nat.le_of_ble_eq_true rfl⟩ (fun r9 w9 H locs hB hP hD hS => ?_)
    obtain ⟨rfl, rfl⟩ := hB
    refine WG_eq (g2 := F0 m 22 ls [.int r_30]) rfl ?_
    refine lv_if_ne (tgt := 27) hx hb dX6_readInto_22 (by decide) (fun c_32 => ?_) (fun c_32 => ?_)
    · replace hf := bc_f hf c_32
      refine lv_iconst (v := 1) hx hb dX6_readInto_27 (by decide) ?_
      refine lv_istore_n (lv' := [(2, .int 1), (0, .ref (rd 0)), (1, .ref (a 0))]) hx hb dX6_readInto_28 rfl hl (by decide) rfl (fun ls hl => ?_)
      refine lv_iconst (v := 0) hx hb dX6_readInto_29 (by decide) ?_
      refine lv_istore_n (lv' := [(3, .int 0), (2, .int 1), (0, .ref (rd 0)), (1, .ref (a 0))]) hx hb dX6_readInto_30 rfl hl (by decide) rfl (fun ls hl => ?_)
      obtain ⟨x_36, hx_36, hf⟩ := bs3_e hf
      refine L31 n rv_31 h 0 1 x_36 _ _ _ hP hD hS hl hx_36 ?_ ?_
      · intro xx exx H locs ls hP hD hS hl
        rw [exx] at hf
        obtain ⟨v2_33, rv_34, h_35⟩ := xx
        try dsimp only at hf
        have hP : va_P G classes (wl [lfR ct rd rv_34, lfH ct a k h_35, lfK ct k]) H := hP
        have hD : va_D A (wl [lfR ct rd rv_34, lfH ct a k h_35, lfK ct k]) := hD
        have hl : lv_has ls 5 [(2, .int v2_33)] := hl
        refine lv_iload_n hx hb dX6_readInto_136 rfl (lv_at hl 0 rfl) ?_
        obtain ⟨e1, e2, e3⟩ := inj3 (Option.some.inj hf)
        exact end_i (w' := (wl [lfR ct rd rv_34, lfH ct a k h_35, lfK ct k])) hx hb hr hlocks hK hP hD hS dX6_readInto_137  ⟨by rw [← e1], by rw [← e2, ← e3]⟩
      · intro rr err
        rw [err] at hf
        exact Option.some.inj hf
    · replace hf := bc_t hf c_32
      exact J25 rv_31 h _ _ _ hP hD hS (lv_sub hl [] rfl) hf
