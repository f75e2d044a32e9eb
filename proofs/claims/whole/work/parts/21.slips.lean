theorem lkX8_31 : lkV "SignedOutside$Slips" 31 mX8_ownedBy 1 := lkV_mk kw744 kw745 kw746 kw9 kw747 (by decide +kernel)
theorem lkX8_44 : lkV "SignedOutside$Slips" 44 mX8_highest 2 := lkV_mk kw752 kw753 kw754 kw9 kw755 (by decide +kernel)
theorem lkX8_47 : lkV "SignedOutside$Slips" 47 mX8_lowest 2 := lkV_mk kw759 kw760 kw761 kw9 kw762 (by decide +kernel)
theorem lkX8_50 : lkV "SignedOutside$Slips" 50 mX8_placesFor 2 := lkV_mk kw773 kw749 kw750 kw9 kw751 (by decide +kernel)
theorem lkX8_62 : lkV "SignedOutside$Slips" 62 mX8_onDay 2 := lkV_mk kw787 kw741 kw742 kw9 kw743 (by decide +kernel)
theorem lkX8_53 : lkS "SignedOutside$Slips" 53 mJ6_bitCount_0f7a4 1 := ⟨kw782, kw676, kw21, kw677, by decide +kernel⟩
theorem lkX8_58 : lkV "SignedOutside$Slips" 58 mX8_canBeTrue 2 := lkV_mk kw783 kw784 kw785 kw9 kw786 (by decide +kernel)
theorem lkX8_74 : lkV "SignedOutside$Slips" 74 mX8_agrees 2 := lkV_mk kw798 kw799 kw800 kw9 kw801 (by decide +kernel)
theorem lkX1_73 : lkV "SignedOutside$House" 73 mX4_makeEmpty 0 := lkV_mk kw304 kw305 kw306 kw10 kw307 (by decide +kernel)
theorem lkX1_82 : lkV "SignedOutside$House" 82 mX8_takeOver 1 := lkV_mk kw546 kw547 kw548 kw9 kw549 (by decide +kernel)
theorem lkX1_86 : lkV "SignedOutside$House" 86 mX4_takeOver 1 := lkV_mk kw551 kw552 kw553 kw10 kw554 (by decide +kernel)
noncomputable def f_X8_add (n : Nat) (sl : MV) (v1 : Int32) (v2 : Int32) (v3 : Int32) : Option (Int32 × MV) :=
  bc ((sl.1 0) < 6) (gd (vp_in (sl.1 0) 6) <|
  bl (setA sl 0 (upd (sl.2.1 0) (ix (sl.1 0)) v1)) fun sl_3 =>
  gd (vp_in (sl_3.1 0) 6) <|
  bl (setA sl_3 1 (upd (sl_3.2.1 1) (ix (sl_3.1 0)) v2)) fun sl_5 =>
  gd (vp_in (sl_5.1 0) 6) <|
  bl (setA sl_5 2 (upd (sl_5.2.1 2) (ix (sl_5.1 0)) v3)) fun sl_7 =>
  bl (setS sl_7 0 ((sl_7.1 0) + 1)) fun sl_8 =>
  some (1, sl_8))
  (some (0, sl))
set_option maxHeartbeats 4000000 in
set_option maxRecDepth 100000 in
theorem c_X8_add (l : Launch) (G : va_G) (ct : Nat → ClassId) (sk sv : Nat → Nat) (a : Nat → Nat) (n : Nat) (sl : MV) (v1 : Int32) (v2 : Int32) (v3 : Int32) {r : Int32} {sl' : MV} (hf : f_X8_add n sl v1 v2 v3 = some (r, sl')) : Ctr (l, G, ct, sk, sv) mX8_add 0 0 [.ref (a 0), .int v1, .int v2, .int v3] (wl [lfS ct a sl]) (wl [lfS ct a sl']) (some (.int r)) := by
  refine ctr_intro (by decide) (Nat.le_of_ble_eq_true rfl) ?_
  intro p e s m args below meth c A C hP hD hS hA ls hl
  obtain ⟨hx, hb, hml, hown, hts, hr, hlocks, hK, hnm, hZ⟩ := C
  have hb : c.code = cX8_add := hb
  have hml : c.maxLocals = 4 := hml
  have hown : s.vm.findClass "SignedOutside$Slips" = some m.cls := hown
  have hr : meth.sig.returnType = some .boolean := hr
  have hP : va_P G classes (wl [lfS ct a sl]) s.heap := hP
  have hD : va_D A (wl [lfS ct a sl]) := hD
  have hK : va_K G classes (TYS ct) s := hK
  have hl : lv_has ls 4 [(0, .ref (a 0)), (1, .int v1), (2, .int v2), (3, .int v3)] := hl
  unfold f_X8_add at hf
  show WG l G ct sk sv p e (RM 0 0 0 0) s m args below meth c A (Eq2 (some (.int r)) (wl [lfS ct a sl'])) s.heap [] (F0 m 0 ls [])
  refine lv_aload_n hx hb dX8_add_0 rfl (lv_at hl 0 rfl) ?_
  refine va_get (D := G) (C := RX8) (T := TX8) (N := 4) (v := .int (sl.1 0)) hx hb hts iu_X8 hown hK hP 0 rfl rfl 0 (by decide) (hts _ kw85) (fun _ h9 => h9) rfl dX8_add_1 ?_
  refine lv_bipush (v := 6) hx hb dX8_add_4 (by decide) ?_
  refine lv_icmp_lt (tgt := 11) hx hb dX8_add_6 (by decide) (fun c_1 => ?_) (fun c_1 => ?_)
  · replace hf := bc_t hf c_1
    refine lv_aload_n hx hb dX8_add_11 rfl (lv_at hl 0 rfl) ?_
    refine va_get (D := G) (C := RX8) (T := TX8) (N := 4) (v := .ref (a 1)) hx hb hts iu_X8 hown hK hP 0 rfl rfl 1 (by decide) (hts _ kw88) (fun _ h9 => h9) rfl dX8_add_12 ?_
    refine lv_aload_n hx hb dX8_add_15 rfl (lv_at hl 0 rfl) ?_
    refine va_get (D := G) (C := RX8) (T := TX8) (N := 4) (v := .int (sl.1 0)) hx hb hts iu_X8 hown hK hP 0 rfl rfl 0 (by decide) (hts _ kw85) (fun _ h9 => h9) rfl dX8_add_16 ?_
    refine lv_iload_n hx hb dX8_add_19 rfl (lv_at hl 1 rfl) ?_
    obtain ⟨g_2, hf⟩ := gd_e hf
    obtain ⟨sl_3, esl_3, hf⟩ := bl_e hf
    refine va_iast hx hb hK hP hD hS 1 0 rfl rfl g_2 dX8_add_20 (fun H locs hP hD hS => ?_)
    have hP : va_P G classes (wl [lfS ct a sl_3]) H := by rw [← esl_3]; exact hP
    have hD : va_D A (wl [lfS ct a sl_3]) := by rw [← esl_3]; exact hD
    refine lv_aload_n hx hb dX8_add_21 rfl (lv_at hl 0 rfl) ?_
    refine va_get (D := G) (C := RX8) (T := TX8) (N := 4) (v := .ref (a 2)) hx hb hts iu_X8 hown hK hP 0 rfl rfl 2 (by decide) (hts _ kw90) (fun _ h9 => h9) rfl dX8_add_22 ?_
    refine lv_aload_n hx hb dX8_add_25 rfl (lv_at hl 0 rfl) ?_
    refine va_get (D := G) (C := RX8) (T := TX8) (N := 4) (v := .int (sl_3.1 0)) hx hb hts iu_X8 hown hK hP 0 rfl rfl 0 (by decide) (hts _ kw85) (fun _ h9 => h9) rfl dX8_add_26 ?_
    refine lv_iload_n hx hb dX8_add_29 rfl (lv_at hl 2 rfl) ?_
    obtain ⟨g_4, hf⟩ := gd_e hf
    obtain ⟨sl_5, esl_5, hf⟩ := bl_e hf
    refine va_iast hx hb hK hP hD hS 2 0 rfl rfl g_4 dX8_add_30 (fun H locs hP hD hS => ?_)
    have hP : va_P G classes (wl [lfS ct a sl_5]) H := by rw [← esl_5]; exact hP
    have hD : va_D A (wl [lfS ct a sl_5]) := by rw [← esl_5]; exact hD
    refine lv_aload_n hx hb dX8_add_31 rfl (lv_at hl 0 rfl) ?_
    refine va_get (D := G) (C := RX8) (T := TX8) (N := 4) (v := .ref (a 3)) hx hb hts iu_X8 hown hK hP 0 rfl rfl 3 (by decide) (hts _ kw92) (fun _ h9 => h9) rfl dX8_add_32 ?_
    refine lv_aload_n hx hb dX8_add_35 rfl (lv_at hl 0 rfl) ?_
    refine va_get (D := G) (C := RX8) (T := TX8) (N := 4) (v := .int (sl_5.1 0)) hx hb hts iu_X8 hown hK hP 0 rfl rfl 0 (by decide) (hts _ kw85) (fun _ h9 => h9) rfl dX8_add_36 ?_
    refine lv_iload_n hx hb dX8_add_39 rfl (lv_at hl 3 rfl) ?_
    obtain ⟨g_6, hf⟩ := gd_e hf
    obtain ⟨sl_7, esl_7, hf⟩ := bl_e hf
    refine va_iast hx hb hK hP hD hS 3 0 rfl rfl g_6 dX8_add_40 (fun H locs hP hD hS => ?_)
    have hP : va_P G classes (wl [lfS ct a sl_7]) H := by rw [← esl_7]; exact hP
    have hD : va_D A (wl [lfS ct a sl_7]) := by rw [← esl_7]; exact hD
    refine lv_aload_n hx hb dX8_add_41 rfl (lv_at hl 0 rfl) ?_
    refine lv_dup hx hb dX8_add_42 rfl ?_
    refine va_get (D := G) (C := RX8) (T := TX8) (N := 4) (v := .int (sl_7.1 0)) hx hb hts iu_X8 hown hK hP 0 rfl rfl 0 (by decide) (hts _ kw85) (fun _ h9 => h9) rfl dX8_add_43 ?_
    refine lv_iconst (v := 1) hx hb dX8_add_46 (by decide) ?_
    refine lv_iadd hx hb dX8_add_47 ?_
    obtain ⟨sl_8, esl_8, hf⟩ := bl_e hf
    refine va_put (D := G) (C := RX8) (T := TX8) (N := 4) (ty := .int) hx hb hts iu_X8 tyX8 tyX8_ok nmX8 hown hK hP hD hS 0 rfl rfl 0 (by decide) (hts _ kw85) (fun _ h9 => h9) rfl (by decide +kernel) rfl rfl (Nat.le_of_ble_eq_true rfl) dX8_add_48 (fun H locs hP hD hS => ?_)
    have hP : va_P G classes (wl [lfS ct a sl_8]) H := by rw [← esl_8]; exact hP
    have hD : va_D A (wl [lfS ct a sl_8]) := by rw [← esl_8]; exact hD
    refine lv_iconst (v := 1) hx hb dX8_add_51 (by decide) ?_
    obtain ⟨e1, e2⟩ := inj2 (Option.some.inj hf)
    exact end_z (w' := (wl [lfS ct a sl_8])) hx hb hr hlocks hK hP hD hS dX8_add_52 (by decide) ⟨by rw [← e1], by rw [← e2]⟩
  · replace hf := bc_f hf c_1
    refine lv_iconst (v := 0) hx hb dX8_add_9 (by decide) ?_
    obtain ⟨e1, e2⟩ := inj2 (Option.some.inj hf)
    exact end_z (w' := (wl [lfS ct a sl])) hx hb hr hlocks hK hP hD hS dX8_add_10 (by decide) ⟨by rw [← e1], by rw [← e2]⟩
noncomputable def f_X8_ownedBy_j28 (n : Nat) (sl : MV) (v3 : Int32) (v2 : Int32) (v1 : Int32) : Option ((Int32 × Int32) ⊕ (Int32)) :=
  bl (v3 + 1) fun v3_1 =>
  some (.inl (v3_1, v2))
noncomputable def f_X8_ownedBy_b4 (n : Nat) (sl : MV) (v3 : Int32) (v2 : Int32) (v1 : Int32) : Option ((Int32 × Int32) ⊕ (Int32)) :=
  bc ((sl.1 0) ≤ v3) (some (.inr v2))
  (gd (vp_in v3 6) <|
  bc ((sl.2.1 0 (ix v3)) = v1) (bl (v2 ||| (1 <<< (v3 &&& 31))) fun v2_5 =>
  f_X8_ownedBy_j28 n sl v3 v2_5 v1)
  (f_X8_ownedBy_j28 n sl v3 v2 v1))
noncomputable def f_X8_ownedBy_l4 (fu : Nat) (n : Nat) (sl : MV) (v1 : Int32) (v3 : Int32) (v2 : Int32) : Option (Int32) :=
  lp (fun q => f_X8_ownedBy_b4 n sl q.1 q.2 v1) fu (v3, v2)
noncomputable def f_X8_ownedBy (n : Nat) (sl : MV) (v1 : Int32) : Option (Int32) :=
  bd (f_X8_ownedBy_l4 n n sl v1 0 0) fun v2_6 =>
  some v2_6
set_option maxHeartbeats 4000000 in
set_option maxRecDepth 100000 in
theorem c_X8_ownedBy (l : Launch) (G : va_G) (ct : Nat → ClassId) (sk sv : Nat → Nat) (a : Nat → Nat) (n : Nat) (sl : MV) (v1 : Int32) {r : Int32} (hf : f_X8_ownedBy n sl v1 = some r) : Ctr (l, G, ct, sk, sv) mX8_ownedBy 0 0 [.ref (a 0), .int v1] (wl [lfS ct a sl]) (wl [lfS ct a sl]) (some (.int r)) := by
  refine ctr_intro (by decide) (Nat.le_of_ble_eq_true rfl) ?_
  intro p e s m args below meth c A C hP hD hS hA ls hl
  obtain ⟨hx, hb, hml, hown, hts, hr, hlocks, hK, hnm, hZ⟩ := C
  have hb : c.code = cX8_ownedBy := hb
  have hml : c.maxLocals = 4 := hml
  have hown : s.vm.findClass "SignedOutside$Slips" = some m.cls := hown
  have hr : meth.sig.returnType = some .int := hr
  have hP : va_P G classes (wl [lfS ct a sl]) s.heap := hP
  have hD : va_D A (wl [lfS ct a sl]) := hD
  have hK : va_K G classes (TYS ct) s := hK
  have hl : lv_has ls 4 [(0, .ref (a 0)), (1, .int v1)] := hl
  have L4 : ∀ (fu : Nat) (v1 : Int32) (v3 : Int32) (v2 : Int32) (ex : Int32) (H : Heap) (locs : List Loc) (ls : Array Slot), va_P G classes (wl [lfS ct a sl]) H → va_D A (wl [lfS ct a sl]) → va_S A s.heap H locs → lv_has ls 4 [(3, .int v3), (2, .int v2), (0, .ref (a 0)), (1, .int v1)] → f_X8_ownedBy_l4 fu n sl v1 v3 v2 = some ex → (∀ (x : Int32), ex = x → ∀ (H : Heap) (locs : List Loc) (ls : Array Slot), va_P G classes (wl [lfS ct a sl]) H → va_D A (wl [lfS ct a sl]) → va_S A s.heap H locs → lv_has ls 4 [(2, .int x)] → WG l G ct sk sv p e (RM 0 0 0 0) s m args below meth c A (Eq2 (some (.int r)) (wl [lfS ct a sl])) H locs (F0 m 34 ls [])) → WG l G ct sk sv p e (RM 0 0 0 0) s m args below meth c A (Eq2 (some (.int r)) (wl [lfS ct a sl])) H locs (F0 m 4 ls []) := by
    intro fu
    induction fu with
    | zero =>
      intro v1 v3 v2 ex H locs ls hP hD hS hl hf
      exact absurd hf (by unfold f_X8_ownedBy_l4 lp; exact fun h => by cases h)
    | succ fu ih =>
      intro v1 v3 v2 ex H locs ls hP hD hS hl hf hE
      unfold f_X8_ownedBy_l4 at hf
      obtain ⟨q, hf, hor⟩ := lp_e hf
      have J28 : ∀ (v3 : Int32) (v2 : Int32) (H : Heap) (locs : List Loc) (ls : Array Slot), va_P G classes (wl [lfS ct a sl]) H → va_D A (wl [lfS ct a sl]) → va_S A s.heap H locs → lv_has ls 4 [(3, .int v3), (2, .int v2), (0, .ref (a 0)), (1, .int v1)] → f_X8_ownedBy_j28 n sl v3 v2 v1 = some q → WG l G ct sk sv p e (RM 0 0 0 0) s m args below meth c A (Eq2 (some (.int r)) (wl [lfS ct a sl])) H locs (F0 m 28 ls []) := by
        intro v3 v2 H locs ls hP hD hS hl hf
        unfold f_X8_ownedBy_j28 at hf
        obtain ⟨v3_1, ev3_1, hf⟩ := bl_e hf
        refine lv_iinc (v := v3_1) (lv' := [(3, .int v3_1), (2, .int v2), (0, .ref (a 0)), (1, .int v1)]) hx hb dX8_ownedBy_28 hl (k := 0) rfl ev3_1 (by decide) rfl (fun ls hl => ?_)
        refine lv_goto (tgt := 4) hx hb dX8_ownedBy_31 (by decide) ?_
        exact ih v1 v3_1 v2 ex _ _ _ hP hD hS hl (lp_inl hor hf) hE
      replace hf : f_X8_ownedBy_b4 n sl v3 v2 v1 = some q := hf
      unfold f_X8_ownedBy_b4 at hf
      refine lv_iload_n hx hb dX8_ownedBy_4 rfl (lv_at hl 0 rfl) ?_
      refine lv_aload_n hx hb dX8_ownedBy_5 rfl (lv_at hl 2 rfl) ?_
      refine va_get (D := G) (C := RX8) (T := TX8) (N := 4) (v := .int (sl.1 0)) hx hb hts iu_X8 hown hK hP 0 rfl rfl 0 (by decide) (hts _ kw85) (fun _ h9 => h9) rfl dX8_ownedBy_6 ?_
      refine lv_icmp_ge (tgt := 34) hx hb dX8_ownedBy_9 (by decide) (fun c_2 => ?_) (fun c_2 => ?_)
      · replace hf := bc_t hf c_2
        exact hE v2 (lp_inr hor hf).symm _ _ _ hP hD hS (lv_sub hl [1] rfl)
      · replace hf := bc_f hf c_2
        refine lv_aload_n hx hb dX8_ownedBy_12 rfl (lv_at hl 2 rfl) ?_
        refine va_get (D := G) (C := RX8) (T := TX8) (N := 4) (v := .ref (a 1)) hx hb hts iu_X8 hown hK hP 0 rfl rfl 1 (by decide) (hts _ kw88) (fun _ h9 => h9) rfl dX8_ownedBy_13 ?_
        refine lv_iload_n hx hb dX8_ownedBy_16 rfl (lv_at hl 0 rfl) ?_
        obtain ⟨g_3, hf⟩ := gd_e hf
        refine va_iald (f := sl.2.1 0) hx hb hK hP 1 0 rfl rfl g_3 dX8_ownedBy_17 ?_
        refine lv_iload_n hx hb dX8_ownedBy_18 rfl (lv_at hl 3 rfl) ?_
        refine lv_icmp_ne (tgt := 28) hx hb dX8_ownedBy_19 (by decide) (fun c_4 => ?_) (fun c_4 => ?_)
        · replace hf := bc_f hf c_4
          exact J28 v3 v2 _ _ _ hP hD hS hl hf
        · replace hf := bc_t hf c_4
          refine lv_iload_n hx hb dX8_ownedBy_22 rfl (lv_at hl 1 rfl) ?_
          refine lv_iconst (v := 1) hx hb dX8_ownedBy_23 (by decide) ?_
          refine lv_iload_n hx hb dX8_ownedBy_24 rfl (lv_at hl 0 rfl) ?_
          refine lv_ishl hx hb dX8_ownedBy_25 ?_
          refine lv_ior hx hb dX8_ownedBy_26 ?_
          refine lv_topi (fun v2_5 ev2_5 => ?_)
          replace hf := bl_i hf ev2_5
          refine lv_istore_n (lv' := [(2, .int v2_5), (3, .int v3), (0, .ref (a 0)), (1, .int v1)]) hx hb dX8_ownedBy_27 rfl hl (by decide) rfl (fun ls hl => ?_)
          exact J28 v3 v2_5 _ _ _ hP hD hS (lv_sub hl [1, 0, 2, 3] rfl) hf
  unfold f_X8_ownedBy at hf
  show WG l G ct sk sv p e (RM 0 0 0 0) s m args below meth c A (Eq2 (some (.int r)) (wl [lfS ct a sl])) s.heap [] (F0 m 0 ls [])
  refine lv_iconst (v := 0) hx hb dX8_ownedBy_0 (by decide) ?_
  refine lv_istore_n (lv' := [(2, .int 0), (0, .ref (a 0)), (1, .int v1)]) hx hb dX8_ownedBy_1 rfl hl (by decide) rfl (fun ls hl => ?_)
  refine lv_iconst (v := 0) hx hb dX8_ownedBy_2 (by decide) ?_
  refine lv_istore_n (lv' := [(3, .int 0), (2, .int 0), (0, .ref (a 0)), (1, .int v1)]) hx hb dX8_ownedBy_3 rfl hl (by decide) rfl (fun ls hl => ?_)
  obtain ⟨v2_6, hx_7, hf⟩ := bd_e hf
  refine L4 n v1 0 0 v2_6 _ _ _ hP hD hS hl hx_7 ?_
  intro x9 e9 H locs ls hP hD hS hl
  subst e9
  have hP : va_P G classes (wl [lfS ct a sl]) H := hP
  have hD : va_D A (wl [lfS ct a sl]) := hD
  have hl : lv_has ls 4 [(2, .int v2_6)] := hl
  refine lv_iload_n hx hb dX8_ownedBy_34 rfl (lv_at hl 0 rfl) ?_
  have e1 := Option.some.inj hf
  exact end_i (w' := (wl [lfS ct a sl])) hx hb hr hlocks hK hP hD hS dX8_ownedBy_35  ⟨by rw [← e1], rfl⟩
noncomputable def f_X8_onDay_j38 (n : Nat) (sl : MV) (v4 : Int32) (v3 : Int32) (v2 : Int32) : Option ((Int32 × Int32) ⊕ (Int32)) :=
  bl (v4 + 1) fun v4_1 =>
  some (.inl (v4_1, v3))
noncomputable def f_X8_onDay_b9 (n : Nat) (sl : MV) (v4 : Int32) (v3 : Int32) (v2 : Int32) : Option ((Int32 × Int32) ⊕ (Int32)) :=
  bc ((sl.1 0) ≤ v4) (some (.inr v3))
  (gd (vp_in v4 6) <|
  bc ((sl.2.1 1 (ix v4)) = v2) (f_X8_onDay_j38 n sl v4 v3 v2)
  (bl (v3 &&& ((1 <<< (v4 &&& 31)) ^^^ (-1))) fun v3_5 =>
  f_X8_onDay_j38 n sl v4 v3_5 v2))
noncomputable def f_X8_onDay_l9 (fu : Nat) (n : Nat) (sl : MV) (v2 : Int32) (v4 : Int32) (v3 : Int32) : Option (Int32) :=
  lp (fun q => f_X8_onDay_b9 n sl q.1 q.2 v2) fu (v4, v3)
noncomputable def f_X8_onDay (n : Nat) (sl : MV) (v1 : Int32) (v2 : Int32) : Option (Int32) :=
  bd (f_X8_ownedBy n sl v1) fun r_6 =>
  bd (f_X8_onDay_l9 n n sl v2 0 r_6) fun v3_7 =>
  some v3_7
set_option maxHeartbeats 4000000 in
set_option maxRecDepth 100000 in
theorem c_X8_onDay (l : Launch) (G : va_G) (ct : Nat → ClassId) (sk sv : Nat → Nat) (a : Nat → Nat) (n : Nat) (sl : MV) (v1 : Int32) (v2 : Int32) {r : Int32} (hf : f_X8_onDay n sl v1 v2 = some r) : Ctr (l, G, ct, sk, sv) mX8_onDay 1 23 [.ref (a 0), .int v1, .int v2] (wl [lfS ct a sl]) (wl [lfS ct a sl]) (some (.int r)) := by
  refine ctr_intro (by decide) (Nat.le_of_ble_eq_true rfl) ?_
  intro p e s m args below meth c A C hP hD hS hA ls hl
  obtain ⟨hx, hb, hml, hown, hts, hr, hlocks, hK, hnm, hZ⟩ := C
  have hb : c.code = cX8_onDay := hb
  have hml : c.maxLocals = 5 := hml
  have hown : s.vm.findClass "SignedOutside$Slips" = some m.cls := hown
  have hr : meth.sig.returnType = some .int := hr
  have hP : va_P G classes (wl [lfS ct a sl]) s.heap := hP
  have hD : va_D A (wl [lfS ct a sl]) := hD
  have hK : va_K G classes (TYS ct) s := hK
  have hl : lv_has ls 5 [(0, .ref (a 0)), (1, .int v1), (2, .int v2)] := hl
  have L9 : ∀ (fu : Nat) (v2 : Int32) (v4 : Int32) (v3 : Int32) (ex : Int32) (H : Heap) (locs : List Loc) (ls : Array Slot), va_P G classes (wl [lfS ct a sl]) H → va_D A (wl [lfS ct a sl]) → va_S A s.heap H locs → lv_has ls 5 [(4, .int v4), (3, .int v3), (0, .ref (a 0)), (2, .int v2)] → f_X8_onDay_l9 fu n sl v2 v4 v3 = some ex → (∀ (x : Int32), ex = x → ∀ (H : Heap) (locs : List Loc) (ls : Array Slot), va_P G classes (wl [lfS ct a sl]) H → va_D A (wl [lfS ct a sl]) → va_S A s.heap H locs → lv_has ls 5 [(3, .int x)] → WG l G ct sk sv p e (RM 1 23 0 0) s m args below meth c A (Eq2 (some (.int r)) (wl [lfS ct a sl])) H locs (F0 m 44 ls [])) → WG l G ct sk sv p e (RM 1 23 0 0) s m args below meth c A (Eq2 (some (.int r)) (wl [lfS ct a sl])) H locs (F0 m 9 ls []) := by
    intro fu
    induction fu with
    | zero =>
      intro v2 v4 v3 ex H locs ls hP hD hS hl hf
      exact absurd hf (by unfold f_X8_onDay_l9 lp; exact fun h => by cases h)
    | succ fu ih =>
      intro v2 v4 v3 ex H locs ls hP hD hS hl hf hE
      unfold f_X8_onDay_l9 at hf
      obtain ⟨q, hf, hor⟩ := lp_e hf
      have J38 : ∀ (v4 : Int32) (v3 : Int32) (H : Heap) (locs : List Loc) (ls : Array Slot), va_P G classes (wl [lfS ct a sl]) H → va_D A (wl [lfS ct a sl]) → va_S A s.heap H locs → lv_has ls 5 [(4, .int v4), (3, .int v3), (0, .ref (a 0)), (2, .int v2)] → f_X8_onDay_j38 n sl v4 v3 v2 = some q → WG l G ct sk sv p e (RM 1 23 0 0) s m args below meth c A (Eq2 (some (.int r)) (wl [lfS ct a sl])) H locs (F0 m 38 ls []) := by
        intro v4 v3 H locs ls hP hD hS hl hf
        unfold f_X8_onDay_j38 at hf
        obtain ⟨v4_1, ev4_1, hf⟩ := bl_e hf
        refine lv_iinc (v := v4_1) (lv' := [(4, .int v4_1), (3, .int v3), (0, .ref (a 0)), (2, .int v2)]) hx hb dX8_onDay_38 hl (k := 0) rfl ev4_1 (by decide) rfl (fun ls hl => ?_)
        refine lv_goto (tgt := 9) hx hb dX8_onDay_41 (by decide) ?_
        exact ih v2 v4_1 v3 ex _ _ _ hP hD hS hl (lp_inl hor hf) hE
      replace hf : f_X8_onDay_b9 n sl v4 v3 v2 = some q := hf
      unfold f_X8_onDay_b9 at hf
      refine lv_iload hx hb dX8_onDay_9 (lv_at hl 0 rfl) ?_
      refine lv_aload_n hx hb dX8_onDay_11 rfl (lv_at hl 2 rfl) ?_
      refine va_get (D := G) (C := RX8) (T := TX8) (N := 4) (v := .int (sl.1 0)) hx hb hts iu_X8 hown hK hP 0 rfl rfl 0 (by decide) (hts _ kw85) (fun _ h9 => h9) rfl dX8_onDay_12 ?_
      refine lv_icmp_ge (tgt := 44) hx hb dX8_onDay_15 (by decide) (fun c_2 => ?_) (fun c_2 => ?_)
      · replace hf := bc_t hf c_2
        exact hE v3 (lp_inr hor hf).symm _ _ _ hP hD hS (lv_sub hl [1] rfl)
      · replace hf := bc_f hf c_2
        refine lv_aload_n hx hb dX8_onDay_18 rfl (lv_at hl 2 rfl) ?_
        refine va_get (D := G) (C := RX8) (T := TX8) (N := 4) (v := .ref (a 2)) hx hb hts iu_X8 hown hK hP 0 rfl rfl 2 (by decide) (hts _ kw90) (fun _ h9 => h9) rfl dX8_onDay_19 ?_
        refine lv_iload hx hb dX8_onDay_22 (lv_at hl 0 rfl) ?_
        obtain ⟨g_3, hf⟩ := gd_e hf
        refine va_iald (f := sl.2.1 1) hx hb hK hP 2 0 rfl rfl g_3 dX8_onDay_24 ?_
        refine lv_iload_n hx hb dX8_onDay_25 rfl (lv_at hl 3 rfl) ?_
        refine lv_icmp_eq (tgt := 38) hx hb dX8_onDay_26 (by decide) (fun c_4 => ?_) (fun c_4 => ?_)
        · replace hf := bc_t hf c_4
          exact J38 v4 v3 _ _ _ hP hD hS hl hf
        · replace hf := bc_f hf c_4
          refine lv_iload_n hx hb dX8_onDay_29 rfl (lv_at hl 1 rfl) ?_
          refine lv_iconst (v := 1) hx hb dX8_onDay_30 (by decide) ?_
          refine lv_iload hx hb dX8_onDay_31 (lv_at hl 0 rfl) ?_
          refine lv_ishl hx hb dX8_onDay_33 ?_
          refine lv_iconst (v := (-1)) hx hb dX8_onDay_34 (by decide) ?_
          refine lv_ixor hx hb dX8_onDay_35 ?_
          refine lv_iand hx hb dX8_onDay_36 ?_
          refine lv_topi (fun v3_5 ev3_5 => ?_)
          replace hf := bl_i hf ev3_5
          refine lv_istore_n (lv' := [(3, .int v3_5), (4, .int v4), (0, .ref (a 0)), (2, .int v2)]) hx hb dX8_onDay_37 rfl hl (by decide) rfl (fun ls hl => ?_)
          exact J38 v4 v3_5 _ _ _ hP hD hS (lv_sub hl [1, 0, 2, 3] rfl) hf
  unfold f_X8_onDay at hf
  show WG l G ct sk sv p e (RM 1 23 0 0) s m args below meth c A (Eq2 (some (.int r)) (wl [lfS ct a sl])) s.heap [] (F0 m 0 ls [])
  refine lv_aload_n hx hb dX8_onDay_0 rfl (lv_at hl 0 rfl) ?_
  refine lv_iload_n hx hb dX8_onDay_1 rfl (lv_at hl 1 rfl) ?_
  obtain ⟨r_6, hc6, hf⟩ := bd_e hf
  refine call_V (As := [.int v1]) (rest := []) hx hb hml hown hts hK hP hD hS hA hZ lkX8_31 (c_X8_ownedBy l G ct sk sv a n sl v1 hc6) 0 rfl rfl ⟨Nat.le_of_ble_eq_true rfl, Nat.le_of_ble_eq_true rfl⟩ rfl hl.1 rfl (Nat.le_of_ble_eq_true rfl) dX8_onDay_2 ⟨Nat.le_of_ble_eq_true rfl, Nat.le_of_ble_eq_true rfl⟩ (fun r9 w9 H locs hB hP hD hS => ?_)
  obtain ⟨rfl, rfl⟩ := hB
  refine WG_eq (g2 := F0 m 5 ls [.int r_6]) rfl ?_
  refine lv_istore_n (lv' := [(3, .int r_6), (0, .ref (a 0)), (1, .int v1), (2, .int v2)]) hx hb dX8_onDay_5 rfl hl (by decide) rfl (fun ls hl => ?_)
  refine lv_iconst (v := 0) hx hb dX8_onDay_6 (by decide) ?_
  refine lv_istore (lv' := [(4, .int 0), (3, .int r_6), (0, .ref (a 0)), (1, .int v1), (2, .int v2)]) hx hb dX8_onDay_7 hl (by decide) rfl (fun ls hl => ?_)
  obtain ⟨v3_7, hx_8, hf⟩ := bd_e hf
  refine L9 n v2 0 r_6 v3_7 _ _ _ hP hD hS (lv_sub hl [0, 1, 2, 4] rfl) hx_8 ?_
  intro x9 e9 H locs ls hP hD hS hl
  subst e9
  have hP : va_P G classes (wl [lfS ct a sl]) H := hP
  have hD : va_D A (wl [lfS ct a sl]) := hD
  have hl : lv_has ls 5 [(3, .int v3_7)] := hl
  refine lv_iload_n hx hb dX8_onDay_44 rfl (lv_at hl 0 rfl) ?_
  have e1 := Option.some.inj hf
  exact end_i (w' := (wl [lfS ct a sl])) hx hb hr hlocks hK hP hD hS dX8_onDay_45  ⟨by rw [← e1], rfl⟩
noncomputable def f_X8_lowest_j38 (n : Nat) (sl : MV) (v4 : Int32) (v3 : Int32) (v1 : Int32) (v2 : Int32) : Option ((Int32 × Int32) ⊕ (Int32)) :=
  bl (v4 + 1) fun v4_1 =>
  some (.inl (v4_1, v3))
noncomputable def f_X8_lowest_b5 (n : Nat) (sl : MV) (v4 : Int32) (v3 : Int32) (v1 : Int32) (v2 : Int32) : Option ((Int32 × Int32) ⊕ (Int32)) :=
  bc ((sl.1 0) ≤ v4) (some (.inr v3))
  (bc (((v1 >>> (v4 &&& 31)) &&& 1) = 1) (gd (vp_in v4 6) <|
  bl (if v3 < ((sl.2.1 2 (ix v4)) - v2) then ((sl.2.1 2 (ix v4)) - v2) else v3) fun w_5 =>
  f_X8_lowest_j38 n sl v4 w_5 v1 v2)
  (f_X8_lowest_j38 n sl v4 v3 v1 v2))
noncomputable def f_X8_lowest_l5 (fu : Nat) (n : Nat) (sl : MV) (v1 : Int32) (v2 : Int32) (v4 : Int32) (v3 : Int32) : Option (Int32) :=
  lp (fun q => f_X8_lowest_b5 n sl q.1 q.2 v1 v2) fu (v4, v3)
noncomputable def f_X8_lowest (n : Nat) (sl : MV) (v1 : Int32) (v2 : Int32) : Option (Int32) :=
  bd (f_X8_lowest_l5 n n sl v1 v2 0 0) fun v3_6 =>
  some v3_6
set_option maxHeartbeats 4000000 in
set_option maxRecDepth 100000 in
theorem c_X8_lowest (l : Launch) (G : va_G) (ct : Nat → ClassId) (sk sv : Nat → Nat) (a : Nat → Nat) (n : Nat) (sl : MV) (v1 : Int32) (v2 : Int32) {r : Int32} (hf : f_X8_lowest n sl v1 v2 = some r) : Ctr (l, G, ct, sk, sv) mX8_lowest 1 64 [.ref (a 0), .int v1, .int v2] (wl [lfS ct a sl]) (wl [lfS ct a sl]) (some (.int r)) := by
  refine ctr_intro (by decide) (Nat.le_of_ble_eq_true rfl) ?_
  intro p e s m args below meth c A C hP hD hS hA ls hl
  obtain ⟨hx, hb, hml, hown, hts, hr, hlocks, hK, hnm, hZ⟩ := C
  have hb : c.code = cX8_lowest := hb
  have hml : c.maxLocals = 5 := hml
  have hown : s.vm.findClass "SignedOutside$Slips" = some m.cls := hown
  have hr : meth.sig.returnType = some .int := hr
  have hP : va_P G classes (wl [lfS ct a sl]) s.heap := hP
  have hD : va_D A (wl [lfS ct a sl]) := hD
  have hK : va_K G classes (TYS ct) s := hK
  have hl : lv_has ls 5 [(0, .ref (a 0)), (1, .int v1), (2, .int v2)] := hl
  have L5 : ∀ (fu : Nat) (v1 : Int32) (v2 : Int32) (v4 : Int32) (v3 : Int32) (ex : Int32) (H : Heap) (locs : List Loc) (ls : Array Slot), va_P G classes (wl [lfS ct a sl]) H → va_D A (wl [lfS ct a sl]) → va_S A s.heap H locs → lv_has ls 5 [(4, .int v4), (3, .int v3), (0, .ref (a 0)), (1, .int v1), (2, .int v2)] → f_X8_lowest_l5 fu n sl v1 v2 v4 v3 = some ex → (∀ (x : Int32), ex = x → ∀ (H : Heap) (locs : List Loc) (ls : Array Slot), va_P G classes (wl [lfS ct a sl]) H → va_D A (wl [lfS ct a sl]) → va_S A s.heap H locs → lv_has ls 5 [(3, .int x)] → WG l G ct sk sv p e (RM 1 64 0 0) s m args below meth c A (Eq2 (some (.int r)) (wl [lfS ct a sl])) H locs (F0 m 44 ls [])) → WG l G ct sk sv p e (RM 1 64 0 0) s m args below meth c A (Eq2 (some (.int r)) (wl [lfS ct a sl])) H locs (F0 m 5 ls []) := by
    intro fu
    induction fu with
    | zero =>
      intro v1 v2 v4 v3 ex H locs ls hP hD hS hl hf
      exact absurd hf (by unfold f_X8_lowest_l5 lp; exact fun h => by cases h)
    | succ fu ih =>
      intro v1 v2 v4 v3 ex H locs ls hP hD hS hl hf hE
      unfold f_X8_lowest_l5 at hf
      obtain ⟨q, hf, hor⟩ := lp_e hf
      have J38 : ∀ (v4 : Int32) (v3 : Int32) (H : Heap) (locs : List Loc) (ls : Array Slot), va_P G classes (wl [lfS ct a sl]) H → va_D A (wl [lfS ct a sl]) → va_S A s.heap H locs → lv_has ls 5 [(4, .int v4), (3, .int v3), (0, .ref (a 0)), (1, .int v1), (2, .int v2)] → f_X8_lowest_j38 n sl v4 v3 v1 v2 = some q → WG l G ct sk sv p e (RM 1 64 0 0) s m args below meth c A (Eq2 (some (.int r)) (wl [lfS ct a sl])) H locs (F0 m 38 ls []) := by
        intro v4 v3 H locs ls hP hD hS hl hf
        unfold f_X8_lowest_j38 at hf
        obtain ⟨v4_1, ev4_1, hf⟩ := bl_e hf
        refine lv_iinc (v := v4_1) (lv' := [(4, .int v4_1), (3, .int v3), (0, .ref (a 0)), (1, .int v1), (2, .int v2)]) hx hb dX8_lowest_38 hl (k := 0) rfl ev4_1 (by decide) rfl (fun ls hl => ?_)
        refine lv_goto (tgt := 5) hx hb dX8_lowest_41 (by decide) ?_
        exact ih v1 v2 v4_1 v3 ex _ _ _ hP hD hS hl (lp_inl hor hf) hE
      replace hf : f_X8_lowest_b5 n sl v4 v3 v1 v2 = some q := hf
      unfold f_X8_lowest_b5 at hf
      refine lv_iload hx hb dX8_lowest_5 (lv_at hl 0 rfl) ?_
      refine lv_aload_n hx hb dX8_lowest_7 rfl (lv_at hl 2 rfl) ?_
      refine va_get (D := G) (C := RX8) (T := TX8) (N := 4) (v := .int (sl.1 0)) hx hb hts iu_X8 hown hK hP 0 rfl rfl 0 (by decide) (hts _ kw85) (fun _ h9 => h9) rfl dX8_lowest_8 ?_
      refine lv_icmp_ge (tgt := 44) hx hb dX8_lowest_11 (by decide) (fun c_2 => ?_) (fun c_2 => ?_)
      · replace hf := bc_t hf c_2
        exact hE v3 (lp_inr hor hf).symm _ _ _ hP hD hS (lv_sub hl [1] rfl)
      · replace hf := bc_f hf c_2
        refine lv_iload_n hx hb dX8_lowest_14 rfl (lv_at hl 3 rfl) ?_
        refine lv_iload hx hb dX8_lowest_15 (lv_at hl 0 rfl) ?_
        refine lv_ishr hx hb dX8_lowest_17 ?_
        refine lv_iconst (v := 1) hx hb dX8_lowest_18 (by decide) ?_
        refine lv_iand hx hb dX8_lowest_19 ?_
        refine lv_iconst (v := 1) hx hb dX8_lowest_20 (by decide) ?_
        refine lv_icmp_ne (tgt := 38) hx hb dX8_lowest_21 (by decide) (fun c_3 => ?_) (fun c_3 => ?_)
        · replace hf := bc_f hf c_3
          exact J38 v4 v3 _ _ _ hP hD hS hl hf
        · replace hf := bc_t hf c_3
          refine lv_iload_n hx hb dX8_lowest_24 rfl (lv_at hl 1 rfl) ?_
          refine lv_aload_n hx hb dX8_lowest_25 rfl (lv_at hl 2 rfl) ?_
          refine va_get (D := G) (C := RX8) (T := TX8) (N := 4) (v := .ref (a 3)) hx hb hts iu_X8 hown hK hP 0 rfl rfl 3 (by decide) (hts _ kw92) (fun _ h9 => h9) rfl dX8_lowest_26 ?_
          refine lv_iload hx hb dX8_lowest_29 (lv_at hl 0 rfl) ?_
          obtain ⟨g_4, hf⟩ := gd_e hf
          refine va_iald (f := sl.2.1 2) hx hb hK hP 3 0 rfl rfl g_4 dX8_lowest_31 ?_
          refine lv_iload_n hx hb dX8_lowest_32 rfl (lv_at hl 4 rfl) ?_
          refine lv_isub hx hb dX8_lowest_33 ?_
          refine va_mmax hx hb (hml.trans hl.1.symm) hown (hts _ kw763) (hts _ kw664) (hts _ kw18) (hts _ kw665) (Nat.le_of_ble_eq_true rfl) (Nat.le_of_ble_eq_true rfl) (Nat.le_of_ble_eq_true rfl) (Nat.le_of_ble_eq_true rfl) dX8_lowest_34 ?_
          refine lv_topi (fun w_5 ew_5 => ?_)
          replace hf := bl_i hf ew_5
          refine lv_istore_n (lv' := [(3, .int w_5), (4, .int v4), (0, .ref (a 0)), (1, .int v1), (2, .int v2)]) hx hb dX8_lowest_37 rfl hl (by decide) rfl (fun ls hl => ?_)
          exact J38 v4 w_5 _ _ _ hP hD hS (lv_sub hl [1, 0, 2, 3, 4] rfl) hf
  unfold f_X8_lowest at hf
  show WG l G ct sk sv p e (RM 1 64 0 0) s m args below meth c A (Eq2 (some (.int r)) (wl [lfS ct a sl])) s.heap [] (F0 m 0 ls [])
  refine lv_iconst (v := 0) hx hb dX8_lowest_0 (by decide) ?_
  refine lv_istore_n (lv' := [(3, .int 0), (0, .ref (a 0)), (1, .int v1), (2, .int v2)]) hx hb dX8_lowest_1 rfl hl (by decide) rfl (fun ls hl => ?_)
  refine lv_iconst (v := 0) hx hb dX8_lowest_2 (by decide) ?_
  refine lv_istore (lv' := [(4, .int 0), (3, .int 0), (0, .ref (a 0)), (1, .int v1), (2, .int v2)]) hx hb dX8_lowest_3 hl (by decide) rfl (fun ls hl => ?_)
  obtain ⟨v3_6, hx_7, hf⟩ := bd_e hf
  refine L5 n v1 v2 0 0 v3_6 _ _ _ hP hD hS hl hx_7 ?_
  intro x9 e9 H locs ls hP hD hS hl
  subst e9
  have hP : va_P G classes (wl [lfS ct a sl]) H := hP
  have hD : va_D A (wl [lfS ct a sl]) := hD
  have hl : lv_has ls 5 [(3, .int v3_6)] := hl
  refine lv_iload_n hx hb dX8_lowest_44 rfl (lv_at hl 0 rfl) ?_
  have e1 := Option.some.inj hf
  exact end_i (w' := (wl [lfS ct a sl])) hx hb hr hlocks hK hP hD hS dX8_lowest_45  ⟨by rw [← e1], rfl⟩
noncomputable def f_X8_highest_j39 (n : Nat) (sl : MV) (v4 : Int32) (v3 : Int32) (v1 : Int32) (v2 : Int32) : Option ((Int32 × Int32) ⊕ (Int32)) :=
  bl (v4 + 1) fun v4_1 =>
  some (.inl (v4_1, v3))
noncomputable def f_X8_highest_b6 (n : Nat) (sl : MV) (v4 : Int32) (v3 : Int32) (v1 : Int32) (v2 : Int32) : Option ((Int32 × Int32) ⊕ (Int32)) :=
  bc ((sl.1 0) ≤ v4) (some (.inr v3))
  (bc (((v1 >>> (v4 &&& 31)) &&& 1) = 1) (gd (vp_in v4 6) <|
  bl (if ((sl.2.1 2 (ix v4)) + v2) < v3 then ((sl.2.1 2 (ix v4)) + v2) else v3) fun w_5 =>
  f_X8_highest_j39 n sl v4 w_5 v1 v2)
  (f_X8_highest_j39 n sl v4 v3 v1 v2))
noncomputable def f_X8_highest_l6 (fu : Nat) (n : Nat) (sl : MV) (v1 : Int32) (v2 : Int32) (v4 : Int32) (v3 : Int32) : Option (Int32) :=
  lp (fun q => f_X8_highest_b6 n sl q.1 q.2 v1 v2) fu (v4, v3)
noncomputable def f_X8_highest (n : Nat) (sl : MV) (v1 : Int32) (v2 : Int32) : Option (Int32) :=
  bd (f_X8_highest_l6 n n sl v1 v2 0 99) fun v3_6 =>
  some v3_6
set_option maxHeartbeats 4000000 in
set_option maxRecDepth 100000 in
theorem c_X8_highest (l : Launch) (G : va_G) (ct : Nat → ClassId) (sk sv : Nat → Nat) (a : Nat → Nat) (n : Nat) (sl : MV) (v1 : Int32) (v2 : Int32) {r : Int32} (hf : f_X8_highest n sl v1 v2 = some r) : Ctr (l, G, ct, sk, sv) mX8_highest 1 64 [.ref (a 0), .int v1, .int v2] (wl [lfS ct a sl]) (wl [lfS ct a sl]) (some (.int r)) := by
  refine ctr_intro (by decide) (Nat.le_of_ble_eq_true rfl) ?_
  intro p e s m args below meth c A C hP hD hS hA ls hl
  obtain ⟨hx, hb, hml, hown, hts, hr, hlocks, hK, hnm, hZ⟩ := C
  have hb : c.code = cX8_highest := hb
  have hml : c.maxLocals = 5 := hml
  have hown : s.vm.findClass "SignedOutside$Slips" = some m.cls := hown
  have hr : meth.sig.returnType = some .int := hr
  have hP : va_P G classes (wl [lfS ct a sl]) s.heap := hP
  have hD : va_D A (wl [lfS ct a sl]) := hD
  have hK : va_K G classes (TYS ct) s := hK
  have hl : lv_has ls 5 [(0, .ref (a 0)), (1, .int v1), (2, .int v2)] := hl
  have L6 : ∀ (fu : Nat) (v1 : Int32) (v2 : Int32) (v4 : Int32) (v3 : Int32) (ex : Int32) (H : Heap) (locs : List Loc) (ls : Array Slot), va_P G classes (wl [lfS ct a sl]) H → va_D A (wl [lfS ct a sl]) → va_S A s.heap H locs → lv_has ls 5 [(4, .int v4), (3, .int v3), (0, .ref (a 0)), (1, .int v1), (2, .int v2)] → f_X8_highest_l6 fu n sl v1 v2 v4 v3 = some ex → (∀ (x : Int32), ex = x → ∀ (H : Heap) (locs : List Loc) (ls : Array Slot), va_P G classes (wl [lfS ct a sl]) H → va_D A (wl [lfS ct a sl]) → va_S A s.heap H locs → lv_has ls 5 [(3, .int x)] → WG l G ct sk sv p e (RM 1 64 0 0) s m args below meth c A (Eq2 (some (.int r)) (wl [lfS ct a sl])) H locs (F0 m 45 ls [])) → WG l G ct sk sv p e (RM 1 64 0 0) s m args below meth c A (Eq2 (some (.int r)) (wl [lfS ct a sl])) H locs (F0 m 6 ls []) := by
    intro fu
    induction fu with
    | zero =>
      intro v1 v2 v4 v3 ex H locs ls hP hD hS hl hf
      exact absurd hf (by unfold f_X8_highest_l6 lp; exact fun h => by cases h)
    | succ fu ih =>
      intro v1 v2 v4 v3 ex H locs ls hP hD hS hl hf hE
      unfold f_X8_highest_l6 at hf
      obtain ⟨q, hf, hor⟩ := lp_e hf
      have J39 : ∀ (v4 : Int32) (v3 : Int32) (H : Heap) (locs : List Loc) (ls : Array Slot), va_P G classes (wl [lfS ct a sl]) H → va_D A (wl [lfS ct a sl]) → va_S A s.heap H locs → lv_has ls 5 [(4, .int v4), (3, .int v3), (0, .ref (a 0)), (1, .int v1), (2, .int v2)] → f_X8_highest_j39 n sl v4 v3 v1 v2 = some q → WG l G ct sk sv p e (RM 1 64 0 0) s m args below meth c A (Eq2 (some (.int r)) (wl [lfS ct a sl])) H locs (F0 m 39 ls []) := by
        intro v4 v3 H locs ls hP hD hS hl hf
        unfold f_X8_highest_j39 at hf
        obtain ⟨v4_1, ev4_1, hf⟩ := bl_e hf
        refine lv_iinc (v := v4_1) (lv' := [(4, .int v4_1), (3, .int v3), (0, .ref (a 0)), (1, .int v1), (2, .int v2)]) hx hb dX8_highest_39 hl (k := 0) rfl ev4_1 (by decide) rfl (fun ls hl => ?_)
        refine lv_goto (tgt := 6) hx hb dX8_highest_42 (by decide) ?_
        exact ih v1 v2 v4_1 v3 ex _ _ _ hP hD hS hl (lp_inl hor hf) hE
      replace hf : f_X8_highest_b6 n sl v4 v3 v1 v2 = some q := hf
      unfold f_X8_highest_b6 at hf
      refine lv_iload hx hb dX8_highest_6 (lv_at hl 0 rfl) ?_
      refine lv_aload_n hx hb dX8_highest_8 rfl (lv_at hl 2 rfl) ?_
      refine va_get (D := G) (C := RX8) (T := TX8) (N := 4) (v := .int (sl.1 0)) hx hb hts iu_X8 hown hK hP 0 rfl rfl 0 (by decide) (hts _ kw85) (fun _ h9 => h9) rfl dX8_highest_9 ?_
      refine lv_icmp_ge (tgt := 45) hx hb dX8_highest_12 (by decide) (fun c_2 => ?_) (fun c_2 => ?_)
      · replace hf := bc_t hf c_2
        exact hE v3 (lp_inr hor hf).symm _ _ _ hP hD hS (lv_sub hl [1] rfl)
      · replace hf := bc_f hf c_2
        refine lv_iload_n hx hb dX8_highest_15 rfl (lv_at hl 3 rfl) ?_
        refine lv_iload hx hb dX8_highest_16 (lv_at hl 0 rfl) ?_
        refine lv_ishr hx hb dX8_highest_18 ?_
        refine lv_iconst (v := 1) hx hb dX8_highest_19 (by decide) ?_
        refine lv_iand hx hb dX8_highest_20 ?_
        refine lv_iconst (v := 1) hx hb dX8_highest_21 (by decide) ?_
        refine lv_icmp_ne (tgt := 39) hx hb dX8_highest_22 (by decide) (fun c_3 => ?_) (fun c_3 => ?_)
        · replace hf := bc_f hf c_3
          exact J39 v4 v3 _ _ _ hP hD hS hl hf
        · replace hf := bc_t hf c_3
          refine lv_iload_n hx hb dX8_highest_25 rfl (lv_at hl 1 rfl) ?_
          refine lv_aload_n hx hb dX8_highest_26 rfl (lv_at hl 2 rfl) ?_
          refine va_get (D := G) (C := RX8) (T := TX8) (N := 4) (v := .ref (a 3)) hx hb hts iu_X8 hown hK hP 0 rfl rfl 3 (by decide) (hts _ kw92) (fun _ h9 => h9) rfl dX8_highest_27 ?_
          refine lv_iload hx hb dX8_highest_30 (lv_at hl 0 rfl) ?_
          obtain ⟨g_4, hf⟩ := gd_e hf
          refine va_iald (f := sl.2.1 2) hx hb hK hP 3 0 rfl rfl g_4 dX8_highest_32 ?_
          refine lv_iload_n hx hb dX8_highest_33 rfl (lv_at hl 4 rfl) ?_
          refine lv_iadd hx hb dX8_highest_34 ?_
          refine va_mmin hx hb (hml.trans hl.1.symm) hown (hts _ kw756) (hts _ kw757) (hts _ kw18) (hts _ kw758) (Nat.le_of_ble_eq_true rfl) (Nat.le_of_ble_eq_true rfl) (Nat.le_of_ble_eq_true rfl) (Nat.le_of_ble_eq_true rfl) dX8_highest_35 ?_
          refine lv_topi (fun w_5 ew_5 => ?_)
          replace hf := bl_i hf ew_5
          refine lv_istore_n (lv' := [(3, .int w_5), (4, .int v4), (0, .ref (a 0)), (1, .int v1), (2, .int v2)]) hx hb dX8_highest_38 rfl hl (by decide) rfl (fun ls hl => ?_)
          exact J39 v4 w_5 _ _ _ hP hD hS (lv_sub hl [1, 0, 2, 3, 4] rfl) hf
  unfold f_X8_highest at hf
  show WG l G ct sk sv p e (RM 1 64 0 0) s m args below meth c A (Eq2 (some (.int r)) (wl [lfS ct a sl])) s.heap [] (F0 m 0 ls [])
  refine lv_bipush (v := 99) hx hb dX8_highest_0 (by decide) ?_
  refine lv_istore_n (lv' := [(3, .int 99), (0, .ref (a 0)), (1, .int v1), (2, .int v2)]) hx hb dX8_highest_2 rfl hl (by decide) rfl (fun ls hl => ?_)
  refine lv_iconst (v := 0) hx hb dX8_highest_3 (by decide) ?_
  refine lv_istore (lv' := [(4, .int 0), (3, .int 99), (0, .ref (a 0)), (1, .int v1), (2, .int v2)]) hx hb dX8_highest_4 hl (by decide) rfl (fun ls hl => ?_)
  obtain ⟨v3_6, hx_7, hf⟩ := bd_e hf
  refine L6 n v1 v2 0 99 v3_6 _ _ _ hP hD hS hl hx_7 ?_
  intro x9 e9 H locs ls hP hD hS hl
  subst e9
  have hP : va_P G classes (wl [lfS ct a sl]) H := hP
  have hD : va_D A (wl [lfS ct a sl]) := hD
  have hl : lv_has ls 5 [(3, .int v3_6)] := hl
  refine lv_iload_n hx hb dX8_highest_45 rfl (lv_at hl 0 rfl) ?_
  have e1 := Option.some.inj hf
  exact end_i (w' := (wl [lfS ct a sl])) hx hb hr hlocks hK hP hD hS dX8_highest_46  ⟨by rw [← e1], rfl⟩
noncomputable def f_X8_placesFor (n : Nat) (sl : MV) (v1 : Int32) (v2 : Int32) : Option (Int32) :=
  bd (f_X8_highest n sl v1 v2) fun r_1 =>
  bd (f_X8_lowest n sl v1 v2) fun r_2 =>
  bl (if 0 < ((r_1 - r_2) + 1) then ((r_1 - r_2) + 1) else 0) fun w_3 =>
  some w_3
set_option maxHeartbeats 4000000 in
set_option maxRecDepth 100000 in
theorem c_X8_placesFor (l : Launch) (G : va_G) (ct : Nat → ClassId) (sk sv : Nat → Nat) (a : Nat → Nat) (n : Nat) (sl : MV) (v1 : Int32) (v2 : Int32) {r : Int32} (hf : f_X8_placesFor n sl v1 v2 = some r) : Ctr (l, G, ct, sk, sv) mX8_placesFor 2 88 [.ref (a 0), .int v1, .int v2] (wl [lfS ct a sl]) (wl [lfS ct a sl]) (some (.int r)) := by
  refine ctr_intro (by decide) (Nat.le_of_ble_eq_true rfl) ?_
  intro p e s m args below meth c A C hP hD hS hA ls hl
  obtain ⟨hx, hb, hml, hown, hts, hr, hlocks, hK, hnm, hZ⟩ := C
  have hb : c.code = cX8_placesFor := hb
  have hml : c.maxLocals = 3 := hml
  have hown : s.vm.findClass "SignedOutside$Slips" = some m.cls := hown
  have hr : meth.sig.returnType = some .int := hr
  have hP : va_P G classes (wl [lfS ct a sl]) s.heap := hP
  have hD : va_D A (wl [lfS ct a sl]) := hD
  have hK : va_K G classes (TYS ct) s := hK
  have hl : lv_has ls 3 [(0, .ref (a 0)), (1, .int v1), (2, .int v2)] := hl
  unfold f_X8_placesFor at hf
  show WG l G ct sk sv p e (RM 2 88 0 0) s m args below meth c A (Eq2 (some (.int r)) (wl [lfS ct a sl])) s.heap [] (F0 m 0 ls [])
  refine lv_iconst (v := 0) hx hb dX8_placesFor_0 (by decide) ?_
  refine lv_aload_n hx hb dX8_placesFor_1 rfl (lv_at hl 0 rfl) ?_
  refine lv_iload_n hx hb dX8_placesFor_2 rfl (lv_at hl 1 rfl) ?_
  refine lv_iload_n hx hb dX8_placesFor_3 rfl (lv_at hl 2 rfl) ?_
  obtain ⟨r_1, hc1, hf⟩ := bd_e hf
  refine call_V (As := [.int v1, .int v2]) (rest := [.int 0]) hx hb hml hown hts hK hP hD hS hA hZ lkX8_44 (c_X8_highest l G ct sk sv a n sl v1 v2 hc1) 0 rfl rfl ⟨Nat.le_of_ble_eq_true rfl, Nat.le_of_ble_eq_true rfl⟩ rfl hl.1 rfl (Nat.le_of_ble_eq_true rfl) dX8_placesFor_4 ⟨Nat.le_of_ble_eq_true rfl, Nat.le_of_ble_eq_true rfl⟩ (fun r9 w9 H locs hB hP hD hS => ?_)
  obtain ⟨rfl, rfl⟩ := hB
  refine WG_eq (g2 := F0 m 7 ls [.int r_1, .int 0]) rfl ?_
  refine lv_aload_n hx hb dX8_placesFor_7 rfl (lv_at hl 0 rfl) ?_
  refine lv_iload_n hx hb dX8_placesFor_8 rfl (lv_at hl 1 rfl) ?_
  refine lv_iload_n hx hb dX8_placesFor_9 rfl (lv_at hl 2 rfl) ?_
  obtain ⟨r_2, hc2, hf⟩ := bd_e hf
  refine call_V (As := [.int v1, .int v2]) (rest := [.int r_1, .int 0]) hx hb hml hown hts hK hP hD hS hA hZ lkX8_47 (c_X8_lowest l G ct sk sv a n sl v1 v2 hc2) 0 rfl rfl ⟨Nat.le_of_ble_eq_true rfl, Nat.le_of_ble_eq_true rfl⟩ rfl hl.1 rfl (Nat.le_of_ble_eq_true rfl) dX8_placesFor_10 ⟨Nat.le_of_ble_eq_true rfl, Nat.le_of_ble_eq_true rfl⟩ (fun r9 w9 H locs hB hP hD hS => ?_)
  obtain ⟨rfl, rfl⟩ := hB
  refine WG_eq (g2 := F0 m 13 ls [.int r_2, .int r_1, .int 0]) rfl ?_
  refine lv_isub hx hb dX8_placesFor_13 ?_
  refine lv_iconst (v := 1) hx hb dX8_placesFor_14 (by decide) ?_
  refine lv_iadd hx hb dX8_placesFor_15 ?_
  refine va_mmax hx hb (hml.trans hl.1.symm) hown (hts _ kw763) (hts _ kw664) (hts _ kw18) (hts _ kw665) (Nat.le_of_ble_eq_true rfl) (Nat.le_of_ble_eq_true rfl) (Nat.le_of_ble_eq_true rfl) (Nat.le_of_ble_eq_true rfl) dX8_placesFor_16 ?_
  refine lv_topi (fun w_3 ew_3 => ?_)
  replace hf := bl_i hf ew_3
  have e1 := Option.some.inj hf
  exact end_i (w' := (wl [lfS ct a sl])) hx hb hr hlocks hK hP hD hS dX8_placesFor_19  ⟨by rw [← e1], rfl⟩
noncomputable def f_X8_nextPlace_j104 (n : Nat) (sl : MV) (v7 : Int32) (v6 : Int32) (v8 : Int32) (v5 : Int32) (v4 : Int32) (v3 : Int32) (v2 : Int32) : Option ((Int32 × Int32 × Int32) ⊕ (Int32)) :=
  bl (v8 + 1) fun v8_1 =>
  some (.inl (v8_1, v7, v6))
noncomputable def f_X8_nextPlace_j96 (n : Nat) (sl : MV) (v10 : Int32) (v8 : Int32) (v5 : Int32) (v4 : Int32) (v3 : Int32) (v2 : Int32) : Option ((Int32 × Int32 × Int32) ⊕ (Int32)) :=
  f_X8_nextPlace_j104 n sl v10 v8 v8 v5 v4 v3 v2
noncomputable def f_X8_nextPlace_b33 (n : Nat) (sl : MV) (v8 : Int32) (v7 : Int32) (v6 : Int32) (v5 : Int32) (v4 : Int32) (v3 : Int32) (v2 : Int32) : Option ((Int32 × Int32 × Int32) ⊕ (Int32)) :=
  bc (99 < v8) (some (.inr v6))
  (bc (v5 ≤ 0) (some (.inr v6))
  (bl (if (v8 + v2) < v4 then (v8 + v2) else v4) fun w_4 =>
  bl (if v3 < (v8 - v2) then (v8 - v2) else v3) fun w_5 =>
  bl (if 0 < ((w_4 - w_5) + 1) then ((w_4 - w_5) + 1) else 0) fun w_6 =>
  bl (if w_6 < (v5 - w_6) then (v5 - w_6) else w_6) fun w_7 =>
  bc (v6 = (-1)) (f_X8_nextPlace_j96 n sl w_7 v8 v5 v4 v3 v2)
  (bc (v7 ≤ w_7) (f_X8_nextPlace_j104 n sl v7 v6 v8 v5 v4 v3 v2)
  (f_X8_nextPlace_j96 n sl w_7 v8 v5 v4 v3 v2))))
noncomputable def f_X8_nextPlace_l33 (fu : Nat) (n : Nat) (sl : MV) (v5 : Int32) (v4 : Int32) (v3 : Int32) (v2 : Int32) (v8 : Int32) (v7 : Int32) (v6 : Int32) : Option (Int32) :=
  lp (fun q => f_X8_nextPlace_b33 n sl q.1 q.2.1 q.2.2 v5 v4 v3 v2) fu (v8, v7, v6)
noncomputable def f_X8_nextPlace_j110 (n : Nat) (sl : MV) (v6 : Int32) : Option (Int32) :=
  some v6
noncomputable def f_X8_nextPlace (n : Nat) (sl : MV) (v1 : Int32) (v2 : Int32) : Option (Int32) :=
  bd (f_X8_lowest n sl v1 v2) fun r_10 =>
  bd (f_X8_highest n sl v1 v2) fun r_11 =>
  bd (f_X8_placesFor n sl v1 v2) fun r_12 =>
  bd (f_X8_nextPlace_l33 n n sl r_12 r_11 r_10 v2 0 r_12 (-1)) fun v6_13 =>
  f_X8_nextPlace_j110 n sl v6_13
set_option maxHeartbeats 4000000 in
set_option maxRecDepth 100000 in
theorem c_X8_nextPlace (l : Launch) (G : va_G) (ct : Nat → ClassId) (sk sv : Nat → Nat) (a : Nat → Nat) (n : Nat) (sl : MV) (v1 : Int32) (v2 : Int32) {r : Int32} (hf : f_X8_nextPlace n sl v1 v2 = some r) : Ctr (l, G, ct, sk, sv) mX8_nextPlace 3 110 [.ref (a 0), .int v1, .int v2] (wl [lfS ct a sl]) (wl [lfS ct a sl]) (some (.int r)) := by
  refine ctr_intro (by decide) (Nat.le_of_ble_eq_true rfl) ?_
  intro p e s m args below meth c A C hP hD hS hA ls hl
  obtain ⟨hx, hb, hml, hown, hts, hr, hlocks, hK, hnm, hZ⟩ := C
  have hb : c.code = cX8_nextPlace := hb
  have hml : c.maxLocals = 11 := hml
  have hown : s.vm.findClass "SignedOutside$Slips" = some m.cls := hown
  have hr : meth.sig.returnType = some .int := hr
  have hP : va_P G classes (wl [lfS ct a sl]) s.heap := hP
  have hD : va_D A (wl [lfS ct a sl]) := hD
  have hK : va_K G classes (TYS ct) s := hK
  have hl : lv_has ls 11 [(0, .ref (a 0)), (1, .int v1), (2, .int v2)] := hl
  have L33 : ∀ (fu : Nat) (v5 : Int32) (v4 : Int32) (v3 : Int32) (v2 : Int32) (v8 : Int32) (v7 : Int32) (v6 : Int32) (ex : Int32) (H : Heap) (locs : List Loc) (ls : Array Slot), va_P G classes (wl [lfS ct a sl]) H → va_D A (wl [lfS ct a sl]) → va_S A s.heap H locs → lv_has ls 11 [(8, .int v8), (7, .int v7), (6, .int v6), (5, .int v5), (4, .int v4), (3, .int v3), (2, .int v2)] → f_X8_nextPlace_l33 fu n sl v5 v4 v3 v2 v8 v7 v6 = some ex → (∀ (x : Int32), ex = x → ∀ (H : Heap) (locs : List Loc) (ls : Array Slot), va_P G classes (wl [lfS ct a sl]) H → va_D A (wl [lfS ct a sl]) → va_S A s.heap H locs → lv_has ls 11 [(6, .int x)] → WG l G ct sk sv p e (RM 3 110 0 0) s m args below meth c A (Eq2 (some (.int r)) (wl [lfS ct a sl])) H locs (F0 m 110 ls [])) → WG l G ct sk sv p e (RM 3 110 0 0) s m args below meth c A (Eq2 (some (.int r)) (wl [lfS ct a sl])) H locs (F0 m 33 ls []) := by
    intro fu
    induction fu with
    | zero =>
      intro v5 v4 v3 v2 v8 v7 v6 ex H locs ls hP hD hS hl hf
      exact absurd hf (by unfold f_X8_nextPlace_l33 lp; exact fun h => by cases h)
    | succ fu ih =>
      intro v5 v4 v3 v2 v8 v7 v6 ex H locs ls hP hD hS hl hf hE
      unfold f_X8_nextPlace_l33 at hf
      obtain ⟨q, hf, hor⟩ := lp_e hf
      have J104 : ∀ (v7 : Int32) (v6 : Int32) (v8 : Int32) (H : Heap) (locs : List Loc) (ls : Array Slot), va_P G classes (wl [lfS ct a sl]) H → va_D A (wl [lfS ct a sl]) → va_S A s.heap H locs → lv_has ls 11 [(7, .int v7), (6, .int v6), (8, .int v8), (5, .int v5), (4, .int v4), (3, .int v3), (2, .int v2)] → f_X8_nextPlace_j104 n sl v7 v6 v8 v5 v4 v3 v2 = some q → WG l G ct sk sv p e (RM 3 110 0 0) s m args below meth c A (Eq2 (some (.int r)) (wl [lfS ct a sl])) H locs (F0 m 104 ls []) := by
        intro v7 v6 v8 H locs ls hP hD hS hl hf
        unfold f_X8_nextPlace_j104 at hf
        obtain ⟨v8_1, ev8_1, hf⟩ := bl_e hf
        refine lv_iinc (v := v8_1) (lv' := [(8, .int v8_1), (7, .int v7), (6, .int v6), (5, .int v5), (4, .int v4), (3, .int v3), (2, .int v2)]) hx hb dX8_nextPlace_104 hl (k := 2) rfl ev8_1 (by decide) rfl (fun ls hl => ?_)
        refine lv_goto (tgt := 33) hx hb dX8_nextPlace_107 (by decide) ?_
        exact ih v5 v4 v3 v2 v8_1 v7 v6 ex _ _ _ hP hD hS hl (lp_inl hor hf) hE
      have J96 : ∀ (v10 : Int32) (v8 : Int32) (H : Heap) (locs : List Loc) (ls : Array Slot), va_P G classes (wl [lfS ct a sl]) H → va_D A (wl [lfS ct a sl]) → va_S A s.heap H locs → lv_has ls 11 [(10, .int v10), (8, .int v8), (5, .int v5), (4, .int v4), (3, .int v3), (2, .int v2)] → f_X8_nextPlace_j96 n sl v10 v8 v5 v4 v3 v2 = some q → WG l G ct sk sv p e (RM 3 110 0 0) s m args below meth c A (Eq2 (some (.int r)) (wl [lfS ct a sl])) H locs (F0 m 96 ls []) := by
        intro v10 v8 H locs ls hP hD hS hl hf
        unfold f_X8_nextPlace_j96 at hf
        refine lv_iload hx hb dX8_nextPlace_96 (lv_at hl 1 rfl) ?_
        refine lv_istore (lv' := [(6, .int v8), (10, .int v10), (8, .int v8), (5, .int v5), (4, .int v4), (3, .int v3), (2, .int v2)]) hx hb dX8_nextPlace_98 hl (by decide) rfl (fun ls hl => ?_)
        refine lv_iload hx hb dX8_nextPlace_100 (lv_at hl 1 rfl) ?_
        refine lv_istore (lv' := [(7, .int v10), (6, .int v8), (10, .int v10), (8, .int v8), (5, .int v5), (4, .int v4), (3, .int v3), (2, .int v2)]) hx hb dX8_nextPlace_102 hl (by decide) rfl (fun ls hl => ?_)
        exact J104 v10 v8 v8 _ _ _ hP hD hS (lv_sub hl [0, 1, 3, 4, 5, 6, 7] rfl) hf
      replace hf : f_X8_nextPlace_b33 n sl v8 v7 v6 v5 v4 v3 v2 = some q := hf
      unfold f_X8_nextPlace_b33 at hf
      refine lv_iload hx hb dX8_nextPlace_33 (lv_at hl 0 rfl) ?_
      refine lv_bipush (v := 99) hx hb dX8_nextPlace_35 (by decide) ?_
      refine lv_icmp_gt (tgt := 110) hx hb dX8_nextPlace_37 (by decide) (fun c_2 => ?_) (fun c_2 => ?_)
      · replace hf := bc_t hf c_2
        exact hE v6 (lp_inr hor hf).symm _ _ _ hP hD hS (lv_sub hl [2] rfl)
      · replace hf := bc_f hf c_2
        refine lv_iload hx hb dX8_nextPlace_40 (lv_at hl 3 rfl) ?_
        refine lv_if_le (tgt := 110) hx hb dX8_nextPlace_42 (by decide) (fun c_3 => ?_) (fun c_3 => ?_)
        · replace hf := bc_t hf c_3
          exact hE v6 (lp_inr hor hf).symm _ _ _ hP hD hS (lv_sub hl [2] rfl)
        · replace hf := bc_f hf c_3
          refine lv_iconst (v := 0) hx hb dX8_nextPlace_45 (by decide) ?_
          refine lv_iload hx hb dX8_nextPlace_46 (lv_at hl 4 rfl) ?_
          refine lv_iload hx hb dX8_nextPlace_48 (lv_at hl 0 rfl) ?_
          refine lv_iload_n hx hb dX8_nextPlace_50 rfl (lv_at hl 6 rfl) ?_
          refine lv_iadd hx hb dX8_nextPlace_51 ?_
          refine va_mmin hx hb (hml.trans hl.1.symm) hown (hts _ kw756) (hts _ kw757) (hts _ kw18) (hts _ kw758) (Nat.le_of_ble_eq_true rfl) (Nat.le_of_ble_eq_true rfl) (Nat.le_of_ble_eq_true rfl) (Nat.le_of_ble_eq_true rfl) dX8_nextPlace_52 ?_
          refine lv_topi (fun w_4 ew_4 => ?_)
          replace hf := bl_i hf ew_4
          refine lv_iload_n hx hb dX8_nextPlace_55 rfl (lv_at hl 5 rfl) ?_
          refine lv_iload hx hb dX8_nextPlace_56 (lv_at hl 0 rfl) ?_
          refine lv_iload_n hx hb dX8_nextPlace_58 rfl (lv_at hl 6 rfl) ?_
          refine lv_isub hx hb dX8_nextPlace_59 ?_
          refine va_mmax hx hb (hml.trans hl.1.symm) hown (hts _ kw763) (hts _ kw664) (hts _ kw18) (hts _ kw665) (Nat.le_of_ble_eq_true rfl) (Nat.le_of_ble_eq_true rfl) (Nat.le_of_ble_eq_true rfl) (Nat.le_of_ble_eq_true rfl) dX8_nextPlace_60 ?_
          refine lv_topi (fun w_5 ew_5 => ?_)
          replace hf := bl_i hf ew_5
          refine lv_isub hx hb dX8_nextPlace_63 ?_
          refine lv_iconst (v := 1) hx hb dX8_nextPlace_64 (by decide) ?_
          refine lv_iadd hx hb dX8_nextPlace_65 ?_
          refine va_mmax hx hb (hml.trans hl.1.symm) hown (hts _ kw763) (hts _ kw664) (hts _ kw18) (hts _ kw665) (Nat.le_of_ble_eq_true rfl) (Nat.le_of_ble_eq_true rfl) (Nat.le_of_ble_eq_true rfl) (Nat.le_of_ble_eq_true rfl) dX8_nextPlace_66 ?_
          refine lv_topi (fun w_6 ew_6 => ?_)
          replace hf := bl_i hf ew_6
          refine lv_istore (lv' := [(9, .int w_6), (8, .int v8), (7, .int v7), (6, .int v6), (5, .int v5), (4, .int v4), (3, .int v3), (2, .int v2)]) hx hb dX8_nextPlace_69 hl (by decide) rfl (fun ls hl => ?_)
          refine lv_iload hx hb dX8_nextPlace_71 (lv_at hl 0 rfl) ?_
          refine lv_iload hx hb dX8_nextPlace_73 (lv_at hl 4 rfl) ?_
          refine lv_iload hx hb dX8_nextPlace_75 (lv_at hl 0 rfl) ?_
          refine lv_isub hx hb dX8_nextPlace_77 ?_
          refine va_mmax hx hb (hml.trans hl.1.symm) hown (hts _ kw763) (hts _ kw664) (hts _ kw18) (hts _ kw665) (Nat.le_of_ble_eq_true rfl) (Nat.le_of_ble_eq_true rfl) (Nat.le_of_ble_eq_true rfl) (Nat.le_of_ble_eq_true rfl) dX8_nextPlace_78 ?_
          refine lv_topi (fun w_7 ew_7 => ?_)
          replace hf := bl_i hf ew_7
          refine lv_istore (lv' := [(10, .int w_7), (9, .int w_6), (8, .int v8), (7, .int v7), (6, .int v6), (5, .int v5), (4, .int v4), (3, .int v3), (2, .int v2)]) hx hb dX8_nextPlace_81 hl (by decide) rfl (fun ls hl => ?_)
          refine lv_iload hx hb dX8_nextPlace_83 (lv_at hl 4 rfl) ?_
          refine lv_iconst (v := (-1)) hx hb dX8_nextPlace_85 (by decide) ?_
          refine lv_icmp_eq (tgt := 96) hx hb dX8_nextPlace_86 (by decide) (fun c_8 => ?_) (fun c_8 => ?_)
          · replace hf := bc_t hf c_8
            exact J96 w_7 v8 _ _ _ hP hD hS (lv_sub hl [0, 2, 5, 6, 7, 8] rfl) hf
          · replace hf := bc_f hf c_8
            refine lv_iload hx hb dX8_nextPlace_89 (lv_at hl 0 rfl) ?_
            refine lv_iload hx hb dX8_nextPlace_91 (lv_at hl 3 rfl) ?_
            refine lv_icmp_ge (tgt := 104) hx hb dX8_nextPlace_93 (by decide) (fun c_9 => ?_) (fun c_9 => ?_)
            · replace hf := bc_t hf c_9
              exact J104 v7 v6 v8 _ _ _ hP hD hS (lv_sub hl [3, 4, 2, 5, 6, 7, 8] rfl) hf
            · replace hf := bc_f hf c_9
              exact J96 w_7 v8 _ _ _ hP hD hS (lv_sub hl [0, 2, 5, 6, 7, 8] rfl) hf
  have J110 : ∀ (v6 : Int32) (H : Heap) (locs : List Loc) (ls : Array Slot), va_P G classes (wl [lfS ct a sl]) H → va_D A (wl [lfS ct a sl]) → va_S A s.heap H locs → lv_has ls 11 [(6, .int v6)] → f_X8_nextPlace_j110 n sl v6 = some r → WG l G ct sk sv p e (RM 3 110 0 0) s m args below meth c A (Eq2 (some (.int r)) (wl [lfS ct a sl])) H locs (F0 m 110 ls []) := by
    intro v6 H locs ls hP hD hS hl hf
    unfold f_X8_nextPlace_j110 at hf
    refine lv_iload hx hb dX8_nextPlace_110 (lv_at hl 0 rfl) ?_
    have e1 := Option.some.inj hf
    exact end_i (w' := (wl [lfS ct a sl])) hx hb hr hlocks hK hP hD hS dX8_nextPlace_112  ⟨by rw [← e1], rfl⟩
  unfold f_X8_nextPlace at hf
  show WG l G ct sk sv p e (RM 3 110 0 0) s m args below meth c A (Eq2 (some (.int r)) (wl [lfS ct a sl])) s.heap [] (F0 m 0 ls [])
  refine lv_aload_n hx hb dX8_nextPlace_0 rfl (lv_at hl 0 rfl) ?_
  refine lv_iload_n hx hb dX8_nextPlace_1 rfl (lv_at hl 1 rfl) ?_
  refine lv_iload_n hx hb dX8_nextPlace_2 rfl (lv_at hl 2 rfl) ?_
  obtain ⟨r_10, hc10, hf⟩ := bd_e hf
  refine call_V (As := [.int v1, .int v2]) (rest := []) hx hb hml hown hts hK hP hD hS hA hZ lkX8_47 (c_X8_lowest l G ct sk sv a n sl v1 v2 hc10) 0 rfl rfl ⟨Nat.le_of_ble_eq_true rfl, Nat.le_of_ble_eq_true rfl⟩ rfl hl.1 rfl (Nat.le_of_ble_eq_true rfl) dX8_nextPlace_3 ⟨Nat.le_of_ble_eq_true rfl, Nat.le_of_ble_eq_true rfl⟩ (fun r9 w9 H locs hB hP hD hS => ?_)
  obtain ⟨rfl, rfl⟩ := hB
  refine WG_eq (g2 := F0 m 6 ls [.int r_10]) rfl ?_
  refine lv_istore_n (lv' := [(3, .int r_10), (0, .ref (a 0)), (1, .int v1), (2, .int v2)]) hx hb dX8_nextPlace_6 rfl hl (by decide) rfl (fun ls hl => ?_)
  refine lv_aload_n hx hb dX8_nextPlace_7 rfl (lv_at hl 1 rfl) ?_
  refine lv_iload_n hx hb dX8_nextPlace_8 rfl (lv_at hl 2 rfl) ?_
  refine lv_iload_n hx hb dX8_nextPlace_9 rfl (lv_at hl 3 rfl) ?_
  obtain ⟨r_11, hc11, hf⟩ := bd_e hf
  refine call_V (As := [.int v1, .int v2]) (rest := []) hx hb hml hown hts hK hP hD hS hA hZ lkX8_44 (c_X8_highest l G ct sk sv a n sl v1 v2 hc11) 0 rfl rfl ⟨Nat.le_of_ble_eq_true rfl, Nat.le_of_ble_eq_true rfl⟩ rfl hl.1 rfl (Nat.le_of_ble_eq_true rfl) dX8_nextPlace_10 ⟨Nat.le_of_ble_eq_true rfl, Nat.le_of_ble_eq_true rfl⟩ (fun r9 w9 H locs hB hP hD hS => ?_)
  obtain ⟨rfl, rfl⟩ := hB
  refine WG_eq (g2 := F0 m 13 ls [.int r_11]) rfl ?_
  refine lv_istore (lv' := [(4, .int r_11), (3, .int r_10), (0, .ref (a 0)), (1, .int v1), (2, .int v2)]) hx hb dX8_nextPlace_13 hl (by decide) rfl (fun ls hl => ?_)
  refine lv_aload_n hx hb dX8_nextPlace_15 rfl (lv_at hl 2 rfl) ?_
  refine lv_iload_n hx hb dX8_nextPlace_16 rfl (lv_at hl 3 rfl) ?_
  refine lv_iload_n hx hb dX8_nextPlace_17 rfl (lv_at hl 4 rfl) ?_
  obtain ⟨r_12, hc12, hf⟩ := bd_e hf
  refine call_V (As := [.int v1, .int v2]) (rest := []) hx hb hml hown hts hK hP hD hS hA hZ lkX8_50 (c_X8_placesFor l G ct sk sv a n sl v1 v2 hc12) 0 rfl rfl ⟨Nat.le_of_ble_eq_true rfl, Nat.le_of_ble_eq_true rfl⟩ rfl hl.1 rfl (Nat.le_of_ble_eq_true rfl) dX8_nextPlace_18 ⟨Nat.le_of_ble_eq_true rfl, Nat.le_of_ble_eq_true rfl⟩ (fun r9 w9 H locs hB hP hD hS => ?_)
  obtain ⟨rfl, rfl⟩ := hB
  refine WG_eq (g2 := F0 m 21 ls [.int r_12]) rfl ?_
  refine lv_istore (lv' := [(5, .int r_12), (4, .int r_11), (3, .int r_10), (0, .ref (a 0)), (1, .int v1), (2, .int v2)]) hx hb dX8_nextPlace_21 hl (by decide) rfl (fun ls hl => ?_)
  refine lv_iconst (v := (-1)) hx hb dX8_nextPlace_23 (by decide) ?_
  refine lv_istore (lv' := [(6, .int (-1)), (5, .int r_12), (4, .int r_11), (3, .int r_10), (0, .ref (a 0)), (1, .int v1), (2, .int v2)]) hx hb dX8_nextPlace_24 hl (by decide) rfl (fun ls hl => ?_)
  refine lv_iload hx hb dX8_nextPlace_26 (lv_at hl 1 rfl) ?_
  refine lv_istore (lv' := [(7, .int r_12), (6, .int (-1)), (5, .int r_12), (4, .int r_11), (3, .int r_10), (0, .ref (a 0)), (1, .int v1), (2, .int v2)]) hx hb dX8_nextPlace_28 hl (by decide) rfl (fun ls hl => ?_)
  refine lv_iconst (v := 0) hx hb dX8_nextPlace_30 (by decide) ?_
  refine lv_istore (lv' := [(8, .int 0), (7, .int r_12), (6, .int (-1)), (5, .int r_12), (4, .int r_11), (3, .int r_10), (0, .ref (a 0)), (1, .int v1), (2, .int v2)]) hx hb dX8_nextPlace_31 hl (by decide) rfl (fun ls hl => ?_)
  obtain ⟨v6_13, hx_14, hf⟩ := bd_e hf
  refine L33 n r_12 r_11 r_10 v2 0 r_12 (-1) v6_13 _ _ _ hP hD hS (lv_sub hl [0, 1, 2, 3, 4, 5, 8] rfl) hx_14 ?_
  intro x9 e9 H locs ls hP hD hS hl
  subst e9
  have hP : va_P G classes (wl [lfS ct a sl]) H := hP
  have hD : va_D A (wl [lfS ct a sl]) := hD
  have hl : lv_has ls 11 [(6, .int v6_13)] := hl
  exact J110 v6_13 _ _ _ hP hD hS hl hf
noncomputable def f_X8_canBeTrue_j84 (n : Nat) (sl : MV) (i2 : Nat) (v3 : Int32) (v1 : Int32) : Option ((Int32) ⊕ ((Unit) ⊕ (Int32))) :=
  bl (v3 + 1) fun v3_1 =>
  some (.inl v3_1)
noncomputable def f_X8_canBeTrue_j62 (n : Nat) (sl : MV) (i2 : Nat) (v4 : Int32) (v3 : Int32) (v1 : Int32) (s0 : Int32) : Option ((Int32) ⊕ ((Unit) ⊕ (Int32))) :=
  bc (s0 = 0) (bd (f_K_reach n i2 ) fun r_3 =>
  bd (f_X8_placesFor n sl v4 r_3) fun r_4 =>
  bc (r_4 = 0) (some (.inr (.inr 0)))
  (f_X8_canBeTrue_j84 n sl i2 v3 v1))
  (some (.inr (.inr 0)))
noncomputable def f_X8_canBeTrue_b2 (n : Nat) (sl : MV) (i2 : Nat) (v3 : Int32) (v1 : Int32) : Option ((Int32) ⊕ ((Unit) ⊕ (Int32))) :=
  bc ((sl.1 0) ≤ v3) (some (.inr (.inl ())))
  (bc (((v1 >>> (v3 &&& 31)) &&& 1) = 1) (gd (vp_in v3 6) <|
  gd (vp_in v3 6) <|
  bd (f_X8_onDay n sl (sl.2.1 0 (ix v3)) (sl.2.1 1 (ix v3))) fun r_10 =>
  bl (v1 &&& r_10) fun v4_11 =>
  bd (f_J6_bitCount n v4_11) fun r_12 =>
  gd (vp_in v3 6) <|
  bd (f_K_signs n i2 (sl.2.1 1 (ix v3))) fun r_14 =>
  bc (r_12 ≤ r_14) (f_X8_canBeTrue_j62 n sl i2 v4_11 v3 v1 0)
  (f_X8_canBeTrue_j62 n sl i2 v4_11 v3 v1 1))
  (f_X8_canBeTrue_j84 n sl i2 v3 v1))
noncomputable def f_X8_canBeTrue_l2 (fu : Nat) (n : Nat) (sl : MV) (i2 : Nat) (v1 : Int32) (v3 : Int32) : Option ((Unit) ⊕ (Int32)) :=
  lp (fun q => f_X8_canBeTrue_b2 n sl i2 q v1) fu v3
noncomputable def f_X8_canBeTrue_j82 (n : Nat) (sl : MV) (i2 : Nat) : Option (Int32) :=
  some 0
noncomputable def f_X8_canBeTrue (n : Nat) (sl : MV) (i2 : Nat) (v1 : Int32) : Option (Int32) :=
  bs0 (f_X8_canBeTrue_l2 n n sl i2 v1 0) fun _ =>
  some 1
set_option maxHeartbeats 4000000 in
set_option maxRecDepth 100000 in
theorem c_X8_canBeTrue (l : Launch) (G : va_G) (ct : Nat → ClassId) (sk sv : Nat → Nat) (a : Nat → Nat) (k : Nat → Nat) (n : Nat) (sl : MV) (i2 : Nat) (v1 : Int32) {r : Int32} (hf : f_X8_canBeTrue n sl i2 v1 = some r) : Ctr (l, G, ct, sk, sv) mX8_canBeTrue 4 160 [.ref (a 0), .int v1, .ref (k (1 + i2))] (wl [lfS ct a sl, lfK ct k]) (wl [lfS ct a sl, lfK ct k]) (some (.int r)) := by
  refine ctr_intro (by decide) (Nat.le_of_ble_eq_true rfl) ?_
  intro p e s m args below meth c A C hP hD hS hA ls hl
  obtain ⟨hx, hb, hml, hown, hts, hr, hlocks, hK, hnm, hZ⟩ := C
  have hb : c.code = cX8_canBeTrue := hb
  have hml : c.maxLocals = 6 := hml
  have hown : s.vm.findClass "SignedOutside$Slips" = some m.cls := hown
  have hr : meth.sig.returnType = some .boolean := hr
  have hP : va_P G classes (wl [lfS ct a sl, lfK ct k]) s.heap := hP
  have hD : va_D A (wl [lfS ct a sl, lfK ct k]) := hD
  have hK : va_K G classes (TYS ct) s := hK
  have hl : lv_has ls 6 [(0, .ref (a 0)), (1, .int v1), (2, .ref (k (1 + i2)))] := hl
  have L2 : ∀ (fu : Nat) (v1 : Int32) (v3 : Int32) (ex : (Unit) ⊕ (Int32)) (H : Heap) (locs : List Loc) (ls : Array Slot), va_P G classes (wl [lfS ct a sl, lfK ct k]) H → va_D A (wl [lfS ct a sl, lfK ct k]) → va_S A s.heap H locs → lv_has ls 6 [(3, .int v3), (0, .ref (a 0)), (1, .int v1), (2, .ref (k (1 + i2)))] → f_X8_canBeTrue_l2 fu n sl i2 v1 v3 = some ex → (∀ (x : Unit), ex = .inl x → ∀ (H : Heap) (locs : List Loc) (ls : Array Slot), va_P G classes (wl [lfS ct a sl, lfK ct k]) H → va_D A (wl [lfS ct a sl, lfK ct k]) → va_S A s.heap H locs → lv_has ls 6 [] → WG l G ct sk sv p e (RM 4 160 0 0) s m args below meth c A (Eq2 (some (.int r)) (wl [lfS ct a sl, lfK ct k])) H locs (F0 m 90 ls [])) → (∀ rr : Int32, ex = .inr rr → rr = r) → WG l G ct sk sv p e (RM 4 160 0 0) s m args below meth c A (Eq2 (some (.int r)) (wl [lfS ct a sl, lfK ct k])) H locs (F0 m 2 ls []) := by
    intro fu
    induction fu with
    | zero =>
      intro v1 v3 ex H locs ls hP hD hS hl hf
      exact absurd hf (by unfold f_X8_canBeTrue_l2 lp; exact fun h => by cases h)
    | succ fu ih =>
      intro v1 v3 ex H locs ls hP hD hS hl hf hE hT
      unfold f_X8_canBeTrue_l2 at hf
      obtain ⟨q, hf, hor⟩ := lp_e hf
      have J84 : ∀ (v3 : Int32) (H : Heap) (locs : List Loc) (ls : Array Slot), va_P G classes (wl [lfS ct a sl, lfK ct k]) H → va_D A (wl [lfS ct a sl, lfK ct k]) → va_S A s.heap H locs → lv_has ls 6 [(3, .int v3), (0, .ref (a 0)), (1, .int v1), (2, .ref (k (1 + i2)))] → f_X8_canBeTrue_j84 n sl i2 v3 v1 = some q → WG l G ct sk sv p e (RM 4 160 0 0) s m args below meth c A (Eq2 (some (.int r)) (wl [lfS ct a sl, lfK ct k])) H locs (F0 m 84 ls []) := by
        intro v3 H locs ls hP hD hS hl hf
        unfold f_X8_canBeTrue_j84 at hf
        obtain ⟨v3_1, ev3_1, hf⟩ := bl_e hf
        refine lv_iinc (v := v3_1) (lv' := [(3, .int v3_1), (0, .ref (a 0)), (1, .int v1), (2, .ref (k (1 + i2)))]) hx hb dX8_canBeTrue_84 hl (k := 0) rfl ev3_1 (by decide) rfl (fun ls hl => ?_)
        refine lv_goto (tgt := 2) hx hb dX8_canBeTrue_87 (by decide) ?_
        exact ih v1 v3_1 ex _ _ _ hP hD hS hl (lp_inl hor hf) hE hT
      have J62 : ∀ (v4 : Int32) (v3 : Int32) (s0 : Int32) (H : Heap) (locs : List Loc) (ls : Array Slot), va_P G classes (wl [lfS ct a sl, lfK ct k]) H → va_D A (wl [lfS ct a sl, lfK ct k]) → va_S A s.heap H locs → lv_has ls 6 [(4, .int v4), (3, .int v3), (0, .ref (a 0)), (1, .int v1), (2, .ref (k (1 + i2)))] → f_X8_canBeTrue_j62 n sl i2 v4 v3 v1 s0 = some q → WG l G ct sk sv p e (RM 4 160 0 0) s m args below meth c A (Eq2 (some (.int r)) (wl [lfS ct a sl, lfK ct k])) H locs (F0 m 62 ls [.int s0]) := by
        intro v4 v3 s0 H locs ls hP hD hS hl hf
        unfold f_X8_canBeTrue_j62 at hf
        refine lv_istore (lv' := [(5, .int s0), (4, .int v4), (3, .int v3), (0, .ref (a 0)), (1, .int v1), (2, .ref (k (1 + i2)))]) hx hb dX8_canBeTrue_62 hl (by decide) rfl (fun ls hl => ?_)
        refine lv_iload hx hb dX8_canBeTrue_64 (lv_at hl 0 rfl) ?_
        refine lv_if_ne (tgt := 82) hx hb dX8_canBeTrue_66 (by decide) (fun c_2 => ?_) (fun c_2 => ?_)
        · replace hf := bc_f hf c_2
          refine lv_iconst (v := 0) hx hb dX8_canBeTrue_82 (by decide) ?_
          have hf := congrArg some (hT _ (lp_inr hor hf).symm)
          have e1 := Option.some.inj hf
          exact end_z (w' := (wl [lfS ct a sl, lfK ct k])) hx hb hr hlocks hK hP hD hS dX8_canBeTrue_83 (by decide) ⟨by rw [← e1], rfl⟩
        · replace hf := bc_t hf c_2
          refine lv_aload_n hx hb dX8_canBeTrue_69 rfl (lv_at hl 3 rfl) ?_
          refine lv_iload hx hb dX8_canBeTrue_70 (lv_at hl 1 rfl) ?_
          refine lv_aload_n hx hb dX8_canBeTrue_72 rfl (lv_at hl 5 rfl) ?_
          obtain ⟨r_3, hc3, hf⟩ := bd_e hf
          refine disp_X8_70 n (k := k) i2 hx hb hml hown hts hK hP hD hS hA hZ hc3 5 rfl rfl rfl rfl rfl rfl (Nat.le_of_ble_eq_true rfl) (Nat.le_of_ble_eq_true rfl) hl.1 (Nat.le_of_ble_eq_true rfl) dX8_canBeTrue_73 ⟨Nat.zero_le _, Nat.zero_le _⟩ (fun H locs hP hD hS => ?_)
          refine WG_eq (g2 := F0 m 76 ls [.int r_3, .int v4, .ref (a 0)]) rfl ?_
          obtain ⟨r_4, hc4, hf⟩ := bd_e hf
          refine call_V (As := [.int v4, .int r_3]) (rest := []) hx hb hml hown hts hK hP hD hS hA hZ lkX8_50 (Ctr.upL (c_X8_placesFor l G ct sk sv a n sl v4 r_3 hc4) [lfK ct k] [lfS ct a sl, lfK ct k] [lfS ct a sl, lfK ct k] [0, 1] 2 (by decide) rfl rfl rfl rfl) 0 rfl rfl ⟨Nat.le_of_ble_eq_true rfl, Nat.le_of_ble_eq_true rfl⟩ rfl hl.1 rfl (Nat.le_of_ble_eq_true rfl) dX8_canBeTrue_76 ⟨Nat.le_of_ble_eq_true rfl, Nat.le_of_ble_eq_true rfl⟩ (fun r9 w9 H locs hB hP hD hS => ?_)
          obtain ⟨rfl, rfl⟩ := hB
          refine WG_eq (g2 := F0 m 79 ls [.int r_4]) rfl ?_
          refine lv_if_ne (tgt := 84) hx hb dX8_canBeTrue_79 (by decide) (fun c_5 => ?_) (fun c_5 => ?_)
          · replace hf := bc_f hf c_5
            exact J84 v3 _ _ _ hP hD hS (lv_sub hl [2, 3, 4, 5] rfl) hf
          · replace hf := bc_t hf c_5
            refine lv_iconst (v := 0) hx hb dX8_canBeTrue_82 (by decide) ?_
            have hf := congrArg some (hT _ (lp_inr hor hf).symm)
            have e1 := Option.some.inj hf
            exact end_z (w' := (wl [lfS ct a sl, lfK ct k])) hx hb hr hlocks hK hP hD hS dX8_canBeTrue_83 (by decide) ⟨by rw [← e1], rfl⟩
      replace hf : f_X8_canBeTrue_b2 n sl i2 v3 v1 = some q := hf
      unfold f_X8_canBeTrue_b2 at hf
      refine lv_iload_n hx hb dX8_canBeTrue_2 rfl (lv_at hl 0 rfl) ?_
      refine lv_aload_n hx hb dX8_canBeTrue_3 rfl (lv_at hl 1 rfl) ?_
      refine va_get (D := G) (C := RX8) (T := TX8) (N := 4) (v := .int (sl.1 0)) hx hb hts iu_X8 hown hK hP 0 rfl rfl 0 (by decide) (hts _ kw85) (fun _ h9 => h9) rfl dX8_canBeTrue_4 ?_
      refine lv_icmp_ge (tgt := 90) hx hb dX8_canBeTrue_7 (by decide) (fun c_6 => ?_) (fun c_6 => ?_)
      · replace hf := bc_t hf c_6
        exact hE () (lp_inr hor hf).symm _ _ _ hP hD hS (lv_sub hl [] rfl)
      · replace hf := bc_f hf c_6
        refine lv_iload_n hx hb dX8_canBeTrue_10 rfl (lv_at hl 2 rfl) ?_
        refine lv_iload_n hx hb dX8_canBeTrue_11 rfl (lv_at hl 0 rfl) ?_
        refine lv_ishr hx hb dX8_canBeTrue_12 ?_
        refine lv_iconst (v := 1) hx hb dX8_canBeTrue_13 (by decide) ?_
        refine lv_iand hx hb dX8_canBeTrue_14 ?_
        refine lv_iconst (v := 1) hx hb dX8_canBeTrue_15 (by decide) ?_
        refine lv_icmp_ne (tgt := 84) hx hb dX8_canBeTrue_16 (by decide) (fun c_7 => ?_) (fun c_7 => ?_)
        · replace hf := bc_f hf c_7
          exact J84 v3 _ _ _ hP hD hS hl hf
        · replace hf := bc_t hf c_7
          refine lv_iload_n hx hb dX8_canBeTrue_19 rfl (lv_at hl 2 rfl) ?_
          refine lv_aload_n hx hb dX8_canBeTrue_20 rfl (lv_at hl 1 rfl) ?_
          refine lv_aload_n hx hb dX8_canBeTrue_21 rfl (lv_at hl 1 rfl) ?_
          refine va_get (D := G) (C := RX8) (T := TX8) (N := 4) (v := .ref (a 1)) hx hb hts iu_X8 hown hK hP 0 rfl rfl 1 (by decide) (hts _ kw88) (fun _ h9 => h9) rfl dX8_canBeTrue_22 ?_
          refine lv_iload_n hx hb dX8_canBeTrue_25 rfl (lv_at hl 0 rfl) ?_
          obtain ⟨g_8, hf⟩ := gd_e hf
          refine va_iald (f := sl.2.1 0) hx hb hK hP 1 0 rfl rfl g_8 dX8_canBeTrue_26 ?_
          refine lv_aload_n hx hb dX8_canBeTrue_27 rfl (lv_at hl 1 rfl) ?_
          refine va_get (D := G) (C := RX8) (T := TX8) (N := 4) (v := .ref (a 2)) hx hb hts iu_X8 hown hK hP 0 rfl rfl 2 (by decide) (hts _ kw90) (fun _ h9 => h9) rfl dX8_canBeTrue_28 ?_
          refine lv_iload_n hx hb dX8_canBeTrue_31 rfl (lv_at hl 0 rfl) ?_
          obtain ⟨g_9, hf⟩ := gd_e hf
          refine va_iald (f := sl.2.1 1) hx hb hK hP 2 0 rfl rfl g_9 dX8_canBeTrue_32 ?_
          obtain ⟨r_10, hc10, hf⟩ := bd_e hf
          refine call_V (As := [.int (sl.2.1 0 (ix v3)), .int (sl.2.1 1 (ix v3))]) (rest := [.int v1]) hx hb hml hown hts hK hP hD hS hA hZ lkX8_62 (Ctr.upL (c_X8_onDay l G ct sk sv a n sl (sl.2.1 0 (ix v3)) (sl.2.1 1 (ix v3)) hc10) [lfK ct k] [lfS ct a sl, lfK ct k] [lfS ct a sl, lfK ct k] [0, 1] 2 (by decide) rfl rfl rfl rfl) 0 rfl rfl ⟨Nat.le_of_ble_eq_true rfl, Nat.le_of_ble_eq_true rfl⟩ rfl hl.1 rfl (Nat.le_of_ble_eq_true rfl) dX8_canBeTrue_33 ⟨Nat.le_of_ble_eq_true rfl, Nat.le_of_ble_eq_true rfl⟩ (fun r9 w9 H locs hB hP hD hS => ?_)
          obtain ⟨rfl, rfl⟩ := hB
          refine WG_eq (g2 := F0 m 36 ls [.int r_10, .int v1]) rfl ?_
          refine lv_iand hx hb dX8_canBeTrue_36 ?_
          refine lv_topi (fun v4_11 ev4_11 => ?_)
          replace hf := bl_i hf ev4_11
          refine lv_istore (lv' := [(4, .int v4_11), (3, .int v3), (0, .ref (a 0)), (1, .int v1), (2, .ref (k (1 + i2)))]) hx hb dX8_canBeTrue_37 hl (by decide) rfl (fun ls hl => ?_)
          refine lv_iload hx hb dX8_canBeTrue_39 (lv_at hl 0 rfl) ?_
          obtain ⟨r_12, hc12, hf⟩ := bd_e hf
          refine call_S (As := [.int v4_11]) (rest := []) hx hb hml hown hts hK hP hD hS hA hZ lkX8_53 (Ctr.upL (c_J6_bitCount l G ct sk sv  n v4_11 hc12) [lfS ct a sl, lfK ct k] [lfS ct a sl, lfK ct k] [lfS ct a sl, lfK ct k] [0, 1] 2 (by decide) rfl rfl rfl rfl) ⟨Nat.le_of_ble_eq_true rfl, Nat.le_of_ble_eq_true rfl⟩ rfl hl.1 rfl (Nat.le_of_ble_eq_true rfl) dX8_canBeTrue_41 ⟨Nat.le_of_ble_eq_true rfl, Nat.le_of_ble_eq_true rfl⟩ (fun r9 w9 H locs hB hP hD hS => ?_)
          obtain ⟨rfl, rfl⟩ := hB
          refine WG_eq (g2 := F0 m 44 ls [.int r_12]) rfl ?_
          refine lv_aload_n hx hb dX8_canBeTrue_44 rfl (lv_at hl 4 rfl) ?_
          refine lv_aload_n hx hb dX8_canBeTrue_45 rfl (lv_at hl 2 rfl) ?_
          refine va_get (D := G) (C := RX8) (T := TX8) (N := 4) (v := .ref (a 2)) hx hb hts iu_X8 hown hK hP 0 rfl rfl 2 (by decide) (hts _ kw90) (fun _ h9 => h9) rfl dX8_canBeTrue_46 ?_
          refine lv_iload_n hx hb dX8_canBeTrue_49 rfl (lv_at hl 1 rfl) ?_
          obtain ⟨g_13, hf⟩ := gd_e hf
          refine va_iald (f := sl.2.1 1) hx hb hK hP 2 0 rfl rfl g_13 dX8_canBeTrue_50 ?_
          obtain ⟨r_14, hc14, hf⟩ := bd_e hf
          refine disp_X8_65 n (k := k) i2 hx hb hml hown hts hK hP hD hS hA hZ hc14 5 rfl rfl rfl rfl rfl rfl (Nat.le_of_ble_eq_true rfl) (Nat.le_of_ble_eq_true rfl) hl.1 (Nat.le_of_ble_eq_true rfl) dX8_canBeTrue_51 ⟨Nat.zero_le _, Nat.zero_le _⟩ (fun H locs hP hD hS => ?_)
          refine WG_eq (g2 := F0 m 54 ls [.int r_14, .int r_12]) rfl ?_
          refine lv_icmp_le (tgt := 61) hx hb dX8_canBeTrue_54 (by decide) (fun c_15 => ?_) (fun c_15 => ?_)
          · replace hf := bc_t hf c_15
            refine lv_iconst (v := 0) hx hb dX8_canBeTrue_61 (by decide) ?_
            exact J62 v4_11 v3 0 _ _ _ hP hD hS hl hf
          · replace hf := bc_f hf c_15
            refine lv_iconst (v := 1) hx hb dX8_canBeTrue_57 (by decide) ?_
            refine lv_goto (tgt := 62) hx hb dX8_canBeTrue_58 (by decide) ?_
            exact J62 v4_11 v3 1 _ _ _ hP hD hS hl hf
  have J82 : ∀ (H : Heap) (locs : List Loc) (ls : Array Slot), va_P G classes (wl [lfS ct a sl, lfK ct k]) H → va_D A (wl [lfS ct a sl, lfK ct k]) → va_S A s.heap H locs → lv_has ls 6 [] → f_X8_canBeTrue_j82 n sl i2 = some r → WG l G ct sk sv p e (RM 4 160 0 0) s m args below meth c A (Eq2 (some (.int r)) (wl [lfS ct a sl, lfK ct k])) H locs (F0 m 82 ls []) := by
    intro  H locs ls hP hD hS hl hf
    unfold f_X8_canBeTrue_j82 at hf
    refine lv_iconst (v := 0) hx hb dX8_canBeTrue_82 (by decide) ?_
    have e1 := Option.some.inj hf
    exact end_z (w' := (wl [lfS ct a sl, lfK ct k])) hx hb hr hlocks hK hP hD hS dX8_canBeTrue_83 (by decide) ⟨by rw [← e1], rfl⟩
  unfold f_X8_canBeTrue at hf
  show WG l G ct sk sv p e (RM 4 160 0 0) s m args below meth c A (Eq2 (some (.int r)) (wl [lfS ct a sl, lfK ct k])) s.heap [] (F0 m 0 ls [])
  refine lv_iconst (v := 0) hx hb dX8_canBeTrue_0 (by decide) ?_
  refine lv_istore_n (lv' := [(3, .int 0), (0, .ref (a 0)), (1, .int v1), (2, .ref (k (1 + i2)))]) hx hb dX8_canBeTrue_1 rfl hl (by decide) rfl (fun ls hl => ?_)
  obtain ⟨x_16, hx_16, hf⟩ := bs0_e hf
  refine L2 n v1 0 x_16 _ _ _ hP hD hS hl hx_16 ?_ ?_
  · intro xx exx H locs ls hP hD hS hl
    rw [exx] at hf
    try dsimp only at hf
    refine lv_iconst (v := 1) hx hb dX8_canBeTrue_90 (by decide) ?_
    have e1 := Option.some.inj hf
    exact end_z (w' := (wl [lfS ct a sl, lfK ct k])) hx hb hr hlocks hK hP hD hS dX8_canBeTrue_91 (by decide) ⟨by rw [← e1], rfl⟩
  · intro rr err
    rw [err] at hf
    exact Option.some.inj hf
noncomputable def f_X8_fewestFalse_j70 (n : Nat) (sl : MV) (i2 : Nat) (v5 : Int32) (v4 : Int32) (v3 : Int32) : Option ((Int32 × Int32) ⊕ (Int32)) :=
  bl (v5 + 1) fun v5_1 =>
  some (.inl (v5_1, v4))
noncomputable def f_X8_fewestFalse_j45 (n : Nat) (sl : MV) (i2 : Nat) (v5 : Int32) (v4 : Int32) (v3 : Int32) (s0 : Int32) : Option ((Int32 × Int32) ⊕ (Int32)) :=
  bc (s0 = 0) (f_X8_fewestFalse_j70 n sl i2 v5 v4 v3)
  (bd (f_X8_canBeTrue n sl i2 (v3 &&& (v5 ^^^ (-1)))) fun r_3 =>
  bc (r_3 = 0) (f_X8_fewestFalse_j70 n sl i2 v5 v4 v3)
  (f_X8_fewestFalse_j70 n sl i2 v5 v5 v3))
noncomputable def f_X8_fewestFalse_j44 (n : Nat) (sl : MV) (i2 : Nat) (v5 : Int32) (v4 : Int32) (v3 : Int32) : Option ((Int32 × Int32) ⊕ (Int32)) :=
  f_X8_fewestFalse_j45 n sl i2 v5 v4 v3 0
noncomputable def f_X8_fewestFalse_b12 (n : Nat) (sl : MV) (i2 : Nat) (v5 : Int32) (v4 : Int32) (v3 : Int32) : Option ((Int32 × Int32) ⊕ (Int32)) :=
  bc (v3 ≤ v5) (some (.inr v4))
  (bc ((v5 &&& (v3 ^^^ (-1))) = 0) (bd (f_J6_bitCount n v5) fun r_7 =>
  bd (f_J6_bitCount n v4) fun r_8 =>
  bc (r_8 ≤ r_7) (f_X8_fewestFalse_j44 n sl i2 v5 v4 v3)
  (f_X8_fewestFalse_j45 n sl i2 v5 v4 v3 1))
  (f_X8_fewestFalse_j44 n sl i2 v5 v4 v3))
noncomputable def f_X8_fewestFalse_l12 (fu : Nat) (n : Nat) (sl : MV) (i2 : Nat) (v3 : Int32) (v5 : Int32) (v4 : Int32) : Option (Int32) :=
  lp (fun q => f_X8_fewestFalse_b12 n sl i2 q.1 q.2 v3) fu (v5, v4)
noncomputable def f_X8_fewestFalse (n : Nat) (sl : MV) (i2 : Nat) (v1 : Int32) : Option (Int32) :=
  bd (f_X8_ownedBy n sl v1) fun r_10 =>
  bd (f_X8_fewestFalse_l12 n n sl i2 r_10 0 r_10) fun v4_11 =>
  some v4_11
set_option maxHeartbeats 4000000 in
set_option maxRecDepth 100000 in
theorem c_X8_fewestFalse (l : Launch) (G : va_G) (ct : Nat → ClassId) (sk sv : Nat → Nat) (a : Nat → Nat) (k : Nat → Nat) (n : Nat) (sl : MV) (i2 : Nat) (v1 : Int32) {r : Int32} (hf : f_X8_fewestFalse n sl i2 v1 = some r) : Ctr (l, G, ct, sk, sv) mX8_fewestFalse 5 185 [.ref (a 0), .int v1, .ref (k (1 + i2))] (wl [lfS ct a sl, lfK ct k]) (wl [lfS ct a sl, lfK ct k]) (some (.int r)) := by
  refine ctr_intro (by decide) (Nat.le_of_ble_eq_true rfl) ?_
  intro p e s m args below meth c A C hP hD hS hA ls hl
  obtain ⟨hx, hb, hml, hown, hts, hr, hlocks, hK, hnm, hZ⟩ := C
  have hb : c.code = cX8_fewestFalse := hb
  have hml : c.maxLocals = 7 := hml
  have hown : s.vm.findClass "SignedOutside$Slips" = some m.cls := hown
  have hr : meth.sig.returnType = some .int := hr
  have hP : va_P G classes (wl [lfS ct a sl, lfK ct k]) s.heap := hP
  have hD : va_D A (wl [lfS ct a sl, lfK ct k]) := hD
  have hK : va_K G classes (TYS ct) s := hK
  have hl : lv_has ls 7 [(0, .ref (a 0)), (1, .int v1), (2, .ref (k (1 + i2)))] := hl
  have L12 : ∀ (fu : Nat) (v3 : Int32) (v5 : Int32) (v4 : Int32) (ex : Int32) (H : Heap) (locs : List Loc) (ls : Array Slot), va_P G classes (wl [lfS ct a sl, lfK ct k]) H → va_D A (wl [lfS ct a sl, lfK ct k]) → va_S A s.heap H locs → lv_has ls 7 [(5, .int v5), (4, .int v4), (3, .int v3), (0, .ref (a 0)), (2, .ref (k (1 + i2)))] → f_X8_fewestFalse_l12 fu n sl i2 v3 v5 v4 = some ex → (∀ (x : Int32), ex = x → ∀ (H : Heap) (locs : List Loc) (ls : Array Slot), va_P G classes (wl [lfS ct a sl, lfK ct k]) H → va_D A (wl [lfS ct a sl, lfK ct k]) → va_S A s.heap H locs → lv_has ls 7 [(4, .int x)] → WG l G ct sk sv p e (RM 5 185 0 0) s m args below meth c A (Eq2 (some (.int r)) (wl [lfS ct a sl, lfK ct k])) H locs (F0 m 76 ls [])) → WG l G ct sk sv p e (RM 5 185 0 0) s m args below meth c A (Eq2 (some (.int r)) (wl [lfS ct a sl, lfK ct k])) H locs (F0 m 12 ls []) := by
    intro fu
    induction fu with
    | zero =>
      intro v3 v5 v4 ex H locs ls hP hD hS hl hf
      exact absurd hf (by unfold f_X8_fewestFalse_l12 lp; exact fun h => by cases h)
    | succ fu ih =>
      intro v3 v5 v4 ex H locs ls hP hD hS hl hf hE
      unfold f_X8_fewestFalse_l12 at hf
      obtain ⟨q, hf, hor⟩ := lp_e hf
      have J70 : ∀ (v5 : Int32) (v4 : Int32) (H : Heap) (locs : List Loc) (ls : Array Slot), va_P G classes (wl [lfS ct a sl, lfK ct k]) H → va_D A (wl [lfS ct a sl, lfK ct k]) → va_S A s.heap H locs → lv_has ls 7 [(5, .int v5), (4, .int v4), (3, .int v3), (0, .ref (a 0)), (2, .ref (k (1 + i2)))] → f_X8_fewestFalse_j70 n sl i2 v5 v4 v3 = some q → WG l G ct sk sv p e (RM 5 185 0 0) s m args below meth c A (Eq2 (some (.int r)) (wl [lfS ct a sl, lfK ct k])) H locs (F0 m 70 ls []) := by
        intro v5 v4 H locs ls hP hD hS hl hf
        unfold f_X8_fewestFalse_j70 at hf
        obtain ⟨v5_1, ev5_1, hf⟩ := bl_e hf
        refine lv_iinc (v := v5_1) (lv' := [(5, .int v5_1), (4, .int v4), (3, .int v3), (0, .ref (a 0)), (2, .ref (k (1 + i2)))]) hx hb dX8_fewestFalse_70 hl (k := 0) rfl ev5_1 (by decide) rfl (fun ls hl => ?_)
        refine lv_goto (tgt := 12) hx hb dX8_fewestFalse_73 (by decide) ?_
        exact ih v3 v5_1 v4 ex _ _ _ hP hD hS hl (lp_inl hor hf) hE
      have J45 : ∀ (v5 : Int32) (v4 : Int32) (s0 : Int32) (H : Heap) (locs : List Loc) (ls : Array Slot), va_P G classes (wl [lfS ct a sl, lfK ct k]) H → va_D A (wl [lfS ct a sl, lfK ct k]) → va_S A s.heap H locs → lv_has ls 7 [(5, .int v5), (4, .int v4), (3, .int v3), (0, .ref (a 0)), (2, .ref (k (1 + i2)))] → f_X8_fewestFalse_j45 n sl i2 v5 v4 v3 s0 = some q → WG l G ct sk sv p e (RM 5 185 0 0) s m args below meth c A (Eq2 (some (.int r)) (wl [lfS ct a sl, lfK ct k])) H locs (F0 m 45 ls [.int s0]) := by
        intro v5 v4 s0 H locs ls hP hD hS hl hf
        unfold f_X8_fewestFalse_j45 at hf
        refine lv_istore (lv' := [(6, .int s0), (5, .int v5), (4, .int v4), (3, .int v3), (0, .ref (a 0)), (2, .ref (k (1 + i2)))]) hx hb dX8_fewestFalse_45 hl (by decide) rfl (fun ls hl => ?_)
        refine lv_iload hx hb dX8_fewestFalse_47 (lv_at hl 0 rfl) ?_
        refine lv_if_eq (tgt := 70) hx hb dX8_fewestFalse_49 (by decide) (fun c_2 => ?_) (fun c_2 => ?_)
        · replace hf := bc_t hf c_2
          exact J70 v5 v4 _ _ _ hP hD hS (lv_sub hl [1, 2, 3, 4, 5] rfl) hf
        · replace hf := bc_f hf c_2
          refine lv_aload_n hx hb dX8_fewestFalse_52 rfl (lv_at hl 4 rfl) ?_
          refine lv_iload_n hx hb dX8_fewestFalse_53 rfl (lv_at hl 3 rfl) ?_
          refine lv_iload hx hb dX8_fewestFalse_54 (lv_at hl 1 rfl) ?_
          refine lv_iconst (v := (-1)) hx hb dX8_fewestFalse_56 (by decide) ?_
          refine lv_ixor hx hb dX8_fewestFalse_57 ?_
          refine lv_iand hx hb dX8_fewestFalse_58 ?_
          refine lv_aload_n hx hb dX8_fewestFalse_59 rfl (lv_at hl 5 rfl) ?_
          obtain ⟨r_3, hc3, hf⟩ := bd_e hf
          refine call_V (As := [.int (v3 &&& (v5 ^^^ (-1))), .ref (k (1 + i2))]) (rest := []) hx hb hml hown hts hK hP hD hS hA hZ lkX8_58 (c_X8_canBeTrue l G ct sk sv a k n sl i2 (v3 &&& (v5 ^^^ (-1))) hc3) 0 rfl rfl ⟨Nat.le_of_ble_eq_true rfl, Nat.le_of_ble_eq_true rfl⟩ rfl hl.1 rfl (Nat.le_of_ble_eq_true rfl) dX8_fewestFalse_60 ⟨Nat.le_of_ble_eq_true rfl, Nat.le_of_ble_eq_true rfl⟩ (fun r9 w9 H locs hB hP hD hS => ?_)
          obtain ⟨rfl, rfl⟩ := hB
          refine WG_eq (g2 := F0 m 63 ls [.int r_3]) rfl ?_
          refine lv_if_eq (tgt := 70) hx hb dX8_fewestFalse_63 (by decide) (fun c_4 => ?_) (fun c_4 => ?_)
          · replace hf := bc_t hf c_4
            exact J70 v5 v4 _ _ _ hP hD hS (lv_sub hl [1, 2, 3, 4, 5] rfl) hf
          · replace hf := bc_f hf c_4
            refine lv_iload hx hb dX8_fewestFalse_66 (lv_at hl 1 rfl) ?_
            refine lv_istore (lv' := [(4, .int v5), (6, .int s0), (5, .int v5), (3, .int v3), (0, .ref (a 0)), (2, .ref (k (1 + i2)))]) hx hb dX8_fewestFalse_68 hl (by decide) rfl (fun ls hl => ?_)
            exact J70 v5 v5 _ _ _ hP hD hS (lv_sub hl [2, 0, 3, 4, 5] rfl) hf
      have J44 : ∀ (v5 : Int32) (v4 : Int32) (H : Heap) (locs : List Loc) (ls : Array Slot), va_P G classes (wl [lfS ct a sl, lfK ct k]) H → va_D A (wl [lfS ct a sl, lfK ct k]) → va_S A s.heap H locs → lv_has ls 7 [(5, .int v5), (4, .int v4), (3, .int v3), (0, .ref (a 0)), (2, .ref (k (1 + i2)))] → f_X8_fewestFalse_j44 n sl i2 v5 v4 v3 = some q → WG l G ct sk sv p e (RM 5 185 0 0) s m args below meth c A (Eq2 (some (.int r)) (wl [lfS ct a sl, lfK ct k])) H locs (F0 m 44 ls []) := by
        intro v5 v4 H locs ls hP hD hS hl hf
        unfold f_X8_fewestFalse_j44 at hf
        refine lv_iconst (v := 0) hx hb dX8_fewestFalse_44 (by decide) ?_
        exact J45 v5 v4 0 _ _ _ hP hD hS hl hf
      replace hf : f_X8_fewestFalse_b12 n sl i2 v5 v4 v3 = some q := hf
      unfold f_X8_fewestFalse_b12 at hf
      refine lv_iload hx hb dX8_fewestFalse_12 (lv_at hl 0 rfl) ?_
      refine lv_iload_n hx hb dX8_fewestFalse_14 rfl (lv_at hl 2 rfl) ?_
      refine lv_icmp_ge (tgt := 76) hx hb dX8_fewestFalse_15 (by decide) (fun c_5 => ?_) (fun c_5 => ?_)
      · replace hf := bc_t hf c_5
        exact hE v4 (lp_inr hor hf).symm _ _ _ hP hD hS (lv_sub hl [1] rfl)
      · replace hf := bc_f hf c_5
        refine lv_iload hx hb dX8_fewestFalse_18 (lv_at hl 0 rfl) ?_
        refine lv_iload_n hx hb dX8_fewestFalse_20 rfl (lv_at hl 2 rfl) ?_
        refine lv_iconst (v := (-1)) hx hb dX8_fewestFalse_21 (by decide) ?_
        refine lv_ixor hx hb dX8_fewestFalse_22 ?_
        refine lv_iand hx hb dX8_fewestFalse_23 ?_
        refine lv_if_ne (tgt := 44) hx hb dX8_fewestFalse_24 (by decide) (fun c_6 => ?_) (fun c_6 => ?_)
        · replace hf := bc_f hf c_6
          exact J44 v5 v4 _ _ _ hP hD hS hl hf
        · replace hf := bc_t hf c_6
          refine lv_iload hx hb dX8_fewestFalse_27 (lv_at hl 0 rfl) ?_
          obtain ⟨r_7, hc7, hf⟩ := bd_e hf
          refine call_S (As := [.int v5]) (rest := []) hx hb hml hown hts hK hP hD hS hA hZ lkX8_53 (Ctr.upL (c_J6_bitCount l G ct sk sv  n v5 hc7) [lfS ct a sl, lfK ct k] [lfS ct a sl, lfK ct k] [lfS ct a sl, lfK ct k] [0, 1] 2 (by decide) rfl rfl rfl rfl) ⟨Nat.le_of_ble_eq_true rfl, Nat.le_of_ble_eq_true rfl⟩ rfl hl.1 rfl (Nat.le_of_ble_eq_true rfl) dX8_fewestFalse_29 ⟨Nat.le_of_ble_eq_true rfl, Nat.le_of_ble_eq_true rfl⟩ (fun r9 w9 H locs hB hP hD hS => ?_)
          obtain ⟨rfl, rfl⟩ := hB
          refine WG_eq (g2 := F0 m 32 ls [.int r_7]) rfl ?_
          refine lv_iload hx hb dX8_fewestFalse_32 (lv_at hl 1 rfl) ?_
          obtain ⟨r_8, hc8, hf⟩ := bd_e hf
          refine call_S (As := [.int v4]) (rest := [.int r_7]) hx hb hml hown hts hK hP hD hS hA hZ lkX8_53 (Ctr.upL (c_J6_bitCount l G ct sk sv  n v4 hc8) [lfS ct a sl, lfK ct k] [lfS ct a sl, lfK ct k] [lfS ct a sl, lfK ct k] [0, 1] 2 (by decide) rfl rfl rfl rfl) ⟨Nat.le_of_ble_eq_true rfl, Nat.le_of_ble_eq_true rfl⟩ rfl hl.1 rfl (Nat.le_of_ble_eq_true rfl) dX8_fewestFalse_34 ⟨Nat.le_of_ble_eq_true rfl, Nat.le_of_ble_eq_true rfl⟩ (fun r9 w9 H locs hB hP hD hS => ?_)
          obtain ⟨rfl, rfl⟩ := hB
          refine WG_eq (g2 := F0 m 37 ls [.int r_8, .int r_7]) rfl ?_
          refine lv_icmp_ge (tgt := 44) hx hb dX8_fewestFalse_37 (by decide) (fun c_9 => ?_) (fun c_9 => ?_)
          · replace hf := bc_t hf c_9
            exact J44 v5 v4 _ _ _ hP hD hS hl hf
          · replace hf := bc_f hf c_9
            refine lv_iconst (v := 1) hx hb dX8_fewestFalse_40 (by decide) ?_
            refine lv_goto (tgt := 45) hx hb dX8_fewestFalse_41 (by decide) ?_
            exact J45 v5 v4 1 _ _ _ hP hD hS hl hf
  unfold f_X8_fewestFalse at hf
  show WG l G ct sk sv p e (RM 5 185 0 0) s m args below meth c A (Eq2 (some (.int r)) (wl [lfS ct a sl, lfK ct k])) s.heap [] (F0 m 0 ls [])
  refine lv_aload_n hx hb dX8_fewestFalse_0 rfl (lv_at hl 0 rfl) ?_
  refine lv_iload_n hx hb dX8_fewestFalse_1 rfl (lv_at hl 1 rfl) ?_
  obtain ⟨r_10, hc10, hf⟩ := bd_e hf
  refine call_V (As := [.int v1]) (rest := []) hx hb hml hown hts hK hP hD hS hA hZ lkX8_31 (Ctr.upL (c_X8_ownedBy l G ct sk sv a n sl v1 hc10) [lfK ct k] [lfS ct a sl, lfK ct k] [lfS ct a sl, lfK ct k] [0, 1] 2 (by decide) rfl rfl rfl rfl) 0 rfl rfl ⟨Nat.le_of_ble_eq_true rfl, Nat.le_of_ble_eq_true rfl⟩ rfl hl.1 rfl (Nat.le_of_ble_eq_true rfl) dX8_fewestFalse_2 ⟨Nat.le_of_ble_eq_true rfl, Nat.le_of_ble_eq_true rfl⟩ (fun r9 w9 H locs hB hP hD hS => ?_)
  obtain ⟨rfl, rfl⟩ := hB
  refine WG_eq (g2 := F0 m 5 ls [.int r_10]) rfl ?_
  refine lv_istore_n (lv' := [(3, .int r_10), (0, .ref (a 0)), (1, .int v1), (2, .ref (k (1 + i2)))]) hx hb dX8_fewestFalse_5 rfl hl (by decide) rfl (fun ls hl => ?_)
  refine lv_iload_n hx hb dX8_fewestFalse_6 rfl (lv_at hl 0 rfl) ?_
  refine lv_istore (lv' := [(4, .int r_10), (3, .int r_10), (0, .ref (a 0)), (1, .int v1), (2, .ref (k (1 + i2)))]) hx hb dX8_fewestFalse_7 hl (by decide) rfl (fun ls hl => ?_)
  refine lv_iconst (v := 0) hx hb dX8_fewestFalse_9 (by decide) ?_
  refine lv_istore (lv' := [(5, .int 0), (4, .int r_10), (3, .int r_10), (0, .ref (a 0)), (1, .int v1), (2, .ref (k (1 + i2)))]) hx hb dX8_fewestFalse_10 hl (by decide) rfl (fun ls hl => ?_)
  obtain ⟨v4_11, hx_12, hf⟩ := bd_e hf
  refine L12 n r_10 0 r_10 v4_11 _ _ _ hP hD hS (lv_sub hl [0, 1, 2, 3, 5] rfl) hx_12 ?_
  intro x9 e9 H locs ls hP hD hS hl
  subst e9
  have hP : va_P G classes (wl [lfS ct a sl, lfK ct k]) H := hP
  have hD : va_D A (wl [lfS ct a sl, lfK ct k]) := hD
  have hl : lv_has ls 7 [(4, .int v4_11)] := hl
  refine lv_iload hx hb dX8_fewestFalse_76 (lv_at hl 0 rfl) ?_
  have e1 := Option.some.inj hf
  exact end_i (w' := (wl [lfS ct a sl, lfK ct k])) hx hb hr hlocks hK hP hD hS dX8_fewestFalse_78  ⟨by rw [← e1], rfl⟩
noncomputable def f_X8_agrees_j41 (n : Nat) (sl : MV) (i2 : Nat) (v3 : Int32) (v1 : Int32) : Option ((Int32) ⊕ ((Unit) ⊕ (Int32))) :=
  bl (v3 + 1) fun v3_1 =>
  some (.inl v3_1)
noncomputable def f_X8_agrees_b2 (n : Nat) (sl : MV) (i2 : Nat) (v3 : Int32) (v1 : Int32) : Option ((Int32) ⊕ ((Unit) ⊕ (Int32))) :=
  bc ((sl.1 0) ≤ v3) (some (.inr (.inl ())))
  (gd (vp_in v3 6) <|
  bc ((sl.2.1 0 (ix v3)) = v1) (gd (vp_in v3 6) <|
  bd (f_K_signs n i2 (sl.2.1 1 (ix v3))) fun r_6 =>
  gd (vp_in v3 6) <|
  bc (r_6 = (sl.2.1 2 (ix v3))) (f_X8_agrees_j41 n sl i2 v3 v1)
  (some (.inr (.inr 0))))
  (f_X8_agrees_j41 n sl i2 v3 v1))
noncomputable def f_X8_agrees_l2 (fu : Nat) (n : Nat) (sl : MV) (i2 : Nat) (v1 : Int32) (v3 : Int32) : Option ((Unit) ⊕ (Int32)) :=
  lp (fun q => f_X8_agrees_b2 n sl i2 q v1) fu v3
noncomputable def f_X8_agrees (n : Nat) (sl : MV) (i2 : Nat) (v1 : Int32) : Option (Int32) :=
  bs0 (f_X8_agrees_l2 n n sl i2 v1 0) fun _ =>
  some 1
set_option maxHeartbeats 4000000 in
set_option maxRecDepth 100000 in
theorem c_X8_agrees (l : Launch) (G : va_G) (ct : Nat → ClassId) (sk sv : Nat → Nat) (a : Nat → Nat) (k : Nat → Nat) (n : Nat) (sl : MV) (i2 : Nat) (v1 : Int32) {r : Int32} (hf : f_X8_agrees n sl i2 v1 = some r) : Ctr (l, G, ct, sk, sv) mX8_agrees 4 160 [.ref (a 0), .int v1, .ref (k (1 + i2))] (wl [lfS ct a sl, lfK ct k]) (wl [lfS ct a sl, lfK ct k]) (some (.int r)) := by
  refine ctr_intro (by decide) (Nat.le_of_ble_eq_true rfl) ?_
  intro p e s m args below meth c A C hP hD hS hA ls hl
  obtain ⟨hx, hb, hml, hown, hts, hr, hlocks, hK, hnm, hZ⟩ := C
  have hb : c.code = cX8_agrees := hb
  have hml : c.maxLocals = 4 := hml
  have hown : s.vm.findClass "SignedOutside$Slips" = some m.cls := hown
  have hr : meth.sig.returnType = some .boolean := hr
  have hP : va_P G classes (wl [lfS ct a sl, lfK ct k]) s.heap := hP
  have hD : va_D A (wl [lfS ct a sl, lfK ct k]) := hD
  have hK : va_K G classes (TYS ct) s := hK
  have hl : lv_has ls 4 [(0, .ref (a 0)), (1, .int v1), (2, .ref (k (1 + i2)))] := hl
  have L2 : ∀ (fu : Nat) (v1 : Int32) (v3 : Int32) (ex : (Unit) ⊕ (Int32)) (H : Heap) (locs : List Loc) (ls : Array Slot), va_P G classes (wl [lfS ct a sl, lfK ct k]) H → va_D A (wl [lfS ct a sl, lfK ct k]) → va_S A s.heap H locs → lv_has ls 4 [(3, .int v3), (0, .ref (a 0)), (1, .int v1), (2, .ref (k (1 + i2)))] → f_X8_agrees_l2 fu n sl i2 v1 v3 = some ex → (∀ (x : Unit), ex = .inl x → ∀ (H : Heap) (locs : List Loc) (ls : Array Slot), va_P G classes (wl [lfS ct a sl, lfK ct k]) H → va_D A (wl [lfS ct a sl, lfK ct k]) → va_S A s.heap H locs → lv_has ls 4 [] → WG l G ct sk sv p e (RM 4 160 0 0) s m args below meth c A (Eq2 (some (.int r)) (wl [lfS ct a sl, lfK ct k])) H locs (F0 m 47 ls [])) → (∀ rr : Int32, ex = .inr rr → rr = r) → WG l G ct sk sv p e (RM 4 160 0 0) s m args below meth c A (Eq2 (some (.int r)) (wl [lfS ct a sl, lfK ct k])) H locs (F0 m 2 ls []) := by
    intro fu
    induction fu with
    | zero =>
      intro v1 v3 ex H locs ls hP hD hS hl hf
      exact absurd hf (by unfold f_X8_agrees_l2 lp; exact fun h => by cases h)
    | succ fu ih =>
      intro v1 v3 ex H locs ls hP hD hS hl hf hE hT
      unfold f_X8_agrees_l2 at hf
      obtain ⟨q, hf, hor⟩ := lp_e hf
      have J41 : ∀ (v3 : Int32) (H : Heap) (locs : List Loc) (ls : Array Slot), va_P G classes (wl [lfS ct a sl, lfK ct k]) H → va_D A (wl [lfS ct a sl, lfK ct k]) → va_S A s.heap H locs → lv_has ls 4 [(3, .int v3), (0, .ref (a 0)), (1, .int v1), (2, .ref (k (1 + i2)))] → f_X8_agrees_j41 n sl i2 v3 v1 = some q → WG l G ct sk sv p e (RM 4 160 0 0) s m args below meth c A (Eq2 (some (.int r)) (wl [lfS ct a sl, lfK ct k])) H locs (F0 m 41 ls []) := by
        intro v3 H locs ls hP hD hS hl hf
        unfold f_X8_agrees_j41 at hf
        obtain ⟨v3_1, ev3_1, hf⟩ := bl_e hf
        refine lv_iinc (v := v3_1) (lv' := [(3, .int v3_1), (0, .ref (a 0)), (1, .int v1), (2, .ref (k (1 + i2)))]) hx hb dX8_agrees_41 hl (k := 0) rfl ev3_1 (by decide) rfl (fun ls hl => ?_)
        refine lv_goto (tgt := 2) hx hb dX8_agrees_44 (by decide) ?_
        exact ih v1 v3_1 ex _ _ _ hP hD hS hl (lp_inl hor hf) hE hT
      replace hf : f_X8_agrees_b2 n sl i2 v3 v1 = some q := hf
      unfold f_X8_agrees_b2 at hf
      refine lv_iload_n hx hb dX8_agrees_2 rfl (lv_at hl 0 rfl) ?_
      refine lv_aload_n hx hb dX8_agrees_3 rfl (lv_at hl 1 rfl) ?_
      refine va_get (D := G) (C := RX8) (T := TX8) (N := 4) (v := .int (sl.1 0)) hx hb hts iu_X8 hown hK hP 0 rfl rfl 0 (by decide) (hts _ kw85) (fun _ h9 => h9) rfl dX8_agrees_4 ?_
      refine lv_icmp_ge (tgt := 47) hx hb dX8_agrees_7 (by decide) (fun c_2 => ?_) (fun c_2 => ?_)
      · replace hf := bc_t hf c_2
        exact hE () (lp_inr hor hf).symm _ _ _ hP hD hS (lv_sub hl [] rfl)
      · replace hf := bc_f hf c_2
        refine lv_aload_n hx hb dX8_agrees_10 rfl (lv_at hl 1 rfl) ?_
        refine va_get (D := G) (C := RX8) (T := TX8) (N := 4) (v := .ref (a 1)) hx hb hts iu_X8 hown hK hP 0 rfl rfl 1 (by decide) (hts _ kw88) (fun _ h9 => h9) rfl dX8_agrees_11 ?_
        refine lv_iload_n hx hb dX8_agrees_14 rfl (lv_at hl 0 rfl) ?_
        obtain ⟨g_3, hf⟩ := gd_e hf
        refine va_iald (f := sl.2.1 0) hx hb hK hP 1 0 rfl rfl g_3 dX8_agrees_15 ?_
        refine lv_iload_n hx hb dX8_agrees_16 rfl (lv_at hl 2 rfl) ?_
        refine lv_icmp_ne (tgt := 41) hx hb dX8_agrees_17 (by decide) (fun c_4 => ?_) (fun c_4 => ?_)
        · replace hf := bc_f hf c_4
          exact J41 v3 _ _ _ hP hD hS hl hf
        · replace hf := bc_t hf c_4
          refine lv_aload_n hx hb dX8_agrees_20 rfl (lv_at hl 3 rfl) ?_
          refine lv_aload_n hx hb dX8_agrees_21 rfl (lv_at hl 1 rfl) ?_
          refine va_get (D := G) (C := RX8) (T := TX8) (N := 4) (v := .ref (a 2)) hx hb hts iu_X8 hown hK hP 0 rfl rfl 2 (by decide) (hts _ kw90) (fun _ h9 => h9) rfl dX8_agrees_22 ?_
          refine lv_iload_n hx hb dX8_agrees_25 rfl (lv_at hl 0 rfl) ?_
          obtain ⟨g_5, hf⟩ := gd_e hf
          refine va_iald (f := sl.2.1 1) hx hb hK hP 2 0 rfl rfl g_5 dX8_agrees_26 ?_
          obtain ⟨r_6, hc6, hf⟩ := bd_e hf
          refine disp_X8_65 n (k := k) i2 hx hb hml hown hts hK hP hD hS hA hZ hc6 5 rfl rfl rfl rfl rfl rfl (Nat.le_of_ble_eq_true rfl) (Nat.le_of_ble_eq_true rfl) hl.1 (Nat.le_of_ble_eq_true rfl) dX8_agrees_27 ⟨Nat.zero_le _, Nat.zero_le _⟩ (fun H locs hP hD hS => ?_)
          refine WG_eq (g2 := F0 m 30 ls [.int r_6]) rfl ?_
          refine lv_aload_n hx hb dX8_agrees_30 rfl (lv_at hl 1 rfl) ?_
          refine va_get (D := G) (C := RX8) (T := TX8) (N := 4) (v := .ref (a 3)) hx hb hts iu_X8 hown hK hP 0 rfl rfl 3 (by decide) (hts _ kw92) (fun _ h9 => h9) rfl dX8_agrees_31 ?_
          refine lv_iload_n hx hb dX8_agrees_34 rfl (lv_at hl 0 rfl) ?_
          obtain ⟨g_7, hf⟩ := gd_e hf
          refine va_iald (f := sl.2.1 2) hx hb hK hP 3 0 rfl rfl g_7 dX8_agrees_35 ?_
          refine lv_icmp_eq (tgt := 41) hx hb dX8_agrees_36 (by decide) (fun c_8 => ?_) (fun c_8 => ?_)
          · replace hf := bc_t hf c_8
            exact J41 v3 _ _ _ hP hD hS hl hf
          · replace hf := bc_f hf c_8
            refine lv_iconst (v := 0) hx hb dX8_agrees_39 (by decide) ?_
            have hf := congrArg some (hT _ (lp_inr hor hf).symm)
            have e1 := Option.some.inj hf
            exact end_z (w' := (wl [lfS ct a sl, lfK ct k])) hx hb hr hlocks hK hP hD hS dX8_agrees_40 (by decide) ⟨by rw [← e1], rfl⟩
  unfold f_X8_agrees at hf
  show WG l G ct sk sv p e (RM 4 160 0 0) s m args below meth c A (Eq2 (some (.int r)) (wl [lfS ct a sl, lfK ct k])) s.heap [] (F0 m 0 ls [])
  refine lv_iconst (v := 0) hx hb dX8_agrees_0 (by decide) ?_
  refine lv_istore_n (lv' := [(3, .int 0), (0, .ref (a 0)), (1, .int v1), (2, .ref (k (1 + i2)))]) hx hb dX8_agrees_1 rfl hl (by decide) rfl (fun ls hl => ?_)
  obtain ⟨x_9, hx_9, hf⟩ := bs0_e hf
  refine L2 n v1 0 x_9 _ _ _ hP hD hS hl hx_9 ?_ ?_
  · intro xx exx H locs ls hP hD hS hl
    rw [exx] at hf
    try dsimp only at hf
    refine lv_iconst (v := 1) hx hb dX8_agrees_47 (by decide) ?_
    have e1 := Option.some.inj hf
    exact end_z (w' := (wl [lfS ct a sl, lfK ct k])) hx hb hr hlocks hK hP hD hS dX8_agrees_48 (by decide) ⟨by rw [← e1], rfl⟩
  · intro rr err
    rw [err] at hf
    exact Option.some.inj hf
noncomputable def f_X8_kindsNoted_j31 (n : Nat) (sl : MV) (v4 : Int32) (v3 : Int32) (v1 : Int32) : Option ((Int32 × Int32) ⊕ (Int32)) :=
  bl (v4 + 1) fun v4_1 =>
  some (.inl (v4_1, v3))
noncomputable def f_X8_kindsNoted_b5 (n : Nat) (sl : MV) (v4 : Int32) (v3 : Int32) (v1 : Int32) : Option ((Int32 × Int32) ⊕ (Int32)) :=
  bc (6 ≤ v4) (some (.inr v3))
  (gd (vp_in v4 6) <|
  bd (f_X8_agrees n sl (ix v4) v1) fun r_4 =>
  bc (r_4 = 0) (f_X8_kindsNoted_j31 n sl v4 v3 v1)
  (bl (v3 ||| (1 <<< (v4 &&& 31))) fun v3_6 =>
  f_X8_kindsNoted_j31 n sl v4 v3_6 v1))
noncomputable def f_X8_kindsNoted_l5 (fu : Nat) (n : Nat) (sl : MV) (v1 : Int32) (v4 : Int32) (v3 : Int32) : Option (Int32) :=
  lp (fun q => f_X8_kindsNoted_b5 n sl q.1 q.2 v1) fu (v4, v3)
noncomputable def f_X8_kindsNoted (n : Nat) (sl : MV) (v1 : Int32) : Option (Int32) :=
  bd (f_X8_kindsNoted_l5 n n sl v1 0 0) fun v3_7 =>
  some v3_7
set_option maxHeartbeats 4000000 in
set_option maxRecDepth 100000 in
theorem c_X8_kindsNoted (l : Launch) (G : va_G) (ct : Nat → ClassId) (sk sv : Nat → Nat) (a : Nat → Nat) (k : Nat → Nat) (n : Nat) (sl : MV) (v1 : Int32) {r : Int32} (hf : f_X8_kindsNoted n sl v1 = some r) : Ctr (l, G, ct, sk, sv) mX8_kindsNoted 5 183 [.ref (a 0), .int v1, .ref (k 0)] (wl [lfS ct a sl, lfK ct k]) (wl [lfS ct a sl, lfK ct k]) (some (.int r)) := by
  refine ctr_intro (by decide) (Nat.le_of_ble_eq_true rfl) ?_
  intro p e s m args below meth c A C hP hD hS hA ls hl
  obtain ⟨hx, hb, hml, hown, hts, hr, hlocks, hK, hnm, hZ⟩ := C
  have hb : c.code = cX8_kindsNoted := hb
  have hml : c.maxLocals = 5 := hml
  have hown : s.vm.findClass "SignedOutside$Slips" = some m.cls := hown
  have hr : meth.sig.returnType = some .int := hr
  have hP : va_P G classes (wl [lfS ct a sl, lfK ct k]) s.heap := hP
  have hD : va_D A (wl [lfS ct a sl, lfK ct k]) := hD
  have hK : va_K G classes (TYS ct) s := hK
  have hl : lv_has ls 5 [(0, .ref (a 0)), (1, .int v1), (2, .ref (k 0))] := hl
  have L5 : ∀ (fu : Nat) (v1 : Int32) (v4 : Int32) (v3 : Int32) (ex : Int32) (H : Heap) (locs : List Loc) (ls : Array Slot), va_P G classes (wl [lfS ct a sl, lfK ct k]) H → va_D A (wl [lfS ct a sl, lfK ct k]) → va_S A s.heap H locs → lv_has ls 5 [(4, .int v4), (3, .int v3), (0, .ref (a 0)), (1, .int v1), (2, .ref (k 0))] → f_X8_kindsNoted_l5 fu n sl v1 v4 v3 = some ex → (∀ (x : Int32), ex = x → ∀ (H : Heap) (locs : List Loc) (ls : Array Slot), va_P G classes (wl [lfS ct a sl, lfK ct k]) H → va_D A (wl [lfS ct a sl, lfK ct k]) → va_S A s.heap H locs → lv_has ls 5 [(3, .int x)] → WG l G ct sk sv p e (RM 5 183 0 0) s m args below meth c A (Eq2 (some (.int r)) (wl [lfS ct a sl, lfK ct k])) H locs (F0 m 37 ls [])) → WG l G ct sk sv p e (RM 5 183 0 0) s m args below meth c A (Eq2 (some (.int r)) (wl [lfS ct a sl, lfK ct k])) H locs (F0 m 5 ls []) := by
    intro fu
    induction fu with
    | zero =>
      intro v1 v4 v3 ex H locs ls hP hD hS hl hf
      exact absurd hf (by unfold f_X8_kindsNoted_l5 lp; exact fun h => by cases h)
    | succ fu ih =>
      intro v1 v4 v3 ex H locs ls hP hD hS hl hf hE
      unfold f_X8_kindsNoted_l5 at hf
      obtain ⟨q, hf, hor⟩ := lp_e hf
      have J31 : ∀ (v4 : Int32) (v3 : Int32) (H : Heap) (locs : List Loc) (ls : Array Slot), va_P G classes (wl [lfS ct a sl, lfK ct k]) H → va_D A (wl [lfS ct a sl, lfK ct k]) → va_S A s.heap H locs → lv_has ls 5 [(4, .int v4), (3, .int v3), (0, .ref (a 0)), (1, .int v1), (2, .ref (k 0))] → f_X8_kindsNoted_j31 n sl v4 v3 v1 = some q → WG l G ct sk sv p e (RM 5 183 0 0) s m args below meth c A (Eq2 (some (.int r)) (wl [lfS ct a sl, lfK ct k])) H locs (F0 m 31 ls []) := by
        intro v4 v3 H locs ls hP hD hS hl hf
        unfold f_X8_kindsNoted_j31 at hf
        obtain ⟨v4_1, ev4_1, hf⟩ := bl_e hf
        refine lv_iinc (v := v4_1) (lv' := [(4, .int v4_1), (3, .int v3), (0, .ref (a 0)), (1, .int v1), (2, .ref (k 0))]) hx hb dX8_kindsNoted_31 hl (k := 0) rfl ev4_1 (by decide) rfl (fun ls hl => ?_)
        refine lv_goto (tgt := 5) hx hb dX8_kindsNoted_34 (by decide) ?_
        exact ih v1 v4_1 v3 ex _ _ _ hP hD hS hl (lp_inl hor hf) hE
      replace hf : f_X8_kindsNoted_b5 n sl v4 v3 v1 = some q := hf
      unfold f_X8_kindsNoted_b5 at hf
      refine lv_iload hx hb dX8_kindsNoted_5 (lv_at hl 0 rfl) ?_
      refine lv_aload_n hx hb dX8_kindsNoted_7 rfl (lv_at hl 4 rfl) ?_
      refine va_alen (v := 6) hx hb hK hP 4 3 rfl rfl rfl dX8_kindsNoted_8 ?_
      refine lv_icmp_ge (tgt := 37) hx hb dX8_kindsNoted_9 (by decide) (fun c_2 => ?_) (fun c_2 => ?_)
      · replace hf := bc_t hf c_2
        exact hE v3 (lp_inr hor hf).symm _ _ _ hP hD hS (lv_sub hl [1] rfl)
      · replace hf := bc_f hf c_2
        refine lv_aload_n hx hb dX8_kindsNoted_12 rfl (lv_at hl 2 rfl) ?_
        refine lv_iload_n hx hb dX8_kindsNoted_13 rfl (lv_at hl 3 rfl) ?_
        refine lv_aload_n hx hb dX8_kindsNoted_14 rfl (lv_at hl 4 rfl) ?_
        refine lv_iload hx hb dX8_kindsNoted_15 (lv_at hl 0 rfl) ?_
        obtain ⟨g_3, hf⟩ := gd_e hf
        refine va_aldq (f := fun j => some (k (1 + j))) hx hb hK hP 4 3 rfl rfl g_3 dX8_kindsNoted_17 ?_
        obtain ⟨r_4, hc4, hf⟩ := bd_e hf
        refine call_V (As := [.int v1, .ref (k (1 + (ix v4)))]) (rest := []) hx hb hml hown hts hK hP hD hS hA hZ lkX8_74 (c_X8_agrees l G ct sk sv a k n sl (ix v4) v1 hc4) 0 rfl rfl ⟨Nat.le_of_ble_eq_true rfl, Nat.le_of_ble_eq_true rfl⟩ rfl hl.1 rfl (Nat.le_of_ble_eq_true rfl) dX8_kindsNoted_18 ⟨Nat.le_of_ble_eq_true rfl, Nat.le_of_ble_eq_true rfl⟩ (fun r9 w9 H locs hB hP hD hS => ?_)
        obtain ⟨rfl, rfl⟩ := hB
        refine WG_eq (g2 := F0 m 21 ls [.int r_4]) rfl ?_
        refine lv_if_eq (tgt := 31) hx hb dX8_kindsNoted_21 (by decide) (fun c_5 => ?_) (fun c_5 => ?_)
        · replace hf := bc_t hf c_5
          exact J31 v4 v3 _ _ _ hP hD hS hl hf
        · replace hf := bc_f hf c_5
          refine lv_iload_n hx hb dX8_kindsNoted_24 rfl (lv_at hl 1 rfl) ?_
          refine lv_iconst (v := 1) hx hb dX8_kindsNoted_25 (by decide) ?_
          refine lv_iload hx hb dX8_kindsNoted_26 (lv_at hl 0 rfl) ?_
          refine lv_ishl hx hb dX8_kindsNoted_28 ?_
          refine lv_ior hx hb dX8_kindsNoted_29 ?_
          refine lv_topi (fun v3_6 ev3_6 => ?_)
          replace hf := bl_i hf ev3_6
          refine lv_istore_n (lv' := [(3, .int v3_6), (4, .int v4), (0, .ref (a 0)), (1, .int v1), (2, .ref (k 0))]) hx hb dX8_kindsNoted_30 rfl hl (by decide) rfl (fun ls hl => ?_)
          exact J31 v4 v3_6 _ _ _ hP hD hS (lv_sub hl [1, 0, 2, 3, 4] rfl) hf
  unfold f_X8_kindsNoted at hf
  show WG l G ct sk sv p e (RM 5 183 0 0) s m args below meth c A (Eq2 (some (.int r)) (wl [lfS ct a sl, lfK ct k])) s.heap [] (F0 m 0 ls [])
  refine lv_iconst (v := 0) hx hb dX8_kindsNoted_0 (by decide) ?_
  refine lv_istore_n (lv' := [(3, .int 0), (0, .ref (a 0)), (1, .int v1), (2, .ref (k 0))]) hx hb dX8_kindsNoted_1 rfl hl (by decide) rfl (fun ls hl => ?_)
  refine lv_iconst (v := 0) hx hb dX8_kindsNoted_2 (by decide) ?_
  refine lv_istore (lv' := [(4, .int 0), (3, .int 0), (0, .ref (a 0)), (1, .int v1), (2, .ref (k 0))]) hx hb dX8_kindsNoted_3 hl (by decide) rfl (fun ls hl => ?_)
  obtain ⟨v3_7, hx_8, hf⟩ := bd_e hf
  refine L5 n v1 0 0 v3_7 _ _ _ hP hD hS hl hx_8 ?_
  intro x9 e9 H locs ls hP hD hS hl
  subst e9
  have hP : va_P G classes (wl [lfS ct a sl, lfK ct k]) H := hP
  have hD : va_D A (wl [lfS ct a sl, lfK ct k]) := hD
  have hl : lv_has ls 5 [(3, .int v3_7)] := hl
  refine lv_iload_n hx hb dX8_kindsNoted_37 rfl (lv_at hl 0 rfl) ?_
  have e1 := Option.some.inj hf
  exact end_i (w' := (wl [lfS ct a sl, lfK ct k])) hx hb hr hlocks hK hP hD hS dX8_kindsNoted_38  ⟨by rw [← e1], rfl⟩
noncomputable def f_X8_takeOver (n : Nat) (sl : MV) (slb : MV) : Option (MV) :=
  bl (setS sl 0 (slb.1 0)) fun sl_1 =>
  gd (cpOK 0 0 6 6 6) <|
  bl (setA sl_1 0 (va_cpy (slb.2.1 0) (sl_1.2.1 0) (ix 0) (ix 0) (ix 6))) fun sl_3 =>
  gd (cpOK 0 0 6 6 6) <|
  bl (setA sl_3 1 (va_cpy (slb.2.1 1) (sl_3.2.1 1) (ix 0) (ix 0) (ix 6))) fun sl_5 =>
  gd (cpOK 0 0 6 6 6) <|
  bl (setA sl_5 2 (va_cpy (slb.2.1 2) (sl_5.2.1 2) (ix 0) (ix 0) (ix 6))) fun sl_7 =>
  some sl_7
set_option maxHeartbeats 4000000 in
set_option maxRecDepth 100000 in
theorem c_X8_takeOver (l : Launch) (G : va_G) (ct : Nat → ClassId) (sk sv : Nat → Nat) (a : Nat → Nat) (b : Nat → Nat) (n : Nat) (sl : MV) (slb : MV) {sl' : MV} (hf : f_X8_takeOver n sl slb = some sl') : Ctr (l, G, ct, sk, sv) mX8_takeOver 1 64 [.ref (a 0), .ref (b 0)] (wl [lfS ct a sl, lfS ct b slb]) (wl [lfS ct a sl', lfS ct b slb]) (none) := by
  refine ctr_intro (by decide) (Nat.le_of_ble_eq_true rfl) ?_
  intro p e s m args below meth c A C hP hD hS hA ls hl
  obtain ⟨hx, hb, hml, hown, hts, hr, hlocks, hK, hnm, hZ⟩ := C
  have hb : c.code = cX8_takeOver := hb
  have hml : c.maxLocals = 2 := hml
  have hown : s.vm.findClass "SignedOutside$Slips" = some m.cls := hown
  have hr : meth.sig.returnType = none := hr
  have hP : va_P G classes (wl [lfS ct a sl, lfS ct b slb]) s.heap := hP
  have hD : va_D A (wl [lfS ct a sl, lfS ct b slb]) := hD
  have hK : va_K G classes (TYS ct) s := hK
  have hl : lv_has ls 2 [(0, .ref (a 0)), (1, .ref (b 0))] := hl
  unfold f_X8_takeOver at hf
  show WG l G ct sk sv p e (RM 1 64 0 0) s m args below meth c A (Eq2 (none) (wl [lfS ct a sl', lfS ct b slb])) s.heap [] (F0 m 0 ls [])
  refine lv_aload_n hx hb dX8_takeOver_0 rfl (lv_at hl 0 rfl) ?_
  refine lv_aload_n hx hb dX8_takeOver_1 rfl (lv_at hl 1 rfl) ?_
  refine va_get (D := G) (C := RX8) (T := TX8) (N := 4) (v := .int (slb.1 0)) hx hb hts iu_X8 hown hK hP 4 rfl rfl 0 (by decide) (hts _ kw85) (fun _ h9 => h9) rfl dX8_takeOver_2 ?_
  obtain ⟨sl_1, esl_1, hf⟩ := bl_e hf
  refine va_put (D := G) (C := RX8) (T := TX8) (N := 4) (ty := .int) hx hb hts iu_X8 tyX8 tyX8_ok nmX8 hown hK hP hD hS 0 rfl rfl 0 (by decide) (hts _ kw85) (fun _ h9 => h9) rfl (by decide +kernel) rfl rfl (Nat.le_of_ble_eq_true rfl) dX8_takeOver_5 (fun H locs hP hD hS => ?_)
  have hP : va_P G classes (wl [lfS ct a sl_1, lfS ct b slb]) H := by rw [← esl_1]; exact hP
  have hD : va_D A (wl [lfS ct a sl_1, lfS ct b slb]) := by rw [← esl_1]; exact hD
  refine lv_aload_n hx hb dX8_takeOver_8 rfl (lv_at hl 1 rfl) ?_
  refine va_get (D := G) (C := RX8) (T := TX8) (N := 4) (v := .ref (b 1)) hx hb hts iu_X8 hown hK hP 4 rfl rfl 1 (by decide) (hts _ kw88) (fun _ h9 => h9) rfl dX8_takeOver_9 ?_
  refine lv_iconst (v := 0) hx hb dX8_takeOver_12 (by decide) ?_
  refine lv_aload_n hx hb dX8_takeOver_13 rfl (lv_at hl 0 rfl) ?_
  refine va_get (D := G) (C := RX8) (T := TX8) (N := 4) (v := .ref (a 1)) hx hb hts iu_X8 hown hK hP 0 rfl rfl 1 (by decide) (hts _ kw88) (fun _ h9 => h9) rfl dX8_takeOver_14 ?_
  refine lv_iconst (v := 0) hx hb dX8_takeOver_17 (by decide) ?_
  refine lv_bipush (v := 6) hx hb dX8_takeOver_18 (by decide) ?_
  obtain ⟨g_2, hf⟩ := gd_e hf
  obtain ⟨sl_3, esl_3, hf⟩ := bl_e hf
  refine va_copyi (f := slb.2.1 0) (g := sl_1.2.1 0) hx hb (hml.trans hl.1.symm) hown (hts _ kw550) (hts _ kw545) (hts _ kw544) (hts _ kw19) hK hP hD hS 5 1 0 0 rfl rfl rfl rfl rfl g_2.1 g_2.2.1 g_2.2.2.1 g_2.2.2.2.1 g_2.2.2.2.2 (fun _ _ => rfl) (Nat.le_of_ble_eq_true rfl) (by decide) dX8_takeOver_20 (fun H locs hP hD hS => ?_)
  have hP : va_P G classes (wl [lfS ct a sl_3, lfS ct b slb]) H := by rw [← esl_3]; exact hP
  have hD : va_D A (wl [lfS ct a sl_3, lfS ct b slb]) := by rw [← esl_3]; exact hD
  refine lv_aload_n hx hb dX8_takeOver_23 rfl (lv_at hl 1 rfl) ?_
  refine va_get (D := G) (C := RX8) (T := TX8) (N := 4) (v := .ref (b 2)) hx hb hts iu_X8 hown hK hP 4 rfl rfl 2 (by decide) (hts _ kw90) (fun _ h9 => h9) rfl dX8_takeOver_24 ?_
  refine lv_iconst (v := 0) hx hb dX8_takeOver_27 (by decide) ?_
  refine lv_aload_n hx hb dX8_takeOver_28 rfl (lv_at hl 0 rfl) ?_
  refine va_get (D := G) (C := RX8) (T := TX8) (N := 4) (v := .ref (a 2)) hx hb hts iu_X8 hown hK hP 0 rfl rfl 2 (by decide) (hts _ kw90) (fun _ h9 => h9) rfl dX8_takeOver_29 ?_
  refine lv_iconst (v := 0) hx hb dX8_takeOver_32 (by decide) ?_
  refine lv_bipush (v := 6) hx hb dX8_takeOver_33 (by decide) ?_
  obtain ⟨g_4, hf⟩ := gd_e hf
  obtain ⟨sl_5, esl_5, hf⟩ := bl_e hf
  refine va_copyi (f := slb.2.1 1) (g := sl_3.2.1 1) hx hb (hml.trans hl.1.symm) hown (hts _ kw550) (hts _ kw545) (hts _ kw544) (hts _ kw19) hK hP hD hS 6 2 0 0 rfl rfl rfl rfl rfl g_4.1 g_4.2.1 g_4.2.2.1 g_4.2.2.2.1 g_4.2.2.2.2 (fun _ _ => rfl) (Nat.le_of_ble_eq_true rfl) (by decide) dX8_takeOver_35 (fun H locs hP hD hS => ?_)
  have hP : va_P G classes (wl [lfS ct a sl_5, lfS ct b slb]) H := by rw [← esl_5]; exact hP
  have hD : va_D A (wl [lfS ct a sl_5, lfS ct b slb]) := by rw [← esl_5]; exact hD
  refine lv_aload_n hx hb dX8_takeOver_38 rfl (lv_at hl 1 rfl) ?_
  refine va_get (D := G) (C := RX8) (T := TX8) (N := 4) (v := .ref (b 3)) hx hb hts iu_X8 hown hK hP 4 rfl rfl 3 (by decide) (hts _ kw92) (fun _ h9 => h9) rfl dX8_takeOver_39 ?_
  refine lv_iconst (v := 0) hx hb dX8_takeOver_42 (by decide) ?_
  refine lv_aload_n hx hb dX8_takeOver_43 rfl (lv_at hl 0 rfl) ?_
  refine va_get (D := G) (C := RX8) (T := TX8) (N := 4) (v := .ref (a 3)) hx hb hts iu_X8 hown hK hP 0 rfl rfl 3 (by decide) (hts _ kw92) (fun _ h9 => h9) rfl dX8_takeOver_44 ?_
  refine lv_iconst (v := 0) hx hb dX8_takeOver_47 (by decide) ?_
  refine lv_bipush (v := 6) hx hb dX8_takeOver_48 (by decide) ?_
  obtain ⟨g_6, hf⟩ := gd_e hf
  obtain ⟨sl_7, esl_7, hf⟩ := bl_e hf
  refine va_copyi (f := slb.2.1 2) (g := sl_5.2.1 2) hx hb (hml.trans hl.1.symm) hown (hts _ kw550) (hts _ kw545) (hts _ kw544) (hts _ kw19) hK hP hD hS 7 3 0 0 rfl rfl rfl rfl rfl g_6.1 g_6.2.1 g_6.2.2.1 g_6.2.2.2.1 g_6.2.2.2.2 (fun _ _ => rfl) (Nat.le_of_ble_eq_true rfl) (by decide) dX8_takeOver_50 (fun H locs hP hD hS => ?_)
  have hP : va_P G classes (wl [lfS ct a sl_7, lfS ct b slb]) H := by rw [← esl_7]; exact hP
  have hD : va_D A (wl [lfS ct a sl_7, lfS ct b slb]) := by rw [← esl_7]; exact hD
  have e1 := Option.some.inj hf
  exact end_v (w' := (wl [lfS ct a sl_7, lfS ct b slb])) hx hb hr hlocks hK hP hD hS dX8_takeOver_53  ⟨rfl, by rw [← e1]⟩
noncomputable def f_X4_makeEmpty (n : Nat) (ps : MV) : Option (MV) :=
  bl (setS ps 0 0) fun ps_1 =>
  bl (setS ps_1 1 0) fun ps_2 =>
  some ps_2
set_option maxHeartbeats 4000000 in
set_option maxRecDepth 100000 in
theorem c_X4_makeEmpty (l : Launch) (G : va_G) (ct : Nat → ClassId) (sk sv : Nat → Nat) (a : Nat → Nat) (n : Nat) (ps : MV) {ps' : MV} (hf : f_X4_makeEmpty n ps = some ps') : Ctr (l, G, ct, sk, sv) mX4_makeEmpty 0 0 [.ref (a 0)] (wl [lfP ct a ps]) (wl [lfP ct a ps']) (none) := by
  refine ctr_intro (by decide) (Nat.le_of_ble_eq_true rfl) ?_
  intro p e s m args below meth c A C hP hD hS hA ls hl
  obtain ⟨hx, hb, hml, hown, hts, hr, hlocks, hK, hnm, hZ⟩ := C
  have hb : c.code = cX4_makeEmpty := hb
  have hml : c.maxLocals = 1 := hml
  have hown : s.vm.findClass "SignedOutside$Past" = some m.cls := hown
  have hr : meth.sig.returnType = none := hr
  have hP : va_P G classes (wl [lfP ct a ps]) s.heap := hP
  have hD : va_D A (wl [lfP ct a ps]) := hD
  have hK : va_K G classes (TYS ct) s := hK
  have hl : lv_has ls 1 [(0, .ref (a 0))] := hl
  unfold f_X4_makeEmpty at hf
  show WG l G ct sk sv p e (RM 0 0 0 0) s m args below meth c A (Eq2 (none) (wl [lfP ct a ps'])) s.heap [] (F0 m 0 ls [])
  refine lv_aload_n hx hb dX4_makeEmpty_0 rfl (lv_at hl 0 rfl) ?_
  refine lv_iconst (v := 0) hx hb dX4_makeEmpty_1 (by decide) ?_
  obtain ⟨ps_1, eps_1, hf⟩ := bl_e hf
  refine va_put (D := G) (C := RX4) (T := TX4) (N := 3) (ty := .int) hx hb hts iu_X4 tyX4 tyX4_ok nmX4 hown hK hP hD hS 0 rfl rfl 1 (by decide) (hts _ kw111) (fun _ h9 => h9) rfl (by decide +kernel) rfl rfl (Nat.le_of_ble_eq_true rfl) dX4_makeEmpty_2 (fun H locs hP hD hS => ?_)
  have hP : va_P G classes (wl [lfP ct a ps_1]) H := by rw [← eps_1]; exact hP
  have hD : va_D A (wl [lfP ct a ps_1]) := by rw [← eps_1]; exact hD
  refine lv_aload_n hx hb dX4_makeEmpty_5 rfl (lv_at hl 0 rfl) ?_
  refine lv_iconst (v := 0) hx hb dX4_makeEmpty_6 (by decide) ?_
  obtain ⟨ps_2, eps_2, hf⟩ := bl_e hf
  refine va_put (D := G) (C := RX4) (T := TX4) (N := 3) (ty := .int) hx hb hts iu_X4 tyX4 tyX4_ok nmX4 hown hK hP hD hS 0 rfl rfl 2 (by decide) (hts _ kw112) (fun _ h9 => h9) rfl (by decide +kernel) rfl rfl (Nat.le_of_ble_eq_true rfl) dX4_makeEmpty_7 (fun H locs hP hD hS => ?_)
  have hP : va_P G classes (wl [lfP ct a ps_2]) H := by rw [← eps_2]; exact hP
  have hD : va_D A (wl [lfP ct a ps_2]) := by rw [← eps_2]; exact hD
  have e1 := Option.some.inj hf
  exact end_v (w' := (wl [lfP ct a ps_2])) hx hb hr hlocks hK hP hD hS dX4_makeEmpty_10  ⟨rfl, by rw [← e1]⟩
noncomputable def f_X4_takeOver (n : Nat) (ps : MV) (psb : MV) : Option (MV) :=
  gd (cpOK 0 0 152 152 152) <|
  bl (setA ps 0 (va_cpy (psb.2.1 0) (ps.2.1 0) (ix 0) (ix 0) (ix 152))) fun ps_2 =>
  bl (setS ps_2 0 (psb.1 0)) fun ps_3 =>
  bl (setS ps_3 1 (psb.1 1)) fun ps_4 =>
  some ps_4
set_option maxHeartbeats 4000000 in
set_option maxRecDepth 100000 in
theorem c_X4_takeOver (l : Launch) (G : va_G) (ct : Nat → ClassId) (sk sv : Nat → Nat) (a : Nat → Nat) (b : Nat → Nat) (n : Nat) (ps : MV) (psb : MV) {ps' : MV} (hf : f_X4_takeOver n ps psb = some ps') : Ctr (l, G, ct, sk, sv) mX4_takeOver 1 64 [.ref (a 0), .ref (b 0)] (wl [lfP ct a ps, lfP ct b psb]) (wl [lfP ct a ps', lfP ct b psb]) (none) := by
  refine ctr_intro (by decide) (Nat.le_of_ble_eq_true rfl) ?_
  intro p e s m args below meth c A C hP hD hS hA ls hl
  obtain ⟨hx, hb, hml, hown, hts, hr, hlocks, hK, hnm, hZ⟩ := C
  have hb : c.code = cX4_takeOver := hb
  have hml : c.maxLocals = 2 := hml
  have hown : s.vm.findClass "SignedOutside$Past" = some m.cls := hown
  have hr : meth.sig.returnType = none := hr
  have hP : va_P G classes (wl [lfP ct a ps, lfP ct b psb]) s.heap := hP
  have hD : va_D A (wl [lfP ct a ps, lfP ct b psb]) := hD
  have hK : va_K G classes (TYS ct) s := hK
  have hl : lv_has ls 2 [(0, .ref (a 0)), (1, .ref (b 0))] := hl
  unfold f_X4_takeOver at hf
  show WG l G ct sk sv p e (RM 1 64 0 0) s m args below meth c A (Eq2 (none) (wl [lfP ct a ps', lfP ct b psb])) s.heap [] (F0 m 0 ls [])
  refine lv_aload_n hx hb dX4_takeOver_0 rfl (lv_at hl 1 rfl) ?_
  refine va_get (D := G) (C := RX4) (T := TX4) (N := 3) (v := .ref (b 1)) hx hb hts iu_X4 hown hK hP 2 rfl rfl 0 (by decide) (hts _ kw110) (fun _ h9 => h9) rfl dX4_takeOver_1 ?_
  refine lv_iconst (v := 0) hx hb dX4_takeOver_4 (by decide) ?_
  refine lv_aload_n hx hb dX4_takeOver_5 rfl (lv_at hl 0 rfl) ?_
  refine va_get (D := G) (C := RX4) (T := TX4) (N := 3) (v := .ref (a 1)) hx hb hts iu_X4 hown hK hP 0 rfl rfl 0 (by decide) (hts _ kw110) (fun _ h9 => h9) rfl dX4_takeOver_6 ?_
  refine lv_iconst (v := 0) hx hb dX4_takeOver_9 (by decide) ?_
  refine lv_sipush (v := 152) hx hb dX4_takeOver_10 (by decide) ?_
  obtain ⟨g_1, hf⟩ := gd_e hf
  obtain ⟨ps_2, eps_2, hf⟩ := bl_e hf
  refine va_copyi (f := psb.2.1 0) (g := ps.2.1 0) hx hb (hml.trans hl.1.symm) hown (hts _ kw555) (hts _ kw545) (hts _ kw544) (hts _ kw19) hK hP hD hS 3 1 0 0 rfl rfl rfl rfl rfl g_1.1 g_1.2.1 g_1.2.2.1 g_1.2.2.2.1 g_1.2.2.2.2 (fun _ _ => rfl) (Nat.le_of_ble_eq_true rfl) (by decide) dX4_takeOver_13 (fun H locs hP hD hS => ?_)
  have hP : va_P G classes (wl [lfP ct a ps_2, lfP ct b psb]) H := by rw [← eps_2]; exact hP
  have hD : va_D A (wl [lfP ct a ps_2, lfP ct b psb]) := by rw [← eps_2]; exact hD
  refine lv_aload_n hx hb dX4_takeOver_16 rfl (lv_at hl 0 rfl) ?_
  refine lv_aload_n hx hb dX4_takeOver_17 rfl (lv_at hl 1 rfl) ?_
  refine va_get (D := G) (C := RX4) (T := TX4) (N := 3) (v := .int (psb.1 0)) hx hb hts iu_X4 hown hK hP 2 rfl rfl 1 (by decide) (hts _ kw111) (fun _ h9 => h9) rfl dX4_takeOver_18 ?_
  obtain ⟨ps_3, eps_3, hf⟩ := bl_e hf
  refine va_put (D := G) (C := RX4) (T := TX4) (N := 3) (ty := .int) hx hb hts iu_X4 tyX4 tyX4_ok nmX4 hown hK hP hD hS 0 rfl rfl 1 (by decide) (hts _ kw111) (fun _ h9 => h9) rfl (by decide +kernel) rfl rfl (Nat.le_of_ble_eq_true rfl) dX4_takeOver_21 (fun H locs hP hD hS => ?_)
  have hP : va_P G classes (wl [lfP ct a ps_3, lfP ct b psb]) H := by rw [← eps_3]; exact hP
  have hD : va_D A (wl [lfP ct a ps_3, lfP ct b psb]) := by rw [← eps_3]; exact hD
  refine lv_aload_n hx hb dX4_takeOver_24 rfl (lv_at hl 0 rfl) ?_
  refine lv_aload_n hx hb dX4_takeOver_25 rfl (lv_at hl 1 rfl) ?_
  refine va_get (D := G) (C := RX4) (T := TX4) (N := 3) (v := .int (psb.1 1)) hx hb hts iu_X4 hown hK hP 2 rfl rfl 2 (by decide) (hts _ kw112) (fun _ h9 => h9) rfl dX4_takeOver_26 ?_
  obtain ⟨ps_4, eps_4, hf⟩ := bl_e hf
  refine va_put (D := G) (C := RX4) (T := TX4) (N := 3) (ty := .int) hx hb hts iu_X4 tyX4 tyX4_ok nmX4 hown hK hP hD hS 0 rfl rfl 2 (by decide) (hts _ kw112) (fun _ h9 => h9) rfl (by decide +kernel) rfl rfl (Nat.le_of_ble_eq_true rfl) dX4_takeOver_29 (fun H locs hP hD hS => ?_)
  have hP : va_P G classes (wl [lfP ct a ps_4, lfP ct b psb]) H := by rw [← eps_4]; exact hP
  have hD : va_D A (wl [lfP ct a ps_4, lfP ct b psb]) := by rw [← eps_4]; exact hD
  have e1 := Option.some.inj hf
  exact end_v (w' := (wl [lfP ct a ps_4, lfP ct b psb])) hx hb hr hlocks hK hP hD hS dX4_takeOver_32  ⟨rfl, by rw [← e1]⟩
noncomputable def f_X4_keep_j28 (n : Nat) (h : MV) (ps : MV) : Option (MV) :=
  bl ((ps.1 0) + (ps.1 1)) fun w_1 =>
  bl ((w_1 - w_1 / 8 * 8) * 19) fun v2_2 =>
  gd (cpOK 0 v2_2 5 5 152) <|
  bl (setA ps 0 (va_cpy (h.2.1 1) (ps.2.1 0) (ix 0) (ix v2_2) (ix 5))) fun ps_4 =>
  gd (cpOK 0 (v2_2 + 5) 5 5 152) <|
  bl (setA ps_4 0 (va_cpy (h.2.1 2) (ps_4.2.1 0) (ix 0) (ix (v2_2 + 5)) (ix 5))) fun ps_6 =>
  gd (cpOK 0 (v2_2 + 10) 6 6 152) <|
  bl (setA ps_6 0 (va_cpy (h.2.1 6) (ps_6.2.1 0) (ix 0) (ix (v2_2 + 10)) (ix 6))) fun ps_8 =>
  bl ((v2_2 + 10) + 6) fun v3_9 =>
  gd (vp_in v3_9 152) <|
  bl (setA ps_8 0 (upd (ps_8.2.1 0) (ix v3_9) (h.1 2))) fun ps_11 =>
  gd (vp_in (v3_9 + 1) 152) <|
  bl (setA ps_11 0 (upd (ps_11.2.1 0) (ix (v3_9 + 1)) (h.1 3))) fun ps_13 =>
  gd (vp_in (v3_9 + 2) 152) <|
  bl (setA ps_13 0 (upd (ps_13.2.1 0) (ix (v3_9 + 2)) (h.1 4))) fun ps_15 =>
  bl (setS ps_15 1 ((ps_15.1 1) + 1)) fun ps_16 =>
  some ps_16
noncomputable def f_X4_keep (n : Nat) (h : MV) (ps : MV) : Option (MV) :=
  bc ((ps.1 1) < 8) (f_X4_keep_j28 n h ps)
  (bl ((ps.1 0) + 1) fun w_18 =>
  bl (setS ps 0 (w_18 - w_18 / 8 * 8)) fun ps_19 =>
  bl (setS ps_19 1 7) fun ps_20 =>
  f_X4_keep_j28 n h ps_20)
set_option maxHeartbeats 4000000 in
set_option maxRecDepth 100000 in
theorem c_X4_keep (l : Launch) (G : va_G) (ct : Nat → ClassId) (sk sv : Nat → Nat) (a : Nat → Nat) (k : Nat → Nat) (n : Nat) (h : MV) (ps : MV) {ps' : MV} (hf : f_X4_keep n h ps = some ps') : Ctr (l, G, ct, sk, sv) mX4_keep 1 64 [.ref (a 16), .ref (a 0)] (wl [lfH ct a k h, lfP ct (fun j => a (16 + j)) ps]) (wl [lfH ct a k h, lfP ct (fun j => a (16 + j)) ps']) (none) := by
  refine ctr_intro (by decide) (Nat.le_of_ble_eq_true rfl) ?_
  intro p e s m args below meth c A C hP hD hS hA ls hl
  obtain ⟨hx, hb, hml, hown, hts, hr, hlocks, hK, hnm, hZ⟩ := C
  have hb : c.code = cX4_keep := hb
  have hml : c.maxLocals = 4 := hml
  have hown : s.vm.findClass "SignedOutside$Past" = some m.cls := hown
  have hr : meth.sig.returnType = none := hr
  have hP : va_P G classes (wl [lfH ct a k h, lfP ct (fun j => a (16 + j)) ps]) s.heap := hP
  have hD : va_D A (wl [lfH ct a k h, lfP ct (fun j => a (16 + j)) ps]) := hD
  have hK : va_K G classes (TYS ct) s := hK
  have hl : lv_has ls 4 [(0, .ref (a 16)), (1, .ref (a 0))] := hl
  have J28 : ∀ (ps : MV) (H : Heap) (locs : List Loc) (ls : Array Slot), va_P G classes (wl [lfH ct a k h, lfP ct (fun j => a (16 + j)) ps]) H → va_D A (wl [lfH ct a k h, lfP ct (fun j => a (16 + j)) ps]) → va_S A s.heap H locs → lv_has ls 4 [(0, .ref (a 16)), (1, .ref (a 0))] → f_X4_keep_j28 n h ps = some ps' → WG l G ct sk sv p e (RM 1 64 0 0) s m args below meth c A (Eq2 (none) (wl [lfH ct a k h, lfP ct (fun j => a (16 + j)) ps'])) H locs (F0 m 28 ls []) := by
    intro ps H locs ls hP hD hS hl hf
    unfold f_X4_keep_j28 at hf
    refine lv_aload_n hx hb dX4_keep_28 rfl (lv_at hl 0 rfl) ?_
    refine va_get (D := G) (C := RX4) (T := TX4) (N := 3) (v := .int (ps.1 0)) hx hb hts iu_X4 hown hK hP 8 rfl rfl 1 (by decide) (hts _ kw111) (fun _ h9 => h9) rfl dX4_keep_29 ?_
    refine lv_aload_n hx hb dX4_keep_32 rfl (lv_at hl 0 rfl) ?_
    refine va_get (D := G) (C := RX4) (T := TX4) (N := 3) (v := .int (ps.1 1)) hx hb hts iu_X4 hown hK hP 8 rfl rfl 2 (by decide) (hts _ kw112) (fun _ h9 => h9) rfl dX4_keep_33 ?_
    refine lv_iadd hx hb dX4_keep_36 ?_
    refine lv_bipush (v := 8) hx hb dX4_keep_37 (by decide) ?_
    obtain ⟨w_1, ew_1, hf⟩ := bl_e hf
    refine W.eq (g2 := F0 m 39 ls ([.int 8, .int w_1])) (by rw [← ew_1]) ?_
    refine lv_irem hx hb dX4_keep_39 (by decide) ?_
    refine lv_bipush (v := 19) hx hb dX4_keep_40 (by decide) ?_
    refine lv_imul hx hb dX4_keep_42 ?_
    refine lv_topi (fun v2_2 ev2_2 => ?_)
    replace hf := bl_i hf ev2_2
    refine lv_istore_n (lv' := [(2, .int v2_2), (0, .ref (a 16)), (1, .ref (a 0))]) hx hb dX4_keep_43 rfl hl (by decide) rfl (fun ls hl => ?_)
    refine lv_aload_n hx hb dX4_keep_44 rfl (lv_at hl 2 rfl) ?_
    refine va_get (D := G) (C := RX1) (T := TX1) (N := 16) (v := .ref (a 2)) hx hb hts iu_X1 hown hK hP 0 rfl rfl 3 (by decide) (hts _ kw130) (fun _ h9 => h9) rfl dX4_keep_45 ?_
    refine lv_iconst (v := 0) hx hb dX4_keep_48 (by decide) ?_
    refine lv_aload_n hx hb dX4_keep_49 rfl (lv_at hl 1 rfl) ?_
    refine va_get (D := G) (C := RX4) (T := TX4) (N := 3) (v := .ref (a 17)) hx hb hts iu_X4 hown hK hP 8 rfl rfl 0 (by decide) (hts _ kw110) (fun _ h9 => h9) rfl dX4_keep_50 ?_
    refine lv_iload_n hx hb dX4_keep_53 rfl (lv_at hl 0 rfl) ?_
    refine lv_iconst (v := 5) hx hb dX4_keep_54 (by decide) ?_
    obtain ⟨g_3, hf⟩ := gd_e hf
    obtain ⟨ps_4, eps_4, hf⟩ := bl_e hf
    refine va_copyi (f := h.2.1 1) (g := ps.2.1 0) hx hb (hml.trans hl.1.symm) hown (hts _ kw555) (hts _ kw545) (hts _ kw544) (hts _ kw19) hK hP hD hS 2 9 0 0 rfl rfl rfl rfl rfl g_3.1 g_3.2.1 g_3.2.2.1 g_3.2.2.2.1 g_3.2.2.2.2 (fun _ _ => rfl) (Nat.le_of_ble_eq_true rfl) (by decide) dX4_keep_55 (fun H locs hP hD hS => ?_)
    have hP : va_P G classes (wl [lfH ct a k h, lfP ct (fun j => a (16 + j)) ps_4]) H := by rw [← eps_4]; exact hP
    have hD : va_D A (wl [lfH ct a k h, lfP ct (fun j => a (16 + j)) ps_4]) := by rw [← eps_4]; exact hD
    refine lv_aload_n hx hb dX4_keep_58 rfl (lv_at hl 2 rfl) ?_
    refine va_get (D := G) (C := RX1) (T := TX1) (N := 16) (v := .ref (a 3)) hx hb hts iu_X1 hown hK hP 0 rfl rfl 4 (by decide) (hts _ kw133) (fun _ h9 => h9) rfl dX4_keep_59 ?_
    refine lv_iconst (v := 0) hx hb dX4_keep_62 (by decide) ?_
    refine lv_aload_n hx hb dX4_keep_63 rfl (lv_at hl 1 rfl) ?_
    refine va_get (D := G) (C := RX4) (T := TX4) (N := 3) (v := .ref (a 17)) hx hb hts iu_X4 hown hK hP 8 rfl rfl 0 (by decide) (hts _ kw110) (fun _ h9 => h9) rfl dX4_keep_64 ?_
    refine lv_iload_n hx hb dX4_keep_67 rfl (lv_at hl 0 rfl) ?_
    refine lv_iconst (v := 5) hx hb dX4_keep_68 (by decide) ?_
    refine lv_iadd hx hb dX4_keep_69 ?_
    refine lv_iconst (v := 5) hx hb dX4_keep_70 (by decide) ?_
    obtain ⟨g_5, hf⟩ := gd_e hf
    obtain ⟨ps_6, eps_6, hf⟩ := bl_e hf
    refine va_copyi (f := h.2.1 2) (g := ps_4.2.1 0) hx hb (hml.trans hl.1.symm) hown (hts _ kw555) (hts _ kw545) (hts _ kw544) (hts _ kw19) hK hP hD hS 3 9 0 0 rfl rfl rfl rfl rfl g_5.1 g_5.2.1 g_5.2.2.1 g_5.2.2.2.1 g_5.2.2.2.2 (fun _ _ => rfl) (Nat.le_of_ble_eq_true rfl) (by decide) dX4_keep_71 (fun H locs hP hD hS => ?_)
    have hP : va_P G classes (wl [lfH ct a k h, lfP ct (fun j => a (16 + j)) ps_6]) H := by rw [← eps_6]; exact hP
    have hD : va_D A (wl [lfH ct a k h, lfP ct (fun j => a (16 + j)) ps_6]) := by rw [← eps_6]; exact hD
    refine lv_aload_n hx hb dX4_keep_74 rfl (lv_at hl 2 rfl) ?_
    refine va_get (D := G) (C := RX1) (T := TX1) (N := 16) (v := .ref (a 7)) hx hb hts iu_X1 hown hK hP 0 rfl rfl 9 (by decide) (hts _ kw146) (fun _ h9 => h9) rfl dX4_keep_75 ?_
    refine lv_iconst (v := 0) hx hb dX4_keep_78 (by decide) ?_
    refine lv_aload_n hx hb dX4_keep_79 rfl (lv_at hl 1 rfl) ?_
    refine va_get (D := G) (C := RX4) (T := TX4) (N := 3) (v := .ref (a 17)) hx hb hts iu_X4 hown hK hP 8 rfl rfl 0 (by decide) (hts _ kw110) (fun _ h9 => h9) rfl dX4_keep_80 ?_
    refine lv_iload_n hx hb dX4_keep_83 rfl (lv_at hl 0 rfl) ?_
    refine lv_bipush (v := 10) hx hb dX4_keep_84 (by decide) ?_
    refine lv_iadd hx hb dX4_keep_86 ?_
    refine lv_bipush (v := 6) hx hb dX4_keep_87 (by decide) ?_
    obtain ⟨g_7, hf⟩ := gd_e hf
    obtain ⟨ps_8, eps_8, hf⟩ := bl_e hf
    refine va_copyi (f := h.2.1 6) (g := ps_6.2.1 0) hx hb (hml.trans hl.1.symm) hown (hts _ kw555) (hts _ kw545) (hts _ kw544) (hts _ kw19) hK hP hD hS 7 9 0 0 rfl rfl rfl rfl rfl g_7.1 g_7.2.1 g_7.2.2.1 g_7.2.2.2.1 g_7.2.2.2.2 (fun _ _ => rfl) (Nat.le_of_ble_eq_true rfl) (by decide) dX4_keep_89 (fun H locs hP hD hS => ?_)
    have hP : va_P G classes (wl [lfH ct a k h, lfP ct (fun j => a (16 + j)) ps_8]) H := by rw [← eps_8]; exact hP
    have hD : va_D A (wl [lfH ct a k h, lfP ct (fun j => a (16 + j)) ps_8]) := by rw [← eps_8]; exact hD
    refine lv_iload_n hx hb dX4_keep_92 rfl (lv_at hl 0 rfl) ?_
    refine lv_bipush (v := 10) hx hb dX4_keep_93 (by decide) ?_
    refine lv_iadd hx hb dX4_keep_95 ?_
    refine lv_bipush (v := 6) hx hb dX4_keep_96 (by decide) ?_
    refine lv_iadd hx hb dX4_keep_98 ?_
    refine lv_topi (fun v3_9 ev3_9 => ?_)
    replace hf := bl_i hf ev3_9
    refine lv_istore_n (lv' := [(3, .int v3_9), (2, .int v2_2), (0, .ref (a 16)), (1, .ref (a 0))]) hx hb dX4_keep_99 rfl hl (by decide) rfl (fun ls hl => ?_)
    refine lv_aload_n hx hb dX4_keep_100 rfl (lv_at hl 2 rfl) ?_
    refine va_get (D := G) (C := RX4) (T := TX4) (N := 3) (v := .ref (a 17)) hx hb hts iu_X4 hown hK hP 8 rfl rfl 0 (by decide) (hts _ kw110) (fun _ h9 => h9) rfl dX4_keep_101 ?_
    refine lv_iload_n hx hb dX4_keep_104 rfl (lv_at hl 0 rfl) ?_
    refine lv_aload_n hx hb dX4_keep_105 rfl (lv_at hl 3 rfl) ?_
    refine va_get (D := G) (C := RX1) (T := TX1) (N := 16) (v := .int (h.1 2)) hx hb hts iu_X1 hown hK hP 0 rfl rfl 10 (by decide) (hts _ kw149) (fun _ h9 => h9) rfl dX4_keep_106 ?_
    obtain ⟨g_10, hf⟩ := gd_e hf
    obtain ⟨ps_11, eps_11, hf⟩ := bl_e hf
    refine va_iast hx hb hK hP hD hS 9 0 rfl rfl g_10 dX4_keep_109 (fun H locs hP hD hS => ?_)
    have hP : va_P G classes (wl [lfH ct a k h, lfP ct (fun j => a (16 + j)) ps_11]) H := by rw [← eps_11]; exact hP
    have hD : va_D A (wl [lfH ct a k h, lfP ct (fun j => a (16 + j)) ps_11]) := by rw [← eps_11]; exact hD
    refine lv_aload_n hx hb dX4_keep_110 rfl (lv_at hl 2 rfl) ?_
    refine va_get (D := G) (C := RX4) (T := TX4) (N := 3) (v := .ref (a 17)) hx hb hts iu_X4 hown hK hP 8 rfl rfl 0 (by decide) (hts _ kw110) (fun _ h9 => h9) rfl dX4_keep_111 ?_
    refine lv_iload_n hx hb dX4_keep_114 rfl (lv_at hl 0 rfl) ?_
    refine lv_iconst (v := 1) hx hb dX4_keep_115 (by decide) ?_
    refine lv_iadd hx hb dX4_keep_116 ?_
    refine lv_aload_n hx hb dX4_keep_117 rfl (lv_at hl 3 rfl) ?_
    refine va_get (D := G) (C := RX1) (T := TX1) (N := 16) (v := .int (h.1 3)) hx hb hts iu_X1 hown hK hP 0 rfl rfl 11 (by decide) (hts _ kw152) (fun _ h9 => h9) rfl dX4_keep_118 ?_
    obtain ⟨g_12, hf⟩ := gd_e hf
    obtain ⟨ps_13, eps_13, hf⟩ := bl_e hf
    refine va_iast hx hb hK hP hD hS 9 0 rfl rfl g_12 dX4_keep_121 (fun H locs hP hD hS => ?_)
    have hP : va_P G classes (wl [lfH ct a k h, lfP ct (fun j => a (16 + j)) ps_13]) H := by rw [← eps_13]; exact hP
    have hD : va_D A (wl [lfH ct a k h, lfP ct (fun j => a (16 + j)) ps_13]) := by rw [← eps_13]; exact hD
    refine lv_aload_n hx hb dX4_keep_122 rfl (lv_at hl 2 rfl) ?_
    refine va_get (D := G) (C := RX4) (T := TX4) (N := 3) (v := .ref (a 17)) hx hb hts iu_X4 hown hK hP 8 rfl rfl 0 (by decide) (hts _ kw110) (fun _ h9 => h9) rfl dX4_keep_123 ?_
    refine lv_iload_n hx hb dX4_keep_126 rfl (lv_at hl 0 rfl) ?_
    refine lv_iconst (v := 2) hx hb dX4_keep_127 (by decide) ?_
    refine lv_iadd hx hb dX4_keep_128 ?_
    refine lv_aload_n hx hb dX4_keep_129 rfl (lv_at hl 3 rfl) ?_
    refine va_get (D := G) (C := RX1) (T := TX1) (N := 16) (v := .int (h.1 4)) hx hb hts iu_X1 hown hK hP 0 rfl rfl 12 (by decide) (hts _ kw155) (fun _ h9 => h9) rfl dX4_keep_130 ?_
    obtain ⟨g_14, hf⟩ := gd_e hf
    obtain ⟨ps_15, eps_15, hf⟩ := bl_e hf
    refine va_iast hx hb hK hP hD hS 9 0 rfl rfl g_14 dX4_keep_133 (fun H locs hP hD hS => ?_)
    have hP : va_P G classes (wl [lfH ct a k h, lfP ct (fun j => a (16 + j)) ps_15]) H := by rw [← eps_15]; exact hP
    have hD : va_D A (wl [lfH ct a k h, lfP ct (fun j => a (16 + j)) ps_15]) := by rw [← eps_15]; exact hD
    refine lv_aload_n hx hb dX4_keep_134 rfl (lv_at hl 2 rfl) ?_
    refine lv_dup hx hb dX4_keep_135 rfl ?_
    refine va_get (D := G) (C := RX4) (T := TX4) (N := 3) (v := .int (ps_15.1 1)) hx hb hts iu_X4 hown hK hP 8 rfl rfl 2 (by decide) (hts _ kw112) (fun _ h9 => h9) rfl dX4_keep_136 ?_
    refine lv_iconst (v := 1) hx hb dX4_keep_139 (by decide) ?_
    refine lv_iadd hx hb dX4_keep_140 ?_
    obtain ⟨ps_16, eps_16, hf⟩ := bl_e hf
    refine va_put (D := G) (C := RX4) (T := TX4) (N := 3) (ty := .int) hx hb hts iu_X4 tyX4 tyX4_ok nmX4 hown hK hP hD hS 8 rfl rfl 2 (by decide) (hts _ kw112) (fun _ h9 => h9) rfl (by decide +kernel) rfl rfl (Nat.le_of_ble_eq_true rfl) dX4_keep_141 (fun H locs hP hD hS => ?_)
    have hP : va_P G classes (wl [lfH ct a k h, lfP ct (fun j => a (16 + j)) ps_16]) H := by rw [← eps_16]; exact hP
    have hD : va_D A (wl [lfH ct a k h, lfP ct (fun j => a (16 + j)) ps_16]) := by rw [← eps_16]; exact hD
    have e1 := Option.some.inj hf
    exact end_v (w' := (wl [lfH ct a k h, lfP ct (fun j => a (16 + j)) ps_16])) hx hb hr hlocks hK hP hD hS dX4_keep_144  ⟨rfl, by rw [← e1]⟩
  unfold f_X4_keep at hf
  show WG l G ct sk sv p e (RM 1 64 0 0) s m args below meth c A (Eq2 (none) (wl [lfH ct a k h, lfP ct (fun j => a (16 + j)) ps'])) s.heap [] (F0 m 0 ls [])
  refine lv_aload_n hx hb dX4_keep_0 rfl (lv_at hl 0 rfl) ?_
  refine va_get (D := G) (C := RX4) (T := TX4) (N := 3) (v := .int (ps.1 1)) hx hb hts iu_X4 hown hK hP 8 rfl rfl 2 (by decide) (hts _ kw112) (fun _ h9 => h9) rfl dX4_keep_1 ?_
  refine lv_bipush (v := 8) hx hb dX4_keep_4 (by decide) ?_
  refine lv_icmp_lt (tgt := 28) hx hb dX4_keep_6 (by decide) (fun c_17 => ?_) (fun c_17 => ?_)
  · replace hf := bc_t hf c_17
    exact J28 ps _ _ _ hP hD hS hl hf
  · replace hf := bc_f hf c_17
    refine lv_aload_n hx hb dX4_keep_9 rfl (lv_at hl 0 rfl) ?_
    refine lv_aload_n hx hb dX4_keep_10 rfl (lv_at hl 0 rfl) ?_
    refine va_get (D := G) (C := RX4) (T := TX4) (N := 3) (v := .int (ps.1 0)) hx hb hts iu_X4 hown hK hP 8 rfl rfl 1 (by decide) (hts _ kw111) (fun _ h9 => h9) rfl dX4_keep_11 ?_
    refine lv_iconst (v := 1) hx hb dX4_keep_14 (by decide) ?_
    refine lv_iadd hx hb dX4_keep_15 ?_
    refine lv_bipush (v := 8) hx hb dX4_keep_16 (by decide) ?_
    obtain ⟨w_18, ew_18, hf⟩ := bl_e hf
    refine W.eq (g2 := F0 m 18 ls ([.int 8, .int w_18, .ref (a 16)])) (by rw [← ew_18]) ?_
    refine lv_irem hx hb dX4_keep_18 (by decide) ?_
    obtain ⟨ps_19, eps_19, hf⟩ := bl_e hf
    refine va_put (D := G) (C := RX4) (T := TX4) (N := 3) (ty := .int) hx hb hts iu_X4 tyX4 tyX4_ok nmX4 hown hK hP hD hS 8 rfl rfl 1 (by decide) (hts _ kw111) (fun _ h9 => h9) rfl (by decide +kernel) rfl rfl (Nat.le_of_ble_eq_true rfl) dX4_keep_19 (fun H locs hP hD hS => ?_)
    have hP : va_P G classes (wl [lfH ct a k h, lfP ct (fun j => a (16 + j)) ps_19]) H := by rw [← eps_19]; exact hP
    have hD : va_D A (wl [lfH ct a k h, lfP ct (fun j => a (16 + j)) ps_19]) := by rw [← eps_19]; exact hD
    refine lv_aload_n hx hb dX4_keep_22 rfl (lv_at hl 0 rfl) ?_
    refine lv_bipush (v := 7) hx hb dX4_keep_23 (by decide) ?_
    obtain ⟨ps_20, eps_20, hf⟩ := bl_e hf
    refine va_put (D := G) (C := RX4) (T := TX4) (N := 3) (ty := .int) hx hb hts iu_X4 tyX4 tyX4_ok nmX4 hown hK hP hD hS 8 rfl rfl 2 (by decide) (hts _ kw112) (fun _ h9 => h9) rfl (by decide +kernel) rfl rfl (Nat.le_of_ble_eq_true rfl) dX4_keep_25 (fun H locs hP hD hS => ?_)
    have hP : va_P G classes (wl [lfH ct a k h, lfP ct (fun j => a (16 + j)) ps_20]) H := by rw [← eps_20]; exact hP
    have hD : va_D A (wl [lfH ct a k h, lfP ct (fun j => a (16 + j)) ps_20]) := by rw [← eps_20]; exact hD
    exact J28 ps_20 _ _ _ hP hD hS hl hf
noncomputable def f_X4_giveBack (n : Nat) (h : MV) (ps : MV) : Option (Int32 × MV × MV) :=
  bc (0 < (ps.1 1)) (bl (setS ps 1 ((ps.1 1) - 1)) fun ps_2 =>
  bl ((ps_2.1 0) + (ps_2.1 1)) fun w_3 =>
  bl ((w_3 - w_3 / 8 * 8) * 19) fun v2_4 =>
  gd (cpOK v2_4 0 5 152 5) <|
  bl (setA h 1 (va_cpy (ps_2.2.1 0) (h.2.1 1) (ix v2_4) (ix 0) (ix 5))) fun h_6 =>
  gd (cpOK (v2_4 + 5) 0 5 152 5) <|
  bl (setA h_6 2 (va_cpy (ps_2.2.1 0) (h_6.2.1 2) (ix (v2_4 + 5)) (ix 0) (ix 5))) fun h_8 =>
  gd (cpOK (v2_4 + 10) 0 6 152 6) <|
  bl (setA h_8 6 (va_cpy (ps_2.2.1 0) (h_8.2.1 6) (ix (v2_4 + 10)) (ix 0) (ix 6))) fun h_10 =>
  bl ((v2_4 + 10) + 6) fun v3_11 =>
  gd (vp_in v3_11 152) <|
  bl (setS h_10 2 (ps_2.2.1 0 (ix v3_11))) fun h_13 =>
  gd (vp_in (v3_11 + 1) 152) <|
  bl (setS h_13 3 (ps_2.2.1 0 (ix (v3_11 + 1)))) fun h_15 =>
  gd (vp_in (v3_11 + 2) 152) <|
  bl (setS h_15 4 (ps_2.2.1 0 (ix (v3_11 + 2)))) fun h_17 =>
  some (1, h_17, ps_2))
  (some (0, h, ps))
set_option maxHeartbeats 4000000 in
set_option maxRecDepth 100000 in
theorem c_X4_giveBack (l : Launch) (G : va_G) (ct : Nat → ClassId) (sk sv : Nat → Nat) (a : Nat → Nat) (k : Nat → Nat) (n : Nat) (h : MV) (ps : MV) {r : Int32} {h' : MV} {ps' : MV} (hf : f_X4_giveBack n h ps = some (r, h', ps')) : Ctr (l, G, ct, sk, sv) mX4_giveBack 1 64 [.ref (a 16), .ref (a 0)] (wl [lfH ct a k h, lfP ct (fun j => a (16 + j)) ps]) (wl [lfH ct a k h', lfP ct (fun j => a (16 + j)) ps']) (some (.int r)) := by
  refine ctr_intro (by decide) (Nat.le_of_ble_eq_true rfl) ?_
  intro p e s m args below meth c A C hP hD hS hA ls hl
  obtain ⟨hx, hb, hml, hown, hts, hr, hlocks, hK, hnm, hZ⟩ := C
  have hb : c.code = cX4_giveBack := hb
  have hml : c.maxLocals = 4 := hml
  have hown : s.vm.findClass "SignedOutside$Past" = some m.cls := hown
  have hr : meth.sig.returnType = some .boolean := hr
  have hP : va_P G classes (wl [lfH ct a k h, lfP ct (fun j => a (16 + j)) ps]) s.heap := hP
  have hD : va_D A (wl [lfH ct a k h, lfP ct (fun j => a (16 + j)) ps]) := hD
  have hK : va_K G classes (TYS ct) s := hK
  have hl : lv_has ls 4 [(0, .ref (a 16)), (1, .ref (a 0))] := hl
  unfold f_X4_giveBack at hf
  show WG l G ct sk sv p e (RM 1 64 0 0) s m args below meth c A (Eq2 (some (.int r)) (wl [lfH ct a k h', lfP ct (fun j => a (16 + j)) ps'])) s.heap [] (F0 m 0 ls [])
  refine lv_aload_n hx hb dX4_giveBack_0 rfl (lv_at hl 0 rfl) ?_
  refine va_get (D := G) (C := RX4) (T := TX4) (N := 3) (v := .int (ps.1 1)) hx hb hts iu_X4 hown hK hP 8 rfl rfl 2 (by decide) (hts _ kw112) (fun _ h9 => h9) rfl dX4_giveBack_1 ?_
  refine lv_if_gt (tgt := 9) hx hb dX4_giveBack_4 (by decide) (fun c_1 => ?_) (fun c_1 => ?_)
  · replace hf := bc_t hf c_1
    refine lv_aload_n hx hb dX4_giveBack_9 rfl (lv_at hl 0 rfl) ?_
    refine lv_dup hx hb dX4_giveBack_10 rfl ?_
    refine va_get (D := G) (C := RX4) (T := TX4) (N := 3) (v := .int (ps.1 1)) hx hb hts iu_X4 hown hK hP 8 rfl rfl 2 (by decide) (hts _ kw112) (fun _ h9 => h9) rfl dX4_giveBack_11 ?_
    refine lv_iconst (v := 1) hx hb dX4_giveBack_14 (by decide) ?_
    refine lv_isub hx hb dX4_giveBack_15 ?_
    obtain ⟨ps_2, eps_2, hf⟩ := bl_e hf
    refine va_put (D := G) (C := RX4) (T := TX4) (N := 3) (ty := .int) hx hb hts iu_X4 tyX4 tyX4_ok nmX4 hown hK hP hD hS 8 rfl rfl 2 (by decide) (hts _ kw112) (fun _ h9 => h9) rfl (by decide +kernel) rfl rfl (Nat.le_of_ble_eq_true rfl) dX4_giveBack_16 (fun H locs hP hD hS => ?_)
    have hP : va_P G classes (wl [lfH ct a k h, lfP ct (fun j => a (16 + j)) ps_2]) H := by rw [← eps_2]; exact hP
    have hD : va_D A (wl [lfH ct a k h, lfP ct (fun j => a (16 + j)) ps_2]) := by rw [← eps_2]; exact hD
    refine lv_aload_n hx hb dX4_giveBack_19 rfl (lv_at hl 0 rfl) ?_
    refine va_get (D := G) (C := RX4) (T := TX4) (N := 3) (v := .int (ps_2.1 0)) hx hb hts iu_X4 hown hK hP 8 rfl rfl 1 (by decide) (hts _ kw111) (fun _ h9 => h9) rfl dX4_giveBack_20 ?_
    refine lv_aload_n hx hb dX4_giveBack_23 rfl (lv_at hl 0 rfl) ?_
    refine va_get (D := G) (C := RX4) (T := TX4) (N := 3) (v := .int (ps_2.1 1)) hx hb hts iu_X4 hown hK hP 8 rfl rfl 2 (by decide) (hts _ kw112) (fun _ h9 => h9) rfl dX4_giveBack_24 ?_
    refine lv_iadd hx hb dX4_giveBack_27 ?_
    refine lv_bipush (v := 8) hx hb dX4_giveBack_28 (by decide) ?_
    obtain ⟨w_3, ew_3, hf⟩ := bl_e hf
    refine W.eq (g2 := F0 m 30 ls ([.int 8, .int w_3])) (by rw [← ew_3]) ?_
    refine lv_irem hx hb dX4_giveBack_30 (by decide) ?_
    refine lv_bipush (v := 19) hx hb dX4_giveBack_31 (by decide) ?_
    refine lv_imul hx hb dX4_giveBack_33 ?_
    refine lv_topi (fun v2_4 ev2_4 => ?_)
    replace hf := bl_i hf ev2_4
    refine lv_istore_n (lv' := [(2, .int v2_4), (0, .ref (a 16)), (1, .ref (a 0))]) hx hb dX4_giveBack_34 rfl hl (by decide) rfl (fun ls hl => ?_)
    refine lv_aload_n hx hb dX4_giveBack_35 rfl (lv_at hl 1 rfl) ?_
    refine va_get (D := G) (C := RX4) (T := TX4) (N := 3) (v := .ref (a 17)) hx hb hts iu_X4 hown hK hP 8 rfl rfl 0 (by decide) (hts _ kw110) (fun _ h9 => h9) rfl dX4_giveBack_36 ?_
    refine lv_iload_n hx hb dX4_giveBack_39 rfl (lv_at hl 0 rfl) ?_
    refine lv_aload_n hx hb dX4_giveBack_40 rfl (lv_at hl 2 rfl) ?_
    refine va_get (D := G) (C := RX1) (T := TX1) (N := 16) (v := .ref (a 2)) hx hb hts iu_X1 hown hK hP 0 rfl rfl 3 (by decide) (hts _ kw130) (fun _ h9 => h9) rfl dX4_giveBack_41 ?_
    refine lv_iconst (v := 0) hx hb dX4_giveBack_44 (by decide) ?_
    refine lv_iconst (v := 5) hx hb dX4_giveBack_45 (by decide) ?_
    obtain ⟨g_5, hf⟩ := gd_e hf
    obtain ⟨h_6, eh_6, hf⟩ := bl_e hf
    refine va_copyi (f := ps_2.2.1 0) (g := h.2.1 1) hx hb (hml.trans hl.1.symm) hown (hts _ kw555) (hts _ kw545) (hts _ kw544) (hts _ kw19) hK hP hD hS 9 2 0 0 rfl rfl rfl rfl rfl g_5.1 g_5.2.1 g_5.2.2.1 g_5.2.2.2.1 g_5.2.2.2.2 (fun _ _ => rfl) (Nat.le_of_ble_eq_true rfl) (by decide) dX4_giveBack_46 (fun H locs hP hD hS => ?_)
    have hP : va_P G classes (wl [lfH ct a k h_6, lfP ct (fun j => a (16 + j)) ps_2]) H := by rw [← eh_6]; exact hP
    have hD : va_D A (wl [lfH ct a k h_6, lfP ct (fun j => a (16 + j)) ps_2]) := by rw [← eh_6]; exact hD
    refine lv_aload_n hx hb dX4_giveBack_49 rfl (lv_at hl 1 rfl) ?_
    refine va_get (D := G) (C := RX4) (T := TX4) (N := 3) (v := .ref (a 17)) hx hb hts iu_X4 hown hK hP 8 rfl rfl 0 (by decide) (hts _ kw110) (fun _ h9 => h9) rfl dX4_giveBack_50 ?_
    refine lv_iload_n hx hb dX4_giveBack_53 rfl (lv_at hl 0 rfl) ?_
    refine lv_iconst (v := 5) hx hb dX4_giveBack_54 (by decide) ?_
    refine lv_iadd hx hb dX4_giveBack_55 ?_
    refine lv_aload_n hx hb dX4_giveBack_56 rfl (lv_at hl 2 rfl) ?_
    refine va_get (D := G) (C := RX1) (T := TX1) (N := 16) (v := .ref (a 3)) hx hb hts iu_X1 hown hK hP 0 rfl rfl 4 (by decide) (hts _ kw133) (fun _ h9 => h9) rfl dX4_giveBack_57 ?_
    refine lv_iconst (v := 0) hx hb dX4_giveBack_60 (by decide) ?_
    refine lv_iconst (v := 5) hx hb dX4_giveBack_61 (by decide) ?_
    obtain ⟨g_7, hf⟩ := gd_e hf
    obtain ⟨h_8, eh_8, hf⟩ := bl_e hf
    refine va_copyi (f := ps_2.2.1 0) (g := h_6.2.1 2) hx hb (hml.trans hl.1.symm) hown (hts _ kw555) (hts _ kw545) (hts _ kw544) (hts _ kw19) hK hP hD hS 9 3 0 0 rfl rfl rfl rfl rfl g_7.1 g_7.2.1 g_7.2.2.1 g_7.2.2.2.1 g_7.2.2.2.2 (fun _ _ => rfl) (Nat.le_of_ble_eq_true rfl) (by decide) dX4_giveBack_62 (fun H locs hP hD hS => ?_)
    have hP : va_P G classes (wl [lfH ct a k h_8, lfP ct (fun j => a (16 + j)) ps_2]) H := by rw [← eh_8]; exact hP
    have hD : va_D A (wl [lfH ct a k h_8, lfP ct (fun j => a (16 + j)) ps_2]) := by rw [← eh_8]; exact hD
    refine lv_aload_n hx hb dX4_giveBack_65 rfl (lv_at hl 1 rfl) ?_
    refine va_get (D := G) (C := RX4) (T := TX4) (N := 3) (v := .ref (a 17)) hx hb hts iu_X4 hown hK hP 8 rfl rfl 0 (by decide) (hts _ kw110) (fun _ h9 => h9) rfl dX4_giveBack_66 ?_
    refine lv_iload_n hx hb dX4_giveBack_69 rfl (lv_at hl 0 rfl) ?_
    refine lv_bipush (v := 10) hx hb dX4_giveBack_70 (by decide) ?_
    refine lv_iadd hx hb dX4_giveBack_72 ?_
    refine lv_aload_n hx hb dX4_giveBack_73 rfl (lv_at hl 2 rfl) ?_
    refine va_get (D := G) (C := RX1) (T := TX1) (N := 16) (v := .ref (a 7)) hx hb hts iu_X1 hown hK hP 0 rfl rfl 9 (by decide) (hts _ kw146) (fun _ h9 => h9) rfl dX4_giveBack_74 ?_
    refine lv_iconst (v := 0) hx hb dX4_giveBack_77 (by decide) ?_
    refine lv_bipush (v := 6) hx hb dX4_giveBack_78 (by decide) ?_
    obtain ⟨g_9, hf⟩ := gd_e hf
    obtain ⟨h_10, eh_10, hf⟩ := bl_e hf
    refine va_copyi (f := ps_2.2.1 0) (g := h_8.2.1 6) hx hb (hml.trans hl.1.symm) hown (hts _ kw555) (hts _ kw545) (hts _ kw544) (hts _ kw19) hK hP hD hS 9 7 0 0 rfl rfl rfl rfl rfl g_9.1 g_9.2.1 g_9.2.2.1 g_9.2.2.2.1 g_9.2.2.2.2 (fun _ _ => rfl) (Nat.le_of_ble_eq_true rfl) (by decide) dX4_giveBack_80 (fun H locs hP hD hS => ?_)
    have hP : va_P G classes (wl [lfH ct a k h_10, lfP ct (fun j => a (16 + j)) ps_2]) H := by rw [← eh_10]; exact hP
    have hD : va_D A (wl [lfH ct a k h_10, lfP ct (fun j => a (16 + j)) ps_2]) := by rw [← eh_10]; exact hD
    refine lv_iload_n hx hb dX4_giveBack_83 rfl (lv_at hl 0 rfl) ?_
    refine lv_bipush (v := 10) hx hb dX4_giveBack_84 (by decide) ?_
    refine lv_iadd hx hb dX4_giveBack_86 ?_
    refine lv_bipush (v := 6) hx hb dX4_giveBack_87 (by decide) ?_
    refine lv_iadd hx hb dX4_giveBack_89 ?_
    refine lv_topi (fun v3_11 ev3_11 => ?_)
    replace hf := bl_i hf ev3_11
    refine lv_istore_n (lv' := [(3, .int v3_11), (2, .int v2_4), (0, .ref (a 16)), (1, .ref (a 0))]) hx hb dX4_giveBack_90 rfl hl (by decide) rfl (fun ls hl => ?_)
    refine lv_aload_n hx hb dX4_giveBack_91 rfl (lv_at hl 3 rfl) ?_
    refine lv_aload_n hx hb dX4_giveBack_92 rfl (lv_at hl 2 rfl) ?_
    refine va_get (D := G) (C := RX4) (T := TX4) (N := 3) (v := .ref (a 17)) hx hb hts iu_X4 hown hK hP 8 rfl rfl 0 (by decide) (hts _ kw110) (fun _ h9 => h9) rfl dX4_giveBack_93 ?_
    refine lv_iload_n hx hb dX4_giveBack_96 rfl (lv_at hl 0 rfl) ?_
    obtain ⟨g_12, hf⟩ := gd_e hf
    refine va_iald (f := ps_2.2.1 0) hx hb hK hP 9 0 rfl rfl g_12 dX4_giveBack_97 ?_
    obtain ⟨h_13, eh_13, hf⟩ := bl_e hf
    refine va_put (D := G) (C := RX1) (T := TX1) (N := 16) (ty := .int) hx hb hts iu_X1 tyX1 tyX1_ok nmX1 hown hK hP hD hS 0 rfl rfl 10 (by decide) (hts _ kw149) (fun _ h9 => h9) rfl (by decide +kernel) rfl rfl (Nat.le_of_ble_eq_true rfl) dX4_giveBack_98 (fun H locs hP hD hS => ?_)
    have hP : va_P G classes (wl [lfH ct a k h_13, lfP ct (fun j => a (16 + j)) ps_2]) H := by rw [← eh_13]; exact hP
    have hD : va_D A (wl [lfH ct a k h_13, lfP ct (fun j => a (16 + j)) ps_2]) := by rw [← eh_13]; exact hD
    refine lv_aload_n hx hb dX4_giveBack_101 rfl (lv_at hl 3 rfl) ?_
    refine lv_aload_n hx hb dX4_giveBack_102 rfl (lv_at hl 2 rfl) ?_
    refine va_get (D := G) (C := RX4) (T := TX4) (N := 3) (v := .ref (a 17)) hx hb hts iu_X4 hown hK hP 8 rfl rfl 0 (by decide) (hts _ kw110) (fun _ h9 => h9) rfl dX4_giveBack_103 ?_
    refine lv_iload_n hx hb dX4_giveBack_106 rfl (lv_at hl 0 rfl) ?_
    refine lv_iconst (v := 1) hx hb dX4_giveBack_107 (by decide) ?_
    refine lv_iadd hx hb dX4_giveBack_108 ?_
    obtain ⟨g_14, hf⟩ := gd_e hf
    refine va_iald (f := ps_2.2.1 0) hx hb hK hP 9 0 rfl rfl g_14 dX4_giveBack_109 ?_
    obtain ⟨h_15, eh_15, hf⟩ := bl_e hf
    refine va_put (D := G) (C := RX1) (T := TX1) (N := 16) (ty := .int) hx hb hts iu_X1 tyX1 tyX1_ok nmX1 hown hK hP hD hS 0 rfl rfl 11 (by decide) (hts _ kw152) (fun _ h9 => h9) rfl (by decide +kernel) rfl rfl (Nat.le_of_ble_eq_true rfl) dX4_giveBack_110 (fun H locs hP hD hS => ?_)
    have hP : va_P G classes (wl [lfH ct a k h_15, lfP ct (fun j => a (16 + j)) ps_2]) H := by rw [← eh_15]; exact hP
    have hD : va_D A (wl [lfH ct a k h_15, lfP ct (fun j => a (16 + j)) ps_2]) := by rw [← eh_15]; exact hD
    refine lv_aload_n hx hb dX4_giveBack_113 rfl (lv_at hl 3 rfl) ?_
    refine lv_aload_n hx hb dX4_giveBack_114 rfl (lv_at hl 2 rfl) ?_
    refine va_get (D := G) (C := RX4) (T := TX4) (N := 3) (v := .ref (a 17)) hx hb hts iu_X4 hown hK hP 8 rfl rfl 0 (by decide) (hts _ kw110) (fun _ h9 => h9) rfl dX4_giveBack_115 ?_
    refine lv_iload_n hx hb dX4_giveBack_118 rfl (lv_at hl 0 rfl) ?_
    refine lv_iconst (v := 2) hx hb dX4_giveBack_119 (by decide) ?_
    refine lv_iadd hx hb dX4_giveBack_120 ?_
    obtain ⟨g_16, hf⟩ := gd_e hf
    refine va_iald (f := ps_2.2.1 0) hx hb hK hP 9 0 rfl rfl g_16 dX4_giveBack_121 ?_
    obtain ⟨h_17, eh_17, hf⟩ := bl_e hf
    refine va_put (D := G) (C := RX1) (T := TX1) (N := 16) (ty := .int) hx hb hts iu_X1 tyX1 tyX1_ok nmX1 hown hK hP hD hS 0 rfl rfl 12 (by decide) (hts _ kw155) (fun _ h9 => h9) rfl (by decide +kernel) rfl rfl (Nat.le_of_ble_eq_true rfl) dX4_giveBack_122 (fun H locs hP hD hS => ?_)
    have hP : va_P G classes (wl [lfH ct a k h_17, lfP ct (fun j => a (16 + j)) ps_2]) H := by rw [← eh_17]; exact hP
    have hD : va_D A (wl [lfH ct a k h_17, lfP ct (fun j => a (16 + j)) ps_2]) := by rw [← eh_17]; exact hD
    refine lv_iconst (v := 1) hx hb dX4_giveBack_125 (by decide) ?_
    obtain ⟨e1, e2, e3⟩ := inj3 (Option.some.inj hf)
    exact end_z (w' := (wl [lfH ct a k h_17, lfP ct (fun j => a (16 + j)) ps_2])) hx hb hr hlocks hK hP hD hS dX4_giveBack_126 (by decide) ⟨by rw [← e1], by rw [← e2, ← e3]⟩
  · replace hf := bc_f hf c_1
    refine lv_iconst (v := 0) hx hb dX4_giveBack_7 (by decide) ?_
    obtain ⟨e1, e2, e3⟩ := inj3 (Option.some.inj hf)
    exact end_z (w' := (wl [lfH ct a k h, lfP ct (fun j => a (16 + j)) ps])) hx hb hr hlocks hK hP hD hS dX4_giveBack_8 (by decide) ⟨by rw [← e1], by rw [← e2, ← e3]⟩
noncomputable def f_X1_makeEmpty (n : Nat) (h : MV) (nt : MV) (cv : MV) (ps : MV) : Option (MV × MV × MV × MV) :=
  bl (setS h 0 0) fun h_1 =>
  bl (setS h_1 1 0) fun h_2 =>
  bl (setS h_2 2 0) fun h_3 =>
  bl (setS h_3 3 0) fun h_4 =>
  bl (setS h_4 4 0) fun h_5 =>
  bl (setS cv 0 0) fun cv_6 =>
  bl (setS nt 0 0) fun nt_7 =>
  bd (f_X4_makeEmpty n ps) fun ps_8 =>
  some (h_5, nt_7, cv_6, ps_8)
set_option maxHeartbeats 4000000 in
set_option maxRecDepth 100000 in
theorem c_X1_makeEmpty (l : Launch) (G : va_G) (ct : Nat → ClassId) (sk sv : Nat → Nat) (a : Nat → Nat) (k : Nat → Nat) (n : Nat) (h : MV) (nt : MV) (cv : MV) (ps : MV) {h' : MV} {nt' : MV} {cv' : MV} {ps' : MV} (hf : f_X1_makeEmpty n h nt cv ps = some (h', nt', cv', ps')) : Ctr (l, G, ct, sk, sv) mX1_makeEmpty 1 20 [.ref (a 0)] (wl [lfH ct a k h, lfS ct (fun j => a (12 + j)) nt, lfS ct (fun j => a (8 + j)) cv, lfP ct (fun j => a (16 + j)) ps]) (wl [lfH ct a k h', lfS ct (fun j => a (12 + j)) nt', lfS ct (fun j => a (8 + j)) cv', lfP ct (fun j => a (16 + j)) ps']) (none) := by
  refine ctr_intro (by decide) (Nat.le_of_ble_eq_true rfl) ?_
  intro p e s m args below meth c A C hP hD hS hA ls hl
  obtain ⟨hx, hb, hml, hown, hts, hr, hlocks, hK, hnm, hZ⟩ := C
  have hb : c.code = cX1_makeEmpty := hb
  have hml : c.maxLocals = 1 := hml
  have hown : s.vm.findClass "SignedOutside$House" = some m.cls := hown
  have hr : meth.sig.returnType = none := hr
  have hP : va_P G classes (wl [lfH ct a k h, lfS ct (fun j => a (12 + j)) nt, lfS ct (fun j => a (8 + j)) cv, lfP ct (fun j => a (16 + j)) ps]) s.heap := hP
  have hD : va_D A (wl [lfH ct a k h, lfS ct (fun j => a (12 + j)) nt, lfS ct (fun j => a (8 + j)) cv, lfP ct (fun j => a (16 + j)) ps]) := hD
  have hK : va_K G classes (TYS ct) s := hK
  have hl : lv_has ls 1 [(0, .ref (a 0))] := hl
  unfold f_X1_makeEmpty at hf
  show WG l G ct sk sv p e (RM 1 20 0 0) s m args below meth c A (Eq2 (none) (wl [lfH ct a k h', lfS ct (fun j => a (12 + j)) nt', lfS ct (fun j => a (8 + j)) cv', lfP ct (fun j => a (16 + j)) ps'])) s.heap [] (F0 m 0 ls [])
  refine lv_aload_n hx hb dX1_makeEmpty_0 rfl (lv_at hl 0 rfl) ?_
  refine lv_iconst (v := 0) hx hb dX1_makeEmpty_1 (by decide) ?_
  obtain ⟨h_1, eh_1, hf⟩ := bl_e hf
  refine va_put (D := G) (C := RX1) (T := TX1) (N := 16) (ty := .int) hx hb hts iu_X1 tyX1 tyX1_ok nmX1 hown hK hP hD hS 0 rfl rfl 1 (by decide) (hts _ kw123) (fun _ h9 => h9) rfl (by decide +kernel) rfl rfl (Nat.le_of_ble_eq_true rfl) dX1_makeEmpty_2 (fun H locs hP hD hS => ?_)
  have hP : va_P G classes (wl [lfH ct a k h_1, lfS ct (fun j => a (12 + j)) nt, lfS ct (fun j => a (8 + j)) cv, lfP ct (fun j => a (16 + j)) ps]) H := by rw [← eh_1]; exact hP
  have hD : va_D A (wl [lfH ct a k h_1, lfS ct (fun j => a (12 + j)) nt, lfS ct (fun j => a (8 + j)) cv, lfP ct (fun j => a (16 + j)) ps]) := by rw [← eh_1]; exact hD
  refine lv_aload_n hx hb dX1_makeEmpty_5 rfl (lv_at hl 0 rfl) ?_
  refine lv_iconst (v := 0) hx hb dX1_makeEmpty_6 (by decide) ?_
  obtain ⟨h_2, eh_2, hf⟩ := bl_e hf
  refine va_put (D := G) (C := RX1) (T := TX1) (N := 16) (ty := .int) hx hb hts iu_X1 tyX1 tyX1_ok nmX1 hown hK hP hD hS 0 rfl rfl 5 (by decide) (hts _ kw136) (fun _ h9 => h9) rfl (by decide +kernel) rfl rfl (Nat.le_of_ble_eq_true rfl) dX1_makeEmpty_7 (fun H locs hP hD hS => ?_)
  have hP : va_P G classes (wl [lfH ct a k h_2, lfS ct (fun j => a (12 + j)) nt, lfS ct (fun j => a (8 + j)) cv, lfP ct (fun j => a (16 + j)) ps]) H := by rw [← eh_2]; exact hP
  have hD : va_D A (wl [lfH ct a k h_2, lfS ct (fun j => a (12 + j)) nt, lfS ct (fun j => a (8 + j)) cv, lfP ct (fun j => a (16 + j)) ps]) := by rw [← eh_2]; exact hD
  refine lv_aload_n hx hb dX1_makeEmpty_10 rfl (lv_at hl 0 rfl) ?_
  refine lv_iconst (v := 0) hx hb dX1_makeEmpty_11 (by decide) ?_
  obtain ⟨h_3, eh_3, hf⟩ := bl_e hf
  refine va_put (D := G) (C := RX1) (T := TX1) (N := 16) (ty := .int) hx hb hts iu_X1 tyX1 tyX1_ok nmX1 hown hK hP hD hS 0 rfl rfl 10 (by decide) (hts _ kw148) (fun _ h9 => h9) rfl (by decide +kernel) rfl rfl (Nat.le_of_ble_eq_true rfl) dX1_makeEmpty_12 (fun H locs hP hD hS => ?_)
  have hP : va_P G classes (wl [lfH ct a k h_3, lfS ct (fun j => a (12 + j)) nt, lfS ct (fun j => a (8 + j)) cv, lfP ct (fun j => a (16 + j)) ps]) H := by rw [← eh_3]; exact hP
  have hD : va_D A (wl [lfH ct a k h_3, lfS ct (fun j => a (12 + j)) nt, lfS ct (fun j => a (8 + j)) cv, lfP ct (fun j => a (16 + j)) ps]) := by rw [← eh_3]; exact hD
  refine lv_aload_n hx hb dX1_makeEmpty_15 rfl (lv_at hl 0 rfl) ?_
  refine lv_iconst (v := 0) hx hb dX1_makeEmpty_16 (by decide) ?_
  obtain ⟨h_4, eh_4, hf⟩ := bl_e hf
  refine va_put (D := G) (C := RX1) (T := TX1) (N := 16) (ty := .int) hx hb hts iu_X1 tyX1 tyX1_ok nmX1 hown hK hP hD hS 0 rfl rfl 11 (by decide) (hts _ kw151) (fun _ h9 => h9) rfl (by decide +kernel) rfl rfl (Nat.le_of_ble_eq_true rfl) dX1_makeEmpty_17 (fun H locs hP hD hS => ?_)
  have hP : va_P G classes (wl [lfH ct a k h_4, lfS ct (fun j => a (12 + j)) nt, lfS ct (fun j => a (8 + j)) cv, lfP ct (fun j => a (16 + j)) ps]) H := by rw [← eh_4]; exact hP
  have hD : va_D A (wl [lfH ct a k h_4, lfS ct (fun j => a (12 + j)) nt, lfS ct (fun j => a (8 + j)) cv, lfP ct (fun j => a (16 + j)) ps]) := by rw [← eh_4]; exact hD
  refine lv_aload_n hx hb dX1_makeEmpty_20 rfl (lv_at hl 0 rfl) ?_
  refine lv_iconst (v := 0) hx hb dX1_makeEmpty_21 (by decide) ?_
  obtain ⟨h_5, eh_5, hf⟩ := bl_e hf
  refine va_put (D := G) (C := RX1) (T := TX1) (N := 16) (ty := .int) hx hb hts iu_X1 tyX1 tyX1_ok nmX1 hown hK hP hD hS 0 rfl rfl 12 (by decide) (hts _ kw154) (fun _ h9 => h9) rfl (by decide +kernel) rfl rfl (Nat.le_of_ble_eq_true rfl) dX1_makeEmpty_22 (fun H locs hP hD hS => ?_)
  have hP : va_P G classes (wl [lfH ct a k h_5, lfS ct (fun j => a (12 + j)) nt, lfS ct (fun j => a (8 + j)) cv, lfP ct (fun j => a (16 + j)) ps]) H := by rw [← eh_5]; exact hP
  have hD : va_D A (wl [lfH ct a k h_5, lfS ct (fun j => a (12 + j)) nt, lfS ct (fun j => a (8 + j)) cv, lfP ct (fun j => a (16 + j)) ps]) := by rw [← eh_5]; exact hD
  refine lv_aload_n hx hb dX1_makeEmpty_25 rfl (lv_at hl 0 rfl) ?_
  refine va_get (D := G) (C := RX1) (T := TX1) (N := 16) (v := .ref (a 8)) hx hb hts iu_X1 hown hK hP 0 rfl rfl 13 (by decide) (hts _ kw157) (fun _ h9 => h9) rfl dX1_makeEmpty_26 ?_
  refine lv_iconst (v := 0) hx hb dX1_makeEmpty_29 (by decide) ?_
  obtain ⟨cv_6, ecv_6, hf⟩ := bl_e hf
  refine va_put (D := G) (C := RX8) (T := TX8) (N := 4) (ty := .int) hx hb hts iu_X8 tyX8 tyX8_ok nmX8 hown hK hP hD hS 12 rfl rfl 0 (by decide) (hts _ kw86) (fun _ h9 => h9) rfl (by decide +kernel) rfl rfl (Nat.le_of_ble_eq_true rfl) dX1_makeEmpty_30 (fun H locs hP hD hS => ?_)
  have hP : va_P G classes (wl [lfH ct a k h_5, lfS ct (fun j => a (12 + j)) nt, lfS ct (fun j => a (8 + j)) cv_6, lfP ct (fun j => a (16 + j)) ps]) H := by rw [← ecv_6]; exact hP
  have hD : va_D A (wl [lfH ct a k h_5, lfS ct (fun j => a (12 + j)) nt, lfS ct (fun j => a (8 + j)) cv_6, lfP ct (fun j => a (16 + j)) ps]) := by rw [← ecv_6]; exact hD
  refine lv_aload_n hx hb dX1_makeEmpty_33 rfl (lv_at hl 0 rfl) ?_
  refine va_get (D := G) (C := RX1) (T := TX1) (N := 16) (v := .ref (a 12)) hx hb hts iu_X1 hown hK hP 0 rfl rfl 14 (by decide) (hts _ kw159) (fun _ h9 => h9) rfl dX1_makeEmpty_34 ?_
  refine lv_iconst (v := 0) hx hb dX1_makeEmpty_37 (by decide) ?_
  obtain ⟨nt_7, ent_7, hf⟩ := bl_e hf
  refine va_put (D := G) (C := RX8) (T := TX8) (N := 4) (ty := .int) hx hb hts iu_X8 tyX8 tyX8_ok nmX8 hown hK hP hD hS 8 rfl rfl 0 (by decide) (hts _ kw86) (fun _ h9 => h9) rfl (by decide +kernel) rfl rfl (Nat.le_of_ble_eq_true rfl) dX1_makeEmpty_38 (fun H locs hP hD hS => ?_)
  have hP : va_P G classes (wl [lfH ct a k h_5, lfS ct (fun j => a (12 + j)) nt_7, lfS ct (fun j => a (8 + j)) cv_6, lfP ct (fun j => a (16 + j)) ps]) H := by rw [← ent_7]; exact hP
  have hD : va_D A (wl [lfH ct a k h_5, lfS ct (fun j => a (12 + j)) nt_7, lfS ct (fun j => a (8 + j)) cv_6, lfP ct (fun j => a (16 + j)) ps]) := by rw [← ent_7]; exact hD
  refine lv_aload_n hx hb dX1_makeEmpty_41 rfl (lv_at hl 0 rfl) ?_
  refine va_get (D := G) (C := RX1) (T := TX1) (N := 16) (v := .ref (a 16)) hx hb hts iu_X1 hown hK hP 0 rfl rfl 15 (by decide) (hts _ kw161) (fun _ h9 => h9) rfl dX1_makeEmpty_42 ?_
  obtain ⟨ps_8, hc8, hf⟩ := bd_e hf
  refine call_V (As := []) (rest := []) hx hb hml hown hts hK hP hD hS hA hZ lkX1_73 (Ctr.upL (c_X4_makeEmpty l G ct sk sv (fun j => a (16 + j)) n ps hc8) [lfH ct a k h_5, lfS ct (fun j => a (12 + j)) nt_7, lfS ct (fun j => a (8 + j)) cv_6] [lfH ct a k h_5, lfS ct (fun j => a (12 + j)) nt_7, lfS ct (fun j => a (8 + j)) cv_6, lfP ct (fun j => a (16 + j)) ps] [lfH ct a k h_5, lfS ct (fun j => a (12 + j)) nt_7, lfS ct (fun j => a (8 + j)) cv_6, lfP ct (fun j => a (16 + j)) ps_8] [3, 0, 1, 2] 4 (by decide) rfl rfl rfl rfl) 16 rfl rfl ⟨Nat.le_of_ble_eq_true rfl, Nat.le_of_ble_eq_true rfl⟩ rfl hl.1 rfl (Nat.le_of_ble_eq_true rfl) dX1_makeEmpty_45 ⟨Nat.le_of_ble_eq_true rfl, Nat.le_of_ble_eq_true rfl⟩ (fun r9 w9 H locs hB hP hD hS => ?_)
  obtain ⟨rfl, rfl⟩ := hB
  refine WG_eq (g2 := F0 m 48 ls []) rfl ?_
  obtain ⟨e1, e2, e3, e4⟩ := inj4 (Option.some.inj hf)
  exact end_v (w' := (wl [lfH ct a k h_5, lfS ct (fun j => a (12 + j)) nt_7, lfS ct (fun j => a (8 + j)) cv_6, lfP ct (fun j => a (16 + j)) ps_8])) hx hb hr hlocks hK hP hD hS dX1_makeEmpty_48  ⟨rfl, by rw [← e1, ← e2, ← e3, ← e4]⟩
noncomputable def f_X1_takeOver (n : Nat) (h : MV) (ho2 : MV) (nt : MV) (cv : MV) (ntb : MV) (cvb : MV) (ps : MV) (psb : MV) : Option (MV × MV × MV × MV) :=
  bl (setS h 0 (ho2.1 0)) fun h_1 =>
  gd (cpOK 0 0 5 5 5) <|
  bl (setA h_1 0 (va_cpy (ho2.2.1 0) (h_1.2.1 0) (ix 0) (ix 0) (ix 5))) fun h_3 =>
  gd (cpOK 0 0 5 5 5) <|
  bl (setA h_3 1 (va_cpy (ho2.2.1 1) (h_3.2.1 1) (ix 0) (ix 0) (ix 5))) fun h_5 =>
  gd (cpOK 0 0 5 5 5) <|
  bl (setA h_5 2 (va_cpy (ho2.2.1 2) (h_5.2.1 2) (ix 0) (ix 0) (ix 5))) fun h_7 =>
  bl (setS h_7 1 (ho2.1 1)) fun h_8 =>
  gd (cpOK 0 0 6 6 6) <|
  bl (setA h_8 3 (va_cpy (ho2.2.1 3) (h_8.2.1 3) (ix 0) (ix 0) (ix 6))) fun h_10 =>
  gd (cpOK 0 0 6 6 6) <|
  bl (setA h_10 4 (va_cpy (ho2.2.1 4) (h_10.2.1 4) (ix 0) (ix 0) (ix 6))) fun h_12 =>
  gd (cpOK 0 0 6 6 6) <|
  bl (setA h_12 5 (va_cpy (ho2.2.1 5) (h_12.2.1 5) (ix 0) (ix 0) (ix 6))) fun h_14 =>
  gd (cpOK 0 0 6 6 6) <|
  bl (setA h_14 6 (va_cpy (ho2.2.1 6) (h_14.2.1 6) (ix 0) (ix 0) (ix 6))) fun h_16 =>
  bl (setS h_16 2 (ho2.1 2)) fun h_17 =>
  bl (setS h_17 3 (ho2.1 3)) fun h_18 =>
  bl (setS h_18 4 (ho2.1 4)) fun h_19 =>
  bd (f_X8_takeOver n cv cvb) fun cv_20 =>
  bd (f_X8_takeOver n nt ntb) fun nt_21 =>
  bd (f_X4_takeOver n ps psb) fun ps_22 =>
  some (h_19, nt_21, cv_20, ps_22)
set_option maxHeartbeats 4000000 in
set_option maxRecDepth 100000 in
theorem c_X1_takeOver (l : Launch) (G : va_G) (ct : Nat → ClassId) (sk sv : Nat → Nat) (a : Nat → Nat) (b : Nat → Nat) (k : Nat → Nat) (n : Nat) (h : MV) (ho2 : MV) (nt : MV) (cv : MV) (ntb : MV) (cvb : MV) (ps : MV) (psb : MV) {h' : MV} {nt' : MV} {cv' : MV} {ps' : MV} (hf : f_X1_takeOver n h ho2 nt cv ntb cvb ps psb = some (h', nt', cv', ps')) : Ctr (l, G, ct, sk, sv) mX1_takeOver 2 85 [.ref (a 0), .ref (b 0)] (wl [lfH ct a k h, lfH ct b k ho2, lfS ct (fun j => a (12 + j)) nt, lfS ct (fun j => a (8 + j)) cv, lfS ct (fun j => b (12 + j)) ntb, lfS ct (fun j => b (8 + j)) cvb, lfP ct (fun j => a (16 + j)) ps, lfP ct (fun j => b (16 + j)) psb]) (wl [lfH ct a k h', lfH ct b k ho2, lfS ct (fun j => a (12 + j)) nt', lfS ct (fun j => a (8 + j)) cv', lfS ct (fun j => b (12 + j)) ntb, lfS ct (fun j => b (8 + j)) cvb, lfP ct (fun j => a (16 + j)) ps', lfP ct (fun j => b (16 + j)) psb]) (none) := by
  refine ctr_intro (by decide) (Nat.le_of_ble_eq_true rfl) ?_
  intro p e s m args below meth c A C hP hD hS hA ls hl
  obtain ⟨hx, hb, hml, hown, hts, hr, hlocks, hK, hnm, hZ⟩ := C
  have hb : c.code = cX1_takeOver := hb
  have hml : c.maxLocals = 2 := hml
  have hown : s.vm.findClass "SignedOutside$House" = some m.cls := hown
  have hr : meth.sig.returnType = none := hr
  have hP : va_P G classes (wl [lfH ct a k h, lfH ct b k ho2, lfS ct (fun j => a (12 + j)) nt, lfS ct (fun j => a (8 + j)) cv, lfS ct (fun j => b (12 + j)) ntb, lfS ct (fun j => b (8 + j)) cvb, lfP ct (fun j => a (16 + j)) ps, lfP ct (fun j => b (16 + j)) psb]) s.heap := hP
  have hD : va_D A (wl [lfH ct a k h, lfH ct b k ho2, lfS ct (fun j => a (12 + j)) nt, lfS ct (fun j => a (8 + j)) cv, lfS ct (fun j => b (12 + j)) ntb, lfS ct (fun j => b (8 + j)) cvb, lfP ct (fun j => a (16 + j)) ps, lfP ct (fun j => b (16 + j)) psb]) := hD
  have hK : va_K G classes (TYS ct) s := hK
  have hl : lv_has ls 2 [(0, .ref (a 0)), (1, .ref (b 0))] := hl
  unfold f_X1_takeOver at hf
  show WG l G ct sk sv p e (RM 2 85 0 0) s m args below meth c A (Eq2 (none) (wl [lfH ct a k h', lfH ct b k ho2, lfS ct (fun j => a (12 + j)) nt', lfS ct (fun j => a (8 + j)) cv', lfS ct (fun j => b (12 + j)) ntb, lfS ct (fun j => b (8 + j)) cvb, lfP ct (fun j => a (16 + j)) ps', lfP ct (fun j => b (16 + j)) psb])) s.heap [] (F0 m 0 ls [])
  refine lv_aload_n hx hb dX1_takeOver_0 rfl (lv_at hl 0 rfl) ?_
  refine lv_aload_n hx hb dX1_takeOver_1 rfl (lv_at hl 1 rfl) ?_
  refine va_get (D := G) (C := RX1) (T := TX1) (N := 16) (v := .int (ho2.1 0)) hx hb hts iu_X1 hown hK hP 8 rfl rfl 1 (by decide) (hts _ kw123) (fun _ h9 => h9) rfl dX1_takeOver_2 ?_
  obtain ⟨h_1, eh_1, hf⟩ := bl_e hf
  refine va_put (D := G) (C := RX1) (T := TX1) (N := 16) (ty := .int) hx hb hts iu_X1 tyX1 tyX1_ok nmX1 hown hK hP hD hS 0 rfl rfl 1 (by decide) (hts _ kw123) (fun _ h9 => h9) rfl (by decide +kernel) rfl rfl (Nat.le_of_ble_eq_true rfl) dX1_takeOver_5 (fun H locs hP hD hS => ?_)
  have hP : va_P G classes (wl [lfH ct a k h_1, lfH ct b k ho2, lfS ct (fun j => a (12 + j)) nt, lfS ct (fun j => a (8 + j)) cv, lfS ct (fun j => b (12 + j)) ntb, lfS ct (fun j => b (8 + j)) cvb, lfP ct (fun j => a (16 + j)) ps, lfP ct (fun j => b (16 + j)) psb]) H := by rw [← eh_1]; exact hP
  have hD : va_D A (wl [lfH ct a k h_1, lfH ct b k ho2, lfS ct (fun j => a (12 + j)) nt, lfS ct (fun j => a (8 + j)) cv, lfS ct (fun j => b (12 + j)) ntb, lfS ct (fun j => b (8 + j)) cvb, lfP ct (fun j => a (16 + j)) ps, lfP ct (fun j => b (16 + j)) psb]) := by rw [← eh_1]; exact hD
  refine lv_aload_n hx hb dX1_takeOver_8 rfl (lv_at hl 1 rfl) ?_
  refine va_get (D := G) (C := RX1) (T := TX1) (N := 16) (v := .ref (b 1)) hx hb hts iu_X1 hown hK hP 8 rfl rfl 2 (by decide) (hts _ kw127) (fun _ h9 => h9) rfl dX1_takeOver_9 ?_
  refine lv_iconst (v := 0) hx hb dX1_takeOver_12 (by decide) ?_
  refine lv_aload_n hx hb dX1_takeOver_13 rfl (lv_at hl 0 rfl) ?_
  refine va_get (D := G) (C := RX1) (T := TX1) (N := 16) (v := .ref (a 1)) hx hb hts iu_X1 hown hK hP 0 rfl rfl 2 (by decide) (hts _ kw127) (fun _ h9 => h9) rfl dX1_takeOver_14 ?_
  refine lv_iconst (v := 0) hx hb dX1_takeOver_17 (by decide) ?_
  refine lv_iconst (v := 5) hx hb dX1_takeOver_18 (by decide) ?_
  obtain ⟨g_2, hf⟩ := gd_e hf
  obtain ⟨h_3, eh_3, hf⟩ := bl_e hf
  refine va_copyi (f := ho2.2.1 0) (g := h_1.2.1 0) hx hb (hml.trans hl.1.symm) hown (hts _ kw543) (hts _ kw545) (hts _ kw544) (hts _ kw19) hK hP hD hS 9 1 0 0 rfl rfl rfl rfl rfl g_2.1 g_2.2.1 g_2.2.2.1 g_2.2.2.2.1 g_2.2.2.2.2 (fun _ _ => rfl) (Nat.le_of_ble_eq_true rfl) (by decide) dX1_takeOver_19 (fun H locs hP hD hS => ?_)
  have hP : va_P G classes (wl [lfH ct a k h_3, lfH ct b k ho2, lfS ct (fun j => a (12 + j)) nt, lfS ct (fun j => a (8 + j)) cv, lfS ct (fun j => b (12 + j)) ntb, lfS ct (fun j => b (8 + j)) cvb, lfP ct (fun j => a (16 + j)) ps, lfP ct (fun j => b (16 + j)) psb]) H := by rw [← eh_3]; exact hP
  have hD : va_D A (wl [lfH ct a k h_3, lfH ct b k ho2, lfS ct (fun j => a (12 + j)) nt, lfS ct (fun j => a (8 + j)) cv, lfS ct (fun j => b (12 + j)) ntb, lfS ct (fun j => b (8 + j)) cvb, lfP ct (fun j => a (16 + j)) ps, lfP ct (fun j => b (16 + j)) psb]) := by rw [← eh_3]; exact hD
  refine lv_aload_n hx hb dX1_takeOver_22 rfl (lv_at hl 1 rfl) ?_
  refine va_get (D := G) (C := RX1) (T := TX1) (N := 16) (v := .ref (b 2)) hx hb hts iu_X1 hown hK hP 8 rfl rfl 3 (by decide) (hts _ kw129) (fun _ h9 => h9) rfl dX1_takeOver_23 ?_
  refine lv_iconst (v := 0) hx hb dX1_takeOver_26 (by decide) ?_
  refine lv_aload_n hx hb dX1_takeOver_27 rfl (lv_at hl 0 rfl) ?_
  refine va_get (D := G) (C := RX1) (T := TX1) (N := 16) (v := .ref (a 2)) hx hb hts iu_X1 hown hK hP 0 rfl rfl 3 (by decide) (hts _ kw129) (fun _ h9 => h9) rfl dX1_takeOver_28 ?_
  refine lv_iconst (v := 0) hx hb dX1_takeOver_31 (by decide) ?_
  refine lv_iconst (v := 5) hx hb dX1_takeOver_32 (by decide) ?_
  obtain ⟨g_4, hf⟩ := gd_e hf
  obtain ⟨h_5, eh_5, hf⟩ := bl_e hf
  refine va_copyi (f := ho2.2.1 1) (g := h_3.2.1 1) hx hb (hml.trans hl.1.symm) hown (hts _ kw543) (hts _ kw545) (hts _ kw544) (hts _ kw19) hK hP hD hS 10 2 0 0 rfl rfl rfl rfl rfl g_4.1 g_4.2.1 g_4.2.2.1 g_4.2.2.2.1 g_4.2.2.2.2 (fun _ _ => rfl) (Nat.le_of_ble_eq_true rfl) (by decide) dX1_takeOver_33 (fun H locs hP hD hS => ?_)
  have hP : va_P G classes (wl [lfH ct a k h_5, lfH ct b k ho2, lfS ct (fun j => a (12 + j)) nt, lfS ct (fun j => a (8 + j)) cv, lfS ct (fun j => b (12 + j)) ntb, lfS ct (fun j => b (8 + j)) cvb, lfP ct (fun j => a (16 + j)) ps, lfP ct (fun j => b (16 + j)) psb]) H := by rw [← eh_5]; exact hP
  have hD : va_D A (wl [lfH ct a k h_5, lfH ct b k ho2, lfS ct (fun j => a (12 + j)) nt, lfS ct (fun j => a (8 + j)) cv, lfS ct (fun j => b (12 + j)) ntb, lfS ct (fun j => b (8 + j)) cvb, lfP ct (fun j => a (16 + j)) ps, lfP ct (fun j => b (16 + j)) psb]) := by rw [← eh_5]; exact hD
  refine lv_aload_n hx hb dX1_takeOver_36 rfl (lv_at hl 1 rfl) ?_
  refine va_get (D := G) (C := RX1) (T := TX1) (N := 16) (v := .ref (b 3)) hx hb hts iu_X1 hown hK hP 8 rfl rfl 4 (by decide) (hts _ kw132) (fun _ h9 => h9) rfl dX1_takeOver_37 ?_
  refine lv_iconst (v := 0) hx hb dX1_takeOver_40 (by decide) ?_
  refine lv_aload_n hx hb dX1_takeOver_41 rfl (lv_at hl 0 rfl) ?_
  refine va_get (D := G) (C := RX1) (T := TX1) (N := 16) (v := .ref (a 3)) hx hb hts iu_X1 hown hK hP 0 rfl rfl 4 (by decide) (hts _ kw132) (fun _ h9 => h9) rfl dX1_takeOver_42 ?_
  refine lv_iconst (v := 0) hx hb dX1_takeOver_45 (by decide) ?_
  refine lv_iconst (v := 5) hx hb dX1_takeOver_46 (by decide) ?_
  obtain ⟨g_6, hf⟩ := gd_e hf
  obtain ⟨h_7, eh_7, hf⟩ := bl_e hf
  refine va_copyi (f := ho2.2.1 2) (g := h_5.2.1 2) hx hb (hml.trans hl.1.symm) hown (hts _ kw543) (hts _ kw545) (hts _ kw544) (hts _ kw19) hK hP hD hS 11 3 0 0 rfl rfl rfl rfl rfl g_6.1 g_6.2.1 g_6.2.2.1 g_6.2.2.2.1 g_6.2.2.2.2 (fun _ _ => rfl) (Nat.le_of_ble_eq_true rfl) (by decide) dX1_takeOver_47 (fun H locs hP hD hS => ?_)
  have hP : va_P G classes (wl [lfH ct a k h_7, lfH ct b k ho2, lfS ct (fun j => a (12 + j)) nt, lfS ct (fun j => a (8 + j)) cv, lfS ct (fun j => b (12 + j)) ntb, lfS ct (fun j => b (8 + j)) cvb, lfP ct (fun j => a (16 + j)) ps, lfP ct (fun j => b (16 + j)) psb]) H := by rw [← eh_7]; exact hP
  have hD : va_D A (wl [lfH ct a k h_7, lfH ct b k ho2, lfS ct (fun j => a (12 + j)) nt, lfS ct (fun j => a (8 + j)) cv, lfS ct (fun j => b (12 + j)) ntb, lfS ct (fun j => b (8 + j)) cvb, lfP ct (fun j => a (16 + j)) ps, lfP ct (fun j => b (16 + j)) psb]) := by rw [← eh_7]; exact hD
  refine lv_aload_n hx hb dX1_takeOver_50 rfl (lv_at hl 0 rfl) ?_
  refine lv_aload_n hx hb dX1_takeOver_51 rfl (lv_at hl 1 rfl) ?_
  refine va_get (D := G) (C := RX1) (T := TX1) (N := 16) (v := .int (ho2.1 1)) hx hb hts iu_X1 hown hK hP 8 rfl rfl 5 (by decide) (hts _ kw136) (fun _ h9 => h9) rfl dX1_takeOver_52 ?_
  obtain ⟨h_8, eh_8, hf⟩ := bl_e hf
  refine va_put (D := G) (C := RX1) (T := TX1) (N := 16) (ty := .int) hx hb hts iu_X1 tyX1 tyX1_ok nmX1 hown hK hP hD hS 0 rfl rfl 5 (by decide) (hts _ kw136) (fun _ h9 => h9) rfl (by decide +kernel) rfl rfl (Nat.le_of_ble_eq_true rfl) dX1_takeOver_55 (fun H locs hP hD hS => ?_)
  have hP : va_P G classes (wl [lfH ct a k h_8, lfH ct b k ho2, lfS ct (fun j => a (12 + j)) nt, lfS ct (fun j => a (8 + j)) cv, lfS ct (fun j => b (12 + j)) ntb, lfS ct (fun j => b (8 + j)) cvb, lfP ct (fun j => a (16 + j)) ps, lfP ct (fun j => b (16 + j)) psb]) H := by rw [← eh_8]; exact hP
  have hD : va_D A (wl [lfH ct a k h_8, lfH ct b k ho2, lfS ct (fun j => a (12 + j)) nt, lfS ct (fun j => a (8 + j)) cv, lfS ct (fun j => b (12 + j)) ntb, lfS ct (fun j => b (8 + j)) cvb, lfP ct (fun j => a (16 + j)) ps, lfP ct (fun j => b (16 + j)) psb]) := by rw [← eh_8]; exact hD
  refine lv_aload_n hx hb dX1_takeOver_58 rfl (lv_at hl 1 rfl) ?_
  refine va_get (D := G) (C := RX1) (T := TX1) (N := 16) (v := .ref (b 4)) hx hb hts iu_X1 hown hK hP 8 rfl rfl 6 (by decide) (hts _ kw139) (fun _ h9 => h9) rfl dX1_takeOver_59 ?_
  refine lv_iconst (v := 0) hx hb dX1_takeOver_62 (by decide) ?_
  refine lv_aload_n hx hb dX1_takeOver_63 rfl (lv_at hl 0 rfl) ?_
  refine va_get (D := G) (C := RX1) (T := TX1) (N := 16) (v := .ref (a 4)) hx hb hts iu_X1 hown hK hP 0 rfl rfl 6 (by decide) (hts _ kw139) (fun _ h9 => h9) rfl dX1_takeOver_64 ?_
  refine lv_iconst (v := 0) hx hb dX1_takeOver_67 (by decide) ?_
  refine lv_bipush (v := 6) hx hb dX1_takeOver_68 (by decide) ?_
  obtain ⟨g_9, hf⟩ := gd_e hf
  obtain ⟨h_10, eh_10, hf⟩ := bl_e hf
  refine va_copyi (f := ho2.2.1 3) (g := h_8.2.1 3) hx hb (hml.trans hl.1.symm) hown (hts _ kw543) (hts _ kw545) (hts _ kw544) (hts _ kw19) hK hP hD hS 12 4 0 0 rfl rfl rfl rfl rfl g_9.1 g_9.2.1 g_9.2.2.1 g_9.2.2.2.1 g_9.2.2.2.2 (fun _ _ => rfl) (Nat.le_of_ble_eq_true rfl) (by decide) dX1_takeOver_70 (fun H locs hP hD hS => ?_)
  have hP : va_P G classes (wl [lfH ct a k h_10, lfH ct b k ho2, lfS ct (fun j => a (12 + j)) nt, lfS ct (fun j => a (8 + j)) cv, lfS ct (fun j => b (12 + j)) ntb, lfS ct (fun j => b (8 + j)) cvb, lfP ct (fun j => a (16 + j)) ps, lfP ct (fun j => b (16 + j)) psb]) H := by rw [← eh_10]; exact hP
  have hD : va_D A (wl [lfH ct a k h_10, lfH ct b k ho2, lfS ct (fun j => a (12 + j)) nt, lfS ct (fun j => a (8 + j)) cv, lfS ct (fun j => b (12 + j)) ntb, lfS ct (fun j => b (8 + j)) cvb, lfP ct (fun j => a (16 + j)) ps, lfP ct (fun j => b (16 + j)) psb]) := by rw [← eh_10]; exact hD
  refine lv_aload_n hx hb dX1_takeOver_73 rfl (lv_at hl 1 rfl) ?_
  refine va_get (D := G) (C := RX1) (T := TX1) (N := 16) (v := .ref (b 5)) hx hb hts iu_X1 hown hK hP 8 rfl rfl 7 (by decide) (hts _ kw141) (fun _ h9 => h9) rfl dX1_takeOver_74 ?_
  refine lv_iconst (v := 0) hx hb dX1_takeOver_77 (by decide) ?_
  refine lv_aload_n hx hb dX1_takeOver_78 rfl (lv_at hl 0 rfl) ?_
  refine va_get (D := G) (C := RX1) (T := TX1) (N := 16) (v := .ref (a 5)) hx hb hts iu_X1 hown hK hP 0 rfl rfl 7 (by decide) (hts _ kw141) (fun _ h9 => h9) rfl dX1_takeOver_79 ?_
  refine lv_iconst (v := 0) hx hb dX1_takeOver_82 (by decide) ?_
  refine lv_bipush (v := 6) hx hb dX1_takeOver_83 (by decide) ?_
  obtain ⟨g_11, hf⟩ := gd_e hf
  obtain ⟨h_12, eh_12, hf⟩ := bl_e hf
  refine va_copyi (f := ho2.2.1 4) (g := h_10.2.1 4) hx hb (hml.trans hl.1.symm) hown (hts _ kw543) (hts _ kw545) (hts _ kw544) (hts _ kw19) hK hP hD hS 13 5 0 0 rfl rfl rfl rfl rfl g_11.1 g_11.2.1 g_11.2.2.1 g_11.2.2.2.1 g_11.2.2.2.2 (fun _ _ => rfl) (Nat.le_of_ble_eq_true rfl) (by decide) dX1_takeOver_85 (fun H locs hP hD hS => ?_)
  have hP : va_P G classes (wl [lfH ct a k h_12, lfH ct b k ho2, lfS ct (fun j => a (12 + j)) nt, lfS ct (fun j => a (8 + j)) cv, lfS ct (fun j => b (12 + j)) ntb, lfS ct (fun j => b (8 + j)) cvb, lfP ct (fun j => a (16 + j)) ps, lfP ct (fun j => b (16 + j)) psb]) H := by rw [← eh_12]; exact hP
  have hD : va_D A (wl [lfH ct a k h_12, lfH ct b k ho2, lfS ct (fun j => a (12 + j)) nt, lfS ct (fun j => a (8 + j)) cv, lfS ct (fun j => b (12 + j)) ntb, lfS ct (fun j => b (8 + j)) cvb, lfP ct (fun j => a (16 + j)) ps, lfP ct (fun j => b (16 + j)) psb]) := by rw [← eh_12]; exact hD
  refine lv_aload_n hx hb dX1_takeOver_88 rfl (lv_at hl 1 rfl) ?_
  refine va_get (D := G) (C := RX1) (T := TX1) (N := 16) (v := .ref (b 6)) hx hb hts iu_X1 hown hK hP 8 rfl rfl 8 (by decide) (hts _ kw143) (fun _ h9 => h9) rfl dX1_takeOver_89 ?_
  refine lv_iconst (v := 0) hx hb dX1_takeOver_92 (by decide) ?_
  refine lv_aload_n hx hb dX1_takeOver_93 rfl (lv_at hl 0 rfl) ?_
  refine va_get (D := G) (C := RX1) (T := TX1) (N := 16) (v := .ref (a 6)) hx hb hts iu_X1 hown hK hP 0 rfl rfl 8 (by decide) (hts _ kw143) (fun _ h9 => h9) rfl dX1_takeOver_94 ?_
  refine lv_iconst (v := 0) hx hb dX1_takeOver_97 (by decide) ?_
  refine lv_bipush (v := 6) hx hb dX1_takeOver_98 (by decide) ?_
  obtain ⟨g_13, hf⟩ := gd_e hf
  obtain ⟨h_14, eh_14, hf⟩ := bl_e hf
  refine va_copyi (f := ho2.2.1 5) (g := h_12.2.1 5) hx hb (hml.trans hl.1.symm) hown (hts _ kw543) (hts _ kw545) (hts _ kw544) (hts _ kw19) hK hP hD hS 14 6 0 0 rfl rfl rfl rfl rfl g_13.1 g_13.2.1 g_13.2.2.1 g_13.2.2.2.1 g_13.2.2.2.2 (fun _ _ => rfl) (Nat.le_of_ble_eq_true rfl) (by decide) dX1_takeOver_100 (fun H locs hP hD hS => ?_)
  have hP : va_P G classes (wl [lfH ct a k h_14, lfH ct b k ho2, lfS ct (fun j => a (12 + j)) nt, lfS ct (fun j => a (8 + j)) cv, lfS ct (fun j => b (12 + j)) ntb, lfS ct (fun j => b (8 + j)) cvb, lfP ct (fun j => a (16 + j)) ps, lfP ct (fun j => b (16 + j)) psb]) H := by rw [← eh_14]; exact hP
  have hD : va_D A (wl [lfH ct a k h_14, lfH ct b k ho2, lfS ct (fun j => a (12 + j)) nt, lfS ct (fun j => a (8 + j)) cv, lfS ct (fun j => b (12 + j)) ntb, lfS ct (fun j => b (8 + j)) cvb, lfP ct (fun j => a (16 + j)) ps, lfP ct (fun j => b (16 + j)) psb]) := by rw [← eh_14]; exact hD
  refine lv_aload_n hx hb dX1_takeOver_103 rfl (lv_at hl 1 rfl) ?_
  refine va_get (D := G) (C := RX1) (T := TX1) (N := 16) (v := .ref (b 7)) hx hb hts iu_X1 hown hK hP 8 rfl rfl 9 (by decide) (hts _ kw145) (fun _ h9 => h9) rfl dX1_takeOver_104 ?_
  refine lv_iconst (v := 0) hx hb dX1_takeOver_107 (by decide) ?_
  refine lv_aload_n hx hb dX1_takeOver_108 rfl (lv_at hl 0 rfl) ?_
  refine va_get (D := G) (C := RX1) (T := TX1) (N := 16) (v := .ref (a 7)) hx hb hts iu_X1 hown hK hP 0 rfl rfl 9 (by decide) (hts _ kw145) (fun _ h9 => h9) rfl dX1_takeOver_109 ?_
  refine lv_iconst (v := 0) hx hb dX1_takeOver_112 (by decide) ?_
  refine lv_bipush (v := 6) hx hb dX1_takeOver_113 (by decide) ?_
  obtain ⟨g_15, hf⟩ := gd_e hf
  obtain ⟨h_16, eh_16, hf⟩ := bl_e hf
  refine va_copyi (f := ho2.2.1 6) (g := h_14.2.1 6) hx hb (hml.trans hl.1.symm) hown (hts _ kw543) (hts _ kw545) (hts _ kw544) (hts _ kw19) hK hP hD hS 15 7 0 0 rfl rfl rfl rfl rfl g_15.1 g_15.2.1 g_15.2.2.1 g_15.2.2.2.1 g_15.2.2.2.2 (fun _ _ => rfl) (Nat.le_of_ble_eq_true rfl) (by decide) dX1_takeOver_115 (fun H locs hP hD hS => ?_)
  have hP : va_P G classes (wl [lfH ct a k h_16, lfH ct b k ho2, lfS ct (fun j => a (12 + j)) nt, lfS ct (fun j => a (8 + j)) cv, lfS ct (fun j => b (12 + j)) ntb, lfS ct (fun j => b (8 + j)) cvb, lfP ct (fun j => a (16 + j)) ps, lfP ct (fun j => b (16 + j)) psb]) H := by rw [← eh_16]; exact hP
  have hD : va_D A (wl [lfH ct a k h_16, lfH ct b k ho2, lfS ct (fun j => a (12 + j)) nt, lfS ct (fun j => a (8 + j)) cv, lfS ct (fun j => b (12 + j)) ntb, lfS ct (fun j => b (8 + j)) cvb, lfP ct (fun j => a (16 + j)) ps, lfP ct (fun j => b (16 + j)) psb]) := by rw [← eh_16]; exact hD
  refine lv_aload_n hx hb dX1_takeOver_118 rfl (lv_at hl 0 rfl) ?_
  refine lv_aload_n hx hb dX1_takeOver_119 rfl (lv_at hl 1 rfl) ?_
  refine va_get (D := G) (C := RX1) (T := TX1) (N := 16) (v := .int (ho2.1 2)) hx hb hts iu_X1 hown hK hP 8 rfl rfl 10 (by decide) (hts _ kw148) (fun _ h9 => h9) rfl dX1_takeOver_120 ?_
  obtain ⟨h_17, eh_17, hf⟩ := bl_e hf
  refine va_put (D := G) (C := RX1) (T := TX1) (N := 16) (ty := .int) hx hb hts iu_X1 tyX1 tyX1_ok nmX1 hown hK hP hD hS 0 rfl rfl 10 (by decide) (hts _ kw148) (fun _ h9 => h9) rfl (by decide +kernel) rfl rfl (Nat.le_of_ble_eq_true rfl) dX1_takeOver_123 (fun H locs hP hD hS => ?_)
  have hP : va_P G classes (wl [lfH ct a k h_17, lfH ct b k ho2, lfS ct (fun j => a (12 + j)) nt, lfS ct (fun j => a (8 + j)) cv, lfS ct (fun j => b (12 + j)) ntb, lfS ct (fun j => b (8 + j)) cvb, lfP ct (fun j => a (16 + j)) ps, lfP ct (fun j => b (16 + j)) psb]) H := by rw [← eh_17]; exact hP
  have hD : va_D A (wl [lfH ct a k h_17, lfH ct b k ho2, lfS ct (fun j => a (12 + j)) nt, lfS ct (fun j => a (8 + j)) cv, lfS ct (fun j => b (12 + j)) ntb, lfS ct (fun j => b (8 + j)) cvb, lfP ct (fun j => a (16 + j)) ps, lfP ct (fun j => b (16 + j)) psb]) := by rw [← eh_17]; exact hD
  refine lv_aload_n hx hb dX1_takeOver_126 rfl (lv_at hl 0 rfl) ?_
  refine lv_aload_n hx hb dX1_takeOver_127 rfl (lv_at hl 1 rfl) ?_
  refine va_get (D := G) (C := RX1) (T := TX1) (N := 16) (v := .int (ho2.1 3)) hx hb hts iu_X1 hown hK hP 8 rfl rfl 11 (by decide) (hts _ kw151) (fun _ h9 => h9) rfl dX1_takeOver_128 ?_
  obtain ⟨h_18, eh_18, hf⟩ := bl_e hf
  refine va_put (D := G) (C := RX1) (T := TX1) (N := 16) (ty := .int) hx hb hts iu_X1 tyX1 tyX1_ok nmX1 hown hK hP hD hS 0 rfl rfl 11 (by decide) (hts _ kw151) (fun _ h9 => h9) rfl (by decide +kernel) rfl rfl (Nat.le_of_ble_eq_true rfl) dX1_takeOver_131 (fun H locs hP hD hS => ?_)
  have hP : va_P G classes (wl [lfH ct a k h_18, lfH ct b k ho2, lfS ct (fun j => a (12 + j)) nt, lfS ct (fun j => a (8 + j)) cv, lfS ct (fun j => b (12 + j)) ntb, lfS ct (fun j => b (8 + j)) cvb, lfP ct (fun j => a (16 + j)) ps, lfP ct (fun j => b (16 + j)) psb]) H := by rw [← eh_18]; exact hP
  have hD : va_D A (wl [lfH ct a k h_18, lfH ct b k ho2, lfS ct (fun j => a (12 + j)) nt, lfS ct (fun j => a (8 + j)) cv, lfS ct (fun j => b (12 + j)) ntb, lfS ct (fun j => b (8 + j)) cvb, lfP ct (fun j => a (16 + j)) ps, lfP ct (fun j => b (16 + j)) psb]) := by rw [← eh_18]; exact hD
  refine lv_aload_n hx hb dX1_takeOver_134 rfl (lv_at hl 0 rfl) ?_
  refine lv_aload_n hx hb dX1_takeOver_135 rfl (lv_at hl 1 rfl) ?_
  refine va_get (D := G) (C := RX1) (T := TX1) (N := 16) (v := .int (ho2.1 4)) hx hb hts iu_X1 hown hK hP 8 rfl rfl 12 (by decide) (hts _ kw154) (fun _ h9 => h9) rfl dX1_takeOver_136 ?_
  obtain ⟨h_19, eh_19, hf⟩ := bl_e hf
  refine va_put (D := G) (C := RX1) (T := TX1) (N := 16) (ty := .int) hx hb hts iu_X1 tyX1 tyX1_ok nmX1 hown hK hP hD hS 0 rfl rfl 12 (by decide) (hts _ kw154) (fun _ h9 => h9) rfl (by decide +kernel) rfl rfl (Nat.le_of_ble_eq_true rfl) dX1_takeOver_139 (fun H locs hP hD hS => ?_)
  have hP : va_P G classes (wl [lfH ct a k h_19, lfH ct b k ho2, lfS ct (fun j => a (12 + j)) nt, lfS ct (fun j => a (8 + j)) cv, lfS ct (fun j => b (12 + j)) ntb, lfS ct (fun j => b (8 + j)) cvb, lfP ct (fun j => a (16 + j)) ps, lfP ct (fun j => b (16 + j)) psb]) H := by rw [← eh_19]; exact hP
  have hD : va_D A (wl [lfH ct a k h_19, lfH ct b k ho2, lfS ct (fun j => a (12 + j)) nt, lfS ct (fun j => a (8 + j)) cv, lfS ct (fun j => b (12 + j)) ntb, lfS ct (fun j => b (8 + j)) cvb, lfP ct (fun j => a (16 + j)) ps, lfP ct (fun j => b (16 + j)) psb]) := by rw [← eh_19]; exact hD
  refine lv_aload_n hx hb dX1_takeOver_142 rfl (lv_at hl 0 rfl) ?_
  refine va_get (D := G) (C := RX1) (T := TX1) (N := 16) (v := .ref (a 8)) hx hb hts iu_X1 hown hK hP 0 rfl rfl 13 (by decide) (hts _ kw157) (fun _ h9 => h9) rfl dX1_takeOver_143 ?_
  refine lv_aload_n hx hb dX1_takeOver_146 rfl (lv_at hl 1 rfl) ?_
  refine va_get (D := G) (C := RX1) (T := TX1) (N := 16) (v := .ref (b 8)) hx hb hts iu_X1 hown hK hP 8 rfl rfl 13 (by decide) (hts _ kw157) (fun _ h9 => h9) rfl dX1_takeOver_147 ?_
  obtain ⟨cv_20, hc20, hf⟩ := bd_e hf
  refine call_V (As := [.ref (b 8)]) (rest := []) hx hb hml hown hts hK hP hD hS hA hZ lkX1_82 (Ctr.upL (c_X8_takeOver l G ct sk sv (fun j => a (8 + j)) (fun j => b (8 + j)) n cv cvb hc20) [lfH ct a k h_19, lfH ct b k ho2, lfS ct (fun j => a (12 + j)) nt, lfS ct (fun j => b (12 + j)) ntb, lfP ct (fun j => a (16 + j)) ps, lfP ct (fun j => b (16 + j)) psb] [lfH ct a k h_19, lfH ct b k ho2, lfS ct (fun j => a (12 + j)) nt, lfS ct (fun j => a (8 + j)) cv, lfS ct (fun j => b (12 + j)) ntb, lfS ct (fun j => b (8 + j)) cvb, lfP ct (fun j => a (16 + j)) ps, lfP ct (fun j => b (16 + j)) psb] [lfH ct a k h_19, lfH ct b k ho2, lfS ct (fun j => a (12 + j)) nt, lfS ct (fun j => a (8 + j)) cv_20, lfS ct (fun j => b (12 + j)) ntb, lfS ct (fun j => b (8 + j)) cvb, lfP ct (fun j => a (16 + j)) ps, lfP ct (fun j => b (16 + j)) psb] [3, 5, 0, 1, 2, 4, 6, 7] 8 (by decide) rfl rfl rfl rfl) 20 rfl rfl ⟨Nat.le_of_ble_eq_true rfl, Nat.le_of_ble_eq_true rfl⟩ rfl hl.1 rfl (Nat.le_of_ble_eq_true rfl) dX1_takeOver_150 ⟨Nat.le_of_ble_eq_true rfl, Nat.le_of_ble_eq_true rfl⟩ (fun r9 w9 H locs hB hP hD hS => ?_)
  obtain ⟨rfl, rfl⟩ := hB
  refine WG_eq (g2 := F0 m 153 ls []) rfl ?_
  refine lv_aload_n hx hb dX1_takeOver_153 rfl (lv_at hl 0 rfl) ?_
  refine va_get (D := G) (C := RX1) (T := TX1) (N := 16) (v := .ref (a 12)) hx hb hts iu_X1 hown hK hP 0 rfl rfl 14 (by decide) (hts _ kw159) (fun _ h9 => h9) rfl dX1_takeOver_154 ?_
  refine lv_aload_n hx hb dX1_takeOver_157 rfl (lv_at hl 1 rfl) ?_
  refine va_get (D := G) (C := RX1) (T := TX1) (N := 16) (v := .ref (b 12)) hx hb hts iu_X1 hown hK hP 8 rfl rfl 14 (by decide) (hts _ kw159) (fun _ h9 => h9) rfl dX1_takeOver_158 ?_
  obtain ⟨nt_21, hc21, hf⟩ := bd_e hf
  refine call_V (As := [.ref (b 12)]) (rest := []) hx hb hml hown hts hK hP hD hS hA hZ lkX1_82 (Ctr.upL (c_X8_takeOver l G ct sk sv (fun j => a (12 + j)) (fun j => b (12 + j)) n nt ntb hc21) [lfH ct a k h_19, lfH ct b k ho2, lfS ct (fun j => a (8 + j)) cv_20, lfS ct (fun j => b (8 + j)) cvb, lfP ct (fun j => a (16 + j)) ps, lfP ct (fun j => b (16 + j)) psb] [lfH ct a k h_19, lfH ct b k ho2, lfS ct (fun j => a (12 + j)) nt, lfS ct (fun j => a (8 + j)) cv_20, lfS ct (fun j => b (12 + j)) ntb, lfS ct (fun j => b (8 + j)) cvb, lfP ct (fun j => a (16 + j)) ps, lfP ct (fun j => b (16 + j)) psb] [lfH ct a k h_19, lfH ct b k ho2, lfS ct (fun j => a (12 + j)) nt_21, lfS ct (fun j => a (8 + j)) cv_20, lfS ct (fun j => b (12 + j)) ntb, lfS ct (fun j => b (8 + j)) cvb, lfP ct (fun j => a (16 + j)) ps, lfP ct (fun j => b (16 + j)) psb] [2, 4, 0, 1, 3, 5, 6, 7] 8 (by decide) rfl rfl rfl rfl) 16 rfl rfl ⟨Nat.le_of_ble_eq_true rfl, Nat.le_of_ble_eq_true rfl⟩ rfl hl.1 rfl (Nat.le_of_ble_eq_true rfl) dX1_takeOver_161 ⟨Nat.le_of_ble_eq_true rfl, Nat.le_of_ble_eq_true rfl⟩ (fun r9 w9 H locs hB hP hD hS => ?_)
  obtain ⟨rfl, rfl⟩ := hB
  refine WG_eq (g2 := F0 m 164 ls []) rfl ?_
  refine lv_aload_n hx hb dX1_takeOver_164 rfl (lv_at hl 0 rfl) ?_
  refine va_get (D := G) (C := RX1) (T := TX1) (N := 16) (v := .ref (a 16)) hx hb hts iu_X1 hown hK hP 0 rfl rfl 15 (by decide) (hts _ kw161) (fun _ h9 => h9) rfl dX1_takeOver_165 ?_
  refine lv_aload_n hx hb dX1_takeOver_168 rfl (lv_at hl 1 rfl) ?_
  refine va_get (D := G) (C := RX1) (T := TX1) (N := 16) (v := .ref (b 16)) hx hb hts iu_X1 hown hK hP 8 rfl rfl 15 (by decide) (hts _ kw161) (fun _ h9 => h9) rfl dX1_takeOver_169 ?_
  obtain ⟨ps_22, hc22, hf⟩ := bd_e hf
  refine call_V (As := [.ref (b 16)]) (rest := []) hx hb hml hown hts hK hP hD hS hA hZ lkX1_86 (Ctr.upL (c_X4_takeOver l G ct sk sv (fun j => a (16 + j)) (fun j => b (16 + j)) n ps psb hc22) [lfH ct a k h_19, lfH ct b k ho2, lfS ct (fun j => a (12 + j)) nt_21, lfS ct (fun j => a (8 + j)) cv_20, lfS ct (fun j => b (12 + j)) ntb, lfS ct (fun j => b (8 + j)) cvb] [lfH ct a k h_19, lfH ct b k ho2, lfS ct (fun j => a (12 + j)) nt_21, lfS ct (fun j => a (8 + j)) cv_20, lfS ct (fun j => b (12 + j)) ntb, lfS ct (fun j => b (8 + j)) cvb, lfP ct (fun j => a (16 + j)) ps, lfP ct (fun j => b (16 + j)) psb] [lfH ct a k h_19, lfH ct b k ho2, lfS ct (fun j => a (12 + j)) nt_21, lfS ct (fun j => a (8 + j)) cv_20, lfS ct (fun j => b (12 + j)) ntb, lfS ct (fun j => b (8 + j)) cvb, lfP ct (fun j => a (16 + j)) ps_22, lfP ct (fun j => b (16 + j)) psb] [6, 7, 0, 1, 2, 3, 4, 5] 8 (by decide) rfl rfl rfl rfl) 32 rfl rfl ⟨Nat.le_of_ble_eq_true rfl, Nat.le_of_ble_eq_true rfl⟩ rfl hl.1 rfl (Nat.le_of_ble_eq_true rfl) dX1_takeOver_172 ⟨Nat.le_of_ble_eq_true rfl, Nat.le_of_ble_eq_true rfl⟩ (fun r9 w9 H locs hB hP hD hS => ?_)
  obtain ⟨rfl, rfl⟩ := hB
  refine WG_eq (g2 := F0 m 175 ls []) rfl ?_
  obtain ⟨e1, e2, e3, e4⟩ := inj4 (Option.some.inj hf)
  exact end_v (w' := (wl [lfH ct a k h_19, lfH ct b k ho2, lfS ct (fun j => a (12 + j)) nt_21, lfS ct (fun j => a (8 + j)) cv_20, lfS ct (fun j => b (12 + j)) ntb, lfS ct (fun j => b (8 + j)) cvb, lfP ct (fun j => a (16 + j)) ps_22, lfP ct (fun j => b (16 + j)) psb])) hx hb hr hlocks hK hP hD hS dX1_takeOver_175  ⟨rfl, by rw [← e1, ← e2, ← e3, ← e4]⟩
