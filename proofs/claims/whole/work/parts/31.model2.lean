noncomputable def f_X12_moves_j15 (n : Nat) (mo : MV) : Option (Int32 × MV) :=
  bd2 (f_X12_bad n mo (-2)) fun r_1 mo_2 =>
  some (r_1, mo_2)
noncomputable def f_X12_moves (n : Nat) (mo : MV) (v1 : Int32) (v2 : Int32) : Option (Int32 × MV) :=
  bd (f_X12_isMember n mo v1) fun r_3 =>
  bc (r_3 = 0) (f_X12_moves_j15 n mo)
  (bd (f_X12_isPlace n v2) fun r_5 =>
  bc (r_5 = 0) (f_X12_moves_j15 n mo)
  (gd (vp_in (16 + v1) 235) <|
  bl (mo.2.1 0 (ix (16 + v1))) fun v3_8 =>
  bd (f_X12_keep n mo) fun mo_9 =>
  gd (vp_in (16 + v1) 235) <|
  bl (setA mo_9 0 (upd (mo_9.2.1 0) (ix (16 + v1)) v2)) fun mo_11 =>
  some (v3_8, mo_11)))
set_option maxHeartbeats 4000000 in
set_option maxRecDepth 100000 in
theorem c_X12_moves (l : Launch) (G : va_G) (ct : Nat → ClassId) (sk sv : Nat → Nat) (a : Nat → Nat) (n : Nat) (mo : MV) (v1 : Int32) (v2 : Int32) {r : Int32} {mo' : MV} (hf : f_X12_moves n mo v1 v2 = some (r, mo')) : Ctr (l, G, ct, sk, sv) mX12_moves 2 46 [.ref (a 0), .int v1, .int v2] (wl [lfM ct a mo]) (wl [lfM ct a mo']) (some (.int r)) := by
  refine ctr_intro (by decide) (Nat.le_of_ble_eq_true rfl) ?_
  intro p e s m args below meth c A C hP hD hS hA ls hl
  obtain ⟨hx, hb, hml, hown, hts, hr, hlocks, hK, hnm, hZ⟩ := C
  have hb : c.code = cX12_moves := hb
  have hml : c.maxLocals = 4 := hml
  have hown : s.vm.findClass "SignedOutsideModel" = some m.cls := hown
  have hr : meth.sig.returnType = some .int := hr
  have hP : va_P G classes (wl [lfM ct a mo]) s.heap := hP
  have hD : va_D A (wl [lfM ct a mo]) := hD
  have hK : va_K G classes (TYS ct) s := hK
  have hl : lv_has ls 4 [(0, .ref (a 0)), (1, .int v1), (2, .int v2)] := hl
  have J15 : ∀ (mo : MV) (H : Heap) (locs : List Loc) (ls : Array Slot), va_P G classes (wl [lfM ct a mo]) H → va_D A (wl [lfM ct a mo]) → va_S A s.heap H locs → lv_has ls 4 [(0, .ref (a 0))] → f_X12_moves_j15 n mo = some (r, mo') → WG l G ct sk sv p e (RM 2 46 0 0) s m args below meth c A (Eq2 (some (.int r)) (wl [lfM ct a mo'])) H locs (F0 m 15 ls []) := by
    intro mo H locs ls hP hD hS hl hf
    unfold f_X12_moves_j15 at hf
    refine lv_aload_n hx hb dX12_moves_15 rfl (lv_at hl 0 rfl) ?_
    refine lv_bipush (v := (-2)) hx hb dX12_moves_16 (by decide) ?_
    obtain ⟨r_1, mo_2, hc2, hf⟩ := bd2_e hf
    refine call_V (As := [.int (-2)]) (rest := []) hx hb hml hown hts hK hP hD hS hA hZ lkX12_80 (c_X12_bad l G ct sk sv a n mo (-2) hc2) 0 rfl rfl ⟨Nat.le_of_ble_eq_true rfl, Nat.le_of_ble_eq_true rfl⟩ rfl hl.1 rfl (Nat.le_of_ble_eq_true rfl) dX12_moves_18 ⟨Nat.le_of_ble_eq_true rfl, Nat.le_of_ble_eq_true rfl⟩ (fun r9 w9 H locs hB hP hD hS => ?_)
    obtain ⟨rfl, rfl⟩ := hB
    refine WG_eq (g2 := F0 m 21 ls [.int r_1]) rfl ?_
    obtain ⟨e1, e2⟩ := inj2 (Option.some.inj hf)
    exact end_i (w' := (wl [lfM ct a mo_2])) hx hb hr hlocks hK hP hD hS dX12_moves_21  ⟨by rw [← e1], by rw [← e2]⟩
  unfold f_X12_moves at hf
  show WG l G ct sk sv p e (RM 2 46 0 0) s m args below meth c A (Eq2 (some (.int r)) (wl [lfM ct a mo'])) s.heap [] (F0 m 0 ls [])
  refine lv_aload_n hx hb dX12_moves_0 rfl (lv_at hl 0 rfl) ?_
  refine lv_iload_n hx hb dX12_moves_1 rfl (lv_at hl 1 rfl) ?_
  obtain ⟨r_3, hc3, hf⟩ := bd_e hf
  refine call_V (As := [.int v1]) (rest := []) hx hb hml hown hts hK hP hD hS hA hZ lkX12_117 (c_X12_isMember l G ct sk sv a n mo v1 hc3) 0 rfl rfl ⟨Nat.le_of_ble_eq_true rfl, Nat.le_of_ble_eq_true rfl⟩ rfl hl.1 rfl (Nat.le_of_ble_eq_true rfl) dX12_moves_2 ⟨Nat.le_of_ble_eq_true rfl, Nat.le_of_ble_eq_true rfl⟩ (fun r9 w9 H locs hB hP hD hS => ?_)
  obtain ⟨rfl, rfl⟩ := hB
  refine WG_eq (g2 := F0 m 5 ls [.int r_3]) rfl ?_
  refine lv_if_eq (tgt := 15) hx hb dX12_moves_5 (by decide) (fun c_4 => ?_) (fun c_4 => ?_)
  · replace hf := bc_t hf c_4
    exact J15 mo _ _ _ hP hD hS (lv_sub hl [0] rfl) hf
  · replace hf := bc_f hf c_4
    refine lv_iload_n hx hb dX12_moves_8 rfl (lv_at hl 2 rfl) ?_
    obtain ⟨r_5, hc5, hf⟩ := bd_e hf
    refine call_S (As := [.int v2]) (rest := []) hx hb hml hown hts hK hP hD hS hA hZ lkX12_76 (Ctr.upL (c_X12_isPlace l G ct sk sv  n v2 hc5) [lfM ct a mo] [lfM ct a mo] [lfM ct a mo] [0] 1 (by decide) rfl rfl rfl rfl) ⟨Nat.le_of_ble_eq_true rfl, Nat.le_of_ble_eq_true rfl⟩ rfl hl.1 rfl (Nat.le_of_ble_eq_true rfl) dX12_moves_9 ⟨Nat.le_of_ble_eq_true rfl, Nat.le_of_ble_eq_true rfl⟩ (fun r9 w9 H locs hB hP hD hS => ?_)
    obtain ⟨rfl, rfl⟩ := hB
    refine WG_eq (g2 := F0 m 12 ls [.int r_5]) rfl ?_
    refine lv_if_ne (tgt := 22) hx hb dX12_moves_12 (by decide) (fun c_6 => ?_) (fun c_6 => ?_)
    · replace hf := bc_f hf c_6
      refine lv_aload_n hx hb dX12_moves_22 rfl (lv_at hl 0 rfl) ?_
      refine va_get (D := G) (C := RX12) (T := TX12) (N := 21) (v := .ref (a 1)) hx hb hts iu_X12 hown hK hP 0 rfl rfl 0 (by decide) (hts _ kw887) (fun _ h9 => h9) rfl dX12_moves_23 ?_
      refine lv_bipush (v := 16) hx hb dX12_moves_26 (by decide) ?_
      refine lv_iload_n hx hb dX12_moves_28 rfl (lv_at hl 1 rfl) ?_
      refine lv_iadd hx hb dX12_moves_29 ?_
      obtain ⟨g_7, hf⟩ := gd_e hf
      refine va_iald (f := mo.2.1 0) hx hb hK hP 1 0 rfl rfl g_7 dX12_moves_30 ?_
      refine lv_topi (fun v3_8 ev3_8 => ?_)
      replace hf := bl_i hf ev3_8
      refine lv_istore_n (lv' := [(3, .int v3_8), (0, .ref (a 0)), (1, .int v1), (2, .int v2)]) hx hb dX12_moves_31 rfl hl (by decide) rfl (fun ls hl => ?_)
      refine lv_aload_n hx hb dX12_moves_32 rfl (lv_at hl 1 rfl) ?_
      obtain ⟨mo_9, hc9, hf⟩ := bd_e hf
      refine call_V (As := []) (rest := []) hx hb hml hown hts hK hP hD hS hA hZ lkX12_127 (c_X12_keep l G ct sk sv a n mo hc9) 0 rfl rfl ⟨Nat.le_of_ble_eq_true rfl, Nat.le_of_ble_eq_true rfl⟩ rfl hl.1 rfl (Nat.le_of_ble_eq_true rfl) dX12_moves_33 ⟨Nat.le_of_ble_eq_true rfl, Nat.le_of_ble_eq_true rfl⟩ (fun r9 w9 H locs hB hP hD hS => ?_)
      obtain ⟨rfl, rfl⟩ := hB
      refine WG_eq (g2 := F0 m 36 ls []) rfl ?_
      refine lv_aload_n hx hb dX12_moves_36 rfl (lv_at hl 1 rfl) ?_
      refine va_get (D := G) (C := RX12) (T := TX12) (N := 21) (v := .ref (a 1)) hx hb hts iu_X12 hown hK hP 0 rfl rfl 0 (by decide) (hts _ kw887) (fun _ h9 => h9) rfl dX12_moves_37 ?_
      refine lv_bipush (v := 16) hx hb dX12_moves_40 (by decide) ?_
      refine lv_iload_n hx hb dX12_moves_42 rfl (lv_at hl 2 rfl) ?_
      refine lv_iadd hx hb dX12_moves_43 ?_
      refine lv_iload_n hx hb dX12_moves_44 rfl (lv_at hl 3 rfl) ?_
      obtain ⟨g_10, hf⟩ := gd_e hf
      obtain ⟨mo_11, emo_11, hf⟩ := bl_e hf
      refine va_iast hx hb hK hP hD hS 1 0 rfl rfl g_10 dX12_moves_45 (fun H locs hP hD hS => ?_)
      have hP : va_P G classes (wl [lfM ct a mo_11]) H := by rw [← emo_11]; exact hP
      have hD : va_D A (wl [lfM ct a mo_11]) := by rw [← emo_11]; exact hD
      refine lv_iload_n hx hb dX12_moves_46 rfl (lv_at hl 0 rfl) ?_
      obtain ⟨e1, e2⟩ := inj2 (Option.some.inj hf)
      exact end_i (w' := (wl [lfM ct a mo_11])) hx hb hr hlocks hK hP hD hS dX12_moves_47  ⟨by rw [← e1], by rw [← e2]⟩
    · replace hf := bc_t hf c_6
      exact J15 mo _ _ _ hP hD hS (lv_sub hl [0] rfl) hf
noncomputable def f_X12_note_j32 (n : Nat) (mo : MV) : Option (Int32 × MV) :=
  bd2 (f_X12_bad n mo (-2)) fun r_1 mo_2 =>
  some (r_1, mo_2)
noncomputable def f_X12_note (n : Nat) (mo : MV) (v1 : Int32) (v2 : Int32) (v3 : Int32) : Option (Int32 × MV) :=
  bd (f_X12_isMember n mo v1) fun r_3 =>
  bc (r_3 = 0) (f_X12_note_j32 n mo)
  (bd (f_X12_in n ((v2 : Int32).toInt64) 0 99) fun r_5 =>
  bc (r_5 = 0) (f_X12_note_j32 n mo)
  (bd (f_X12_in n ((v3 : Int32).toInt64) 0 20) fun r_7 =>
  bc (r_7 = 0) (f_X12_note_j32 n mo)
  (gd (vp_in 3 235) <|
  bc ((mo.2.1 0 (ix 3)) = 6) (bd2 (f_X12_full n mo) fun r_23 mo_24 =>
  some (r_23, mo_24))
  (gd (vp_in 3 235) <|
  bl (65 + (3 * (mo.2.1 0 (ix 3)))) fun v4_12 =>
  gd (vp_in v4_12 235) <|
  bl (setA mo 0 (upd (mo.2.1 0) (ix v4_12) v1)) fun mo_14 =>
  gd (vp_in (v4_12 + 1) 235) <|
  bl (setA mo_14 0 (upd (mo_14.2.1 0) (ix (v4_12 + 1)) v2)) fun mo_16 =>
  gd (vp_in (v4_12 + 2) 235) <|
  bl (setA mo_16 0 (upd (mo_16.2.1 0) (ix (v4_12 + 2)) v3)) fun mo_18 =>
  gd (vp_in 3 235) <|
  gd (vp_in 3 235) <|
  bl (setA mo_18 0 (upd (mo_18.2.1 0) (ix 3) ((mo_18.2.1 0 (ix 3)) + 1))) fun mo_21 =>
  gd (vp_in 3 235) <|
  some (mo_21.2.1 0 (ix 3), mo_21)))))
set_option maxHeartbeats 4000000 in
set_option maxRecDepth 100000 in
theorem c_X12_note (l : Launch) (G : va_G) (ct : Nat → ClassId) (sk sv : Nat → Nat) (a : Nat → Nat) (n : Nat) (mo : MV) (v1 : Int32) (v2 : Int32) (v3 : Int32) {r : Int32} {mo' : MV} (hf : f_X12_note n mo v1 v2 v3 = some (r, mo')) : Ctr (l, G, ct, sk, sv) mX12_note 2 46 [.ref (a 0), .int v1, .int v2, .int v3] (wl [lfM ct a mo]) (wl [lfM ct a mo']) (some (.int r)) := by
  refine ctr_intro (by decide) (Nat.le_of_ble_eq_true rfl) ?_
  intro p e s m args below meth c A C hP hD hS hA ls hl
  obtain ⟨hx, hb, hml, hown, hts, hr, hlocks, hK, hnm, hZ⟩ := C
  have hb : c.code = cX12_note := hb
  have hml : c.maxLocals = 5 := hml
  have hown : s.vm.findClass "SignedOutsideModel" = some m.cls := hown
  have hr : meth.sig.returnType = some .int := hr
  have hP : va_P G classes (wl [lfM ct a mo]) s.heap := hP
  have hD : va_D A (wl [lfM ct a mo]) := hD
  have hK : va_K G classes (TYS ct) s := hK
  have hl : lv_has ls 5 [(0, .ref (a 0)), (1, .int v1), (2, .int v2), (3, .int v3)] := hl
  have J32 : ∀ (mo : MV) (H : Heap) (locs : List Loc) (ls : Array Slot), va_P G classes (wl [lfM ct a mo]) H → va_D A (wl [lfM ct a mo]) → va_S A s.heap H locs → lv_has ls 5 [(0, .ref (a 0))] → f_X12_note_j32 n mo = some (r, mo') → WG l G ct sk sv p e (RM 2 46 0 0) s m args below meth c A (Eq2 (some (.int r)) (wl [lfM ct a mo'])) H locs (F0 m 32 ls []) := by
    intro mo H locs ls hP hD hS hl hf
    unfold f_X12_note_j32 at hf
    refine lv_aload_n hx hb dX12_note_32 rfl (lv_at hl 0 rfl) ?_
    refine lv_bipush (v := (-2)) hx hb dX12_note_33 (by decide) ?_
    obtain ⟨r_1, mo_2, hc2, hf⟩ := bd2_e hf
    refine call_V (As := [.int (-2)]) (rest := []) hx hb hml hown hts hK hP hD hS hA hZ lkX12_80 (c_X12_bad l G ct sk sv a n mo (-2) hc2) 0 rfl rfl ⟨Nat.le_of_ble_eq_true rfl, Nat.le_of_ble_eq_true rfl⟩ rfl hl.1 rfl (Nat.le_of_ble_eq_true rfl) dX12_note_35 ⟨Nat.le_of_ble_eq_true rfl, Nat.le_of_ble_eq_true rfl⟩ (fun r9 w9 H locs hB hP hD hS => ?_)
    obtain ⟨rfl, rfl⟩ := hB
    refine WG_eq (g2 := F0 m 38 ls [.int r_1]) rfl ?_
    obtain ⟨e1, e2⟩ := inj2 (Option.some.inj hf)
    exact end_i (w' := (wl [lfM ct a mo_2])) hx hb hr hlocks hK hP hD hS dX12_note_38  ⟨by rw [← e1], by rw [← e2]⟩
  unfold f_X12_note at hf
  show WG l G ct sk sv p e (RM 2 46 0 0) s m args below meth c A (Eq2 (some (.int r)) (wl [lfM ct a mo'])) s.heap [] (F0 m 0 ls [])
  refine lv_aload_n hx hb dX12_note_0 rfl (lv_at hl 0 rfl) ?_
  refine lv_iload_n hx hb dX12_note_1 rfl (lv_at hl 1 rfl) ?_
  obtain ⟨r_3, hc3, hf⟩ := bd_e hf
  refine call_V (As := [.int v1]) (rest := []) hx hb hml hown hts hK hP hD hS hA hZ lkX12_117 (c_X12_isMember l G ct sk sv a n mo v1 hc3) 0 rfl rfl ⟨Nat.le_of_ble_eq_true rfl, Nat.le_of_ble_eq_true rfl⟩ rfl hl.1 rfl (Nat.le_of_ble_eq_true rfl) dX12_note_2 ⟨Nat.le_of_ble_eq_true rfl, Nat.le_of_ble_eq_true rfl⟩ (fun r9 w9 H locs hB hP hD hS => ?_)
  obtain ⟨rfl, rfl⟩ := hB
  refine WG_eq (g2 := F0 m 5 ls [.int r_3]) rfl ?_
  refine lv_if_eq (tgt := 32) hx hb dX12_note_5 (by decide) (fun c_4 => ?_) (fun c_4 => ?_)
  · replace hf := bc_t hf c_4
    exact J32 mo _ _ _ hP hD hS (lv_sub hl [0] rfl) hf
  · replace hf := bc_f hf c_4
    refine lv_iload_n hx hb dX12_note_8 rfl (lv_at hl 2 rfl) ?_
    refine lv_i2l (v := (v2 : Int32).toInt64) hx hb dX12_note_9 rfl ?_
    refine lv_lconst (v := 0) hx hb dX12_note_10 (by decide) ?_
    refine lv_ldc2 (v := 99) hx hb hown (hts _ kw970) dX12_note_11 ?_
    obtain ⟨r_5, hc5, hf⟩ := bd_e hf
    refine call_S (As := [.long ((v2 : Int32).toInt64), .long 0, .long 99]) (rest := []) hx hb hml hown hts hK hP hD hS hA hZ lkX12_65 (Ctr.upL (c_X12_in l G ct sk sv  n ((v2 : Int32).toInt64) 0 99 hc5) [lfM ct a mo] [lfM ct a mo] [lfM ct a mo] [0] 1 (by decide) rfl rfl rfl rfl) ⟨Nat.le_of_ble_eq_true rfl, Nat.le_of_ble_eq_true rfl⟩ rfl hl.1 rfl (Nat.le_of_ble_eq_true rfl) dX12_note_14 ⟨Nat.le_of_ble_eq_true rfl, Nat.le_of_ble_eq_true rfl⟩ (fun r9 w9 H locs hB hP hD hS => ?_)
    obtain ⟨rfl, rfl⟩ := hB
    refine WG_eq (g2 := F0 m 17 ls [.int r_5]) rfl ?_
    refine lv_if_eq (tgt := 32) hx hb dX12_note_17 (by decide) (fun c_6 => ?_) (fun c_6 => ?_)
    · replace hf := bc_t hf c_6
      exact J32 mo _ _ _ hP hD hS (lv_sub hl [0] rfl) hf
    · replace hf := bc_f hf c_6
      refine lv_iload_n hx hb dX12_note_20 rfl (lv_at hl 3 rfl) ?_
      refine lv_i2l (v := (v3 : Int32).toInt64) hx hb dX12_note_21 rfl ?_
      refine lv_lconst (v := 0) hx hb dX12_note_22 (by decide) ?_
      refine lv_ldc2 (v := 20) hx hb hown (hts _ kw1135) dX12_note_23 ?_
      obtain ⟨r_7, hc7, hf⟩ := bd_e hf
      refine call_S (As := [.long ((v3 : Int32).toInt64), .long 0, .long 20]) (rest := []) hx hb hml hown hts hK hP hD hS hA hZ lkX12_65 (Ctr.upL (c_X12_in l G ct sk sv  n ((v3 : Int32).toInt64) 0 20 hc7) [lfM ct a mo] [lfM ct a mo] [lfM ct a mo] [0] 1 (by decide) rfl rfl rfl rfl) ⟨Nat.le_of_ble_eq_true rfl, Nat.le_of_ble_eq_true rfl⟩ rfl hl.1 rfl (Nat.le_of_ble_eq_true rfl) dX12_note_26 ⟨Nat.le_of_ble_eq_true rfl, Nat.le_of_ble_eq_true rfl⟩ (fun r9 w9 H locs hB hP hD hS => ?_)
      obtain ⟨rfl, rfl⟩ := hB
      refine WG_eq (g2 := F0 m 29 ls [.int r_7]) rfl ?_
      refine lv_if_ne (tgt := 39) hx hb dX12_note_29 (by decide) (fun c_8 => ?_) (fun c_8 => ?_)
      · replace hf := bc_f hf c_8
        refine lv_aload_n hx hb dX12_note_39 rfl (lv_at hl 0 rfl) ?_
        refine va_get (D := G) (C := RX12) (T := TX12) (N := 21) (v := .ref (a 1)) hx hb hts iu_X12 hown hK hP 0 rfl rfl 0 (by decide) (hts _ kw887) (fun _ h9 => h9) rfl dX12_note_40 ?_
        refine lv_iconst (v := 3) hx hb dX12_note_43 (by decide) ?_
        obtain ⟨g_9, hf⟩ := gd_e hf
        refine va_iald (f := mo.2.1 0) hx hb hK hP 1 0 rfl rfl g_9 dX12_note_44 ?_
        refine lv_bipush (v := 6) hx hb dX12_note_45 (by decide) ?_
        refine lv_icmp_ne (tgt := 55) hx hb dX12_note_47 (by decide) (fun c_10 => ?_) (fun c_10 => ?_)
        · replace hf := bc_f hf c_10
          refine lv_bipush (v := 65) hx hb dX12_note_55 (by decide) ?_
          refine lv_iconst (v := 3) hx hb dX12_note_57 (by decide) ?_
          refine lv_aload_n hx hb dX12_note_58 rfl (lv_at hl 0 rfl) ?_
          refine va_get (D := G) (C := RX12) (T := TX12) (N := 21) (v := .ref (a 1)) hx hb hts iu_X12 hown hK hP 0 rfl rfl 0 (by decide) (hts _ kw887) (fun _ h9 => h9) rfl dX12_note_59 ?_
          refine lv_iconst (v := 3) hx hb dX12_note_62 (by decide) ?_
          obtain ⟨g_11, hf⟩ := gd_e hf
          refine va_iald (f := mo.2.1 0) hx hb hK hP 1 0 rfl rfl g_11 dX12_note_63 ?_
          refine lv_imul hx hb dX12_note_64 ?_
          refine lv_iadd hx hb dX12_note_65 ?_
          refine lv_topi (fun v4_12 ev4_12 => ?_)
          replace hf := bl_i hf ev4_12
          refine lv_istore (lv' := [(4, .int v4_12), (0, .ref (a 0)), (1, .int v1), (2, .int v2), (3, .int v3)]) hx hb dX12_note_66 hl (by decide) rfl (fun ls hl => ?_)
          refine lv_aload_n hx hb dX12_note_68 rfl (lv_at hl 1 rfl) ?_
          refine va_get (D := G) (C := RX12) (T := TX12) (N := 21) (v := .ref (a 1)) hx hb hts iu_X12 hown hK hP 0 rfl rfl 0 (by decide) (hts _ kw887) (fun _ h9 => h9) rfl dX12_note_69 ?_
          refine lv_iload hx hb dX12_note_72 (lv_at hl 0 rfl) ?_
          refine lv_iload_n hx hb dX12_note_74 rfl (lv_at hl 2 rfl) ?_
          obtain ⟨g_13, hf⟩ := gd_e hf
          obtain ⟨mo_14, emo_14, hf⟩ := bl_e hf
          refine va_iast hx hb hK hP hD hS 1 0 rfl rfl g_13 dX12_note_75 (fun H locs hP hD hS => ?_)
          have hP : va_P G classes (wl [lfM ct a mo_14]) H := by rw [← emo_14]; exact hP
          have hD : va_D A (wl [lfM ct a mo_14]) := by rw [← emo_14]; exact hD
          refine lv_aload_n hx hb dX12_note_76 rfl (lv_at hl 1 rfl) ?_
          refine va_get (D := G) (C := RX12) (T := TX12) (N := 21) (v := .ref (a 1)) hx hb hts iu_X12 hown hK hP 0 rfl rfl 0 (by decide) (hts _ kw887) (fun _ h9 => h9) rfl dX12_note_77 ?_
          refine lv_iload hx hb dX12_note_80 (lv_at hl 0 rfl) ?_
          refine lv_iconst (v := 1) hx hb dX12_note_82 (by decide) ?_
          refine lv_iadd hx hb dX12_note_83 ?_
          refine lv_iload_n hx hb dX12_note_84 rfl (lv_at hl 3 rfl) ?_
          obtain ⟨g_15, hf⟩ := gd_e hf
          obtain ⟨mo_16, emo_16, hf⟩ := bl_e hf
          refine va_iast hx hb hK hP hD hS 1 0 rfl rfl g_15 dX12_note_85 (fun H locs hP hD hS => ?_)
          have hP : va_P G classes (wl [lfM ct a mo_16]) H := by rw [← emo_16]; exact hP
          have hD : va_D A (wl [lfM ct a mo_16]) := by rw [← emo_16]; exact hD
          refine lv_aload_n hx hb dX12_note_86 rfl (lv_at hl 1 rfl) ?_
          refine va_get (D := G) (C := RX12) (T := TX12) (N := 21) (v := .ref (a 1)) hx hb hts iu_X12 hown hK hP 0 rfl rfl 0 (by decide) (hts _ kw887) (fun _ h9 => h9) rfl dX12_note_87 ?_
          refine lv_iload hx hb dX12_note_90 (lv_at hl 0 rfl) ?_
          refine lv_iconst (v := 2) hx hb dX12_note_92 (by decide) ?_
          refine lv_iadd hx hb dX12_note_93 ?_
          refine lv_iload_n hx hb dX12_note_94 rfl (lv_at hl 4 rfl) ?_
          obtain ⟨g_17, hf⟩ := gd_e hf
          obtain ⟨mo_18, emo_18, hf⟩ := bl_e hf
          refine va_iast hx hb hK hP hD hS 1 0 rfl rfl g_17 dX12_note_95 (fun H locs hP hD hS => ?_)
          have hP : va_P G classes (wl [lfM ct a mo_18]) H := by rw [← emo_18]; exact hP
          have hD : va_D A (wl [lfM ct a mo_18]) := by rw [← emo_18]; exact hD
          refine lv_aload_n hx hb dX12_note_96 rfl (lv_at hl 1 rfl) ?_
          refine va_get (D := G) (C := RX12) (T := TX12) (N := 21) (v := .ref (a 1)) hx hb hts iu_X12 hown hK hP 0 rfl rfl 0 (by decide) (hts _ kw887) (fun _ h9 => h9) rfl dX12_note_97 ?_
          refine lv_iconst (v := 3) hx hb dX12_note_100 (by decide) ?_
          refine lv_dup2_11 hx hb dX12_note_101 rfl rfl ?_
          obtain ⟨g_19, hf⟩ := gd_e hf
          refine va_iald (f := mo_18.2.1 0) hx hb hK hP 1 0 rfl rfl g_19 dX12_note_102 ?_
          refine lv_iconst (v := 1) hx hb dX12_note_103 (by decide) ?_
          refine lv_iadd hx hb dX12_note_104 ?_
          obtain ⟨g_20, hf⟩ := gd_e hf
          obtain ⟨mo_21, emo_21, hf⟩ := bl_e hf
          refine va_iast hx hb hK hP hD hS 1 0 rfl rfl g_20 dX12_note_105 (fun H locs hP hD hS => ?_)
          have hP : va_P G classes (wl [lfM ct a mo_21]) H := by rw [← emo_21]; exact hP
          have hD : va_D A (wl [lfM ct a mo_21]) := by rw [← emo_21]; exact hD
          refine lv_aload_n hx hb dX12_note_106 rfl (lv_at hl 1 rfl) ?_
          refine va_get (D := G) (C := RX12) (T := TX12) (N := 21) (v := .ref (a 1)) hx hb hts iu_X12 hown hK hP 0 rfl rfl 0 (by decide) (hts _ kw887) (fun _ h9 => h9) rfl dX12_note_107 ?_
          refine lv_iconst (v := 3) hx hb dX12_note_110 (by decide) ?_
          obtain ⟨g_22, hf⟩ := gd_e hf
          refine va_iald (f := mo_21.2.1 0) hx hb hK hP 1 0 rfl rfl g_22 dX12_note_111 ?_
          obtain ⟨e1, e2⟩ := inj2 (Option.some.inj hf)
          exact end_i (w' := (wl [lfM ct a mo_21])) hx hb hr hlocks hK hP hD hS dX12_note_112  ⟨by rw [← e1], by rw [← e2]⟩
        · replace hf := bc_t hf c_10
          refine lv_aload_n hx hb dX12_note_50 rfl (lv_at hl 0 rfl) ?_
          obtain ⟨r_23, mo_24, hc24, hf⟩ := bd2_e hf
          refine call_V (As := []) (rest := []) hx hb hml hown hts hK hP hD hS hA hZ lkX12_84 (c_X12_full l G ct sk sv a n mo hc24) 0 rfl rfl ⟨Nat.le_of_ble_eq_true rfl, Nat.le_of_ble_eq_true rfl⟩ rfl hl.1 rfl (Nat.le_of_ble_eq_true rfl) dX12_note_51 ⟨Nat.le_of_ble_eq_true rfl, Nat.le_of_ble_eq_true rfl⟩ (fun r9 w9 H locs hB hP hD hS => ?_)
          obtain ⟨rfl, rfl⟩ := hB
          refine WG_eq (g2 := F0 m 54 ls [.int r_23]) rfl ?_
          obtain ⟨e1, e2⟩ := inj2 (Option.some.inj hf)
          exact end_i (w' := (wl [lfM ct a mo_24])) hx hb hr hlocks hK hP hD hS dX12_note_54  ⟨by rw [← e1], by rw [← e2]⟩
      · replace hf := bc_t hf c_8
        exact J32 mo _ _ _ hP hD hS (lv_sub hl [0] rfl) hf
noncomputable def f_X12_now_j47 (n : Nat) (mo : MV) (s0 : Int32) : Option (Int32 × MV) :=
  some (s0, mo)
noncomputable def f_X12_now (n : Nat) (mo : MV) (v1 : Int32) : Option (Int32 × MV) :=
  bc (v1 = 0) (gd (vp_in 21 235) <|
  f_X12_now_j47 n mo (mo.2.1 0 (ix 21)))
  (bc (v1 = 1) (gd (vp_in 22 235) <|
  f_X12_now_j47 n mo (mo.2.1 0 (ix 22)))
  (bc (v1 = 2) (bd (f_X12_due n mo) fun r_6 =>
  f_X12_now_j47 n mo r_6)
  (bd2 (f_X12_bad n mo (-2)) fun r_4 mo_5 =>
  f_X12_now_j47 n mo_5 r_4)))
set_option maxHeartbeats 4000000 in
set_option maxRecDepth 100000 in
theorem c_X12_now (l : Launch) (G : va_G) (ct : Nat → ClassId) (sk sv : Nat → Nat) (a : Nat → Nat) (n : Nat) (mo : MV) (v1 : Int32) {r : Int32} {mo' : MV} (hf : f_X12_now n mo v1 = some (r, mo')) : Ctr (l, G, ct, sk, sv) mX12_now 4 86 [.ref (a 0), .int v1] (wl [lfM ct a mo]) (wl [lfM ct a mo']) (some (.int r)) := by
  refine ctr_intro (by decide) (Nat.le_of_ble_eq_true rfl) ?_
  intro p e s m args below meth c A C hP hD hS hA ls hl
  obtain ⟨hx, hb, hml, hown, hts, hr, hlocks, hK, hnm, hZ⟩ := C
  have hb : c.code = cX12_now := hb
  have hml : c.maxLocals = 2 := hml
  have hown : s.vm.findClass "SignedOutsideModel" = some m.cls := hown
  have hr : meth.sig.returnType = some .int := hr
  have hP : va_P G classes (wl [lfM ct a mo]) s.heap := hP
  have hD : va_D A (wl [lfM ct a mo]) := hD
  have hK : va_K G classes (TYS ct) s := hK
  have hl : lv_has ls 2 [(0, .ref (a 0)), (1, .int v1)] := hl
  have J47 : ∀ (mo : MV) (s0 : Int32) (H : Heap) (locs : List Loc) (ls : Array Slot), va_P G classes (wl [lfM ct a mo]) H → va_D A (wl [lfM ct a mo]) → va_S A s.heap H locs → lv_has ls 2 [] → f_X12_now_j47 n mo s0 = some (r, mo') → WG l G ct sk sv p e (RM 4 86 0 0) s m args below meth c A (Eq2 (some (.int r)) (wl [lfM ct a mo'])) H locs (F0 m 47 ls [.int s0]) := by
    intro mo s0 H locs ls hP hD hS hl hf
    unfold f_X12_now_j47 at hf
    obtain ⟨e1, e2⟩ := inj2 (Option.some.inj hf)
    exact end_i (w' := (wl [lfM ct a mo])) hx hb hr hlocks hK hP hD hS dX12_now_47  ⟨by rw [← e1], by rw [← e2]⟩
  unfold f_X12_now at hf
  show WG l G ct sk sv p e (RM 4 86 0 0) s m args below meth c A (Eq2 (some (.int r)) (wl [lfM ct a mo'])) s.heap [] (F0 m 0 ls [])
  refine lv_iload_n hx hb dX12_now_0 rfl (lv_at hl 1 rfl) ?_
  refine lv_if_ne (tgt := 14) hx hb dX12_now_1 (by decide) (fun c_1 => ?_) (fun c_1 => ?_)
  · replace hf := bc_f hf c_1
    refine lv_iload_n hx hb dX12_now_14 rfl (lv_at hl 1 rfl) ?_
    refine lv_iconst (v := 1) hx hb dX12_now_15 (by decide) ?_
    refine lv_icmp_ne (tgt := 29) hx hb dX12_now_16 (by decide) (fun c_2 => ?_) (fun c_2 => ?_)
    · replace hf := bc_f hf c_2
      refine lv_iload_n hx hb dX12_now_29 rfl (lv_at hl 1 rfl) ?_
      refine lv_iconst (v := 2) hx hb dX12_now_30 (by decide) ?_
      refine lv_icmp_ne (tgt := 41) hx hb dX12_now_31 (by decide) (fun c_3 => ?_) (fun c_3 => ?_)
      · replace hf := bc_f hf c_3
        refine lv_aload_n hx hb dX12_now_41 rfl (lv_at hl 0 rfl) ?_
        refine lv_bipush (v := (-2)) hx hb dX12_now_42 (by decide) ?_
        obtain ⟨r_4, mo_5, hc5, hf⟩ := bd2_e hf
        refine call_V (As := [.int (-2)]) (rest := []) hx hb hml hown hts hK hP hD hS hA hZ lkX12_80 (c_X12_bad l G ct sk sv a n mo (-2) hc5) 0 rfl rfl ⟨Nat.le_of_ble_eq_true rfl, Nat.le_of_ble_eq_true rfl⟩ rfl hl.1 rfl (Nat.le_of_ble_eq_true rfl) dX12_now_44 ⟨Nat.le_of_ble_eq_true rfl, Nat.le_of_ble_eq_true rfl⟩ (fun r9 w9 H locs hB hP hD hS => ?_)
        obtain ⟨rfl, rfl⟩ := hB
        refine WG_eq (g2 := F0 m 47 ls [.int r_4]) rfl ?_
        exact J47 mo_5 r_4 _ _ _ hP hD hS (lv_sub hl [] rfl) hf
      · replace hf := bc_t hf c_3
        refine lv_aload_n hx hb dX12_now_34 rfl (lv_at hl 0 rfl) ?_
        obtain ⟨r_6, hc6, hf⟩ := bd_e hf
        refine call_V (As := []) (rest := []) hx hb hml hown hts hK hP hD hS hA hZ lkX12_148 (c_X12_due l G ct sk sv a n mo hc6) 0 rfl rfl ⟨Nat.le_of_ble_eq_true rfl, Nat.le_of_ble_eq_true rfl⟩ rfl hl.1 rfl (Nat.le_of_ble_eq_true rfl) dX12_now_35 ⟨Nat.le_of_ble_eq_true rfl, Nat.le_of_ble_eq_true rfl⟩ (fun r9 w9 H locs hB hP hD hS => ?_)
        obtain ⟨rfl, rfl⟩ := hB
        refine WG_eq (g2 := F0 m 38 ls [.int r_6]) rfl ?_
        refine lv_goto (tgt := 47) hx hb dX12_now_38 (by decide) ?_
        exact J47 mo r_6 _ _ _ hP hD hS (lv_sub hl [] rfl) hf
    · replace hf := bc_t hf c_2
      refine lv_aload_n hx hb dX12_now_19 rfl (lv_at hl 0 rfl) ?_
      refine va_get (D := G) (C := RX12) (T := TX12) (N := 21) (v := .ref (a 1)) hx hb hts iu_X12 hown hK hP 0 rfl rfl 0 (by decide) (hts _ kw887) (fun _ h9 => h9) rfl dX12_now_20 ?_
      refine lv_bipush (v := 22) hx hb dX12_now_23 (by decide) ?_
      obtain ⟨g_7, hf⟩ := gd_e hf
      refine va_iald (f := mo.2.1 0) hx hb hK hP 1 0 rfl rfl g_7 dX12_now_25 ?_
      refine lv_goto (tgt := 47) hx hb dX12_now_26 (by decide) ?_
      exact J47 mo (mo.2.1 0 (ix 22)) _ _ _ hP hD hS (lv_sub hl [] rfl) hf
  · replace hf := bc_t hf c_1
    refine lv_aload_n hx hb dX12_now_4 rfl (lv_at hl 0 rfl) ?_
    refine va_get (D := G) (C := RX12) (T := TX12) (N := 21) (v := .ref (a 1)) hx hb hts iu_X12 hown hK hP 0 rfl rfl 0 (by decide) (hts _ kw887) (fun _ h9 => h9) rfl dX12_now_5 ?_
    refine lv_bipush (v := 21) hx hb dX12_now_8 (by decide) ?_
    obtain ⟨g_8, hf⟩ := gd_e hf
    refine va_iald (f := mo.2.1 0) hx hb hK hP 1 0 rfl rfl g_8 dX12_now_10 ?_
    refine lv_goto (tgt := 47) hx hb dX12_now_11 (by decide) ?_
    exact J47 mo (mo.2.1 0 (ix 21)) _ _ _ hP hD hS (lv_sub hl [] rfl) hf
noncomputable def f_X12_of_j20 (n : Nat) (mo : MV) : Option (Int32 × MV) :=
  bd2 (f_X12_bad n mo (-2)) fun r_1 mo_2 =>
  some (r_1, mo_2)
noncomputable def f_X12_of (n : Nat) (mo : MV) (v1 : Int32) (v2 : Int32) : Option (Int32 × MV) :=
  bd (f_X12_isMember n mo v1) fun r_3 =>
  bc (r_3 = 0) (f_X12_of_j20 n mo)
  (bd (f_X12_in n ((v2 : Int32).toInt64) 0 5) fun r_5 =>
  bc (r_5 = 0) (f_X12_of_j20 n mo)
  (gd (vp_in (24 + v1) 235) <|
  bl (mo.2.1 0 (ix (24 + v1))) fun v3_8 =>
  bc (v2 = 0) (some (v3_8, mo)) <|
  bc (v2 = 1) (gd (vp_in (16 + v1) 235) <|
  some (mo.2.1 0 (ix (16 + v1)), mo)) <|
  bc (v2 = 2) (gd (vp_in (11 + v1) 235) <|
  some (mo.2.1 0 (ix (11 + v1)), mo)) <|
  bc (v2 = 3) (gd (vp_in 23 235) <|
  bd (f_X12_coversAs n v3_8 (mo.2.1 0 (ix 23))) fun r_16 =>
  some (r_16, mo)) <|
  bc (v2 = 4) (bd (f_X12_reachAs n v3_8) fun r_18 =>
  some (r_18, mo)) <|
  bd (f_X12_bearsAs n v3_8) fun r_19 =>
  some (r_19, mo)))
set_option maxHeartbeats 4000000 in
set_option maxRecDepth 100000 in
theorem c_X12_of (l : Launch) (G : va_G) (ct : Nat → ClassId) (sk sv : Nat → Nat) (a : Nat → Nat) (n : Nat) (mo : MV) (v1 : Int32) (v2 : Int32) {r : Int32} {mo' : MV} (hf : f_X12_of n mo v1 v2 = some (r, mo')) : Ctr (l, G, ct, sk, sv) mX12_of 2 46 [.ref (a 0), .int v1, .int v2] (wl [lfM ct a mo]) (wl [lfM ct a mo']) (some (.int r)) := by
  refine ctr_intro (by decide) (Nat.le_of_ble_eq_true rfl) ?_
  intro p e s m args below meth c A C hP hD hS hA ls hl
  obtain ⟨hx, hb, hml, hown, hts, hr, hlocks, hK, hnm, hZ⟩ := C
  have hb : c.code = cX12_of := hb
  have hml : c.maxLocals = 4 := hml
  have hown : s.vm.findClass "SignedOutsideModel" = some m.cls := hown
  have hr : meth.sig.returnType = some .int := hr
  have hP : va_P G classes (wl [lfM ct a mo]) s.heap := hP
  have hD : va_D A (wl [lfM ct a mo]) := hD
  have hK : va_K G classes (TYS ct) s := hK
  have hl : lv_has ls 4 [(0, .ref (a 0)), (1, .int v1), (2, .int v2)] := hl
  have J20 : ∀ (mo : MV) (H : Heap) (locs : List Loc) (ls : Array Slot), va_P G classes (wl [lfM ct a mo]) H → va_D A (wl [lfM ct a mo]) → va_S A s.heap H locs → lv_has ls 4 [(0, .ref (a 0))] → f_X12_of_j20 n mo = some (r, mo') → WG l G ct sk sv p e (RM 2 46 0 0) s m args below meth c A (Eq2 (some (.int r)) (wl [lfM ct a mo'])) H locs (F0 m 20 ls []) := by
    intro mo H locs ls hP hD hS hl hf
    unfold f_X12_of_j20 at hf
    refine lv_aload_n hx hb dX12_of_20 rfl (lv_at hl 0 rfl) ?_
    refine lv_bipush (v := (-2)) hx hb dX12_of_21 (by decide) ?_
    obtain ⟨r_1, mo_2, hc2, hf⟩ := bd2_e hf
    refine call_V (As := [.int (-2)]) (rest := []) hx hb hml hown hts hK hP hD hS hA hZ lkX12_80 (c_X12_bad l G ct sk sv a n mo (-2) hc2) 0 rfl rfl ⟨Nat.le_of_ble_eq_true rfl, Nat.le_of_ble_eq_true rfl⟩ rfl hl.1 rfl (Nat.le_of_ble_eq_true rfl) dX12_of_23 ⟨Nat.le_of_ble_eq_true rfl, Nat.le_of_ble_eq_true rfl⟩ (fun r9 w9 H locs hB hP hD hS => ?_)
    obtain ⟨rfl, rfl⟩ := hB
    refine WG_eq (g2 := F0 m 26 ls [.int r_1]) rfl ?_
    obtain ⟨e1, e2⟩ := inj2 (Option.some.inj hf)
    exact end_i (w' := (wl [lfM ct a mo_2])) hx hb hr hlocks hK hP hD hS dX12_of_26  ⟨by rw [← e1], by rw [← e2]⟩
  unfold f_X12_of at hf
  show WG l G ct sk sv p e (RM 2 46 0 0) s m args below meth c A (Eq2 (some (.int r)) (wl [lfM ct a mo'])) s.heap [] (F0 m 0 ls [])
  refine lv_aload_n hx hb dX12_of_0 rfl (lv_at hl 0 rfl) ?_
  refine lv_iload_n hx hb dX12_of_1 rfl (lv_at hl 1 rfl) ?_
  obtain ⟨r_3, hc3, hf⟩ := bd_e hf
  refine call_V (As := [.int v1]) (rest := []) hx hb hml hown hts hK hP hD hS hA hZ lkX12_117 (c_X12_isMember l G ct sk sv a n mo v1 hc3) 0 rfl rfl ⟨Nat.le_of_ble_eq_true rfl, Nat.le_of_ble_eq_true rfl⟩ rfl hl.1 rfl (Nat.le_of_ble_eq_true rfl) dX12_of_2 ⟨Nat.le_of_ble_eq_true rfl, Nat.le_of_ble_eq_true rfl⟩ (fun r9 w9 H locs hB hP hD hS => ?_)
  obtain ⟨rfl, rfl⟩ := hB
  refine WG_eq (g2 := F0 m 5 ls [.int r_3]) rfl ?_
  refine lv_if_eq (tgt := 20) hx hb dX12_of_5 (by decide) (fun c_4 => ?_) (fun c_4 => ?_)
  · replace hf := bc_t hf c_4
    exact J20 mo _ _ _ hP hD hS (lv_sub hl [0] rfl) hf
  · replace hf := bc_f hf c_4
    refine lv_iload_n hx hb dX12_of_8 rfl (lv_at hl 2 rfl) ?_
    refine lv_i2l (v := (v2 : Int32).toInt64) hx hb dX12_of_9 rfl ?_
    refine lv_lconst (v := 0) hx hb dX12_of_10 (by decide) ?_
    refine lv_ldc2 (v := 5) hx hb hown (hts _ kw963) dX12_of_11 ?_
    obtain ⟨r_5, hc5, hf⟩ := bd_e hf
    refine call_S (As := [.long ((v2 : Int32).toInt64), .long 0, .long 5]) (rest := []) hx hb hml hown hts hK hP hD hS hA hZ lkX12_65 (Ctr.upL (c_X12_in l G ct sk sv  n ((v2 : Int32).toInt64) 0 5 hc5) [lfM ct a mo] [lfM ct a mo] [lfM ct a mo] [0] 1 (by decide) rfl rfl rfl rfl) ⟨Nat.le_of_ble_eq_true rfl, Nat.le_of_ble_eq_true rfl⟩ rfl hl.1 rfl (Nat.le_of_ble_eq_true rfl) dX12_of_14 ⟨Nat.le_of_ble_eq_true rfl, Nat.le_of_ble_eq_true rfl⟩ (fun r9 w9 H locs hB hP hD hS => ?_)
    obtain ⟨rfl, rfl⟩ := hB
    refine WG_eq (g2 := F0 m 17 ls [.int r_5]) rfl ?_
    refine lv_if_ne (tgt := 27) hx hb dX12_of_17 (by decide) (fun c_6 => ?_) (fun c_6 => ?_)
    · replace hf := bc_f hf c_6
      refine lv_aload_n hx hb dX12_of_27 rfl (lv_at hl 0 rfl) ?_
      refine va_get (D := G) (C := RX12) (T := TX12) (N := 21) (v := .ref (a 1)) hx hb hts iu_X12 hown hK hP 0 rfl rfl 0 (by decide) (hts _ kw887) (fun _ h9 => h9) rfl dX12_of_28 ?_
      refine lv_bipush (v := 24) hx hb dX12_of_31 (by decide) ?_
      refine lv_iload_n hx hb dX12_of_33 rfl (lv_at hl 1 rfl) ?_
      refine lv_iadd hx hb dX12_of_34 ?_
      obtain ⟨g_7, hf⟩ := gd_e hf
      refine va_iald (f := mo.2.1 0) hx hb hK hP 1 0 rfl rfl g_7 dX12_of_35 ?_
      refine lv_topi (fun v3_8 ev3_8 => ?_)
      replace hf := bl_i hf ev3_8
      refine lv_istore_n (lv' := [(3, .int v3_8), (0, .ref (a 0)), (1, .int v1), (2, .int v2)]) hx hb dX12_of_36 rfl hl (by decide) rfl (fun ls hl => ?_)
      refine lv_iload_n hx hb dX12_of_37 rfl (lv_at hl 3 rfl) ?_
      rcases Classical.em (v2 = 0) with c_9 | c_9
      · replace hf := bc_t hf c_9
        refine lv_tableIn (tgt := 72) hx hb dX12_of_38 (by rw [c_9]; decide) (by rw [c_9]; decide) (by rw [c_9]; rfl) (by decide) ?_
        refine lv_iload_n hx hb dX12_of_72 rfl (lv_at hl 0 rfl) ?_
        obtain ⟨e1, e2⟩ := inj2 (Option.some.inj hf)
        exact end_i (w' := (wl [lfM ct a mo])) hx hb hr hlocks hK hP hD hS dX12_of_73  ⟨by rw [← e1], by rw [← e2]⟩
      replace hf := bc_f hf c_9
      rcases Classical.em (v2 = 1) with c_10 | c_10
      · replace hf := bc_t hf c_10
        refine lv_tableIn (tgt := 74) hx hb dX12_of_38 (by rw [c_10]; decide) (by rw [c_10]; decide) (by rw [c_10]; rfl) (by decide) ?_
        refine lv_aload_n hx hb dX12_of_74 rfl (lv_at hl 1 rfl) ?_
        refine va_get (D := G) (C := RX12) (T := TX12) (N := 21) (v := .ref (a 1)) hx hb hts iu_X12 hown hK hP 0 rfl rfl 0 (by decide) (hts _ kw887) (fun _ h9 => h9) rfl dX12_of_75 ?_
        refine lv_bipush (v := 16) hx hb dX12_of_78 (by decide) ?_
        refine lv_iload_n hx hb dX12_of_80 rfl (lv_at hl 2 rfl) ?_
        refine lv_iadd hx hb dX12_of_81 ?_
        obtain ⟨g_11, hf⟩ := gd_e hf
        refine va_iald (f := mo.2.1 0) hx hb hK hP 1 0 rfl rfl g_11 dX12_of_82 ?_
        obtain ⟨e1, e2⟩ := inj2 (Option.some.inj hf)
        exact end_i (w' := (wl [lfM ct a mo])) hx hb hr hlocks hK hP hD hS dX12_of_83  ⟨by rw [← e1], by rw [← e2]⟩
      replace hf := bc_f hf c_10
      rcases Classical.em (v2 = 2) with c_12 | c_12
      · replace hf := bc_t hf c_12
        refine lv_tableIn (tgt := 84) hx hb dX12_of_38 (by rw [c_12]; decide) (by rw [c_12]; decide) (by rw [c_12]; rfl) (by decide) ?_
        refine lv_aload_n hx hb dX12_of_84 rfl (lv_at hl 1 rfl) ?_
        refine va_get (D := G) (C := RX12) (T := TX12) (N := 21) (v := .ref (a 1)) hx hb hts iu_X12 hown hK hP 0 rfl rfl 0 (by decide) (hts _ kw887) (fun _ h9 => h9) rfl dX12_of_85 ?_
        refine lv_bipush (v := 11) hx hb dX12_of_88 (by decide) ?_
        refine lv_iload_n hx hb dX12_of_90 rfl (lv_at hl 2 rfl) ?_
        refine lv_iadd hx hb dX12_of_91 ?_
        obtain ⟨g_13, hf⟩ := gd_e hf
        refine va_iald (f := mo.2.1 0) hx hb hK hP 1 0 rfl rfl g_13 dX12_of_92 ?_
        obtain ⟨e1, e2⟩ := inj2 (Option.some.inj hf)
        exact end_i (w' := (wl [lfM ct a mo])) hx hb hr hlocks hK hP hD hS dX12_of_93  ⟨by rw [← e1], by rw [← e2]⟩
      replace hf := bc_f hf c_12
      rcases Classical.em (v2 = 3) with c_14 | c_14
      · replace hf := bc_t hf c_14
        refine lv_tableIn (tgt := 94) hx hb dX12_of_38 (by rw [c_14]; decide) (by rw [c_14]; decide) (by rw [c_14]; rfl) (by decide) ?_
        refine lv_iload_n hx hb dX12_of_94 rfl (lv_at hl 0 rfl) ?_
        refine lv_aload_n hx hb dX12_of_95 rfl (lv_at hl 1 rfl) ?_
        refine va_get (D := G) (C := RX12) (T := TX12) (N := 21) (v := .ref (a 1)) hx hb hts iu_X12 hown hK hP 0 rfl rfl 0 (by decide) (hts _ kw887) (fun _ h9 => h9) rfl dX12_of_96 ?_
        refine lv_bipush (v := 23) hx hb dX12_of_99 (by decide) ?_
        obtain ⟨g_15, hf⟩ := gd_e hf
        refine va_iald (f := mo.2.1 0) hx hb hK hP 1 0 rfl rfl g_15 dX12_of_101 ?_
        obtain ⟨r_16, hc16, hf⟩ := bd_e hf
        refine call_S (As := [.int v3_8, .int (mo.2.1 0 (ix 23))]) (rest := []) hx hb hml hown hts hK hP hD hS hA hZ lkX12_108 (Ctr.upL (c_X12_coversAs l G ct sk sv  n v3_8 (mo.2.1 0 (ix 23)) hc16) [lfM ct a mo] [lfM ct a mo] [lfM ct a mo] [0] 1 (by decide) rfl rfl rfl rfl) ⟨Nat.le_of_ble_eq_true rfl, Nat.le_of_ble_eq_true rfl⟩ rfl hl.1 rfl (Nat.le_of_ble_eq_true rfl) dX12_of_102 ⟨Nat.le_of_ble_eq_true rfl, Nat.le_of_ble_eq_true rfl⟩ (fun r9 w9 H locs hB hP hD hS => ?_)
        obtain ⟨rfl, rfl⟩ := hB
        refine WG_eq (g2 := F0 m 105 ls [.int r_16]) rfl ?_
        obtain ⟨e1, e2⟩ := inj2 (Option.some.inj hf)
        exact end_i (w' := (wl [lfM ct a mo])) hx hb hr hlocks hK hP hD hS dX12_of_105  ⟨by rw [← e1], by rw [← e2]⟩
      replace hf := bc_f hf c_14
      rcases Classical.em (v2 = 4) with c_17 | c_17
      · replace hf := bc_t hf c_17
        refine lv_tableIn (tgt := 106) hx hb dX12_of_38 (by rw [c_17]; decide) (by rw [c_17]; decide) (by rw [c_17]; rfl) (by decide) ?_
        refine lv_iload_n hx hb dX12_of_106 rfl (lv_at hl 0 rfl) ?_
        obtain ⟨r_18, hc18, hf⟩ := bd_e hf
        refine call_S (As := [.int v3_8]) (rest := []) hx hb hml hown hts hK hP hD hS hA hZ lkX12_105 (Ctr.upL (c_X12_reachAs l G ct sk sv  n v3_8 hc18) [lfM ct a mo] [lfM ct a mo] [lfM ct a mo] [0] 1 (by decide) rfl rfl rfl rfl) ⟨Nat.le_of_ble_eq_true rfl, Nat.le_of_ble_eq_true rfl⟩ rfl hl.1 rfl (Nat.le_of_ble_eq_true rfl) dX12_of_107 ⟨Nat.le_of_ble_eq_true rfl, Nat.le_of_ble_eq_true rfl⟩ (fun r9 w9 H locs hB hP hD hS => ?_)
        obtain ⟨rfl, rfl⟩ := hB
        refine WG_eq (g2 := F0 m 110 ls [.int r_18]) rfl ?_
        obtain ⟨e1, e2⟩ := inj2 (Option.some.inj hf)
        exact end_i (w' := (wl [lfM ct a mo])) hx hb hr hlocks hK hP hD hS dX12_of_110  ⟨by rw [← e1], by rw [← e2]⟩
      replace hf := bc_f hf c_17
      have tc_9 := lv_neT (a := 0) c_9 (by decide)
      have tc_10 := lv_neT (a := 1) c_10 (by decide)
      have tc_12 := lv_neT (a := 2) c_12 (by decide)
      have tc_14 := lv_neT (a := 3) c_14 (by decide)
      have tc_17 := lv_neT (a := 4) c_17 (by decide)
      refine lv_tableOut (tgt := 111) hx hb dX12_of_38 (by omega) (by decide) ?_
      refine lv_iload_n hx hb dX12_of_111 rfl (lv_at hl 0 rfl) ?_
      obtain ⟨r_19, hc19, hf⟩ := bd_e hf
      refine call_S (As := [.int v3_8]) (rest := []) hx hb hml hown hts hK hP hD hS hA hZ lkX12_111 (Ctr.upL (c_X12_bearsAs l G ct sk sv  n v3_8 hc19) [lfM ct a mo] [lfM ct a mo] [lfM ct a mo] [0] 1 (by decide) rfl rfl rfl rfl) ⟨Nat.le_of_ble_eq_true rfl, Nat.le_of_ble_eq_true rfl⟩ rfl hl.1 rfl (Nat.le_of_ble_eq_true rfl) dX12_of_112 ⟨Nat.le_of_ble_eq_true rfl, Nat.le_of_ble_eq_true rfl⟩ (fun r9 w9 H locs hB hP hD hS => ?_)
      obtain ⟨rfl, rfl⟩ := hB
      refine WG_eq (g2 := F0 m 115 ls [.int r_19]) rfl ?_
      obtain ⟨e1, e2⟩ := inj2 (Option.some.inj hf)
      exact end_i (w' := (wl [lfM ct a mo])) hx hb hr hlocks hK hP hD hS dX12_of_115  ⟨by rw [← e1], by rw [← e2]⟩
    · replace hf := bc_t hf c_6
      exact J20 mo _ _ _ hP hD hS (lv_sub hl [0] rfl) hf
noncomputable def f_X12_part_j30 (n : Nat) (mo : MV) (s0 : Int64) : Option (Int64 × MV) :=
  some (s0, mo)
noncomputable def f_X12_part (n : Nat) (mo : MV) (v1 : Int32) : Option (Int64 × MV) :=
  bc (v1 = 0) (f_X12_part_j30 n mo (mo.2.2 0))
  (bc (v1 = 1) (f_X12_part_j30 n mo (mo.2.2 1))
  (bd2 (f_X12_bad n mo (-2)) fun r_3 mo_4 =>
  f_X12_part_j30 n mo_4 ((r_3 : Int32).toInt64)))
set_option maxHeartbeats 4000000 in
set_option maxRecDepth 100000 in
theorem c_X12_part (l : Launch) (G : va_G) (ct : Nat → ClassId) (sk sv : Nat → Nat) (a : Nat → Nat) (n : Nat) (mo : MV) (v1 : Int32) {r : Int64} {mo' : MV} (hf : f_X12_part n mo v1 = some (r, mo')) : Ctr (l, G, ct, sk, sv) mX12_part 1 21 [.ref (a 0), .int v1] (wl [lfM ct a mo]) (wl [lfM ct a mo']) (some (.long r)) := by
  refine ctr_intro (by decide) (Nat.le_of_ble_eq_true rfl) ?_
  intro p e s m args below meth c A C hP hD hS hA ls hl
  obtain ⟨hx, hb, hml, hown, hts, hr, hlocks, hK, hnm, hZ⟩ := C
  have hb : c.code = cX12_part := hb
  have hml : c.maxLocals = 2 := hml
  have hown : s.vm.findClass "SignedOutsideModel" = some m.cls := hown
  have hr : meth.sig.returnType = some .long := hr
  have hP : va_P G classes (wl [lfM ct a mo]) s.heap := hP
  have hD : va_D A (wl [lfM ct a mo]) := hD
  have hK : va_K G classes (TYS ct) s := hK
  have hl : lv_has ls 2 [(0, .ref (a 0)), (1, .int v1)] := hl
  have J30 : ∀ (mo : MV) (s0 : Int64) (H : Heap) (locs : List Loc) (ls : Array Slot), va_P G classes (wl [lfM ct a mo]) H → va_D A (wl [lfM ct a mo]) → va_S A s.heap H locs → lv_has ls 2 [] → f_X12_part_j30 n mo s0 = some (r, mo') → WG l G ct sk sv p e (RM 1 21 0 0) s m args below meth c A (Eq2 (some (.long r)) (wl [lfM ct a mo'])) H locs (F0 m 30 ls [.long s0]) := by
    intro mo s0 H locs ls hP hD hS hl hf
    unfold f_X12_part_j30 at hf
    obtain ⟨e1, e2⟩ := inj2 (Option.some.inj hf)
    exact end_l (w' := (wl [lfM ct a mo])) hx hb hr hlocks hK hP hD hS dX12_part_30  ⟨by rw [← e1], by rw [← e2]⟩
  unfold f_X12_part at hf
  show WG l G ct sk sv p e (RM 1 21 0 0) s m args below meth c A (Eq2 (some (.long r)) (wl [lfM ct a mo'])) s.heap [] (F0 m 0 ls [])
  refine lv_iload_n hx hb dX12_part_0 rfl (lv_at hl 1 rfl) ?_
  refine lv_if_ne (tgt := 11) hx hb dX12_part_1 (by decide) (fun c_1 => ?_) (fun c_1 => ?_)
  · replace hf := bc_f hf c_1
    refine lv_iload_n hx hb dX12_part_11 rfl (lv_at hl 1 rfl) ?_
    refine lv_iconst (v := 1) hx hb dX12_part_12 (by decide) ?_
    refine lv_icmp_ne (tgt := 23) hx hb dX12_part_13 (by decide) (fun c_2 => ?_) (fun c_2 => ?_)
    · replace hf := bc_f hf c_2
      refine lv_aload_n hx hb dX12_part_23 rfl (lv_at hl 0 rfl) ?_
      refine lv_bipush (v := (-2)) hx hb dX12_part_24 (by decide) ?_
      obtain ⟨r_3, mo_4, hc4, hf⟩ := bd2_e hf
      refine call_V (As := [.int (-2)]) (rest := []) hx hb hml hown hts hK hP hD hS hA hZ lkX12_80 (c_X12_bad l G ct sk sv a n mo (-2) hc4) 0 rfl rfl ⟨Nat.le_of_ble_eq_true rfl, Nat.le_of_ble_eq_true rfl⟩ rfl hl.1 rfl (Nat.le_of_ble_eq_true rfl) dX12_part_26 ⟨Nat.le_of_ble_eq_true rfl, Nat.le_of_ble_eq_true rfl⟩ (fun r9 w9 H locs hB hP hD hS => ?_)
      obtain ⟨rfl, rfl⟩ := hB
      refine WG_eq (g2 := F0 m 29 ls [.int r_3]) rfl ?_
      refine lv_i2l (v := (r_3 : Int32).toInt64) hx hb dX12_part_29 rfl ?_
      exact J30 mo_4 ((r_3 : Int32).toInt64) _ _ _ hP hD hS (lv_sub hl [] rfl) hf
    · replace hf := bc_t hf c_2
      refine lv_aload_n hx hb dX12_part_16 rfl (lv_at hl 0 rfl) ?_
      refine va_get (D := G) (C := RX12) (T := TX12) (N := 21) (v := .long (mo.2.2 1)) hx hb hts iu_X12 hown hK hP 0 rfl rfl 5 (by decide) (hts _ kw892) (fun _ h9 => h9) rfl dX12_part_17 ?_
      refine lv_goto (tgt := 30) hx hb dX12_part_20 (by decide) ?_
      exact J30 mo (mo.2.2 1) _ _ _ hP hD hS (lv_sub hl [] rfl) hf
  · replace hf := bc_t hf c_1
    refine lv_aload_n hx hb dX12_part_4 rfl (lv_at hl 0 rfl) ?_
    refine va_get (D := G) (C := RX12) (T := TX12) (N := 21) (v := .long (mo.2.2 0)) hx hb hts iu_X12 hown hK hP 0 rfl rfl 4 (by decide) (hts _ kw891) (fun _ h9 => h9) rfl dX12_part_5 ?_
    refine lv_goto (tgt := 30) hx hb dX12_part_8 (by decide) ?_
    exact J30 mo (mo.2.2 0) _ _ _ hP hD hS (lv_sub hl [] rfl) hf
noncomputable def f_X12_pay (n : Nat) (mo : MV) (v1 : Int32) : Option (Int32 × MV) :=
  bd (f_X12_isLetter n mo v1) fun r_1 =>
  bc (r_1 = 0) (bd2 (f_X12_bad n mo (-2)) fun r_15 mo_16 =>
  some (r_15, mo_16))
  (bd (f_X12_lies n mo v1) fun r_3 =>
  bc (r_3 = 0) (bd2 (f_X12_no n mo) fun r_13 mo_14 =>
  some (r_13, mo_14))
  (bd (f_X12_keep n mo) fun mo_5 =>
  gd (vp_in (5 + v1) 235) <|
  bl (setA mo_5 0 (upd (mo_5.2.1 0) (ix (5 + v1)) 5)) fun mo_7 =>
  gd (vp_in 22 235) <|
  bd (f_X12_postage n mo_7 v1) fun r_9 =>
  gd (vp_in 22 235) <|
  bl (setA mo_7 0 (upd (mo_7.2.1 0) (ix 22) ((mo_7.2.1 0 (ix 22)) + r_9))) fun mo_11 =>
  bd (f_X12_postage n mo_11 v1) fun r_12 =>
  some (r_12, mo_11)))
set_option maxHeartbeats 4000000 in
set_option maxRecDepth 100000 in
theorem c_X12_pay (l : Launch) (G : va_G) (ct : Nat → ClassId) (sk sv : Nat → Nat) (a : Nat → Nat) (n : Nat) (mo : MV) (v1 : Int32) {r : Int32} {mo' : MV} (hf : f_X12_pay n mo v1 = some (r, mo')) : Ctr (l, G, ct, sk, sv) mX12_pay 3 64 [.ref (a 0), .int v1] (wl [lfM ct a mo]) (wl [lfM ct a mo']) (some (.int r)) := by
  refine ctr_intro (by decide) (Nat.le_of_ble_eq_true rfl) ?_
  intro p e s m args below meth c A C hP hD hS hA ls hl
  obtain ⟨hx, hb, hml, hown, hts, hr, hlocks, hK, hnm, hZ⟩ := C
  have hb : c.code = cX12_pay := hb
  have hml : c.maxLocals = 2 := hml
  have hown : s.vm.findClass "SignedOutsideModel" = some m.cls := hown
  have hr : meth.sig.returnType = some .int := hr
  have hP : va_P G classes (wl [lfM ct a mo]) s.heap := hP
  have hD : va_D A (wl [lfM ct a mo]) := hD
  have hK : va_K G classes (TYS ct) s := hK
  have hl : lv_has ls 2 [(0, .ref (a 0)), (1, .int v1)] := hl
  unfold f_X12_pay at hf
  show WG l G ct sk sv p e (RM 3 64 0 0) s m args below meth c A (Eq2 (some (.int r)) (wl [lfM ct a mo'])) s.heap [] (F0 m 0 ls [])
  refine lv_aload_n hx hb dX12_pay_0 rfl (lv_at hl 0 rfl) ?_
  refine lv_iload_n hx hb dX12_pay_1 rfl (lv_at hl 1 rfl) ?_
  obtain ⟨r_1, hc1, hf⟩ := bd_e hf
  refine call_V (As := [.int v1]) (rest := []) hx hb hml hown hts hK hP hD hS hA hZ lkX12_114 (c_X12_isLetter l G ct sk sv a n mo v1 hc1) 0 rfl rfl ⟨Nat.le_of_ble_eq_true rfl, Nat.le_of_ble_eq_true rfl⟩ rfl hl.1 rfl (Nat.le_of_ble_eq_true rfl) dX12_pay_2 ⟨Nat.le_of_ble_eq_true rfl, Nat.le_of_ble_eq_true rfl⟩ (fun r9 w9 H locs hB hP hD hS => ?_)
  obtain ⟨rfl, rfl⟩ := hB
  refine WG_eq (g2 := F0 m 5 ls [.int r_1]) rfl ?_
  refine lv_if_ne (tgt := 15) hx hb dX12_pay_5 (by decide) (fun c_2 => ?_) (fun c_2 => ?_)
  · replace hf := bc_f hf c_2
    refine lv_aload_n hx hb dX12_pay_15 rfl (lv_at hl 0 rfl) ?_
    refine lv_iload_n hx hb dX12_pay_16 rfl (lv_at hl 1 rfl) ?_
    obtain ⟨r_3, hc3, hf⟩ := bd_e hf
    refine call_V (As := [.int v1]) (rest := []) hx hb hml hown hts hK hP hD hS hA hZ lkX12_134 (c_X12_lies l G ct sk sv a n mo v1 hc3) 0 rfl rfl ⟨Nat.le_of_ble_eq_true rfl, Nat.le_of_ble_eq_true rfl⟩ rfl hl.1 rfl (Nat.le_of_ble_eq_true rfl) dX12_pay_17 ⟨Nat.le_of_ble_eq_true rfl, Nat.le_of_ble_eq_true rfl⟩ (fun r9 w9 H locs hB hP hD hS => ?_)
    obtain ⟨rfl, rfl⟩ := hB
    refine WG_eq (g2 := F0 m 20 ls [.int r_3]) rfl ?_
    refine lv_if_ne (tgt := 28) hx hb dX12_pay_20 (by decide) (fun c_4 => ?_) (fun c_4 => ?_)
    · replace hf := bc_f hf c_4
      refine lv_aload_n hx hb dX12_pay_28 rfl (lv_at hl 0 rfl) ?_
      obtain ⟨mo_5, hc5, hf⟩ := bd_e hf
      refine call_V (As := []) (rest := []) hx hb hml hown hts hK hP hD hS hA hZ lkX12_127 (c_X12_keep l G ct sk sv a n mo hc5) 0 rfl rfl ⟨Nat.le_of_ble_eq_true rfl, Nat.le_of_ble_eq_true rfl⟩ rfl hl.1 rfl (Nat.le_of_ble_eq_true rfl) dX12_pay_29 ⟨Nat.le_of_ble_eq_true rfl, Nat.le_of_ble_eq_true rfl⟩ (fun r9 w9 H locs hB hP hD hS => ?_)
      obtain ⟨rfl, rfl⟩ := hB
      refine WG_eq (g2 := F0 m 32 ls []) rfl ?_
      refine lv_aload_n hx hb dX12_pay_32 rfl (lv_at hl 0 rfl) ?_
      refine va_get (D := G) (C := RX12) (T := TX12) (N := 21) (v := .ref (a 1)) hx hb hts iu_X12 hown hK hP 0 rfl rfl 0 (by decide) (hts _ kw887) (fun _ h9 => h9) rfl dX12_pay_33 ?_
      refine lv_iconst (v := 5) hx hb dX12_pay_36 (by decide) ?_
      refine lv_iload_n hx hb dX12_pay_37 rfl (lv_at hl 1 rfl) ?_
      refine lv_iadd hx hb dX12_pay_38 ?_
      refine lv_iconst (v := 5) hx hb dX12_pay_39 (by decide) ?_
      obtain ⟨g_6, hf⟩ := gd_e hf
      obtain ⟨mo_7, emo_7, hf⟩ := bl_e hf
      refine va_iast hx hb hK hP hD hS 1 0 rfl rfl g_6 dX12_pay_40 (fun H locs hP hD hS => ?_)
      have hP : va_P G classes (wl [lfM ct a mo_7]) H := by rw [← emo_7]; exact hP
      have hD : va_D A (wl [lfM ct a mo_7]) := by rw [← emo_7]; exact hD
      refine lv_aload_n hx hb dX12_pay_41 rfl (lv_at hl 0 rfl) ?_
      refine va_get (D := G) (C := RX12) (T := TX12) (N := 21) (v := .ref (a 1)) hx hb hts iu_X12 hown hK hP 0 rfl rfl 0 (by decide) (hts _ kw887) (fun _ h9 => h9) rfl dX12_pay_42 ?_
      refine lv_bipush (v := 22) hx hb dX12_pay_45 (by decide) ?_
      refine lv_dup2_11 hx hb dX12_pay_47 rfl rfl ?_
      obtain ⟨g_8, hf⟩ := gd_e hf
      refine va_iald (f := mo_7.2.1 0) hx hb hK hP 1 0 rfl rfl g_8 dX12_pay_48 ?_
      refine lv_aload_n hx hb dX12_pay_49 rfl (lv_at hl 0 rfl) ?_
      refine lv_iload_n hx hb dX12_pay_50 rfl (lv_at hl 1 rfl) ?_
      obtain ⟨r_9, hc9, hf⟩ := bd_e hf
      refine call_V (As := [.int v1]) (rest := [.int (mo_7.2.1 0 (ix 22)), .int 22, .ref (a 1)]) hx hb hml hown hts hK hP hD hS hA hZ lkX12_137 (c_X12_postage l G ct sk sv a n mo_7 v1 hc9) 0 rfl rfl ⟨Nat.le_of_ble_eq_true rfl, Nat.le_of_ble_eq_true rfl⟩ rfl hl.1 rfl (Nat.le_of_ble_eq_true rfl) dX12_pay_51 ⟨Nat.le_of_ble_eq_true rfl, Nat.le_of_ble_eq_true rfl⟩ (fun r9 w9 H locs hB hP hD hS => ?_)
      obtain ⟨rfl, rfl⟩ := hB
      refine WG_eq (g2 := F0 m 54 ls [.int r_9, .int (mo_7.2.1 0 (ix 22)), .int 22, .ref (a 1)]) rfl ?_
      refine lv_iadd hx hb dX12_pay_54 ?_
      obtain ⟨g_10, hf⟩ := gd_e hf
      obtain ⟨mo_11, emo_11, hf⟩ := bl_e hf
      refine va_iast hx hb hK hP hD hS 1 0 rfl rfl g_10 dX12_pay_55 (fun H locs hP hD hS => ?_)
      have hP : va_P G classes (wl [lfM ct a mo_11]) H := by rw [← emo_11]; exact hP
      have hD : va_D A (wl [lfM ct a mo_11]) := by rw [← emo_11]; exact hD
      refine lv_aload_n hx hb dX12_pay_56 rfl (lv_at hl 0 rfl) ?_
      refine lv_iload_n hx hb dX12_pay_57 rfl (lv_at hl 1 rfl) ?_
      obtain ⟨r_12, hc12, hf⟩ := bd_e hf
      refine call_V (As := [.int v1]) (rest := []) hx hb hml hown hts hK hP hD hS hA hZ lkX12_137 (c_X12_postage l G ct sk sv a n mo_11 v1 hc12) 0 rfl rfl ⟨Nat.le_of_ble_eq_true rfl, Nat.le_of_ble_eq_true rfl⟩ rfl hl.1 rfl (Nat.le_of_ble_eq_true rfl) dX12_pay_58 ⟨Nat.le_of_ble_eq_true rfl, Nat.le_of_ble_eq_true rfl⟩ (fun r9 w9 H locs hB hP hD hS => ?_)
      obtain ⟨rfl, rfl⟩ := hB
      refine WG_eq (g2 := F0 m 61 ls [.int r_12]) rfl ?_
      obtain ⟨e1, e2⟩ := inj2 (Option.some.inj hf)
      exact end_i (w' := (wl [lfM ct a mo_11])) hx hb hr hlocks hK hP hD hS dX12_pay_61  ⟨by rw [← e1], by rw [← e2]⟩
    · replace hf := bc_t hf c_4
      refine lv_aload_n hx hb dX12_pay_23 rfl (lv_at hl 0 rfl) ?_
      obtain ⟨r_13, mo_14, hc14, hf⟩ := bd2_e hf
      refine call_V (As := []) (rest := []) hx hb hml hown hts hK hP hD hS hA hZ lkX12_124 (c_X12_no l G ct sk sv a n mo hc14) 0 rfl rfl ⟨Nat.le_of_ble_eq_true rfl, Nat.le_of_ble_eq_true rfl⟩ rfl hl.1 rfl (Nat.le_of_ble_eq_true rfl) dX12_pay_24 ⟨Nat.le_of_ble_eq_true rfl, Nat.le_of_ble_eq_true rfl⟩ (fun r9 w9 H locs hB hP hD hS => ?_)
      obtain ⟨rfl, rfl⟩ := hB
      refine WG_eq (g2 := F0 m 27 ls [.int r_13]) rfl ?_
      obtain ⟨e1, e2⟩ := inj2 (Option.some.inj hf)
      exact end_i (w' := (wl [lfM ct a mo_14])) hx hb hr hlocks hK hP hD hS dX12_pay_27  ⟨by rw [← e1], by rw [← e2]⟩
  · replace hf := bc_t hf c_2
    refine lv_aload_n hx hb dX12_pay_8 rfl (lv_at hl 0 rfl) ?_
    refine lv_bipush (v := (-2)) hx hb dX12_pay_9 (by decide) ?_
    obtain ⟨r_15, mo_16, hc16, hf⟩ := bd2_e hf
    refine call_V (As := [.int (-2)]) (rest := []) hx hb hml hown hts hK hP hD hS hA hZ lkX12_80 (c_X12_bad l G ct sk sv a n mo (-2) hc16) 0 rfl rfl ⟨Nat.le_of_ble_eq_true rfl, Nat.le_of_ble_eq_true rfl⟩ rfl hl.1 rfl (Nat.le_of_ble_eq_true rfl) dX12_pay_11 ⟨Nat.le_of_ble_eq_true rfl, Nat.le_of_ble_eq_true rfl⟩ (fun r9 w9 H locs hB hP hD hS => ?_)
    obtain ⟨rfl, rfl⟩ := hB
    refine WG_eq (g2 := F0 m 14 ls [.int r_15]) rfl ?_
    obtain ⟨e1, e2⟩ := inj2 (Option.some.inj hf)
    exact end_i (w' := (wl [lfM ct a mo_16])) hx hb hr hlocks hK hP hD hS dX12_pay_14  ⟨by rw [← e1], by rw [← e2]⟩
noncomputable def f_X12_penny_b6 (n : Nat) (mo : MV) (v3 : Int32) (v2 : Int32) (v1 : Int32) : Option ((Int32 × Int32 × Int32) ⊕ (Int32 × Int32)) :=
  bd (f_X12_letters n mo) fun r_1 =>
  bc (r_1 ≤ v3) (some (.inr (v2, v1)))
  (bd (f_X12_postage n mo v3) fun r_3 =>
  bl (v1 + r_3) fun v1_4 =>
  bd (f_X12_get n mo v3 2) fun r_5 =>
  bl (v2 + r_5) fun v2_6 =>
  bl (v3 + 1) fun v3_7 =>
  some (.inl (v3_7, v2_6, v1_4)))
noncomputable def f_X12_penny_l6 (fu : Nat) (n : Nat) (mo : MV) (v3 : Int32) (v2 : Int32) (v1 : Int32) : Option (Int32 × Int32) :=
  lp (fun q => f_X12_penny_b6 n mo q.1 q.2.1 q.2.2) fu (v3, v2, v1)
noncomputable def f_X12_penny_b55 (n : Nat) (mo : MV) (v3 : Int32) (v2 : Int32) (v1 : Int32) : Option ((Int32) ⊕ (Int32)) :=
  bc (v1 ≤ (v3 * v2)) (some (.inr v3))
  (bl (v3 + 1) fun v3_9 =>
  some (.inl v3_9))
noncomputable def f_X12_penny_l55 (fu : Nat) (n : Nat) (mo : MV) (v2 : Int32) (v1 : Int32) (v3 : Int32) : Option (Int32) :=
  lp (fun q => f_X12_penny_b55 n mo q v2 v1) fu v3
noncomputable def f_X12_penny_j50 (n : Nat) (mo : MV) (v2 : Int32) (v1 : Int32) (s0 : Int64) (s1 : Int64) : Option (Int32 × MV) :=
  bd (f_X12_fraction n mo s1 s0) fun mo_10 =>
  bd (f_X12_penny_l55 n n mo_10 v2 v1 0) fun v3_11 =>
  some (v3_11, mo_10)
noncomputable def f_X12_penny (n : Nat) (mo : MV) : Option (Int32 × MV) :=
  bd2 (f_X12_penny_l6 n n mo 0 0 0) fun v2_13 v1_14 =>
  bc (v2_13 = 0) (f_X12_penny_j50 n mo v2_13 v1_14 1 ((v1_14 : Int32).toInt64))
  (f_X12_penny_j50 n mo v2_13 v1_14 ((v2_13 : Int32).toInt64) ((v1_14 : Int32).toInt64))
set_option maxHeartbeats 4000000 in
set_option maxRecDepth 100000 in
theorem c_X12_penny (l : Launch) (G : va_G) (ct : Nat → ClassId) (sk sv : Nat → Nat) (a : Nat → Nat) (n : Nat) (mo : MV) {r : Int32} {mo' : MV} (hf : f_X12_penny n mo = some (r, mo')) : Ctr (l, G, ct, sk, sv) mX12_penny 3 64 [.ref (a 0)] (wl [lfM ct a mo]) (wl [lfM ct a mo']) (some (.int r)) := by
  refine ctr_intro (by decide) (Nat.le_of_ble_eq_true rfl) ?_
  intro p e s m args below meth c A C hP hD hS hA ls hl
  obtain ⟨hx, hb, hml, hown, hts, hr, hlocks, hK, hnm, hZ⟩ := C
  have hb : c.code = cX12_penny := hb
  have hml : c.maxLocals = 4 := hml
  have hown : s.vm.findClass "SignedOutsideModel" = some m.cls := hown
  have hr : meth.sig.returnType = some .int := hr
  have hP : va_P G classes (wl [lfM ct a mo]) s.heap := hP
  have hD : va_D A (wl [lfM ct a mo]) := hD
  have hK : va_K G classes (TYS ct) s := hK
  have hl : lv_has ls 4 [(0, .ref (a 0))] := hl
  have L6 : ∀ (fu : Nat) (mo : MV) (v3 : Int32) (v2 : Int32) (v1 : Int32) (ex : Int32 × Int32) (H : Heap) (locs : List Loc) (ls : Array Slot), va_P G classes (wl [lfM ct a mo]) H → va_D A (wl [lfM ct a mo]) → va_S A s.heap H locs → lv_has ls 4 [(3, .int v3), (2, .int v2), (1, .int v1), (0, .ref (a 0))] → f_X12_penny_l6 fu n mo v3 v2 v1 = some ex → (∀ (x : Int32 × Int32), ex = x → ∀ (H : Heap) (locs : List Loc) (ls : Array Slot), va_P G classes (wl [lfM ct a mo]) H → va_D A (wl [lfM ct a mo]) → va_S A s.heap H locs → lv_has ls 4 [(2, .int x.1), (1, .int x.2), (0, .ref (a 0))] → WG l G ct sk sv p e (RM 3 64 0 0) s m args below meth c A (Eq2 (some (.int r)) (wl [lfM ct a mo'])) H locs (F0 m 37 ls [])) → WG l G ct sk sv p e (RM 3 64 0 0) s m args below meth c A (Eq2 (some (.int r)) (wl [lfM ct a mo'])) H locs (F0 m 6 ls []) := by
    intro fu
    induction fu with
    | zero =>
      intro mo v3 v2 v1 ex H locs ls hP hD hS hl hf
      exact absurd hf (by unfold f_X12_penny_l6 lp; exact fun h => by cases h)
    | succ fu ih =>
      intro mo v3 v2 v1 ex H locs ls hP hD hS hl hf hE
      unfold f_X12_penny_l6 at hf
      obtain ⟨q, hf, hor⟩ := lp_e hf
      replace hf : f_X12_penny_b6 n mo v3 v2 v1 = some q := hf
      unfold f_X12_penny_b6 at hf
      refine lv_iload_n hx hb dX12_penny_6 rfl (lv_at hl 0 rfl) ?_
      refine lv_aload_n hx hb dX12_penny_7 rfl (lv_at hl 3 rfl) ?_
      obtain ⟨r_1, hc1, hf⟩ := bd_e hf
      refine call_V (As := []) (rest := [.int v3]) hx hb hml hown hts hK hP hD hS hA hZ lkX12_69 (c_X12_letters l G ct sk sv a n mo hc1) 0 rfl rfl ⟨Nat.le_of_ble_eq_true rfl, Nat.le_of_ble_eq_true rfl⟩ rfl hl.1 rfl (Nat.le_of_ble_eq_true rfl) dX12_penny_8 ⟨Nat.le_of_ble_eq_true rfl, Nat.le_of_ble_eq_true rfl⟩ (fun r9 w9 H locs hB hP hD hS => ?_)
      obtain ⟨rfl, rfl⟩ := hB
      refine WG_eq (g2 := F0 m 11 ls [.int r_1, .int v3]) rfl ?_
      refine lv_icmp_ge (tgt := 37) hx hb dX12_penny_11 (by decide) (fun c_2 => ?_) (fun c_2 => ?_)
      · replace hf := bc_t hf c_2
        exact hE (v2, v1) (lp_inr hor hf).symm _ _ _ hP hD hS (lv_sub hl [1, 2, 3] rfl)
      · replace hf := bc_f hf c_2
        refine lv_iload_n hx hb dX12_penny_14 rfl (lv_at hl 2 rfl) ?_
        refine lv_aload_n hx hb dX12_penny_15 rfl (lv_at hl 3 rfl) ?_
        refine lv_iload_n hx hb dX12_penny_16 rfl (lv_at hl 0 rfl) ?_
        obtain ⟨r_3, hc3, hf⟩ := bd_e hf
        refine call_V (As := [.int v3]) (rest := [.int v1]) hx hb hml hown hts hK hP hD hS hA hZ lkX12_137 (c_X12_postage l G ct sk sv a n mo v3 hc3) 0 rfl rfl ⟨Nat.le_of_ble_eq_true rfl, Nat.le_of_ble_eq_true rfl⟩ rfl hl.1 rfl (Nat.le_of_ble_eq_true rfl) dX12_penny_17 ⟨Nat.le_of_ble_eq_true rfl, Nat.le_of_ble_eq_true rfl⟩ (fun r9 w9 H locs hB hP hD hS => ?_)
        obtain ⟨rfl, rfl⟩ := hB
        refine WG_eq (g2 := F0 m 20 ls [.int r_3, .int v1]) rfl ?_
        refine lv_iadd hx hb dX12_penny_20 ?_
        refine lv_topi (fun v1_4 ev1_4 => ?_)
        replace hf := bl_i hf ev1_4
        refine lv_istore_n (lv' := [(1, .int v1_4), (3, .int v3), (2, .int v2), (0, .ref (a 0))]) hx hb dX12_penny_21 rfl hl (by decide) rfl (fun ls hl => ?_)
        refine lv_iload_n hx hb dX12_penny_22 rfl (lv_at hl 2 rfl) ?_
        refine lv_aload_n hx hb dX12_penny_23 rfl (lv_at hl 3 rfl) ?_
        refine lv_iload_n hx hb dX12_penny_24 rfl (lv_at hl 1 rfl) ?_
        refine lv_iconst (v := 2) hx hb dX12_penny_25 (by decide) ?_
        obtain ⟨r_5, hc5, hf⟩ := bd_e hf
        refine call_V (As := [.int v3, .int 2]) (rest := [.int v2]) hx hb hml hown hts hK hP hD hS hA hZ lkX12_145 (c_X12_get l G ct sk sv a n mo v3 2 hc5) 0 rfl rfl ⟨Nat.le_of_ble_eq_true rfl, Nat.le_of_ble_eq_true rfl⟩ rfl hl.1 rfl (Nat.le_of_ble_eq_true rfl) dX12_penny_26 ⟨Nat.le_of_ble_eq_true rfl, Nat.le_of_ble_eq_true rfl⟩ (fun r9 w9 H locs hB hP hD hS => ?_)
        obtain ⟨rfl, rfl⟩ := hB
        refine WG_eq (g2 := F0 m 29 ls [.int r_5, .int v2]) rfl ?_
        refine lv_iadd hx hb dX12_penny_29 ?_
        refine lv_topi (fun v2_6 ev2_6 => ?_)
        replace hf := bl_i hf ev2_6
        refine lv_istore_n (lv' := [(2, .int v2_6), (1, .int v1_4), (3, .int v3), (0, .ref (a 0))]) hx hb dX12_penny_30 rfl hl (by decide) rfl (fun ls hl => ?_)
        obtain ⟨v3_7, ev3_7, hf⟩ := bl_e hf
        refine lv_iinc (v := v3_7) (lv' := [(3, .int v3_7), (2, .int v2_6), (1, .int v1_4), (0, .ref (a 0))]) hx hb dX12_penny_31 hl (k := 2) rfl ev3_7 (by decide) rfl (fun ls hl => ?_)
        refine lv_goto (tgt := 6) hx hb dX12_penny_34 (by decide) ?_
        exact ih mo v3_7 v2_6 v1_4 ex _ _ _ hP hD hS hl (lp_inl hor hf) hE
  have L55 : ∀ (fu : Nat) (mo : MV) (v2 : Int32) (v1 : Int32) (v3 : Int32) (ex : Int32) (H : Heap) (locs : List Loc) (ls : Array Slot), va_P G classes (wl [lfM ct a mo]) H → va_D A (wl [lfM ct a mo]) → va_S A s.heap H locs → lv_has ls 4 [(3, .int v3), (2, .int v2), (1, .int v1)] → f_X12_penny_l55 fu n mo v2 v1 v3 = some ex → (∀ (x : Int32), ex = x → ∀ (H : Heap) (locs : List Loc) (ls : Array Slot), va_P G classes (wl [lfM ct a mo]) H → va_D A (wl [lfM ct a mo]) → va_S A s.heap H locs → lv_has ls 4 [(3, .int x)] → WG l G ct sk sv p e (RM 3 64 0 0) s m args below meth c A (Eq2 (some (.int r)) (wl [lfM ct a mo'])) H locs (F0 m 68 ls [])) → WG l G ct sk sv p e (RM 3 64 0 0) s m args below meth c A (Eq2 (some (.int r)) (wl [lfM ct a mo'])) H locs (F0 m 55 ls []) := by
    intro fu
    induction fu with
    | zero =>
      intro mo v2 v1 v3 ex H locs ls hP hD hS hl hf
      exact absurd hf (by unfold f_X12_penny_l55 lp; exact fun h => by cases h)
    | succ fu ih =>
      intro mo v2 v1 v3 ex H locs ls hP hD hS hl hf hE
      unfold f_X12_penny_l55 at hf
      obtain ⟨q, hf, hor⟩ := lp_e hf
      replace hf : f_X12_penny_b55 n mo v3 v2 v1 = some q := hf
      unfold f_X12_penny_b55 at hf
      refine lv_iload_n hx hb dX12_penny_55 rfl (lv_at hl 0 rfl) ?_
      refine lv_iload_n hx hb dX12_penny_56 rfl (lv_at hl 1 rfl) ?_
      refine lv_imul hx hb dX12_penny_57 ?_
      refine lv_iload_n hx hb dX12_penny_58 rfl (lv_at hl 2 rfl) ?_
      refine lv_icmp_ge (tgt := 68) hx hb dX12_penny_59 (by decide) (fun c_8 => ?_) (fun c_8 => ?_)
      · replace hf := bc_t hf c_8
        exact hE v3 (lp_inr hor hf).symm _ _ _ hP hD hS (lv_sub hl [0] rfl)
      · replace hf := bc_f hf c_8
        obtain ⟨v3_9, ev3_9, hf⟩ := bl_e hf
        refine lv_iinc (v := v3_9) (lv' := [(3, .int v3_9), (2, .int v2), (1, .int v1)]) hx hb dX12_penny_62 hl (k := 0) rfl ev3_9 (by decide) rfl (fun ls hl => ?_)
        refine lv_goto (tgt := 55) hx hb dX12_penny_65 (by decide) ?_
        exact ih mo v2 v1 v3_9 ex _ _ _ hP hD hS hl (lp_inl hor hf) hE
  have J50 : ∀ (mo : MV) (v2 : Int32) (v1 : Int32) (s0 : Int64) (s1 : Int64) (H : Heap) (locs : List Loc) (ls : Array Slot), va_P G classes (wl [lfM ct a mo]) H → va_D A (wl [lfM ct a mo]) → va_S A s.heap H locs → lv_has ls 4 [(2, .int v2), (1, .int v1)] → f_X12_penny_j50 n mo v2 v1 s0 s1 = some (r, mo') → WG l G ct sk sv p e (RM 3 64 0 0) s m args below meth c A (Eq2 (some (.int r)) (wl [lfM ct a mo'])) H locs (F0 m 50 ls [.long s0, .long s1, .ref (a 0)]) := by
    intro mo v2 v1 s0 s1 H locs ls hP hD hS hl hf
    unfold f_X12_penny_j50 at hf
    obtain ⟨mo_10, hc10, hf⟩ := bd_e hf
    refine call_V (As := [.long s1, .long s0]) (rest := []) hx hb hml hown hts hK hP hD hS hA hZ lkX12_171 (c_X12_fraction l G ct sk sv a n mo s1 s0 hc10) 0 rfl rfl ⟨Nat.le_of_ble_eq_true rfl, Nat.le_of_ble_eq_true rfl⟩ rfl hl.1 rfl (Nat.le_of_ble_eq_true rfl) dX12_penny_50 ⟨Nat.le_of_ble_eq_true rfl, Nat.le_of_ble_eq_true rfl⟩ (fun r9 w9 H locs hB hP hD hS => ?_)
    obtain ⟨rfl, rfl⟩ := hB
    refine WG_eq (g2 := F0 m 53 ls []) rfl ?_
    refine lv_iconst (v := 0) hx hb dX12_penny_53 (by decide) ?_
    refine lv_istore_n (lv' := [(3, .int 0), (2, .int v2), (1, .int v1)]) hx hb dX12_penny_54 rfl hl (by decide) rfl (fun ls hl => ?_)
    obtain ⟨v3_11, hx_12, hf⟩ := bd_e hf
    refine L55 n mo_10 v2 v1 0 v3_11 _ _ _ hP hD hS hl hx_12 ?_
    intro x9 e9 H locs ls hP hD hS hl
    subst e9
    have hP : va_P G classes (wl [lfM ct a mo_10]) H := hP
    have hD : va_D A (wl [lfM ct a mo_10]) := hD
    have hl : lv_has ls 4 [(3, .int v3_11)] := hl
    refine lv_iload_n hx hb dX12_penny_68 rfl (lv_at hl 0 rfl) ?_
    obtain ⟨e1, e2⟩ := inj2 (Option.some.inj hf)
    exact end_i (w' := (wl [lfM ct a mo_10])) hx hb hr hlocks hK hP hD hS dX12_penny_69  ⟨by rw [← e1], by rw [← e2]⟩
  unfold f_X12_penny at hf
  show WG l G ct sk sv p e (RM 3 64 0 0) s m args below meth c A (Eq2 (some (.int r)) (wl [lfM ct a mo'])) s.heap [] (F0 m 0 ls [])
  refine lv_iconst (v := 0) hx hb dX12_penny_0 (by decide) ?_
  refine lv_istore_n (lv' := [(1, .int 0), (0, .ref (a 0))]) hx hb dX12_penny_1 rfl hl (by decide) rfl (fun ls hl => ?_)
  refine lv_iconst (v := 0) hx hb dX12_penny_2 (by decide) ?_
  refine lv_istore_n (lv' := [(2, .int 0), (1, .int 0), (0, .ref (a 0))]) hx hb dX12_penny_3 rfl hl (by decide) rfl (fun ls hl => ?_)
  refine lv_iconst (v := 0) hx hb dX12_penny_4 (by decide) ?_
  refine lv_istore_n (lv' := [(3, .int 0), (2, .int 0), (1, .int 0), (0, .ref (a 0))]) hx hb dX12_penny_5 rfl hl (by decide) rfl (fun ls hl => ?_)
  obtain ⟨v2_13, v1_14, hx_15, hf⟩ := bd2_e hf
  refine L6 n mo 0 0 0 (v2_13, v1_14) _ _ _ hP hD hS hl hx_15 ?_
  intro x9 e9 H locs ls hP hD hS hl
  subst e9
  have hP : va_P G classes (wl [lfM ct a mo]) H := hP
  have hD : va_D A (wl [lfM ct a mo]) := hD
  have hl : lv_has ls 4 [(2, .int v2_13), (1, .int v1_14), (0, .ref (a 0))] := hl
  refine lv_aload_n hx hb dX12_penny_37 rfl (lv_at hl 2 rfl) ?_
  refine lv_iload_n hx hb dX12_penny_38 rfl (lv_at hl 1 rfl) ?_
  refine lv_i2l (v := (v1_14 : Int32).toInt64) hx hb dX12_penny_39 rfl ?_
  refine lv_iload_n hx hb dX12_penny_40 rfl (lv_at hl 0 rfl) ?_
  refine lv_if_ne (tgt := 48) hx hb dX12_penny_41 (by decide) (fun c_16 => ?_) (fun c_16 => ?_)
  · replace hf := bc_f hf c_16
    refine lv_iload_n hx hb dX12_penny_48 rfl (lv_at hl 0 rfl) ?_
    refine lv_i2l (v := (v2_13 : Int32).toInt64) hx hb dX12_penny_49 rfl ?_
    exact J50 mo v2_13 v1_14 ((v2_13 : Int32).toInt64) ((v1_14 : Int32).toInt64) _ _ _ hP hD hS (lv_sub hl [0, 1] rfl) hf
  · replace hf := bc_t hf c_16
    refine lv_lconst (v := 1) hx hb dX12_penny_44 (by decide) ?_
    refine lv_goto (tgt := 50) hx hb dX12_penny_45 (by decide) ?_
    exact J50 mo v2_13 v1_14 1 ((v1_14 : Int32).toInt64) _ _ _ hP hD hS (lv_sub hl [0, 1] rfl) hf
noncomputable def f_X12_spells_j111 (n : Nat) (mo : MV) (v9 : Int32) (v1 : Int32) (v2 : Int32) (v3 : Int32) (v4 : Int32) (v5 : Int32) (v6 : Int32) (v7 : Int32) (s0 : Int32) : Option ((Int32 × Int32) ⊕ (Int32)) :=
  bl (v9 + 1) fun v9_1 =>
  some (.inl (v9_1, s0))
noncomputable def f_X12_spells_j103 (n : Nat) (mo : MV) (v9 : Int32) (v1 : Int32) (v2 : Int32) (v3 : Int32) (v4 : Int32) (v5 : Int32) (v6 : Int32) (v7 : Int32) (s0 : Int32) (s1 : Int32) : Option ((Int32 × Int32) ⊕ (Int32)) :=
  bc (s1 = s0) (f_X12_spells_j111 n mo v9 v1 v2 v3 v4 v5 v6 v7 1)
  (f_X12_spells_j111 n mo v9 v1 v2 v3 v4 v5 v6 v7 0)
noncomputable def f_X12_spells_b26 (n : Nat) (mo : MV) (v9 : Int32) (v8 : Int32) (v1 : Int32) (v2 : Int32) (v3 : Int32) (v4 : Int32) (v5 : Int32) (v6 : Int32) (v7 : Int32) : Option ((Int32 × Int32) ⊕ (Int32)) :=
  bc (v1 ≤ v9) (some (.inr v8))
  (bc (v8 = 0) (some (.inr v8))
  (gd (vp_in ((mo.1 1) + v9) 150) <|
  bc (v9 = 0) (f_X12_spells_j103 n mo v9 v1 v2 v3 v4 v5 v6 v7 v2 (mo.2.1 11 (ix ((mo.1 1) + v9))))
  (bc (v9 = 1) (f_X12_spells_j103 n mo v9 v1 v2 v3 v4 v5 v6 v7 v3 (mo.2.1 11 (ix ((mo.1 1) + v9))))
  (bc (v9 = 2) (f_X12_spells_j103 n mo v9 v1 v2 v3 v4 v5 v6 v7 v4 (mo.2.1 11 (ix ((mo.1 1) + v9))))
  (bc (v9 = 3) (f_X12_spells_j103 n mo v9 v1 v2 v3 v4 v5 v6 v7 v5 (mo.2.1 11 (ix ((mo.1 1) + v9))))
  (bc (v9 = 4) (f_X12_spells_j103 n mo v9 v1 v2 v3 v4 v5 v6 v7 v6 (mo.2.1 11 (ix ((mo.1 1) + v9))))
  (f_X12_spells_j103 n mo v9 v1 v2 v3 v4 v5 v6 v7 v7 (mo.2.1 11 (ix ((mo.1 1) + v9))))))))))
noncomputable def f_X12_spells_l26 (fu : Nat) (n : Nat) (mo : MV) (v1 : Int32) (v2 : Int32) (v3 : Int32) (v4 : Int32) (v5 : Int32) (v6 : Int32) (v7 : Int32) (v9 : Int32) (v8 : Int32) : Option (Int32) :=
  lp (fun q => f_X12_spells_b26 n mo q.1 q.2 v1 v2 v3 v4 v5 v6 v7) fu (v9, v8)
noncomputable def f_X12_spells_j119 (n : Nat) (mo : MV) (v8 : Int32) : Option (Int32) :=
  gd (v8 = 0 ∨ v8 = 1) <| some v8
noncomputable def f_X12_spells_j21 (n : Nat) (mo : MV) (v1 : Int32) (v2 : Int32) (v3 : Int32) (v4 : Int32) (v5 : Int32) (v6 : Int32) (v7 : Int32) (s0 : Int32) : Option (Int32) :=
  bd (f_X12_spells_l26 n n mo v1 v2 v3 v4 v5 v6 v7 0 s0) fun v8_12 =>
  f_X12_spells_j119 n mo v8_12
noncomputable def f_X12_spells_j20 (n : Nat) (mo : MV) (v1 : Int32) (v2 : Int32) (v3 : Int32) (v4 : Int32) (v5 : Int32) (v6 : Int32) (v7 : Int32) : Option (Int32) :=
  f_X12_spells_j21 n mo v1 v2 v3 v4 v5 v6 v7 0
noncomputable def f_X12_spells (n : Nat) (mo : MV) (v1 : Int32) (v2 : Int32) (v3 : Int32) (v4 : Int32) (v5 : Int32) (v6 : Int32) (v7 : Int32) : Option (Int32) :=
  bc ((mo.1 3) = 1) (bc ((mo.1 2) = v1) (f_X12_spells_j21 n mo v1 v2 v3 v4 v5 v6 v7 1)
  (f_X12_spells_j20 n mo v1 v2 v3 v4 v5 v6 v7))
  (f_X12_spells_j20 n mo v1 v2 v3 v4 v5 v6 v7)
set_option maxHeartbeats 4000000 in
set_option maxRecDepth 100000 in
theorem c_X12_spells (l : Launch) (G : va_G) (ct : Nat → ClassId) (sk sv : Nat → Nat) (a : Nat → Nat) (n : Nat) (mo : MV) (v1 : Int32) (v2 : Int32) (v3 : Int32) (v4 : Int32) (v5 : Int32) (v6 : Int32) (v7 : Int32) {r : Int32} (hf : f_X12_spells n mo v1 v2 v3 v4 v5 v6 v7 = some r) : Ctr (l, G, ct, sk, sv) mX12_spells 0 0 [.ref (a 0), .int v1, .int v2, .int v3, .int v4, .int v5, .int v6, .int v7] (wl [lfM ct a mo]) (wl [lfM ct a mo]) (some (.int r)) := by
  refine ctr_intro (by decide) (Nat.le_of_ble_eq_true rfl) ?_
  intro p e s m args below meth c A C hP hD hS hA ls hl
  obtain ⟨hx, hb, hml, hown, hts, hr, hlocks, hK, hnm, hZ⟩ := C
  have hb : c.code = cX12_spells := hb
  have hml : c.maxLocals = 10 := hml
  have hown : s.vm.findClass "SignedOutsideModel" = some m.cls := hown
  have hr : meth.sig.returnType = some .boolean := hr
  have hP : va_P G classes (wl [lfM ct a mo]) s.heap := hP
  have hD : va_D A (wl [lfM ct a mo]) := hD
  have hK : va_K G classes (TYS ct) s := hK
  have hl : lv_has ls 10 [(0, .ref (a 0)), (1, .int v1), (2, .int v2), (3, .int v3), (4, .int v4), (5, .int v5), (6, .int v6), (7, .int v7)] := hl
  have L26 : ∀ (fu : Nat) (v1 : Int32) (v2 : Int32) (v3 : Int32) (v4 : Int32) (v5 : Int32) (v6 : Int32) (v7 : Int32) (v9 : Int32) (v8 : Int32) (ex : Int32) (H : Heap) (locs : List Loc) (ls : Array Slot), va_P G classes (wl [lfM ct a mo]) H → va_D A (wl [lfM ct a mo]) → va_S A s.heap H locs → lv_has ls 10 [(9, .int v9), (8, .int v8), (0, .ref (a 0)), (1, .int v1), (2, .int v2), (3, .int v3), (4, .int v4), (5, .int v5), (6, .int v6), (7, .int v7)] → f_X12_spells_l26 fu n mo v1 v2 v3 v4 v5 v6 v7 v9 v8 = some ex → (∀ (x : Int32), ex = x → ∀ (H : Heap) (locs : List Loc) (ls : Array Slot), va_P G classes (wl [lfM ct a mo]) H → va_D A (wl [lfM ct a mo]) → va_S A s.heap H locs → lv_has ls 10 [(8, .int x)] → WG l G ct sk sv p e (RM 0 0 0 0) s m args below meth c A (Eq2 (some (.int r)) (wl [lfM ct a mo])) H locs (F0 m 119 ls [])) → WG l G ct sk sv p e (RM 0 0 0 0) s m args below meth c A (Eq2 (some (.int r)) (wl [lfM ct a mo])) H locs (F0 m 26 ls []) := by
    intro fu
    induction fu with
    | zero =>
      intro v1 v2 v3 v4 v5 v6 v7 v9 v8 ex H locs ls hP hD hS hl hf
      exact absurd hf (by unfold f_X12_spells_l26 lp; exact fun h => by cases h)
    | succ fu ih =>
      intro v1 v2 v3 v4 v5 v6 v7 v9 v8 ex H locs ls hP hD hS hl hf hE
      unfold f_X12_spells_l26 at hf
      obtain ⟨q, hf, hor⟩ := lp_e hf
      have J111 : ∀ (v9 : Int32) (s0 : Int32) (H : Heap) (locs : List Loc) (ls : Array Slot), va_P G classes (wl [lfM ct a mo]) H → va_D A (wl [lfM ct a mo]) → va_S A s.heap H locs → lv_has ls 10 [(9, .int v9), (0, .ref (a 0)), (1, .int v1), (2, .int v2), (3, .int v3), (4, .int v4), (5, .int v5), (6, .int v6), (7, .int v7)] → f_X12_spells_j111 n mo v9 v1 v2 v3 v4 v5 v6 v7 s0 = some q → WG l G ct sk sv p e (RM 0 0 0 0) s m args below meth c A (Eq2 (some (.int r)) (wl [lfM ct a mo])) H locs (F0 m 111 ls [.int s0]) := by
        intro v9 s0 H locs ls hP hD hS hl hf
        unfold f_X12_spells_j111 at hf
        refine lv_istore (lv' := [(8, .int s0), (9, .int v9), (0, .ref (a 0)), (1, .int v1), (2, .int v2), (3, .int v3), (4, .int v4), (5, .int v5), (6, .int v6), (7, .int v7)]) hx hb dX12_spells_111 hl (by decide) rfl (fun ls hl => ?_)
        obtain ⟨v9_1, ev9_1, hf⟩ := bl_e hf
        refine lv_iinc (v := v9_1) (lv' := [(9, .int v9_1), (8, .int s0), (0, .ref (a 0)), (1, .int v1), (2, .int v2), (3, .int v3), (4, .int v4), (5, .int v5), (6, .int v6), (7, .int v7)]) hx hb dX12_spells_113 hl (k := 1) rfl ev9_1 (by decide) rfl (fun ls hl => ?_)
        refine lv_goto (tgt := 26) hx hb dX12_spells_116 (by decide) ?_
        exact ih v1 v2 v3 v4 v5 v6 v7 v9_1 s0 ex _ _ _ hP hD hS hl (lp_inl hor hf) hE
      have J103 : ∀ (v9 : Int32) (s0 : Int32) (s1 : Int32) (H : Heap) (locs : List Loc) (ls : Array Slot), va_P G classes (wl [lfM ct a mo]) H → va_D A (wl [lfM ct a mo]) → va_S A s.heap H locs → lv_has ls 10 [(9, .int v9), (0, .ref (a 0)), (1, .int v1), (2, .int v2), (3, .int v3), (4, .int v4), (5, .int v5), (6, .int v6), (7, .int v7)] → f_X12_spells_j103 n mo v9 v1 v2 v3 v4 v5 v6 v7 s0 s1 = some q → WG l G ct sk sv p e (RM 0 0 0 0) s m args below meth c A (Eq2 (some (.int r)) (wl [lfM ct a mo])) H locs (F0 m 103 ls [.int s0, .int s1]) := by
        intro v9 s0 s1 H locs ls hP hD hS hl hf
        unfold f_X12_spells_j103 at hf
        refine lv_icmp_ne (tgt := 110) hx hb dX12_spells_103 (by decide) (fun c_2 => ?_) (fun c_2 => ?_)
        · replace hf := bc_f hf c_2
          refine lv_iconst (v := 0) hx hb dX12_spells_110 (by decide) ?_
          exact J111 v9 0 _ _ _ hP hD hS hl hf
        · replace hf := bc_t hf c_2
          refine lv_iconst (v := 1) hx hb dX12_spells_106 (by decide) ?_
          refine lv_goto (tgt := 111) hx hb dX12_spells_107 (by decide) ?_
          exact J111 v9 1 _ _ _ hP hD hS hl hf
      replace hf : f_X12_spells_b26 n mo v9 v8 v1 v2 v3 v4 v5 v6 v7 = some q := hf
      unfold f_X12_spells_b26 at hf
      refine lv_iload hx hb dX12_spells_26 (lv_at hl 0 rfl) ?_
      refine lv_iload_n hx hb dX12_spells_28 rfl (lv_at hl 3 rfl) ?_
      refine lv_icmp_ge (tgt := 119) hx hb dX12_spells_29 (by decide) (fun c_3 => ?_) (fun c_3 => ?_)
      · replace hf := bc_t hf c_3
        exact hE v8 (lp_inr hor hf).symm _ _ _ hP hD hS (lv_sub hl [1] rfl)
      · replace hf := bc_f hf c_3
        refine lv_iload hx hb dX12_spells_32 (lv_at hl 1 rfl) ?_
        refine lv_if_eq (tgt := 119) hx hb dX12_spells_34 (by decide) (fun c_4 => ?_) (fun c_4 => ?_)
        · replace hf := bc_t hf c_4
          exact hE v8 (lp_inr hor hf).symm _ _ _ hP hD hS (lv_sub hl [1] rfl)
        · replace hf := bc_f hf c_4
          refine lv_aload_n hx hb dX12_spells_37 rfl (lv_at hl 2 rfl) ?_
          refine va_get (D := G) (C := RX12) (T := TX12) (N := 21) (v := .ref (a 12)) hx hb hts iu_X12 hown hK hP 0 rfl rfl 13 (by decide) (hts _ kw900) (fun _ h9 => h9) rfl dX12_spells_38 ?_
          refine lv_aload_n hx hb dX12_spells_41 rfl (lv_at hl 2 rfl) ?_
          refine va_get (D := G) (C := RX12) (T := TX12) (N := 21) (v := .int (mo.1 1)) hx hb hts iu_X12 hown hK hP 0 rfl rfl 15 (by decide) (hts _ kw902) (fun _ h9 => h9) rfl dX12_spells_42 ?_
          refine lv_iload hx hb dX12_spells_45 (lv_at hl 0 rfl) ?_
          refine lv_iadd hx hb dX12_spells_47 ?_
          obtain ⟨g_5, hf⟩ := gd_e hf
          refine va_iald (f := mo.2.1 11) hx hb hK hP 12 0 rfl rfl g_5 dX12_spells_48 ?_
          refine lv_iload hx hb dX12_spells_49 (lv_at hl 0 rfl) ?_
          refine lv_if_ne (tgt := 58) hx hb dX12_spells_51 (by decide) (fun c_6 => ?_) (fun c_6 => ?_)
          · replace hf := bc_f hf c_6
            refine lv_iload hx hb dX12_spells_58 (lv_at hl 0 rfl) ?_
            refine lv_iconst (v := 1) hx hb dX12_spells_60 (by decide) ?_
            refine lv_icmp_ne (tgt := 68) hx hb dX12_spells_61 (by decide) (fun c_7 => ?_) (fun c_7 => ?_)
            · replace hf := bc_f hf c_7
              refine lv_iload hx hb dX12_spells_68 (lv_at hl 0 rfl) ?_
              refine lv_iconst (v := 2) hx hb dX12_spells_70 (by decide) ?_
              refine lv_icmp_ne (tgt := 79) hx hb dX12_spells_71 (by decide) (fun c_8 => ?_) (fun c_8 => ?_)
              · replace hf := bc_f hf c_8
                refine lv_iload hx hb dX12_spells_79 (lv_at hl 0 rfl) ?_
                refine lv_iconst (v := 3) hx hb dX12_spells_81 (by decide) ?_
                refine lv_icmp_ne (tgt := 90) hx hb dX12_spells_82 (by decide) (fun c_9 => ?_) (fun c_9 => ?_)
                · replace hf := bc_f hf c_9
                  refine lv_iload hx hb dX12_spells_90 (lv_at hl 0 rfl) ?_
                  refine lv_iconst (v := 4) hx hb dX12_spells_92 (by decide) ?_
                  refine lv_icmp_ne (tgt := 101) hx hb dX12_spells_93 (by decide) (fun c_10 => ?_) (fun c_10 => ?_)
                  · replace hf := bc_f hf c_10
                    refine lv_iload hx hb dX12_spells_101 (lv_at hl 9 rfl) ?_
                    exact J103 v9 v7 (mo.2.1 11 (ix ((mo.1 1) + v9))) _ _ _ hP hD hS (lv_sub hl [0, 2, 3, 4, 5, 6, 7, 8, 9] rfl) hf
                  · replace hf := bc_t hf c_10
                    refine lv_iload hx hb dX12_spells_96 (lv_at hl 8 rfl) ?_
                    refine lv_goto (tgt := 103) hx hb dX12_spells_98 (by decide) ?_
                    exact J103 v9 v6 (mo.2.1 11 (ix ((mo.1 1) + v9))) _ _ _ hP hD hS (lv_sub hl [0, 2, 3, 4, 5, 6, 7, 8, 9] rfl) hf
                · replace hf := bc_t hf c_9
                  refine lv_iload hx hb dX12_spells_85 (lv_at hl 7 rfl) ?_
                  refine lv_goto (tgt := 103) hx hb dX12_spells_87 (by decide) ?_
                  exact J103 v9 v5 (mo.2.1 11 (ix ((mo.1 1) + v9))) _ _ _ hP hD hS (lv_sub hl [0, 2, 3, 4, 5, 6, 7, 8, 9] rfl) hf
              · replace hf := bc_t hf c_8
                refine lv_iload hx hb dX12_spells_74 (lv_at hl 6 rfl) ?_
                refine lv_goto (tgt := 103) hx hb dX12_spells_76 (by decide) ?_
                exact J103 v9 v4 (mo.2.1 11 (ix ((mo.1 1) + v9))) _ _ _ hP hD hS (lv_sub hl [0, 2, 3, 4, 5, 6, 7, 8, 9] rfl) hf
            · replace hf := bc_t hf c_7
              refine lv_iload_n hx hb dX12_spells_64 rfl (lv_at hl 5 rfl) ?_
              refine lv_goto (tgt := 103) hx hb dX12_spells_65 (by decide) ?_
              exact J103 v9 v3 (mo.2.1 11 (ix ((mo.1 1) + v9))) _ _ _ hP hD hS (lv_sub hl [0, 2, 3, 4, 5, 6, 7, 8, 9] rfl) hf
          · replace hf := bc_t hf c_6
            refine lv_iload_n hx hb dX12_spells_54 rfl (lv_at hl 4 rfl) ?_
            refine lv_goto (tgt := 103) hx hb dX12_spells_55 (by decide) ?_
            exact J103 v9 v2 (mo.2.1 11 (ix ((mo.1 1) + v9))) _ _ _ hP hD hS (lv_sub hl [0, 2, 3, 4, 5, 6, 7, 8, 9] rfl) hf
  have J119 : ∀ (v8 : Int32) (H : Heap) (locs : List Loc) (ls : Array Slot), va_P G classes (wl [lfM ct a mo]) H → va_D A (wl [lfM ct a mo]) → va_S A s.heap H locs → lv_has ls 10 [(8, .int v8)] → f_X12_spells_j119 n mo v8 = some r → WG l G ct sk sv p e (RM 0 0 0 0) s m args below meth c A (Eq2 (some (.int r)) (wl [lfM ct a mo])) H locs (F0 m 119 ls []) := by
    intro v8 H locs ls hP hD hS hl hf
    unfold f_X12_spells_j119 at hf
    refine lv_iload hx hb dX12_spells_119 (lv_at hl 0 rfl) ?_
    obtain ⟨g_11, hf⟩ := gd_e hf
    have e1 := Option.some.inj hf
    exact end_z (w' := (wl [lfM ct a mo])) hx hb hr hlocks hK hP hD hS dX12_spells_121 g_11 ⟨by rw [← e1], rfl⟩
  have J21 : ∀ (v1 : Int32) (v2 : Int32) (v3 : Int32) (v4 : Int32) (v5 : Int32) (v6 : Int32) (v7 : Int32) (s0 : Int32) (H : Heap) (locs : List Loc) (ls : Array Slot), va_P G classes (wl [lfM ct a mo]) H → va_D A (wl [lfM ct a mo]) → va_S A s.heap H locs → lv_has ls 10 [(0, .ref (a 0)), (1, .int v1), (2, .int v2), (3, .int v3), (4, .int v4), (5, .int v5), (6, .int v6), (7, .int v7)] → f_X12_spells_j21 n mo v1 v2 v3 v4 v5 v6 v7 s0 = some r → WG l G ct sk sv p e (RM 0 0 0 0) s m args below meth c A (Eq2 (some (.int r)) (wl [lfM ct a mo])) H locs (F0 m 21 ls [.int s0]) := by
    intro v1 v2 v3 v4 v5 v6 v7 s0 H locs ls hP hD hS hl hf
    unfold f_X12_spells_j21 at hf
    refine lv_istore (lv' := [(8, .int s0), (0, .ref (a 0)), (1, .int v1), (2, .int v2), (3, .int v3), (4, .int v4), (5, .int v5), (6, .int v6), (7, .int v7)]) hx hb dX12_spells_21 hl (by decide) rfl (fun ls hl => ?_)
    refine lv_iconst (v := 0) hx hb dX12_spells_23 (by decide) ?_
    refine lv_istore (lv' := [(9, .int 0), (8, .int s0), (0, .ref (a 0)), (1, .int v1), (2, .int v2), (3, .int v3), (4, .int v4), (5, .int v5), (6, .int v6), (7, .int v7)]) hx hb dX12_spells_24 hl (by decide) rfl (fun ls hl => ?_)
    obtain ⟨v8_12, hx_13, hf⟩ := bd_e hf
    refine L26 n v1 v2 v3 v4 v5 v6 v7 0 s0 v8_12 _ _ _ hP hD hS hl hx_13 ?_
    intro x9 e9 H locs ls hP hD hS hl
    subst e9
    have hP : va_P G classes (wl [lfM ct a mo]) H := hP
    have hD : va_D A (wl [lfM ct a mo]) := hD
    have hl : lv_has ls 10 [(8, .int v8_12)] := hl
    exact J119 v8_12 _ _ _ hP hD hS hl hf
  have J20 : ∀ (v1 : Int32) (v2 : Int32) (v3 : Int32) (v4 : Int32) (v5 : Int32) (v6 : Int32) (v7 : Int32) (H : Heap) (locs : List Loc) (ls : Array Slot), va_P G classes (wl [lfM ct a mo]) H → va_D A (wl [lfM ct a mo]) → va_S A s.heap H locs → lv_has ls 10 [(0, .ref (a 0)), (1, .int v1), (2, .int v2), (3, .int v3), (4, .int v4), (5, .int v5), (6, .int v6), (7, .int v7)] → f_X12_spells_j20 n mo v1 v2 v3 v4 v5 v6 v7 = some r → WG l G ct sk sv p e (RM 0 0 0 0) s m args below meth c A (Eq2 (some (.int r)) (wl [lfM ct a mo])) H locs (F0 m 20 ls []) := by
    intro v1 v2 v3 v4 v5 v6 v7 H locs ls hP hD hS hl hf
    unfold f_X12_spells_j20 at hf
    refine lv_iconst (v := 0) hx hb dX12_spells_20 (by decide) ?_
    exact J21 v1 v2 v3 v4 v5 v6 v7 0 _ _ _ hP hD hS hl hf
  unfold f_X12_spells at hf
  show WG l G ct sk sv p e (RM 0 0 0 0) s m args below meth c A (Eq2 (some (.int r)) (wl [lfM ct a mo])) s.heap [] (F0 m 0 ls [])
  refine lv_aload_n hx hb dX12_spells_0 rfl (lv_at hl 0 rfl) ?_
  refine va_get (D := G) (C := RX12) (T := TX12) (N := 21) (v := .int (mo.1 3)) hx hb hts iu_X12 hown hK hP 0 rfl rfl 17 (by decide) (hts _ kw904) (fun _ h9 => h9) rfl dX12_spells_1 ?_
  refine lv_iconst (v := 1) hx hb dX12_spells_4 (by decide) ?_
  refine lv_icmp_ne (tgt := 20) hx hb dX12_spells_5 (by decide) (fun c_14 => ?_) (fun c_14 => ?_)
  · replace hf := bc_f hf c_14
    exact J20 v1 v2 v3 v4 v5 v6 v7 _ _ _ hP hD hS hl hf
  · replace hf := bc_t hf c_14
    refine lv_aload_n hx hb dX12_spells_8 rfl (lv_at hl 0 rfl) ?_
    refine va_get (D := G) (C := RX12) (T := TX12) (N := 21) (v := .int (mo.1 2)) hx hb hts iu_X12 hown hK hP 0 rfl rfl 16 (by decide) (hts _ kw903) (fun _ h9 => h9) rfl dX12_spells_9 ?_
    refine lv_iload_n hx hb dX12_spells_12 rfl (lv_at hl 1 rfl) ?_
    refine lv_icmp_ne (tgt := 20) hx hb dX12_spells_13 (by decide) (fun c_15 => ?_) (fun c_15 => ?_)
    · replace hf := bc_f hf c_15
      exact J20 v1 v2 v3 v4 v5 v6 v7 _ _ _ hP hD hS hl hf
    · replace hf := bc_t hf c_15
      refine lv_iconst (v := 1) hx hb dX12_spells_16 (by decide) ?_
      refine lv_goto (tgt := 21) hx hb dX12_spells_17 (by decide) ?_
      exact J21 v1 v2 v3 v4 v5 v6 v7 1 _ _ _ hP hD hS hl hf
noncomputable def f_X12_takes_j23 (n : Nat) (mo : MV) : Option (Int32 × MV) :=
  some (0, mo)
noncomputable def f_X12_takes (n : Nat) (mo : MV) (v1 : Int32) (v2 : Int32) (v3 : Int32) : Option (Int32 × MV) :=
  bc ((mo.1 3) = 2) (bd (f_X12_in n ((mo.1 4 : Int32).toInt64) ((v2 : Int32).toInt64) ((v3 : Int32).toInt64)) fun r_2 =>
  bc (r_2 = 0) (f_X12_takes_j23 n mo)
  (gd (vp_in v1 3) <|
  bl (setA mo 13 (upd (mo.2.1 13) (ix v1) (mo.1 4))) fun mo_5 =>
  bd (f_X12_goBehind n mo_5) fun mo_6 =>
  some (1, mo_6)))
  (f_X12_takes_j23 n mo)
set_option maxHeartbeats 4000000 in
set_option maxRecDepth 100000 in
theorem c_X12_takes (l : Launch) (G : va_G) (ct : Nat → ClassId) (sk sv : Nat → Nat) (a : Nat → Nat) (n : Nat) (mo : MV) (v1 : Int32) (v2 : Int32) (v3 : Int32) {r : Int32} {mo' : MV} (hf : f_X12_takes n mo v1 v2 v3 = some (r, mo')) : Ctr (l, G, ct, sk, sv) mX12_takes 4 89 [.ref (a 0), .int v1, .int v2, .int v3] (wl [lfM ct a mo]) (wl [lfM ct a mo']) (some (.int r)) := by
  refine ctr_intro (by decide) (Nat.le_of_ble_eq_true rfl) ?_
  intro p e s m args below meth c A C hP hD hS hA ls hl
  obtain ⟨hx, hb, hml, hown, hts, hr, hlocks, hK, hnm, hZ⟩ := C
  have hb : c.code = cX12_takes := hb
  have hml : c.maxLocals = 4 := hml
  have hown : s.vm.findClass "SignedOutsideModel" = some m.cls := hown
  have hr : meth.sig.returnType = some .boolean := hr
  have hP : va_P G classes (wl [lfM ct a mo]) s.heap := hP
  have hD : va_D A (wl [lfM ct a mo]) := hD
  have hK : va_K G classes (TYS ct) s := hK
  have hl : lv_has ls 4 [(0, .ref (a 0)), (1, .int v1), (2, .int v2), (3, .int v3)] := hl
  have J23 : ∀ (mo : MV) (H : Heap) (locs : List Loc) (ls : Array Slot), va_P G classes (wl [lfM ct a mo]) H → va_D A (wl [lfM ct a mo]) → va_S A s.heap H locs → lv_has ls 4 [] → f_X12_takes_j23 n mo = some (r, mo') → WG l G ct sk sv p e (RM 4 89 0 0) s m args below meth c A (Eq2 (some (.int r)) (wl [lfM ct a mo'])) H locs (F0 m 23 ls []) := by
    intro mo H locs ls hP hD hS hl hf
    unfold f_X12_takes_j23 at hf
    refine lv_iconst (v := 0) hx hb dX12_takes_23 (by decide) ?_
    obtain ⟨e1, e2⟩ := inj2 (Option.some.inj hf)
    exact end_z (w' := (wl [lfM ct a mo])) hx hb hr hlocks hK hP hD hS dX12_takes_24 (by decide) ⟨by rw [← e1], by rw [← e2]⟩
  unfold f_X12_takes at hf
  show WG l G ct sk sv p e (RM 4 89 0 0) s m args below meth c A (Eq2 (some (.int r)) (wl [lfM ct a mo'])) s.heap [] (F0 m 0 ls [])
  refine lv_aload_n hx hb dX12_takes_0 rfl (lv_at hl 0 rfl) ?_
  refine va_get (D := G) (C := RX12) (T := TX12) (N := 21) (v := .int (mo.1 3)) hx hb hts iu_X12 hown hK hP 0 rfl rfl 17 (by decide) (hts _ kw904) (fun _ h9 => h9) rfl dX12_takes_1 ?_
  refine lv_iconst (v := 2) hx hb dX12_takes_4 (by decide) ?_
  refine lv_icmp_ne (tgt := 23) hx hb dX12_takes_5 (by decide) (fun c_1 => ?_) (fun c_1 => ?_)
  · replace hf := bc_f hf c_1
    exact J23 mo _ _ _ hP hD hS (lv_sub hl [] rfl) hf
  · replace hf := bc_t hf c_1
    refine lv_aload_n hx hb dX12_takes_8 rfl (lv_at hl 0 rfl) ?_
    refine va_get (D := G) (C := RX12) (T := TX12) (N := 21) (v := .int (mo.1 4)) hx hb hts iu_X12 hown hK hP 0 rfl rfl 18 (by decide) (hts _ kw905) (fun _ h9 => h9) rfl dX12_takes_9 ?_
    refine lv_i2l (v := (mo.1 4 : Int32).toInt64) hx hb dX12_takes_12 rfl ?_
    refine lv_iload_n hx hb dX12_takes_13 rfl (lv_at hl 2 rfl) ?_
    refine lv_i2l (v := (v2 : Int32).toInt64) hx hb dX12_takes_14 rfl ?_
    refine lv_iload_n hx hb dX12_takes_15 rfl (lv_at hl 3 rfl) ?_
    refine lv_i2l (v := (v3 : Int32).toInt64) hx hb dX12_takes_16 rfl ?_
    obtain ⟨r_2, hc2, hf⟩ := bd_e hf
    refine call_S (As := [.long ((mo.1 4 : Int32).toInt64), .long ((v2 : Int32).toInt64), .long ((v3 : Int32).toInt64)]) (rest := []) hx hb hml hown hts hK hP hD hS hA hZ lkX12_65 (Ctr.upL (c_X12_in l G ct sk sv  n ((mo.1 4 : Int32).toInt64) ((v2 : Int32).toInt64) ((v3 : Int32).toInt64) hc2) [lfM ct a mo] [lfM ct a mo] [lfM ct a mo] [0] 1 (by decide) rfl rfl rfl rfl) ⟨Nat.le_of_ble_eq_true rfl, Nat.le_of_ble_eq_true rfl⟩ rfl hl.1 rfl (Nat.le_of_ble_eq_true rfl) dX12_takes_17 ⟨Nat.le_of_ble_eq_true rfl, Nat.le_of_ble_eq_true rfl⟩ (fun r9 w9 H locs hB hP hD hS => ?_)
    obtain ⟨rfl, rfl⟩ := hB
    refine WG_eq (g2 := F0 m 20 ls [.int r_2]) rfl ?_
    refine lv_if_ne (tgt := 25) hx hb dX12_takes_20 (by decide) (fun c_3 => ?_) (fun c_3 => ?_)
    · replace hf := bc_f hf c_3
      refine lv_aload_n hx hb dX12_takes_25 rfl (lv_at hl 0 rfl) ?_
      refine va_get (D := G) (C := RX12) (T := TX12) (N := 21) (v := .ref (a 14)) hx hb hts iu_X12 hown hK hP 0 rfl rfl 20 (by decide) (hts _ kw907) (fun _ h9 => h9) rfl dX12_takes_26 ?_
      refine lv_iload_n hx hb dX12_takes_29 rfl (lv_at hl 1 rfl) ?_
      refine lv_aload_n hx hb dX12_takes_30 rfl (lv_at hl 0 rfl) ?_
      refine va_get (D := G) (C := RX12) (T := TX12) (N := 21) (v := .int (mo.1 4)) hx hb hts iu_X12 hown hK hP 0 rfl rfl 18 (by decide) (hts _ kw905) (fun _ h9 => h9) rfl dX12_takes_31 ?_
      obtain ⟨g_4, hf⟩ := gd_e hf
      obtain ⟨mo_5, emo_5, hf⟩ := bl_e hf
      refine va_iast hx hb hK hP hD hS 14 0 rfl rfl g_4 dX12_takes_34 (fun H locs hP hD hS => ?_)
      have hP : va_P G classes (wl [lfM ct a mo_5]) H := by rw [← emo_5]; exact hP
      have hD : va_D A (wl [lfM ct a mo_5]) := by rw [← emo_5]; exact hD
      refine lv_aload_n hx hb dX12_takes_35 rfl (lv_at hl 0 rfl) ?_
      obtain ⟨mo_6, hc6, hf⟩ := bd_e hf
      refine call_V (As := []) (rest := []) hx hb hml hown hts hK hP hD hS hA hZ lkX12_247 (c_X12_goBehind l G ct sk sv a n mo_5 hc6) 0 rfl rfl ⟨Nat.le_of_ble_eq_true rfl, Nat.le_of_ble_eq_true rfl⟩ rfl hl.1 rfl (Nat.le_of_ble_eq_true rfl) dX12_takes_36 ⟨Nat.le_of_ble_eq_true rfl, Nat.le_of_ble_eq_true rfl⟩ (fun r9 w9 H locs hB hP hD hS => ?_)
      obtain ⟨rfl, rfl⟩ := hB
      refine WG_eq (g2 := F0 m 39 ls []) rfl ?_
      refine lv_iconst (v := 1) hx hb dX12_takes_39 (by decide) ?_
      obtain ⟨e1, e2⟩ := inj2 (Option.some.inj hf)
      exact end_z (w' := (wl [lfM ct a mo_6])) hx hb hr hlocks hK hP hD hS dX12_takes_40 (by decide) ⟨by rw [← e1], by rw [← e2]⟩
    · replace hf := bc_t hf c_3
      exact J23 mo _ _ _ hP hD hS (lv_sub hl [] rfl) hf
noncomputable def f_X12_takesFrank_j111 (n : Nat) (mo : MV) (s0 : Int32) : Option (Int32 × MV) :=
  gd (s0 = 0 ∨ s0 = 1) <| some (s0, mo)
noncomputable def f_X12_takesFrank_j82 (n : Nat) (mo : MV) : Option (Int32 × MV) :=
  some (0, mo)
noncomputable def f_X12_takesFrank (n : Nat) (mo : MV) : Option (Int32 × MV) :=
  bd (f_X12_goBehind n mo) fun mo_2 =>
  gd (vp_in 1 83) <|
  bd2 (f_X12_takes n mo_2 0 0 ((mo_2.2.1 12 (ix 1)) - 1)) fun r_4 mo_5 =>
  bc (r_4 = 0) (some (0, mo_5))
  (bc ((mo_5.1 3) = 2) (gd (vp_in 0 83) <|
  bd (f_X12_in n ((mo_5.1 4 : Int32).toInt64) 0 (((mo_5.2.1 12 (ix 0)) - 1 : Int32).toInt64)) fun r_9 =>
  bc (r_9 = 0) (f_X12_takesFrank_j82 n mo_5)
  (gd (vp_in 0 3) <|
  bd (f_X12_mayFrank n 83 (mo_5.2.1 12) (mo_5.2.1 13 (ix 0)) (mo_5.1 4)) fun r_12 =>
  bc (r_12 = 0) (f_X12_takesFrank_j82 n mo_5)
  (bd2 (f_X12_takes n mo_5 1 0 4) fun r_14 mo_15 =>
  bc (r_14 = 0) (f_X12_takesFrank_j82 n mo_15)
  (gd (vp_in 0 3) <|
  gd (vp_in 1 3) <|
  bd2 (f_X12_goFrank n 83 (mo_15.2.1 12) (mo_15.2.1 13 (ix 0)) (mo_15.2.1 13 (ix 1))) fun r_19 t_20 =>
  bl (setA mo_15 12 t_20) fun mo_21 =>
  bc (r_19 ≤ 0) (f_X12_takesFrank_j111 n mo_21 0)
  (f_X12_takesFrank_j111 n mo_21 1)))))
  (f_X12_takesFrank_j82 n mo_5))
set_option maxHeartbeats 4000000 in
set_option maxRecDepth 100000 in
theorem c_X12_takesFrank (l : Launch) (G : va_G) (ct : Nat → ClassId) (sk sv : Nat → Nat) (a : Nat → Nat) (n : Nat) (mo : MV) {r : Int32} {mo' : MV} (hf : f_X12_takesFrank n mo = some (r, mo')) : Ctr (l, G, ct, sk, sv) mX12_takesFrank 5 112 [.ref (a 0)] (wl [lfM ct a mo]) (wl [lfM ct a mo']) (some (.int r)) := by
  refine ctr_intro (by decide) (Nat.le_of_ble_eq_true rfl) ?_
  intro p e s m args below meth c A C hP hD hS hA ls hl
  obtain ⟨hx, hb, hml, hown, hts, hr, hlocks, hK, hnm, hZ⟩ := C
  have hb : c.code = cX12_takesFrank := hb
  have hml : c.maxLocals = 1 := hml
  have hown : s.vm.findClass "SignedOutsideModel" = some m.cls := hown
  have hr : meth.sig.returnType = some .boolean := hr
  have hP : va_P G classes (wl [lfM ct a mo]) s.heap := hP
  have hD : va_D A (wl [lfM ct a mo]) := hD
  have hK : va_K G classes (TYS ct) s := hK
  have hl : lv_has ls 1 [(0, .ref (a 0))] := hl
  have J111 : ∀ (mo : MV) (s0 : Int32) (H : Heap) (locs : List Loc) (ls : Array Slot), va_P G classes (wl [lfM ct a mo]) H → va_D A (wl [lfM ct a mo]) → va_S A s.heap H locs → lv_has ls 1 [] → f_X12_takesFrank_j111 n mo s0 = some (r, mo') → WG l G ct sk sv p e (RM 5 112 0 0) s m args below meth c A (Eq2 (some (.int r)) (wl [lfM ct a mo'])) H locs (F0 m 111 ls [.int s0]) := by
    intro mo s0 H locs ls hP hD hS hl hf
    unfold f_X12_takesFrank_j111 at hf
    obtain ⟨g_1, hf⟩ := gd_e hf
    obtain ⟨e1, e2⟩ := inj2 (Option.some.inj hf)
    exact end_z (w' := (wl [lfM ct a mo])) hx hb hr hlocks hK hP hD hS dX12_takesFrank_111 g_1 ⟨by rw [← e1], by rw [← e2]⟩
  have J82 : ∀ (mo : MV) (H : Heap) (locs : List Loc) (ls : Array Slot), va_P G classes (wl [lfM ct a mo]) H → va_D A (wl [lfM ct a mo]) → va_S A s.heap H locs → lv_has ls 1 [] → f_X12_takesFrank_j82 n mo = some (r, mo') → WG l G ct sk sv p e (RM 5 112 0 0) s m args below meth c A (Eq2 (some (.int r)) (wl [lfM ct a mo'])) H locs (F0 m 82 ls []) := by
    intro mo H locs ls hP hD hS hl hf
    unfold f_X12_takesFrank_j82 at hf
    refine lv_iconst (v := 0) hx hb dX12_takesFrank_82 (by decide) ?_
    obtain ⟨e1, e2⟩ := inj2 (Option.some.inj hf)
    exact end_z (w' := (wl [lfM ct a mo])) hx hb hr hlocks hK hP hD hS dX12_takesFrank_83 (by decide) ⟨by rw [← e1], by rw [← e2]⟩
  unfold f_X12_takesFrank at hf
  show WG l G ct sk sv p e (RM 5 112 0 0) s m args below meth c A (Eq2 (some (.int r)) (wl [lfM ct a mo'])) s.heap [] (F0 m 0 ls [])
  refine lv_aload_n hx hb dX12_takesFrank_0 rfl (lv_at hl 0 rfl) ?_
  obtain ⟨mo_2, hc2, hf⟩ := bd_e hf
  refine call_V (As := []) (rest := []) hx hb hml hown hts hK hP hD hS hA hZ lkX12_247 (c_X12_goBehind l G ct sk sv a n mo hc2) 0 rfl rfl ⟨Nat.le_of_ble_eq_true rfl, Nat.le_of_ble_eq_true rfl⟩ rfl hl.1 rfl (Nat.le_of_ble_eq_true rfl) dX12_takesFrank_1 ⟨Nat.le_of_ble_eq_true rfl, Nat.le_of_ble_eq_true rfl⟩ (fun r9 w9 H locs hB hP hD hS => ?_)
  obtain ⟨rfl, rfl⟩ := hB
  refine WG_eq (g2 := F0 m 4 ls []) rfl ?_
  refine lv_aload_n hx hb dX12_takesFrank_4 rfl (lv_at hl 0 rfl) ?_
  refine lv_iconst (v := 0) hx hb dX12_takesFrank_5 (by decide) ?_
  refine lv_iconst (v := 0) hx hb dX12_takesFrank_6 (by decide) ?_
  refine lv_aload_n hx hb dX12_takesFrank_7 rfl (lv_at hl 0 rfl) ?_
  refine va_get (D := G) (C := RX12) (T := TX12) (N := 21) (v := .ref (a 13)) hx hb hts iu_X12 hown hK hP 0 rfl rfl 19 (by decide) (hts _ kw906) (fun _ h9 => h9) rfl dX12_takesFrank_8 ?_
  refine lv_iconst (v := 1) hx hb dX12_takesFrank_11 (by decide) ?_
  obtain ⟨g_3, hf⟩ := gd_e hf
  refine va_iald (f := mo_2.2.1 12) hx hb hK hP 13 0 rfl rfl g_3 dX12_takesFrank_12 ?_
  refine lv_iconst (v := 1) hx hb dX12_takesFrank_13 (by decide) ?_
  refine lv_isub hx hb dX12_takesFrank_14 ?_
  obtain ⟨r_4, mo_5, hc5, hf⟩ := bd2_e hf
  refine call_V (As := [.int 0, .int 0, .int ((mo_2.2.1 12 (ix 1)) - 1)]) (rest := []) hx hb hml hown hts hK hP hD hS hA hZ lkX12_250 (c_X12_takes l G ct sk sv a n mo_2 0 0 ((mo_2.2.1 12 (ix 1)) - 1) hc5) 0 rfl rfl ⟨Nat.le_of_ble_eq_true rfl, Nat.le_of_ble_eq_true rfl⟩ rfl hl.1 rfl (Nat.le_of_ble_eq_true rfl) dX12_takesFrank_15 ⟨Nat.le_of_ble_eq_true rfl, Nat.le_of_ble_eq_true rfl⟩ (fun r9 w9 H locs hB hP hD hS => ?_)
  obtain ⟨rfl, rfl⟩ := hB
  refine WG_eq (g2 := F0 m 18 ls [.int r_4]) rfl ?_
  refine lv_if_ne (tgt := 23) hx hb dX12_takesFrank_18 (by decide) (fun c_6 => ?_) (fun c_6 => ?_)
  · replace hf := bc_f hf c_6
    refine lv_aload_n hx hb dX12_takesFrank_23 rfl (lv_at hl 0 rfl) ?_
    refine va_get (D := G) (C := RX12) (T := TX12) (N := 21) (v := .int (mo_5.1 3)) hx hb hts iu_X12 hown hK hP 0 rfl rfl 17 (by decide) (hts _ kw904) (fun _ h9 => h9) rfl dX12_takesFrank_24 ?_
    refine lv_iconst (v := 2) hx hb dX12_takesFrank_27 (by decide) ?_
    refine lv_icmp_ne (tgt := 82) hx hb dX12_takesFrank_28 (by decide) (fun c_7 => ?_) (fun c_7 => ?_)
    · replace hf := bc_f hf c_7
      exact J82 mo_5 _ _ _ hP hD hS (lv_sub hl [] rfl) hf
    · replace hf := bc_t hf c_7
      refine lv_aload_n hx hb dX12_takesFrank_31 rfl (lv_at hl 0 rfl) ?_
      refine va_get (D := G) (C := RX12) (T := TX12) (N := 21) (v := .int (mo_5.1 4)) hx hb hts iu_X12 hown hK hP 0 rfl rfl 18 (by decide) (hts _ kw905) (fun _ h9 => h9) rfl dX12_takesFrank_32 ?_
      refine lv_i2l (v := (mo_5.1 4 : Int32).toInt64) hx hb dX12_takesFrank_35 rfl ?_
      refine lv_lconst (v := 0) hx hb dX12_takesFrank_36 (by decide) ?_
      refine lv_aload_n hx hb dX12_takesFrank_37 rfl (lv_at hl 0 rfl) ?_
      refine va_get (D := G) (C := RX12) (T := TX12) (N := 21) (v := .ref (a 13)) hx hb hts iu_X12 hown hK hP 0 rfl rfl 19 (by decide) (hts _ kw906) (fun _ h9 => h9) rfl dX12_takesFrank_38 ?_
      refine lv_iconst (v := 0) hx hb dX12_takesFrank_41 (by decide) ?_
      obtain ⟨g_8, hf⟩ := gd_e hf
      refine va_iald (f := mo_5.2.1 12) hx hb hK hP 13 0 rfl rfl g_8 dX12_takesFrank_42 ?_
      refine lv_iconst (v := 1) hx hb dX12_takesFrank_43 (by decide) ?_
      refine lv_isub hx hb dX12_takesFrank_44 ?_
      refine lv_i2l (v := ((mo_5.2.1 12 (ix 0)) - 1 : Int32).toInt64) hx hb dX12_takesFrank_45 rfl ?_
      obtain ⟨r_9, hc9, hf⟩ := bd_e hf
      refine call_S (As := [.long ((mo_5.1 4 : Int32).toInt64), .long 0, .long (((mo_5.2.1 12 (ix 0)) - 1 : Int32).toInt64)]) (rest := []) hx hb hml hown hts hK hP hD hS hA hZ lkX12_65 (Ctr.upL (c_X12_in l G ct sk sv  n ((mo_5.1 4 : Int32).toInt64) 0 (((mo_5.2.1 12 (ix 0)) - 1 : Int32).toInt64) hc9) [lfM ct a mo_5] [lfM ct a mo_5] [lfM ct a mo_5] [0] 1 (by decide) rfl rfl rfl rfl) ⟨Nat.le_of_ble_eq_true rfl, Nat.le_of_ble_eq_true rfl⟩ rfl hl.1 rfl (Nat.le_of_ble_eq_true rfl) dX12_takesFrank_46 ⟨Nat.le_of_ble_eq_true rfl, Nat.le_of_ble_eq_true rfl⟩ (fun r9 w9 H locs hB hP hD hS => ?_)
      obtain ⟨rfl, rfl⟩ := hB
      refine WG_eq (g2 := F0 m 49 ls [.int r_9]) rfl ?_
      refine lv_if_eq (tgt := 82) hx hb dX12_takesFrank_49 (by decide) (fun c_10 => ?_) (fun c_10 => ?_)
      · replace hf := bc_t hf c_10
        exact J82 mo_5 _ _ _ hP hD hS (lv_sub hl [] rfl) hf
      · replace hf := bc_f hf c_10
        refine lv_aload_n hx hb dX12_takesFrank_52 rfl (lv_at hl 0 rfl) ?_
        refine va_get (D := G) (C := RX12) (T := TX12) (N := 21) (v := .ref (a 13)) hx hb hts iu_X12 hown hK hP 0 rfl rfl 19 (by decide) (hts _ kw906) (fun _ h9 => h9) rfl dX12_takesFrank_53 ?_
        refine lv_aload_n hx hb dX12_takesFrank_56 rfl (lv_at hl 0 rfl) ?_
        refine va_get (D := G) (C := RX12) (T := TX12) (N := 21) (v := .ref (a 14)) hx hb hts iu_X12 hown hK hP 0 rfl rfl 20 (by decide) (hts _ kw907) (fun _ h9 => h9) rfl dX12_takesFrank_57 ?_
        refine lv_iconst (v := 0) hx hb dX12_takesFrank_60 (by decide) ?_
        obtain ⟨g_11, hf⟩ := gd_e hf
        refine va_iald (f := mo_5.2.1 13) hx hb hK hP 14 0 rfl rfl g_11 dX12_takesFrank_61 ?_
        refine lv_aload_n hx hb dX12_takesFrank_62 rfl (lv_at hl 0 rfl) ?_
        refine va_get (D := G) (C := RX12) (T := TX12) (N := 21) (v := .int (mo_5.1 4)) hx hb hts iu_X12 hown hK hP 0 rfl rfl 18 (by decide) (hts _ kw905) (fun _ h9 => h9) rfl dX12_takesFrank_63 ?_
        obtain ⟨r_12, hc12, hf⟩ := bd_e hf
        refine call_S (As := [.ref (a 13), .int (mo_5.2.1 13 (ix 0)), .int (mo_5.1 4)]) (rest := []) hx hb hml hown hts hK hP hD hS hA hZ lkX12_120 (Ctr.up (W := (wl [lfM ct a mo_5])) (W' := (wl [lfM ct a mo_5])) (c_X12_mayFrank l G ct sk sv (fun _ => a 13) n 83 (mo_5.2.1 12) (mo_5.2.1 13 (ix 0)) (mo_5.1 4) hc12) [13] [0, 1, 2, 3, 4, 5, 6, 7, 8, 9, 10, 11, 12, 14] [0, 1, 2, 3, 4, 5, 6, 7, 8, 9, 10, 11, 12, 14, 13] rfl rfl rfl rfl (by decide) rfl rfl) ⟨Nat.le_of_ble_eq_true rfl, Nat.le_of_ble_eq_true rfl⟩ rfl hl.1 rfl (Nat.le_of_ble_eq_true rfl) dX12_takesFrank_66 ⟨Nat.le_of_ble_eq_true rfl, Nat.le_of_ble_eq_true rfl⟩ (fun r9 w9 H locs hB hP hD hS => ?_)
        obtain ⟨rfl, rfl⟩ := hB
        refine WG_eq (g2 := F0 m 69 ls [.int r_12]) rfl ?_
        refine lv_if_eq (tgt := 82) hx hb dX12_takesFrank_69 (by decide) (fun c_13 => ?_) (fun c_13 => ?_)
        · replace hf := bc_t hf c_13
          exact J82 mo_5 _ _ _ hP hD hS (lv_sub hl [] rfl) hf
        · replace hf := bc_f hf c_13
          refine lv_aload_n hx hb dX12_takesFrank_72 rfl (lv_at hl 0 rfl) ?_
          refine lv_iconst (v := 1) hx hb dX12_takesFrank_73 (by decide) ?_
          refine lv_iconst (v := 0) hx hb dX12_takesFrank_74 (by decide) ?_
          refine lv_iconst (v := 4) hx hb dX12_takesFrank_75 (by decide) ?_
          obtain ⟨r_14, mo_15, hc15, hf⟩ := bd2_e hf
          refine call_V (As := [.int 1, .int 0, .int 4]) (rest := []) hx hb hml hown hts hK hP hD hS hA hZ lkX12_250 (c_X12_takes l G ct sk sv a n mo_5 1 0 4 hc15) 0 rfl rfl ⟨Nat.le_of_ble_eq_true rfl, Nat.le_of_ble_eq_true rfl⟩ rfl hl.1 rfl (Nat.le_of_ble_eq_true rfl) dX12_takesFrank_76 ⟨Nat.le_of_ble_eq_true rfl, Nat.le_of_ble_eq_true rfl⟩ (fun r9 w9 H locs hB hP hD hS => ?_)
          obtain ⟨rfl, rfl⟩ := hB
          refine WG_eq (g2 := F0 m 79 ls [.int r_14]) rfl ?_
          refine lv_if_ne (tgt := 84) hx hb dX12_takesFrank_79 (by decide) (fun c_16 => ?_) (fun c_16 => ?_)
          · replace hf := bc_f hf c_16
            refine lv_aload_n hx hb dX12_takesFrank_84 rfl (lv_at hl 0 rfl) ?_
            refine va_get (D := G) (C := RX12) (T := TX12) (N := 21) (v := .ref (a 13)) hx hb hts iu_X12 hown hK hP 0 rfl rfl 19 (by decide) (hts _ kw906) (fun _ h9 => h9) rfl dX12_takesFrank_85 ?_
            refine lv_aload_n hx hb dX12_takesFrank_88 rfl (lv_at hl 0 rfl) ?_
            refine va_get (D := G) (C := RX12) (T := TX12) (N := 21) (v := .ref (a 14)) hx hb hts iu_X12 hown hK hP 0 rfl rfl 20 (by decide) (hts _ kw907) (fun _ h9 => h9) rfl dX12_takesFrank_89 ?_
            refine lv_iconst (v := 0) hx hb dX12_takesFrank_92 (by decide) ?_
            obtain ⟨g_17, hf⟩ := gd_e hf
            refine va_iald (f := mo_15.2.1 13) hx hb hK hP 14 0 rfl rfl g_17 dX12_takesFrank_93 ?_
            refine lv_aload_n hx hb dX12_takesFrank_94 rfl (lv_at hl 0 rfl) ?_
            refine va_get (D := G) (C := RX12) (T := TX12) (N := 21) (v := .ref (a 14)) hx hb hts iu_X12 hown hK hP 0 rfl rfl 20 (by decide) (hts _ kw907) (fun _ h9 => h9) rfl dX12_takesFrank_95 ?_
            refine lv_iconst (v := 1) hx hb dX12_takesFrank_98 (by decide) ?_
            obtain ⟨g_18, hf⟩ := gd_e hf
            refine va_iald (f := mo_15.2.1 13) hx hb hK hP 14 0 rfl rfl g_18 dX12_takesFrank_99 ?_
            obtain ⟨r_19, t_20, hc21, hf⟩ := bd2_e hf
            obtain ⟨mo_21, emo_21, hf⟩ := bl_e hf
            refine call_S (As := [.ref (a 13), .int (mo_15.2.1 13 (ix 0)), .int (mo_15.2.1 13 (ix 1))]) (rest := []) hx hb hml hown hts hK hP hD hS hA hZ lkX12_130 (Ctr.up (W := (wl [lfM ct a mo_15])) (W' := (wl [lfM ct a (setA mo_15 12 t_20)])) (c_X12_goFrank l G ct sk sv (fun _ => a 13) n 83 (mo_15.2.1 12) (mo_15.2.1 13 (ix 0)) (mo_15.2.1 13 (ix 1)) hc21) [13] [0, 1, 2, 3, 4, 5, 6, 7, 8, 9, 10, 11, 12, 14] [0, 1, 2, 3, 4, 5, 6, 7, 8, 9, 10, 11, 12, 14, 13] rfl rfl rfl rfl (by decide) rfl rfl) ⟨Nat.le_of_ble_eq_true rfl, Nat.le_of_ble_eq_true rfl⟩ rfl hl.1 rfl (Nat.le_of_ble_eq_true rfl) dX12_takesFrank_100 ⟨Nat.le_of_ble_eq_true rfl, Nat.le_of_ble_eq_true rfl⟩ (fun r9 w9 H locs hB hP hD hS => ?_)
            obtain ⟨rfl, rfl⟩ := hB
            have hP : va_P G classes (wl [lfM ct a mo_21]) H := by rw [← emo_21]; exact hP
            have hD : va_D A (wl [lfM ct a mo_21]) := by rw [← emo_21]; exact hD
            refine WG_eq (g2 := F0 m 103 ls [.int r_19]) rfl ?_
            refine lv_if_le (tgt := 110) hx hb dX12_takesFrank_103 (by decide) (fun c_22 => ?_) (fun c_22 => ?_)
            · replace hf := bc_t hf c_22
              refine lv_iconst (v := 0) hx hb dX12_takesFrank_110 (by decide) ?_
              exact J111 mo_21 0 _ _ _ hP hD hS (lv_sub hl [] rfl) hf
            · replace hf := bc_f hf c_22
              refine lv_iconst (v := 1) hx hb dX12_takesFrank_106 (by decide) ?_
              refine lv_goto (tgt := 111) hx hb dX12_takesFrank_107 (by decide) ?_
              exact J111 mo_21 1 _ _ _ hP hD hS (lv_sub hl [] rfl) hf
          · replace hf := bc_t hf c_16
            exact J82 mo_15 _ _ _ hP hD hS (lv_sub hl [] rfl) hf
  · replace hf := bc_t hf c_6
    refine lv_iconst (v := 0) hx hb dX12_takesFrank_21 (by decide) ?_
    obtain ⟨e1, e2⟩ := inj2 (Option.some.inj hf)
    exact end_z (w' := (wl [lfM ct a mo_5])) hx hb hr hlocks hK hP hD hS dX12_takesFrank_22 (by decide) ⟨by rw [← e1], by rw [← e2]⟩
noncomputable def f_X12_takesLetter_j50 (n : Nat) (mo : MV) : Option (Int32 × MV) :=
  some (0, mo)
noncomputable def f_X12_takesLetter (n : Nat) (mo : MV) : Option (Int32 × MV) :=
  gd (vp_in 1 83) <|
  bc ((mo.2.1 12 (ix 1)) = 6) (some (0, mo))
  (bd (f_X12_goBehind n mo) fun mo_3 =>
  bd2 (f_X12_takes n mo_3 0 0 99) fun r_4 mo_5 =>
  bc (r_4 = 0) (f_X12_takesLetter_j50 n mo_5)
  (bd2 (f_X12_takes n mo_5 1 0 99) fun r_7 mo_8 =>
  bc (r_7 = 0) (f_X12_takesLetter_j50 n mo_8)
  (bd2 (f_X12_takes n mo_8 2 1 9) fun r_10 mo_11 =>
  bc (r_10 = 0) (f_X12_takesLetter_j50 n mo_11)
  (gd (vp_in 0 3) <|
  gd (vp_in 1 3) <|
  gd (vp_in 2 3) <|
  bd (f_X12_layLetter n 83 (mo_11.2.1 12) (mo_11.2.1 13 (ix 0)) (mo_11.2.1 13 (ix 1)) (mo_11.2.1 13 (ix 2))) fun t_16 =>
  bl (setA mo_11 12 t_16) fun mo_17 =>
  some (1, mo_17)))))
set_option maxHeartbeats 4000000 in
set_option maxRecDepth 100000 in
theorem c_X12_takesLetter (l : Launch) (G : va_G) (ct : Nat → ClassId) (sk sv : Nat → Nat) (a : Nat → Nat) (n : Nat) (mo : MV) {r : Int32} {mo' : MV} (hf : f_X12_takesLetter n mo = some (r, mo')) : Ctr (l, G, ct, sk, sv) mX12_takesLetter 5 112 [.ref (a 0)] (wl [lfM ct a mo]) (wl [lfM ct a mo']) (some (.int r)) := by
  refine ctr_intro (by decide) (Nat.le_of_ble_eq_true rfl) ?_
  intro p e s m args below meth c A C hP hD hS hA ls hl
  obtain ⟨hx, hb, hml, hown, hts, hr, hlocks, hK, hnm, hZ⟩ := C
  have hb : c.code = cX12_takesLetter := hb
  have hml : c.maxLocals = 1 := hml
  have hown : s.vm.findClass "SignedOutsideModel" = some m.cls := hown
  have hr : meth.sig.returnType = some .boolean := hr
  have hP : va_P G classes (wl [lfM ct a mo]) s.heap := hP
  have hD : va_D A (wl [lfM ct a mo]) := hD
  have hK : va_K G classes (TYS ct) s := hK
  have hl : lv_has ls 1 [(0, .ref (a 0))] := hl
  have J50 : ∀ (mo : MV) (H : Heap) (locs : List Loc) (ls : Array Slot), va_P G classes (wl [lfM ct a mo]) H → va_D A (wl [lfM ct a mo]) → va_S A s.heap H locs → lv_has ls 1 [] → f_X12_takesLetter_j50 n mo = some (r, mo') → WG l G ct sk sv p e (RM 5 112 0 0) s m args below meth c A (Eq2 (some (.int r)) (wl [lfM ct a mo'])) H locs (F0 m 50 ls []) := by
    intro mo H locs ls hP hD hS hl hf
    unfold f_X12_takesLetter_j50 at hf
    refine lv_iconst (v := 0) hx hb dX12_takesLetter_50 (by decide) ?_
    obtain ⟨e1, e2⟩ := inj2 (Option.some.inj hf)
    exact end_z (w' := (wl [lfM ct a mo])) hx hb hr hlocks hK hP hD hS dX12_takesLetter_51 (by decide) ⟨by rw [← e1], by rw [← e2]⟩
  unfold f_X12_takesLetter at hf
  show WG l G ct sk sv p e (RM 5 112 0 0) s m args below meth c A (Eq2 (some (.int r)) (wl [lfM ct a mo'])) s.heap [] (F0 m 0 ls [])
  refine lv_aload_n hx hb dX12_takesLetter_0 rfl (lv_at hl 0 rfl) ?_
  refine va_get (D := G) (C := RX12) (T := TX12) (N := 21) (v := .ref (a 13)) hx hb hts iu_X12 hown hK hP 0 rfl rfl 19 (by decide) (hts _ kw906) (fun _ h9 => h9) rfl dX12_takesLetter_1 ?_
  refine lv_iconst (v := 1) hx hb dX12_takesLetter_4 (by decide) ?_
  obtain ⟨g_1, hf⟩ := gd_e hf
  refine va_iald (f := mo.2.1 12) hx hb hK hP 13 0 rfl rfl g_1 dX12_takesLetter_5 ?_
  refine lv_bipush (v := 6) hx hb dX12_takesLetter_6 (by decide) ?_
  refine lv_icmp_ne (tgt := 13) hx hb dX12_takesLetter_8 (by decide) (fun c_2 => ?_) (fun c_2 => ?_)
  · replace hf := bc_f hf c_2
    refine lv_aload_n hx hb dX12_takesLetter_13 rfl (lv_at hl 0 rfl) ?_
    obtain ⟨mo_3, hc3, hf⟩ := bd_e hf
    refine call_V (As := []) (rest := []) hx hb hml hown hts hK hP hD hS hA hZ lkX12_247 (c_X12_goBehind l G ct sk sv a n mo hc3) 0 rfl rfl ⟨Nat.le_of_ble_eq_true rfl, Nat.le_of_ble_eq_true rfl⟩ rfl hl.1 rfl (Nat.le_of_ble_eq_true rfl) dX12_takesLetter_14 ⟨Nat.le_of_ble_eq_true rfl, Nat.le_of_ble_eq_true rfl⟩ (fun r9 w9 H locs hB hP hD hS => ?_)
    obtain ⟨rfl, rfl⟩ := hB
    refine WG_eq (g2 := F0 m 17 ls []) rfl ?_
    refine lv_aload_n hx hb dX12_takesLetter_17 rfl (lv_at hl 0 rfl) ?_
    refine lv_iconst (v := 0) hx hb dX12_takesLetter_18 (by decide) ?_
    refine lv_iconst (v := 0) hx hb dX12_takesLetter_19 (by decide) ?_
    refine lv_bipush (v := 99) hx hb dX12_takesLetter_20 (by decide) ?_
    obtain ⟨r_4, mo_5, hc5, hf⟩ := bd2_e hf
    refine call_V (As := [.int 0, .int 0, .int 99]) (rest := []) hx hb hml hown hts hK hP hD hS hA hZ lkX12_250 (c_X12_takes l G ct sk sv a n mo_3 0 0 99 hc5) 0 rfl rfl ⟨Nat.le_of_ble_eq_true rfl, Nat.le_of_ble_eq_true rfl⟩ rfl hl.1 rfl (Nat.le_of_ble_eq_true rfl) dX12_takesLetter_22 ⟨Nat.le_of_ble_eq_true rfl, Nat.le_of_ble_eq_true rfl⟩ (fun r9 w9 H locs hB hP hD hS => ?_)
    obtain ⟨rfl, rfl⟩ := hB
    refine WG_eq (g2 := F0 m 25 ls [.int r_4]) rfl ?_
    refine lv_if_eq (tgt := 50) hx hb dX12_takesLetter_25 (by decide) (fun c_6 => ?_) (fun c_6 => ?_)
    · replace hf := bc_t hf c_6
      exact J50 mo_5 _ _ _ hP hD hS (lv_sub hl [] rfl) hf
    · replace hf := bc_f hf c_6
      refine lv_aload_n hx hb dX12_takesLetter_28 rfl (lv_at hl 0 rfl) ?_
      refine lv_iconst (v := 1) hx hb dX12_takesLetter_29 (by decide) ?_
      refine lv_iconst (v := 0) hx hb dX12_takesLetter_30 (by decide) ?_
      refine lv_bipush (v := 99) hx hb dX12_takesLetter_31 (by decide) ?_
      obtain ⟨r_7, mo_8, hc8, hf⟩ := bd2_e hf
      refine call_V (As := [.int 1, .int 0, .int 99]) (rest := []) hx hb hml hown hts hK hP hD hS hA hZ lkX12_250 (c_X12_takes l G ct sk sv a n mo_5 1 0 99 hc8) 0 rfl rfl ⟨Nat.le_of_ble_eq_true rfl, Nat.le_of_ble_eq_true rfl⟩ rfl hl.1 rfl (Nat.le_of_ble_eq_true rfl) dX12_takesLetter_33 ⟨Nat.le_of_ble_eq_true rfl, Nat.le_of_ble_eq_true rfl⟩ (fun r9 w9 H locs hB hP hD hS => ?_)
      obtain ⟨rfl, rfl⟩ := hB
      refine WG_eq (g2 := F0 m 36 ls [.int r_7]) rfl ?_
      refine lv_if_eq (tgt := 50) hx hb dX12_takesLetter_36 (by decide) (fun c_9 => ?_) (fun c_9 => ?_)
      · replace hf := bc_t hf c_9
        exact J50 mo_8 _ _ _ hP hD hS (lv_sub hl [] rfl) hf
      · replace hf := bc_f hf c_9
        refine lv_aload_n hx hb dX12_takesLetter_39 rfl (lv_at hl 0 rfl) ?_
        refine lv_iconst (v := 2) hx hb dX12_takesLetter_40 (by decide) ?_
        refine lv_iconst (v := 1) hx hb dX12_takesLetter_41 (by decide) ?_
        refine lv_bipush (v := 9) hx hb dX12_takesLetter_42 (by decide) ?_
        obtain ⟨r_10, mo_11, hc11, hf⟩ := bd2_e hf
        refine call_V (As := [.int 2, .int 1, .int 9]) (rest := []) hx hb hml hown hts hK hP hD hS hA hZ lkX12_250 (c_X12_takes l G ct sk sv a n mo_8 2 1 9 hc11) 0 rfl rfl ⟨Nat.le_of_ble_eq_true rfl, Nat.le_of_ble_eq_true rfl⟩ rfl hl.1 rfl (Nat.le_of_ble_eq_true rfl) dX12_takesLetter_44 ⟨Nat.le_of_ble_eq_true rfl, Nat.le_of_ble_eq_true rfl⟩ (fun r9 w9 H locs hB hP hD hS => ?_)
        obtain ⟨rfl, rfl⟩ := hB
        refine WG_eq (g2 := F0 m 47 ls [.int r_10]) rfl ?_
        refine lv_if_ne (tgt := 52) hx hb dX12_takesLetter_47 (by decide) (fun c_12 => ?_) (fun c_12 => ?_)
        · replace hf := bc_f hf c_12
          refine lv_aload_n hx hb dX12_takesLetter_52 rfl (lv_at hl 0 rfl) ?_
          refine va_get (D := G) (C := RX12) (T := TX12) (N := 21) (v := .ref (a 13)) hx hb hts iu_X12 hown hK hP 0 rfl rfl 19 (by decide) (hts _ kw906) (fun _ h9 => h9) rfl dX12_takesLetter_53 ?_
          refine lv_aload_n hx hb dX12_takesLetter_56 rfl (lv_at hl 0 rfl) ?_
          refine va_get (D := G) (C := RX12) (T := TX12) (N := 21) (v := .ref (a 14)) hx hb hts iu_X12 hown hK hP 0 rfl rfl 20 (by decide) (hts _ kw907) (fun _ h9 => h9) rfl dX12_takesLetter_57 ?_
          refine lv_iconst (v := 0) hx hb dX12_takesLetter_60 (by decide) ?_
          obtain ⟨g_13, hf⟩ := gd_e hf
          refine va_iald (f := mo_11.2.1 13) hx hb hK hP 14 0 rfl rfl g_13 dX12_takesLetter_61 ?_
          refine lv_aload_n hx hb dX12_takesLetter_62 rfl (lv_at hl 0 rfl) ?_
          refine va_get (D := G) (C := RX12) (T := TX12) (N := 21) (v := .ref (a 14)) hx hb hts iu_X12 hown hK hP 0 rfl rfl 20 (by decide) (hts _ kw907) (fun _ h9 => h9) rfl dX12_takesLetter_63 ?_
          refine lv_iconst (v := 1) hx hb dX12_takesLetter_66 (by decide) ?_
          obtain ⟨g_14, hf⟩ := gd_e hf
          refine va_iald (f := mo_11.2.1 13) hx hb hK hP 14 0 rfl rfl g_14 dX12_takesLetter_67 ?_
          refine lv_aload_n hx hb dX12_takesLetter_68 rfl (lv_at hl 0 rfl) ?_
          refine va_get (D := G) (C := RX12) (T := TX12) (N := 21) (v := .ref (a 14)) hx hb hts iu_X12 hown hK hP 0 rfl rfl 20 (by decide) (hts _ kw907) (fun _ h9 => h9) rfl dX12_takesLetter_69 ?_
          refine lv_iconst (v := 2) hx hb dX12_takesLetter_72 (by decide) ?_
          obtain ⟨g_15, hf⟩ := gd_e hf
          refine va_iald (f := mo_11.2.1 13) hx hb hK hP 14 0 rfl rfl g_15 dX12_takesLetter_73 ?_
          obtain ⟨t_16, hc17, hf⟩ := bd_e hf
          obtain ⟨mo_17, emo_17, hf⟩ := bl_e hf
          refine call_S (As := [.ref (a 13), .int (mo_11.2.1 13 (ix 0)), .int (mo_11.2.1 13 (ix 1)), .int (mo_11.2.1 13 (ix 2))]) (rest := []) hx hb hml hown hts hK hP hD hS hA hZ lkX12_93 (Ctr.up (W := (wl [lfM ct a mo_11])) (W' := (wl [lfM ct a (setA mo_11 12 t_16)])) (c_X12_layLetter l G ct sk sv (fun _ => a 13) n 83 (mo_11.2.1 12) (mo_11.2.1 13 (ix 0)) (mo_11.2.1 13 (ix 1)) (mo_11.2.1 13 (ix 2)) hc17) [13] [0, 1, 2, 3, 4, 5, 6, 7, 8, 9, 10, 11, 12, 14] [0, 1, 2, 3, 4, 5, 6, 7, 8, 9, 10, 11, 12, 14, 13] rfl rfl rfl rfl (by decide) rfl rfl) ⟨Nat.le_of_ble_eq_true rfl, Nat.le_of_ble_eq_true rfl⟩ rfl hl.1 rfl (Nat.le_of_ble_eq_true rfl) dX12_takesLetter_74 ⟨Nat.le_of_ble_eq_true rfl, Nat.le_of_ble_eq_true rfl⟩ (fun r9 w9 H locs hB hP hD hS => ?_)
          obtain ⟨rfl, rfl⟩ := hB
          have hP : va_P G classes (wl [lfM ct a mo_17]) H := by rw [← emo_17]; exact hP
          have hD : va_D A (wl [lfM ct a mo_17]) := by rw [← emo_17]; exact hD
          refine WG_eq (g2 := F0 m 77 ls []) rfl ?_
          refine lv_iconst (v := 1) hx hb dX12_takesLetter_77 (by decide) ?_
          obtain ⟨e1, e2⟩ := inj2 (Option.some.inj hf)
          exact end_z (w' := (wl [lfM ct a mo_17])) hx hb hr hlocks hK hP hD hS dX12_takesLetter_78 (by decide) ⟨by rw [← e1], by rw [← e2]⟩
        · replace hf := bc_t hf c_12
          exact J50 mo_11 _ _ _ hP hD hS (lv_sub hl [] rfl) hf
  · replace hf := bc_t hf c_2
    refine lv_iconst (v := 0) hx hb dX12_takesLetter_11 (by decide) ?_
    obtain ⟨e1, e2⟩ := inj2 (Option.some.inj hf)
    exact end_z (w' := (wl [lfM ct a mo])) hx hb hr hlocks hK hP hD hS dX12_takesLetter_12 (by decide) ⟨by rw [← e1], by rw [← e2]⟩
noncomputable def f_X12_takesMember_j37 (n : Nat) (mo : MV) : Option (Int32 × MV) :=
  some (0, mo)
noncomputable def f_X12_takesMember (n : Nat) (mo : MV) : Option (Int32 × MV) :=
  gd (vp_in 0 83) <|
  bc ((mo.2.1 12 (ix 0)) = 5) (some (0, mo))
  (bd (f_X12_goBehind n mo) fun mo_3 =>
  bd2 (f_X12_takes n mo_3 0 0 5) fun r_4 mo_5 =>
  bc (r_4 = 0) (f_X12_takesMember_j37 n mo_5)
  (bd2 (f_X12_takes n mo_5 1 0 99) fun r_7 mo_8 =>
  bc (r_7 = 0) (f_X12_takesMember_j37 n mo_8)
  (gd (vp_in 0 3) <|
  gd (vp_in 1 3) <|
  bd (f_X12_layMember n 83 (mo_8.2.1 12) (mo_8.2.1 13 (ix 0)) (mo_8.2.1 13 (ix 1))) fun t_12 =>
  bl (setA mo_8 12 t_12) fun mo_13 =>
  some (1, mo_13))))
set_option maxHeartbeats 4000000 in
set_option maxRecDepth 100000 in
theorem c_X12_takesMember (l : Launch) (G : va_G) (ct : Nat → ClassId) (sk sv : Nat → Nat) (a : Nat → Nat) (n : Nat) (mo : MV) {r : Int32} {mo' : MV} (hf : f_X12_takesMember n mo = some (r, mo')) : Ctr (l, G, ct, sk, sv) mX12_takesMember 5 112 [.ref (a 0)] (wl [lfM ct a mo]) (wl [lfM ct a mo']) (some (.int r)) := by
  refine ctr_intro (by decide) (Nat.le_of_ble_eq_true rfl) ?_
  intro p e s m args below meth c A C hP hD hS hA ls hl
  obtain ⟨hx, hb, hml, hown, hts, hr, hlocks, hK, hnm, hZ⟩ := C
  have hb : c.code = cX12_takesMember := hb
  have hml : c.maxLocals = 1 := hml
  have hown : s.vm.findClass "SignedOutsideModel" = some m.cls := hown
  have hr : meth.sig.returnType = some .boolean := hr
  have hP : va_P G classes (wl [lfM ct a mo]) s.heap := hP
  have hD : va_D A (wl [lfM ct a mo]) := hD
  have hK : va_K G classes (TYS ct) s := hK
  have hl : lv_has ls 1 [(0, .ref (a 0))] := hl
  have J37 : ∀ (mo : MV) (H : Heap) (locs : List Loc) (ls : Array Slot), va_P G classes (wl [lfM ct a mo]) H → va_D A (wl [lfM ct a mo]) → va_S A s.heap H locs → lv_has ls 1 [] → f_X12_takesMember_j37 n mo = some (r, mo') → WG l G ct sk sv p e (RM 5 112 0 0) s m args below meth c A (Eq2 (some (.int r)) (wl [lfM ct a mo'])) H locs (F0 m 37 ls []) := by
    intro mo H locs ls hP hD hS hl hf
    unfold f_X12_takesMember_j37 at hf
    refine lv_iconst (v := 0) hx hb dX12_takesMember_37 (by decide) ?_
    obtain ⟨e1, e2⟩ := inj2 (Option.some.inj hf)
    exact end_z (w' := (wl [lfM ct a mo])) hx hb hr hlocks hK hP hD hS dX12_takesMember_38 (by decide) ⟨by rw [← e1], by rw [← e2]⟩
  unfold f_X12_takesMember at hf
  show WG l G ct sk sv p e (RM 5 112 0 0) s m args below meth c A (Eq2 (some (.int r)) (wl [lfM ct a mo'])) s.heap [] (F0 m 0 ls [])
  refine lv_aload_n hx hb dX12_takesMember_0 rfl (lv_at hl 0 rfl) ?_
  refine va_get (D := G) (C := RX12) (T := TX12) (N := 21) (v := .ref (a 13)) hx hb hts iu_X12 hown hK hP 0 rfl rfl 19 (by decide) (hts _ kw906) (fun _ h9 => h9) rfl dX12_takesMember_1 ?_
  refine lv_iconst (v := 0) hx hb dX12_takesMember_4 (by decide) ?_
  obtain ⟨g_1, hf⟩ := gd_e hf
  refine va_iald (f := mo.2.1 12) hx hb hK hP 13 0 rfl rfl g_1 dX12_takesMember_5 ?_
  refine lv_iconst (v := 5) hx hb dX12_takesMember_6 (by decide) ?_
  refine lv_icmp_ne (tgt := 12) hx hb dX12_takesMember_7 (by decide) (fun c_2 => ?_) (fun c_2 => ?_)
  · replace hf := bc_f hf c_2
    refine lv_aload_n hx hb dX12_takesMember_12 rfl (lv_at hl 0 rfl) ?_
    obtain ⟨mo_3, hc3, hf⟩ := bd_e hf
    refine call_V (As := []) (rest := []) hx hb hml hown hts hK hP hD hS hA hZ lkX12_247 (c_X12_goBehind l G ct sk sv a n mo hc3) 0 rfl rfl ⟨Nat.le_of_ble_eq_true rfl, Nat.le_of_ble_eq_true rfl⟩ rfl hl.1 rfl (Nat.le_of_ble_eq_true rfl) dX12_takesMember_13 ⟨Nat.le_of_ble_eq_true rfl, Nat.le_of_ble_eq_true rfl⟩ (fun r9 w9 H locs hB hP hD hS => ?_)
    obtain ⟨rfl, rfl⟩ := hB
    refine WG_eq (g2 := F0 m 16 ls []) rfl ?_
    refine lv_aload_n hx hb dX12_takesMember_16 rfl (lv_at hl 0 rfl) ?_
    refine lv_iconst (v := 0) hx hb dX12_takesMember_17 (by decide) ?_
    refine lv_iconst (v := 0) hx hb dX12_takesMember_18 (by decide) ?_
    refine lv_iconst (v := 5) hx hb dX12_takesMember_19 (by decide) ?_
    obtain ⟨r_4, mo_5, hc5, hf⟩ := bd2_e hf
    refine call_V (As := [.int 0, .int 0, .int 5]) (rest := []) hx hb hml hown hts hK hP hD hS hA hZ lkX12_250 (c_X12_takes l G ct sk sv a n mo_3 0 0 5 hc5) 0 rfl rfl ⟨Nat.le_of_ble_eq_true rfl, Nat.le_of_ble_eq_true rfl⟩ rfl hl.1 rfl (Nat.le_of_ble_eq_true rfl) dX12_takesMember_20 ⟨Nat.le_of_ble_eq_true rfl, Nat.le_of_ble_eq_true rfl⟩ (fun r9 w9 H locs hB hP hD hS => ?_)
    obtain ⟨rfl, rfl⟩ := hB
    refine WG_eq (g2 := F0 m 23 ls [.int r_4]) rfl ?_
    refine lv_if_eq (tgt := 37) hx hb dX12_takesMember_23 (by decide) (fun c_6 => ?_) (fun c_6 => ?_)
    · replace hf := bc_t hf c_6
      exact J37 mo_5 _ _ _ hP hD hS (lv_sub hl [] rfl) hf
    · replace hf := bc_f hf c_6
      refine lv_aload_n hx hb dX12_takesMember_26 rfl (lv_at hl 0 rfl) ?_
      refine lv_iconst (v := 1) hx hb dX12_takesMember_27 (by decide) ?_
      refine lv_iconst (v := 0) hx hb dX12_takesMember_28 (by decide) ?_
      refine lv_bipush (v := 99) hx hb dX12_takesMember_29 (by decide) ?_
      obtain ⟨r_7, mo_8, hc8, hf⟩ := bd2_e hf
      refine call_V (As := [.int 1, .int 0, .int 99]) (rest := []) hx hb hml hown hts hK hP hD hS hA hZ lkX12_250 (c_X12_takes l G ct sk sv a n mo_5 1 0 99 hc8) 0 rfl rfl ⟨Nat.le_of_ble_eq_true rfl, Nat.le_of_ble_eq_true rfl⟩ rfl hl.1 rfl (Nat.le_of_ble_eq_true rfl) dX12_takesMember_31 ⟨Nat.le_of_ble_eq_true rfl, Nat.le_of_ble_eq_true rfl⟩ (fun r9 w9 H locs hB hP hD hS => ?_)
      obtain ⟨rfl, rfl⟩ := hB
      refine WG_eq (g2 := F0 m 34 ls [.int r_7]) rfl ?_
      refine lv_if_ne (tgt := 39) hx hb dX12_takesMember_34 (by decide) (fun c_9 => ?_) (fun c_9 => ?_)
      · replace hf := bc_f hf c_9
        refine lv_aload_n hx hb dX12_takesMember_39 rfl (lv_at hl 0 rfl) ?_
        refine va_get (D := G) (C := RX12) (T := TX12) (N := 21) (v := .ref (a 13)) hx hb hts iu_X12 hown hK hP 0 rfl rfl 19 (by decide) (hts _ kw906) (fun _ h9 => h9) rfl dX12_takesMember_40 ?_
        refine lv_aload_n hx hb dX12_takesMember_43 rfl (lv_at hl 0 rfl) ?_
        refine va_get (D := G) (C := RX12) (T := TX12) (N := 21) (v := .ref (a 14)) hx hb hts iu_X12 hown hK hP 0 rfl rfl 20 (by decide) (hts _ kw907) (fun _ h9 => h9) rfl dX12_takesMember_44 ?_
        refine lv_iconst (v := 0) hx hb dX12_takesMember_47 (by decide) ?_
        obtain ⟨g_10, hf⟩ := gd_e hf
        refine va_iald (f := mo_8.2.1 13) hx hb hK hP 14 0 rfl rfl g_10 dX12_takesMember_48 ?_
        refine lv_aload_n hx hb dX12_takesMember_49 rfl (lv_at hl 0 rfl) ?_
        refine va_get (D := G) (C := RX12) (T := TX12) (N := 21) (v := .ref (a 14)) hx hb hts iu_X12 hown hK hP 0 rfl rfl 20 (by decide) (hts _ kw907) (fun _ h9 => h9) rfl dX12_takesMember_50 ?_
        refine lv_iconst (v := 1) hx hb dX12_takesMember_53 (by decide) ?_
        obtain ⟨g_11, hf⟩ := gd_e hf
        refine va_iald (f := mo_8.2.1 13) hx hb hK hP 14 0 rfl rfl g_11 dX12_takesMember_54 ?_
        obtain ⟨t_12, hc13, hf⟩ := bd_e hf
        obtain ⟨mo_13, emo_13, hf⟩ := bl_e hf
        refine call_S (As := [.ref (a 13), .int (mo_8.2.1 13 (ix 0)), .int (mo_8.2.1 13 (ix 1))]) (rest := []) hx hb hml hown hts hK hP hD hS hA hZ lkX12_87 (Ctr.up (W := (wl [lfM ct a mo_8])) (W' := (wl [lfM ct a (setA mo_8 12 t_12)])) (c_X12_layMember l G ct sk sv (fun _ => a 13) n 83 (mo_8.2.1 12) (mo_8.2.1 13 (ix 0)) (mo_8.2.1 13 (ix 1)) hc13) [13] [0, 1, 2, 3, 4, 5, 6, 7, 8, 9, 10, 11, 12, 14] [0, 1, 2, 3, 4, 5, 6, 7, 8, 9, 10, 11, 12, 14, 13] rfl rfl rfl rfl (by decide) rfl rfl) ⟨Nat.le_of_ble_eq_true rfl, Nat.le_of_ble_eq_true rfl⟩ rfl hl.1 rfl (Nat.le_of_ble_eq_true rfl) dX12_takesMember_55 ⟨Nat.le_of_ble_eq_true rfl, Nat.le_of_ble_eq_true rfl⟩ (fun r9 w9 H locs hB hP hD hS => ?_)
        obtain ⟨rfl, rfl⟩ := hB
        have hP : va_P G classes (wl [lfM ct a mo_13]) H := by rw [← emo_13]; exact hP
        have hD : va_D A (wl [lfM ct a mo_13]) := by rw [← emo_13]; exact hD
        refine WG_eq (g2 := F0 m 58 ls []) rfl ?_
        refine lv_iconst (v := 1) hx hb dX12_takesMember_58 (by decide) ?_
        obtain ⟨e1, e2⟩ := inj2 (Option.some.inj hf)
        exact end_z (w' := (wl [lfM ct a mo_13])) hx hb hr hlocks hK hP hD hS dX12_takesMember_59 (by decide) ⟨by rw [← e1], by rw [← e2]⟩
      · replace hf := bc_t hf c_9
        exact J37 mo_8 _ _ _ hP hD hS (lv_sub hl [] rfl) hf
  · replace hf := bc_t hf c_2
    refine lv_iconst (v := 0) hx hb dX12_takesMember_10 (by decide) ?_
    obtain ⟨e1, e2⟩ := inj2 (Option.some.inj hf)
    exact end_z (w' := (wl [lfM ct a mo])) hx hb hr hlocks hK hP hD hS dX12_takesMember_11 (by decide) ⟨by rw [← e1], by rw [← e2]⟩
noncomputable def f_X12_takesItem_j83 (n : Nat) (mo : MV) (s0 : Int32) : Option (Int32 × MV) :=
  gd (s0 = 0 ∨ s0 = 1) <| some (s0, mo)
noncomputable def f_X12_takesItem_j82 (n : Nat) (mo : MV) : Option (Int32 × MV) :=
  f_X12_takesItem_j83 n mo 0
noncomputable def f_X12_takesItem (n : Nat) (mo : MV) : Option (Int32 × MV) :=
  bd (f_X12_spells n mo 6 109 101 109 98 101 114) fun r_2 =>
  bc (r_2 = 0) (bd (f_X12_spells n mo 6 108 101 116 116 101 114) fun r_4 =>
  bc (r_4 = 0) (bd (f_X12_spells n mo 5 102 114 97 110 107 0) fun r_6 =>
  bc (r_6 = 0) (f_X12_takesItem_j82 n mo)
  (bd2 (f_X12_takesFrank n mo) fun r_8 mo_9 =>
  bc (r_8 = 0) (f_X12_takesItem_j82 n mo_9)
  (f_X12_takesItem_j83 n mo_9 1)))
  (bd2 (f_X12_takesLetter n mo) fun r_11 mo_12 =>
  gd (r_11 = 0 ∨ r_11 = 1) <| some (r_11, mo_12)))
  (bd2 (f_X12_takesMember n mo) fun r_14 mo_15 =>
  gd (r_14 = 0 ∨ r_14 = 1) <| some (r_14, mo_15))
set_option maxHeartbeats 4000000 in
set_option maxRecDepth 100000 in
theorem c_X12_takesItem (l : Launch) (G : va_G) (ct : Nat → ClassId) (sk sv : Nat → Nat) (a : Nat → Nat) (n : Nat) (mo : MV) {r : Int32} {mo' : MV} (hf : f_X12_takesItem n mo = some (r, mo')) : Ctr (l, G, ct, sk, sv) mX12_takesItem 6 132 [.ref (a 0)] (wl [lfM ct a mo]) (wl [lfM ct a mo']) (some (.int r)) := by
  refine ctr_intro (by decide) (Nat.le_of_ble_eq_true rfl) ?_
  intro p e s m args below meth c A C hP hD hS hA ls hl
  obtain ⟨hx, hb, hml, hown, hts, hr, hlocks, hK, hnm, hZ⟩ := C
  have hb : c.code = cX12_takesItem := hb
  have hml : c.maxLocals = 1 := hml
  have hown : s.vm.findClass "SignedOutsideModel" = some m.cls := hown
  have hr : meth.sig.returnType = some .boolean := hr
  have hP : va_P G classes (wl [lfM ct a mo]) s.heap := hP
  have hD : va_D A (wl [lfM ct a mo]) := hD
  have hK : va_K G classes (TYS ct) s := hK
  have hl : lv_has ls 1 [(0, .ref (a 0))] := hl
  have J83 : ∀ (mo : MV) (s0 : Int32) (H : Heap) (locs : List Loc) (ls : Array Slot), va_P G classes (wl [lfM ct a mo]) H → va_D A (wl [lfM ct a mo]) → va_S A s.heap H locs → lv_has ls 1 [] → f_X12_takesItem_j83 n mo s0 = some (r, mo') → WG l G ct sk sv p e (RM 6 132 0 0) s m args below meth c A (Eq2 (some (.int r)) (wl [lfM ct a mo'])) H locs (F0 m 83 ls [.int s0]) := by
    intro mo s0 H locs ls hP hD hS hl hf
    unfold f_X12_takesItem_j83 at hf
    obtain ⟨g_1, hf⟩ := gd_e hf
    obtain ⟨e1, e2⟩ := inj2 (Option.some.inj hf)
    exact end_z (w' := (wl [lfM ct a mo])) hx hb hr hlocks hK hP hD hS dX12_takesItem_83 g_1 ⟨by rw [← e1], by rw [← e2]⟩
  have J82 : ∀ (mo : MV) (H : Heap) (locs : List Loc) (ls : Array Slot), va_P G classes (wl [lfM ct a mo]) H → va_D A (wl [lfM ct a mo]) → va_S A s.heap H locs → lv_has ls 1 [] → f_X12_takesItem_j82 n mo = some (r, mo') → WG l G ct sk sv p e (RM 6 132 0 0) s m args below meth c A (Eq2 (some (.int r)) (wl [lfM ct a mo'])) H locs (F0 m 82 ls []) := by
    intro mo H locs ls hP hD hS hl hf
    unfold f_X12_takesItem_j82 at hf
    refine lv_iconst (v := 0) hx hb dX12_takesItem_82 (by decide) ?_
    exact J83 mo 0 _ _ _ hP hD hS hl hf
  unfold f_X12_takesItem at hf
  show WG l G ct sk sv p e (RM 6 132 0 0) s m args below meth c A (Eq2 (some (.int r)) (wl [lfM ct a mo'])) s.heap [] (F0 m 0 ls [])
  refine lv_aload_n hx hb dX12_takesItem_0 rfl (lv_at hl 0 rfl) ?_
  refine lv_bipush (v := 6) hx hb dX12_takesItem_1 (by decide) ?_
  refine lv_bipush (v := 109) hx hb dX12_takesItem_3 (by decide) ?_
  refine lv_bipush (v := 101) hx hb dX12_takesItem_5 (by decide) ?_
  refine lv_bipush (v := 109) hx hb dX12_takesItem_7 (by decide) ?_
  refine lv_bipush (v := 98) hx hb dX12_takesItem_9 (by decide) ?_
  refine lv_bipush (v := 101) hx hb dX12_takesItem_11 (by decide) ?_
  refine lv_bipush (v := 114) hx hb dX12_takesItem_13 (by decide) ?_
  obtain ⟨r_2, hc2, hf⟩ := bd_e hf
  refine call_V (As := [.int 6, .int 109, .int 101, .int 109, .int 98, .int 101, .int 114]) (rest := []) hx hb hml hown hts hK hP hD hS hA hZ lkX12_253 (c_X12_spells l G ct sk sv a n mo 6 109 101 109 98 101 114 hc2) 0 rfl rfl ⟨Nat.le_of_ble_eq_true rfl, Nat.le_of_ble_eq_true rfl⟩ rfl hl.1 rfl (Nat.le_of_ble_eq_true rfl) dX12_takesItem_15 ⟨Nat.le_of_ble_eq_true rfl, Nat.le_of_ble_eq_true rfl⟩ (fun r9 w9 H locs hB hP hD hS => ?_)
  obtain ⟨rfl, rfl⟩ := hB
  refine WG_eq (g2 := F0 m 18 ls [.int r_2]) rfl ?_
  refine lv_if_eq (tgt := 26) hx hb dX12_takesItem_18 (by decide) (fun c_3 => ?_) (fun c_3 => ?_)
  · replace hf := bc_t hf c_3
    refine lv_aload_n hx hb dX12_takesItem_26 rfl (lv_at hl 0 rfl) ?_
    refine lv_bipush (v := 6) hx hb dX12_takesItem_27 (by decide) ?_
    refine lv_bipush (v := 108) hx hb dX12_takesItem_29 (by decide) ?_
    refine lv_bipush (v := 101) hx hb dX12_takesItem_31 (by decide) ?_
    refine lv_bipush (v := 116) hx hb dX12_takesItem_33 (by decide) ?_
    refine lv_bipush (v := 116) hx hb dX12_takesItem_35 (by decide) ?_
    refine lv_bipush (v := 101) hx hb dX12_takesItem_37 (by decide) ?_
    refine lv_bipush (v := 114) hx hb dX12_takesItem_39 (by decide) ?_
    obtain ⟨r_4, hc4, hf⟩ := bd_e hf
    refine call_V (As := [.int 6, .int 108, .int 101, .int 116, .int 116, .int 101, .int 114]) (rest := []) hx hb hml hown hts hK hP hD hS hA hZ lkX12_253 (c_X12_spells l G ct sk sv a n mo 6 108 101 116 116 101 114 hc4) 0 rfl rfl ⟨Nat.le_of_ble_eq_true rfl, Nat.le_of_ble_eq_true rfl⟩ rfl hl.1 rfl (Nat.le_of_ble_eq_true rfl) dX12_takesItem_41 ⟨Nat.le_of_ble_eq_true rfl, Nat.le_of_ble_eq_true rfl⟩ (fun r9 w9 H locs hB hP hD hS => ?_)
    obtain ⟨rfl, rfl⟩ := hB
    refine WG_eq (g2 := F0 m 44 ls [.int r_4]) rfl ?_
    refine lv_if_eq (tgt := 52) hx hb dX12_takesItem_44 (by decide) (fun c_5 => ?_) (fun c_5 => ?_)
    · replace hf := bc_t hf c_5
      refine lv_aload_n hx hb dX12_takesItem_52 rfl (lv_at hl 0 rfl) ?_
      refine lv_iconst (v := 5) hx hb dX12_takesItem_53 (by decide) ?_
      refine lv_bipush (v := 102) hx hb dX12_takesItem_54 (by decide) ?_
      refine lv_bipush (v := 114) hx hb dX12_takesItem_56 (by decide) ?_
      refine lv_bipush (v := 97) hx hb dX12_takesItem_58 (by decide) ?_
      refine lv_bipush (v := 110) hx hb dX12_takesItem_60 (by decide) ?_
      refine lv_bipush (v := 107) hx hb dX12_takesItem_62 (by decide) ?_
      refine lv_iconst (v := 0) hx hb dX12_takesItem_64 (by decide) ?_
      obtain ⟨r_6, hc6, hf⟩ := bd_e hf
      refine call_V (As := [.int 5, .int 102, .int 114, .int 97, .int 110, .int 107, .int 0]) (rest := []) hx hb hml hown hts hK hP hD hS hA hZ lkX12_253 (c_X12_spells l G ct sk sv a n mo 5 102 114 97 110 107 0 hc6) 0 rfl rfl ⟨Nat.le_of_ble_eq_true rfl, Nat.le_of_ble_eq_true rfl⟩ rfl hl.1 rfl (Nat.le_of_ble_eq_true rfl) dX12_takesItem_65 ⟨Nat.le_of_ble_eq_true rfl, Nat.le_of_ble_eq_true rfl⟩ (fun r9 w9 H locs hB hP hD hS => ?_)
      obtain ⟨rfl, rfl⟩ := hB
      refine WG_eq (g2 := F0 m 68 ls [.int r_6]) rfl ?_
      refine lv_if_eq (tgt := 82) hx hb dX12_takesItem_68 (by decide) (fun c_7 => ?_) (fun c_7 => ?_)
      · replace hf := bc_t hf c_7
        exact J82 mo _ _ _ hP hD hS (lv_sub hl [] rfl) hf
      · replace hf := bc_f hf c_7
        refine lv_aload_n hx hb dX12_takesItem_71 rfl (lv_at hl 0 rfl) ?_
        obtain ⟨r_8, mo_9, hc9, hf⟩ := bd2_e hf
        refine call_V (As := []) (rest := []) hx hb hml hown hts hK hP hD hS hA hZ lkX12_264 (c_X12_takesFrank l G ct sk sv a n mo hc9) 0 rfl rfl ⟨Nat.le_of_ble_eq_true rfl, Nat.le_of_ble_eq_true rfl⟩ rfl hl.1 rfl (Nat.le_of_ble_eq_true rfl) dX12_takesItem_72 ⟨Nat.le_of_ble_eq_true rfl, Nat.le_of_ble_eq_true rfl⟩ (fun r9 w9 H locs hB hP hD hS => ?_)
        obtain ⟨rfl, rfl⟩ := hB
        refine WG_eq (g2 := F0 m 75 ls [.int r_8]) rfl ?_
        refine lv_if_eq (tgt := 82) hx hb dX12_takesItem_75 (by decide) (fun c_10 => ?_) (fun c_10 => ?_)
        · replace hf := bc_t hf c_10
          exact J82 mo_9 _ _ _ hP hD hS (lv_sub hl [] rfl) hf
        · replace hf := bc_f hf c_10
          refine lv_iconst (v := 1) hx hb dX12_takesItem_78 (by decide) ?_
          refine lv_goto (tgt := 83) hx hb dX12_takesItem_79 (by decide) ?_
          exact J83 mo_9 1 _ _ _ hP hD hS (lv_sub hl [] rfl) hf
    · replace hf := bc_f hf c_5
      refine lv_aload_n hx hb dX12_takesItem_47 rfl (lv_at hl 0 rfl) ?_
      obtain ⟨r_11, mo_12, hc12, hf⟩ := bd2_e hf
      refine call_V (As := []) (rest := []) hx hb hml hown hts hK hP hD hS hA hZ lkX12_261 (c_X12_takesLetter l G ct sk sv a n mo hc12) 0 rfl rfl ⟨Nat.le_of_ble_eq_true rfl, Nat.le_of_ble_eq_true rfl⟩ rfl hl.1 rfl (Nat.le_of_ble_eq_true rfl) dX12_takesItem_48 ⟨Nat.le_of_ble_eq_true rfl, Nat.le_of_ble_eq_true rfl⟩ (fun r9 w9 H locs hB hP hD hS => ?_)
      obtain ⟨rfl, rfl⟩ := hB
      refine WG_eq (g2 := F0 m 51 ls [.int r_11]) rfl ?_
      obtain ⟨g_13, hf⟩ := gd_e hf
      obtain ⟨e1, e2⟩ := inj2 (Option.some.inj hf)
      exact end_z (w' := (wl [lfM ct a mo_12])) hx hb hr hlocks hK hP hD hS dX12_takesItem_51 g_13 ⟨by rw [← e1], by rw [← e2]⟩
  · replace hf := bc_f hf c_3
    refine lv_aload_n hx hb dX12_takesItem_21 rfl (lv_at hl 0 rfl) ?_
    obtain ⟨r_14, mo_15, hc15, hf⟩ := bd2_e hf
    refine call_V (As := []) (rest := []) hx hb hml hown hts hK hP hD hS hA hZ lkX12_257 (c_X12_takesMember l G ct sk sv a n mo hc15) 0 rfl rfl ⟨Nat.le_of_ble_eq_true rfl, Nat.le_of_ble_eq_true rfl⟩ rfl hl.1 rfl (Nat.le_of_ble_eq_true rfl) dX12_takesItem_22 ⟨Nat.le_of_ble_eq_true rfl, Nat.le_of_ble_eq_true rfl⟩ (fun r9 w9 H locs hB hP hD hS => ?_)
    obtain ⟨rfl, rfl⟩ := hB
    refine WG_eq (g2 := F0 m 25 ls [.int r_14]) rfl ?_
    obtain ⟨g_16, hf⟩ := gd_e hf
    obtain ⟨e1, e2⟩ := inj2 (Option.some.inj hf)
    exact end_z (w' := (wl [lfM ct a mo_15])) hx hb hr hlocks hK hP hD hS dX12_takesItem_25 g_16 ⟨by rw [← e1], by rw [← e2]⟩
noncomputable def f_X12_read_b65 (n : Nat) (mo : MV) (v1 : Int32) : Option ((Int32 × MV) ⊕ ((Int32 × MV) ⊕ (Int32 × MV))) :=
  bc ((mo.1 3) = 0) (some (.inr (.inl (v1, mo))))
  (bd2 (f_X12_takesItem n mo) fun r_2 mo_3 =>
  bc (r_2 = 0) (some (.inr (.inr ((-10) - (mo_3.1 1), mo_3))))
  (bc ((mo_3.1 3) = 3) (bd (f_X12_goBehind n mo_3) fun mo_6 =>
  bl (v1 + 1) fun v1_7 =>
  some (.inl (v1_7, mo_6)))
  (some (.inr (.inr ((-10) - (mo_3.1 1), mo_3))))))
noncomputable def f_X12_read_l65 (fu : Nat) (n : Nat) (mo : MV) (v1 : Int32) : Option ((Int32 × MV) ⊕ (Int32 × MV)) :=
  lp (fun q => f_X12_read_b65 n q.2 q.1) fu (v1, mo)
noncomputable def f_X12_read_b107 (n : Nat) (mo : MV) (v2 : Int32) (v1 : Int32) : Option ((Int32 × MV) ⊕ (MV)) :=
  bc (83 ≤ v2) (some (.inr mo))
  (gd (vp_in v2 83) <|
  gd (vp_in v2 235) <|
  bl (setA mo 0 (upd (mo.2.1 0) (ix v2) (mo.2.1 12 (ix v2)))) fun mo_11 =>
  bl (v2 + 1) fun v2_12 =>
  some (.inl (v2_12, mo_11)))
noncomputable def f_X12_read_l107 (fu : Nat) (n : Nat) (mo : MV) (v1 : Int32) (v2 : Int32) : Option (MV) :=
  lp (fun q => f_X12_read_b107 n q.2 q.1 v1) fu (v2, mo)
noncomputable def f_X12_read_j87 (n : Nat) (mo : MV) : Option (Int32 × MV) :=
  some ((-10) - (mo.1 1), mo)
noncomputable def f_X12_read (n : Nat) (mo : MV) : Option (Int32 × MV) :=
  bd (f_X12_lookAt n mo 0) fun mo_13 =>
  bd (f_X12_spells n mo_13 5 104 111 117 115 101 0) fun r_14 =>
  bc (r_14 = 0) (some ((-10) - (mo_13.1 1), mo_13))
  (bd (f_X12_goBehind n mo_13) fun mo_16 =>
  bc ((mo_16.1 3) = 3) (bd (f_X12_goBehind n mo_16) fun mo_18 =>
  bd (f_X12_begin n 83 (mo_18.2.1 12)) fun t_19 =>
  bl (setA mo_18 12 t_19) fun mo_20 =>
  bs2 (f_X12_read_l65 n n mo_20 1) fun v1_21 mo_22 =>
  bd (f_X12_read_l107 n n mo_22 v1_21 0) fun mo_24 =>
  some (v1_21, mo_24))
  (some ((-10) - (mo_16.1 1), mo_16)))
set_option maxHeartbeats 4000000 in
set_option maxRecDepth 100000 in
theorem c_X12_read (l : Launch) (G : va_G) (ct : Nat → ClassId) (sk sv : Nat → Nat) (a : Nat → Nat) (n : Nat) (mo : MV) {r : Int32} {mo' : MV} (hf : f_X12_read n mo = some (r, mo')) : Ctr (l, G, ct, sk, sv) mX12_read 7 152 [.ref (a 0)] (wl [lfM ct a mo]) (wl [lfM ct a mo']) (some (.int r)) := by
  refine ctr_intro (by decide) (Nat.le_of_ble_eq_true rfl) ?_
  intro p e s m args below meth c A C hP hD hS hA ls hl
  obtain ⟨hx, hb, hml, hown, hts, hr, hlocks, hK, hnm, hZ⟩ := C
  have hb : c.code = cX12_read := hb
  have hml : c.maxLocals = 3 := hml
  have hown : s.vm.findClass "SignedOutsideModel" = some m.cls := hown
  have hr : meth.sig.returnType = some .int := hr
  have hP : va_P G classes (wl [lfM ct a mo]) s.heap := hP
  have hD : va_D A (wl [lfM ct a mo]) := hD
  have hK : va_K G classes (TYS ct) s := hK
  have hl : lv_has ls 3 [(0, .ref (a 0))] := hl
  have L65 : ∀ (fu : Nat) (mo : MV) (v1 : Int32) (ex : (Int32 × MV) ⊕ (Int32 × MV)) (H : Heap) (locs : List Loc) (ls : Array Slot), va_P G classes (wl [lfM ct a mo]) H → va_D A (wl [lfM ct a mo]) → va_S A s.heap H locs → lv_has ls 3 [(1, .int v1), (0, .ref (a 0))] → f_X12_read_l65 fu n mo v1 = some ex → (∀ (x : Int32 × MV), ex = .inl x → ∀ (H : Heap) (locs : List Loc) (ls : Array Slot), va_P G classes (wl [lfM ct a x.2]) H → va_D A (wl [lfM ct a x.2]) → va_S A s.heap H locs → lv_has ls 3 [(1, .int x.1), (0, .ref (a 0))] → WG l G ct sk sv p e (RM 7 152 0 0) s m args below meth c A (Eq2 (some (.int r)) (wl [lfM ct a mo'])) H locs (F0 m 105 ls [])) → (∀ rr : Int32 × MV, ex = .inr rr → rr = (r, mo')) → WG l G ct sk sv p e (RM 7 152 0 0) s m args below meth c A (Eq2 (some (.int r)) (wl [lfM ct a mo'])) H locs (F0 m 65 ls []) := by
    intro fu
    induction fu with
    | zero =>
      intro mo v1 ex H locs ls hP hD hS hl hf
      exact absurd hf (by unfold f_X12_read_l65 lp; exact fun h => by cases h)
    | succ fu ih =>
      intro mo v1 ex H locs ls hP hD hS hl hf hE hT
      unfold f_X12_read_l65 at hf
      obtain ⟨q, hf, hor⟩ := lp_e hf
      replace hf : f_X12_read_b65 n mo v1 = some q := hf
      unfold f_X12_read_b65 at hf
      refine lv_aload_n hx hb dX12_read_65 rfl (lv_at hl 1 rfl) ?_
      refine va_get (D := G) (C := RX12) (T := TX12) (N := 21) (v := .int (mo.1 3)) hx hb hts iu_X12 hown hK hP 0 rfl rfl 17 (by decide) (hts _ kw904) (fun _ h9 => h9) rfl dX12_read_66 ?_
      refine lv_if_eq (tgt := 105) hx hb dX12_read_69 (by decide) (fun c_1 => ?_) (fun c_1 => ?_)
      · replace hf := bc_t hf c_1
        exact hE (v1, mo) (lp_inr hor hf).symm _ _ _ hP hD hS hl
      · replace hf := bc_f hf c_1
        refine lv_aload_n hx hb dX12_read_72 rfl (lv_at hl 1 rfl) ?_
        obtain ⟨r_2, mo_3, hc3, hf⟩ := bd2_e hf
        refine call_V (As := []) (rest := []) hx hb hml hown hts hK hP hD hS hA hZ lkX12_267 (c_X12_takesItem l G ct sk sv a n mo hc3) 0 rfl rfl ⟨Nat.le_of_ble_eq_true rfl, Nat.le_of_ble_eq_true rfl⟩ rfl hl.1 rfl (Nat.le_of_ble_eq_true rfl) dX12_read_73 ⟨Nat.le_of_ble_eq_true rfl, Nat.le_of_ble_eq_true rfl⟩ (fun r9 w9 H locs hB hP hD hS => ?_)
        obtain ⟨rfl, rfl⟩ := hB
        refine WG_eq (g2 := F0 m 76 ls [.int r_2]) rfl ?_
        refine lv_if_eq (tgt := 87) hx hb dX12_read_76 (by decide) (fun c_4 => ?_) (fun c_4 => ?_)
        · replace hf := bc_t hf c_4
          refine lv_bipush (v := (-10)) hx hb dX12_read_87 (by decide) ?_
          refine lv_aload_n hx hb dX12_read_89 rfl (lv_at hl 1 rfl) ?_
          refine va_get (D := G) (C := RX12) (T := TX12) (N := 21) (v := .int (mo_3.1 1)) hx hb hts iu_X12 hown hK hP 0 rfl rfl 15 (by decide) (hts _ kw902) (fun _ h9 => h9) rfl dX12_read_90 ?_
          refine lv_isub hx hb dX12_read_93 ?_
          have hf := congrArg some (hT _ (lp_inr hor hf).symm)
          obtain ⟨e1, e2⟩ := inj2 (Option.some.inj hf)
          exact end_i (w' := (wl [lfM ct a mo_3])) hx hb hr hlocks hK hP hD hS dX12_read_94  ⟨by rw [← e1], by rw [← e2]⟩
        · replace hf := bc_f hf c_4
          refine lv_aload_n hx hb dX12_read_79 rfl (lv_at hl 1 rfl) ?_
          refine va_get (D := G) (C := RX12) (T := TX12) (N := 21) (v := .int (mo_3.1 3)) hx hb hts iu_X12 hown hK hP 0 rfl rfl 17 (by decide) (hts _ kw904) (fun _ h9 => h9) rfl dX12_read_80 ?_
          refine lv_iconst (v := 3) hx hb dX12_read_83 (by decide) ?_
          refine lv_icmp_eq (tgt := 95) hx hb dX12_read_84 (by decide) (fun c_5 => ?_) (fun c_5 => ?_)
          · replace hf := bc_t hf c_5
            refine lv_aload_n hx hb dX12_read_95 rfl (lv_at hl 1 rfl) ?_
            obtain ⟨mo_6, hc6, hf⟩ := bd_e hf
            refine call_V (As := []) (rest := []) hx hb hml hown hts hK hP hD hS hA hZ lkX12_247 (c_X12_goBehind l G ct sk sv a n mo_3 hc6) 0 rfl rfl ⟨Nat.le_of_ble_eq_true rfl, Nat.le_of_ble_eq_true rfl⟩ rfl hl.1 rfl (Nat.le_of_ble_eq_true rfl) dX12_read_96 ⟨Nat.le_of_ble_eq_true rfl, Nat.le_of_ble_eq_true rfl⟩ (fun r9 w9 H locs hB hP hD hS => ?_)
            obtain ⟨rfl, rfl⟩ := hB
            refine WG_eq (g2 := F0 m 99 ls []) rfl ?_
            obtain ⟨v1_7, ev1_7, hf⟩ := bl_e hf
            refine lv_iinc (v := v1_7) (lv' := [(1, .int v1_7), (0, .ref (a 0))]) hx hb dX12_read_99 hl (k := 0) rfl ev1_7 (by decide) rfl (fun ls hl => ?_)
            refine lv_goto (tgt := 65) hx hb dX12_read_102 (by decide) ?_
            exact ih mo_6 v1_7 ex _ _ _ hP hD hS hl (lp_inl hor hf) hE hT
          · replace hf := bc_f hf c_5
            refine lv_bipush (v := (-10)) hx hb dX12_read_87 (by decide) ?_
            refine lv_aload_n hx hb dX12_read_89 rfl (lv_at hl 1 rfl) ?_
            refine va_get (D := G) (C := RX12) (T := TX12) (N := 21) (v := .int (mo_3.1 1)) hx hb hts iu_X12 hown hK hP 0 rfl rfl 15 (by decide) (hts _ kw902) (fun _ h9 => h9) rfl dX12_read_90 ?_
            refine lv_isub hx hb dX12_read_93 ?_
            have hf := congrArg some (hT _ (lp_inr hor hf).symm)
            obtain ⟨e1, e2⟩ := inj2 (Option.some.inj hf)
            exact end_i (w' := (wl [lfM ct a mo_3])) hx hb hr hlocks hK hP hD hS dX12_read_94  ⟨by rw [← e1], by rw [← e2]⟩
  have L107 : ∀ (fu : Nat) (mo : MV) (v1 : Int32) (v2 : Int32) (ex : MV) (H : Heap) (locs : List Loc) (ls : Array Slot), va_P G classes (wl [lfM ct a mo]) H → va_D A (wl [lfM ct a mo]) → va_S A s.heap H locs → lv_has ls 3 [(2, .int v2), (1, .int v1), (0, .ref (a 0))] → f_X12_read_l107 fu n mo v1 v2 = some ex → (∀ (x : MV), ex = x → ∀ (H : Heap) (locs : List Loc) (ls : Array Slot), va_P G classes (wl [lfM ct a x]) H → va_D A (wl [lfM ct a x]) → va_S A s.heap H locs → lv_has ls 3 [(1, .int v1)] → WG l G ct sk sv p e (RM 7 152 0 0) s m args below meth c A (Eq2 (some (.int r)) (wl [lfM ct a mo'])) H locs (F0 m 131 ls [])) → WG l G ct sk sv p e (RM 7 152 0 0) s m args below meth c A (Eq2 (some (.int r)) (wl [lfM ct a mo'])) H locs (F0 m 107 ls []) := by
    intro fu
    induction fu with
    | zero =>
      intro mo v1 v2 ex H locs ls hP hD hS hl hf
      exact absurd hf (by unfold f_X12_read_l107 lp; exact fun h => by cases h)
    | succ fu ih =>
      intro mo v1 v2 ex H locs ls hP hD hS hl hf hE
      unfold f_X12_read_l107 at hf
      obtain ⟨q, hf, hor⟩ := lp_e hf
      replace hf : f_X12_read_b107 n mo v2 v1 = some q := hf
      unfold f_X12_read_b107 at hf
      refine lv_iload_n hx hb dX12_read_107 rfl (lv_at hl 0 rfl) ?_
      refine lv_bipush (v := 83) hx hb dX12_read_108 (by decide) ?_
      refine lv_icmp_ge (tgt := 131) hx hb dX12_read_110 (by decide) (fun c_8 => ?_) (fun c_8 => ?_)
      · replace hf := bc_t hf c_8
        exact hE mo (lp_inr hor hf).symm _ _ _ hP hD hS (lv_sub hl [1] rfl)
      · replace hf := bc_f hf c_8
        refine lv_aload_n hx hb dX12_read_113 rfl (lv_at hl 2 rfl) ?_
        refine va_get (D := G) (C := RX12) (T := TX12) (N := 21) (v := .ref (a 1)) hx hb hts iu_X12 hown hK hP 0 rfl rfl 0 (by decide) (hts _ kw887) (fun _ h9 => h9) rfl dX12_read_114 ?_
        refine lv_iload_n hx hb dX12_read_117 rfl (lv_at hl 0 rfl) ?_
        refine lv_aload_n hx hb dX12_read_118 rfl (lv_at hl 2 rfl) ?_
        refine va_get (D := G) (C := RX12) (T := TX12) (N := 21) (v := .ref (a 13)) hx hb hts iu_X12 hown hK hP 0 rfl rfl 19 (by decide) (hts _ kw906) (fun _ h9 => h9) rfl dX12_read_119 ?_
        refine lv_iload_n hx hb dX12_read_122 rfl (lv_at hl 0 rfl) ?_
        obtain ⟨g_9, hf⟩ := gd_e hf
        refine va_iald (f := mo.2.1 12) hx hb hK hP 13 0 rfl rfl g_9 dX12_read_123 ?_
        obtain ⟨g_10, hf⟩ := gd_e hf
        obtain ⟨mo_11, emo_11, hf⟩ := bl_e hf
        refine va_iast hx hb hK hP hD hS 1 0 rfl rfl g_10 dX12_read_124 (fun H locs hP hD hS => ?_)
        have hP : va_P G classes (wl [lfM ct a mo_11]) H := by rw [← emo_11]; exact hP
        have hD : va_D A (wl [lfM ct a mo_11]) := by rw [← emo_11]; exact hD
        obtain ⟨v2_12, ev2_12, hf⟩ := bl_e hf
        refine lv_iinc (v := v2_12) (lv' := [(2, .int v2_12), (1, .int v1), (0, .ref (a 0))]) hx hb dX12_read_125 hl (k := 0) rfl ev2_12 (by decide) rfl (fun ls hl => ?_)
        refine lv_goto (tgt := 107) hx hb dX12_read_128 (by decide) ?_
        exact ih mo_11 v1 v2_12 ex _ _ _ hP hD hS hl (lp_inl hor hf) hE
  have J87 : ∀ (mo : MV) (H : Heap) (locs : List Loc) (ls : Array Slot), va_P G classes (wl [lfM ct a mo]) H → va_D A (wl [lfM ct a mo]) → va_S A s.heap H locs → lv_has ls 3 [(0, .ref (a 0))] → f_X12_read_j87 n mo = some (r, mo') → WG l G ct sk sv p e (RM 7 152 0 0) s m args below meth c A (Eq2 (some (.int r)) (wl [lfM ct a mo'])) H locs (F0 m 87 ls []) := by
    intro mo H locs ls hP hD hS hl hf
    unfold f_X12_read_j87 at hf
    refine lv_bipush (v := (-10)) hx hb dX12_read_87 (by decide) ?_
    refine lv_aload_n hx hb dX12_read_89 rfl (lv_at hl 0 rfl) ?_
    refine va_get (D := G) (C := RX12) (T := TX12) (N := 21) (v := .int (mo.1 1)) hx hb hts iu_X12 hown hK hP 0 rfl rfl 15 (by decide) (hts _ kw902) (fun _ h9 => h9) rfl dX12_read_90 ?_
    refine lv_isub hx hb dX12_read_93 ?_
    obtain ⟨e1, e2⟩ := inj2 (Option.some.inj hf)
    exact end_i (w' := (wl [lfM ct a mo])) hx hb hr hlocks hK hP hD hS dX12_read_94  ⟨by rw [← e1], by rw [← e2]⟩
  unfold f_X12_read at hf
  show WG l G ct sk sv p e (RM 7 152 0 0) s m args below meth c A (Eq2 (some (.int r)) (wl [lfM ct a mo'])) s.heap [] (F0 m 0 ls [])
  refine lv_aload_n hx hb dX12_read_0 rfl (lv_at hl 0 rfl) ?_
  refine lv_iconst (v := 0) hx hb dX12_read_1 (by decide) ?_
  obtain ⟨mo_13, hc13, hf⟩ := bd_e hf
  refine call_V (As := [.int 0]) (rest := []) hx hb hml hown hts hK hP hD hS hA hZ lkX12_243 (c_X12_lookAt l G ct sk sv a n mo 0 hc13) 0 rfl rfl ⟨Nat.le_of_ble_eq_true rfl, Nat.le_of_ble_eq_true rfl⟩ rfl hl.1 rfl (Nat.le_of_ble_eq_true rfl) dX12_read_2 ⟨Nat.le_of_ble_eq_true rfl, Nat.le_of_ble_eq_true rfl⟩ (fun r9 w9 H locs hB hP hD hS => ?_)
  obtain ⟨rfl, rfl⟩ := hB
  refine WG_eq (g2 := F0 m 5 ls []) rfl ?_
  refine lv_aload_n hx hb dX12_read_5 rfl (lv_at hl 0 rfl) ?_
  refine lv_iconst (v := 5) hx hb dX12_read_6 (by decide) ?_
  refine lv_bipush (v := 104) hx hb dX12_read_7 (by decide) ?_
  refine lv_bipush (v := 111) hx hb dX12_read_9 (by decide) ?_
  refine lv_bipush (v := 117) hx hb dX12_read_11 (by decide) ?_
  refine lv_bipush (v := 115) hx hb dX12_read_13 (by decide) ?_
  refine lv_bipush (v := 101) hx hb dX12_read_15 (by decide) ?_
  refine lv_iconst (v := 0) hx hb dX12_read_17 (by decide) ?_
  obtain ⟨r_14, hc14, hf⟩ := bd_e hf
  refine call_V (As := [.int 5, .int 104, .int 111, .int 117, .int 115, .int 101, .int 0]) (rest := []) hx hb hml hown hts hK hP hD hS hA hZ lkX12_253 (c_X12_spells l G ct sk sv a n mo_13 5 104 111 117 115 101 0 hc14) 0 rfl rfl ⟨Nat.le_of_ble_eq_true rfl, Nat.le_of_ble_eq_true rfl⟩ rfl hl.1 rfl (Nat.le_of_ble_eq_true rfl) dX12_read_18 ⟨Nat.le_of_ble_eq_true rfl, Nat.le_of_ble_eq_true rfl⟩ (fun r9 w9 H locs hB hP hD hS => ?_)
  obtain ⟨rfl, rfl⟩ := hB
  refine WG_eq (g2 := F0 m 21 ls [.int r_14]) rfl ?_
  refine lv_if_ne (tgt := 32) hx hb dX12_read_21 (by decide) (fun c_15 => ?_) (fun c_15 => ?_)
  · replace hf := bc_f hf c_15
    refine lv_aload_n hx hb dX12_read_32 rfl (lv_at hl 0 rfl) ?_
    obtain ⟨mo_16, hc16, hf⟩ := bd_e hf
    refine call_V (As := []) (rest := []) hx hb hml hown hts hK hP hD hS hA hZ lkX12_247 (c_X12_goBehind l G ct sk sv a n mo_13 hc16) 0 rfl rfl ⟨Nat.le_of_ble_eq_true rfl, Nat.le_of_ble_eq_true rfl⟩ rfl hl.1 rfl (Nat.le_of_ble_eq_true rfl) dX12_read_33 ⟨Nat.le_of_ble_eq_true rfl, Nat.le_of_ble_eq_true rfl⟩ (fun r9 w9 H locs hB hP hD hS => ?_)
    obtain ⟨rfl, rfl⟩ := hB
    refine WG_eq (g2 := F0 m 36 ls []) rfl ?_
    refine lv_aload_n hx hb dX12_read_36 rfl (lv_at hl 0 rfl) ?_
    refine va_get (D := G) (C := RX12) (T := TX12) (N := 21) (v := .int (mo_16.1 3)) hx hb hts iu_X12 hown hK hP 0 rfl rfl 17 (by decide) (hts _ kw904) (fun _ h9 => h9) rfl dX12_read_37 ?_
    refine lv_iconst (v := 3) hx hb dX12_read_40 (by decide) ?_
    refine lv_icmp_eq (tgt := 52) hx hb dX12_read_41 (by decide) (fun c_17 => ?_) (fun c_17 => ?_)
    · replace hf := bc_t hf c_17
      refine lv_aload_n hx hb dX12_read_52 rfl (lv_at hl 0 rfl) ?_
      obtain ⟨mo_18, hc18, hf⟩ := bd_e hf
      refine call_V (As := []) (rest := []) hx hb hml hown hts hK hP hD hS hA hZ lkX12_247 (c_X12_goBehind l G ct sk sv a n mo_16 hc18) 0 rfl rfl ⟨Nat.le_of_ble_eq_true rfl, Nat.le_of_ble_eq_true rfl⟩ rfl hl.1 rfl (Nat.le_of_ble_eq_true rfl) dX12_read_53 ⟨Nat.le_of_ble_eq_true rfl, Nat.le_of_ble_eq_true rfl⟩ (fun r9 w9 H locs hB hP hD hS => ?_)
      obtain ⟨rfl, rfl⟩ := hB
      refine WG_eq (g2 := F0 m 56 ls []) rfl ?_
      refine lv_aload_n hx hb dX12_read_56 rfl (lv_at hl 0 rfl) ?_
      refine va_get (D := G) (C := RX12) (T := TX12) (N := 21) (v := .ref (a 13)) hx hb hts iu_X12 hown hK hP 0 rfl rfl 19 (by decide) (hts _ kw906) (fun _ h9 => h9) rfl dX12_read_57 ?_
      obtain ⟨t_19, hc20, hf⟩ := bd_e hf
      obtain ⟨mo_20, emo_20, hf⟩ := bl_e hf
      refine call_S (As := [.ref (a 13)]) (rest := []) hx hb hml hown hts hK hP hD hS hA hZ lkX12_57 (Ctr.up (W := (wl [lfM ct a mo_18])) (W' := (wl [lfM ct a (setA mo_18 12 t_19)])) (c_X12_begin l G ct sk sv (fun _ => a 13) n 83 (mo_18.2.1 12) hc20) [13] [0, 1, 2, 3, 4, 5, 6, 7, 8, 9, 10, 11, 12, 14] [0, 1, 2, 3, 4, 5, 6, 7, 8, 9, 10, 11, 12, 14, 13] rfl rfl rfl rfl (by decide) rfl rfl) ⟨Nat.le_of_ble_eq_true rfl, Nat.le_of_ble_eq_true rfl⟩ rfl hl.1 rfl (Nat.le_of_ble_eq_true rfl) dX12_read_60 ⟨Nat.le_of_ble_eq_true rfl, Nat.le_of_ble_eq_true rfl⟩ (fun r9 w9 H locs hB hP hD hS => ?_)
      obtain ⟨rfl, rfl⟩ := hB
      have hP : va_P G classes (wl [lfM ct a mo_20]) H := by rw [← emo_20]; exact hP
      have hD : va_D A (wl [lfM ct a mo_20]) := by rw [← emo_20]; exact hD
      refine WG_eq (g2 := F0 m 63 ls []) rfl ?_
      refine lv_iconst (v := 1) hx hb dX12_read_63 (by decide) ?_
      refine lv_istore_n (lv' := [(1, .int 1), (0, .ref (a 0))]) hx hb dX12_read_64 rfl hl (by decide) rfl (fun ls hl => ?_)
      obtain ⟨x_23, hx_23, hf⟩ := bs2_e hf
      refine L65 n mo_20 1 x_23 _ _ _ hP hD hS hl hx_23 ?_ ?_
      · intro xx exx H locs ls hP hD hS hl
        rw [exx] at hf
        obtain ⟨v1_21, mo_22⟩ := xx
        try dsimp only at hf
        have hP : va_P G classes (wl [lfM ct a mo_22]) H := hP
        have hD : va_D A (wl [lfM ct a mo_22]) := hD
        have hl : lv_has ls 3 [(1, .int v1_21), (0, .ref (a 0))] := hl
        refine lv_iconst (v := 0) hx hb dX12_read_105 (by decide) ?_
        refine lv_istore_n (lv' := [(2, .int 0), (1, .int v1_21), (0, .ref (a 0))]) hx hb dX12_read_106 rfl hl (by decide) rfl (fun ls hl => ?_)
        obtain ⟨mo_24, hx_25, hf⟩ := bd_e hf
        refine L107 n mo_22 v1_21 0 mo_24 _ _ _ hP hD hS hl hx_25 ?_
        intro x9 e9 H locs ls hP hD hS hl
        subst e9
        have hP : va_P G classes (wl [lfM ct a mo_24]) H := hP
        have hD : va_D A (wl [lfM ct a mo_24]) := hD
        have hl : lv_has ls 3 [(1, .int v1_21)] := hl
        refine lv_iload_n hx hb dX12_read_131 rfl (lv_at hl 0 rfl) ?_
        obtain ⟨e1, e2⟩ := inj2 (Option.some.inj hf)
        exact end_i (w' := (wl [lfM ct a mo_24])) hx hb hr hlocks hK hP hD hS dX12_read_132  ⟨by rw [← e1], by rw [← e2]⟩
      · intro rr err
        rw [err] at hf
        exact Option.some.inj hf
    · replace hf := bc_f hf c_17
      refine lv_bipush (v := (-10)) hx hb dX12_read_44 (by decide) ?_
      refine lv_aload_n hx hb dX12_read_46 rfl (lv_at hl 0 rfl) ?_
      refine va_get (D := G) (C := RX12) (T := TX12) (N := 21) (v := .int (mo_16.1 1)) hx hb hts iu_X12 hown hK hP 0 rfl rfl 15 (by decide) (hts _ kw902) (fun _ h9 => h9) rfl dX12_read_47 ?_
      refine lv_isub hx hb dX12_read_50 ?_
      obtain ⟨e1, e2⟩ := inj2 (Option.some.inj hf)
      exact end_i (w' := (wl [lfM ct a mo_16])) hx hb hr hlocks hK hP hD hS dX12_read_51  ⟨by rw [← e1], by rw [← e2]⟩
  · replace hf := bc_t hf c_15
    refine lv_bipush (v := (-10)) hx hb dX12_read_24 (by decide) ?_
    refine lv_aload_n hx hb dX12_read_26 rfl (lv_at hl 0 rfl) ?_
    refine va_get (D := G) (C := RX12) (T := TX12) (N := 21) (v := .int (mo_13.1 1)) hx hb hts iu_X12 hown hK hP 0 rfl rfl 15 (by decide) (hts _ kw902) (fun _ h9 => h9) rfl dX12_read_27 ?_
    refine lv_isub hx hb dX12_read_30 ?_
    obtain ⟨e1, e2⟩ := inj2 (Option.some.inj hf)
    exact end_i (w' := (wl [lfM ct a mo_13])) hx hb hr hlocks hK hP hD hS dX12_read_31  ⟨by rw [← e1], by rw [← e2]⟩
noncomputable def f_X12_sell_j174 (n : Nat) (mo : MV) (v4 : Int32) (v1 : Int32) (v2 : Int32) (v3 : Int32) (s0 : Int32) (s1 : Int32) : Option ((Int32 × MV) ⊕ (MV)) :=
  gd (vp_in s1 4) <|
  bl (setA mo 9 (upd (mo.2.1 9) (ix s1) s0)) fun mo_2 =>
  bl (v4 + 1) fun v4_3 =>
  some (.inl (v4_3, mo_2))
noncomputable def f_X12_sell_j156 (n : Nat) (mo : MV) (v7 : Int32) (v6 : Int32) (v4 : Int32) (v1 : Int32) (v2 : Int32) (v3 : Int32) (s0 : Int32) (s1 : Int32) : Option ((Int32 × MV) ⊕ (MV)) :=
  gd (vp_in s1 4) <|
  bl (setA mo 8 (upd (mo.2.1 8) (ix s1) s0)) fun mo_5 =>
  bc (v6 = 0) (f_X12_sell_j174 n mo_5 v4 v1 v2 v3 0 v4)
  (f_X12_sell_j174 n mo_5 v4 v1 v2 v3 v7 v4)
noncomputable def f_X12_sell_j137 (n : Nat) (mo : MV) (v6 : Int32) (v5 : Int32) (v4 : Int32) (v1 : Int32) (v2 : Int32) (v3 : Int32) (s0 : Int32) : Option ((Int32 × MV) ⊕ (MV)) :=
  bc (v5 = 0) (f_X12_sell_j156 n mo s0 v6 v4 v1 v2 v3 0 v4)
  (f_X12_sell_j156 n mo s0 v6 v4 v1 v2 v3 s0 v4)
noncomputable def f_X12_sell_j132 (n : Nat) (mo : MV) (v6 : Int32) (v5 : Int32) (v4 : Int32) (v1 : Int32) (v2 : Int32) (v3 : Int32) : Option ((Int32 × MV) ⊕ (MV)) :=
  bd (f_X12_postage n mo v3) fun r_8 =>
  f_X12_sell_j137 n mo v6 v5 v4 v1 v2 v3 r_8
noncomputable def f_X12_sell_j108 (n : Nat) (mo : MV) (v5 : Int32) (v4 : Int32) (v1 : Int32) (v2 : Int32) (v3 : Int32) (s0 : Int32) : Option ((Int32 × MV) ⊕ (MV)) :=
  bc (v5 = 0) (f_X12_sell_j132 n mo s0 v5 v4 v1 v2 v3)
  (bc (s0 = 0) (f_X12_sell_j132 n mo s0 v5 v4 v1 v2 v3)
  (bd (f_X12_postage n mo v3) fun r_11 =>
  f_X12_sell_j137 n mo s0 v5 v4 v1 v2 v3 ((r_11 / 2) - 1)))
noncomputable def f_X12_sell_j107 (n : Nat) (mo : MV) (v5 : Int32) (v4 : Int32) (v1 : Int32) (v2 : Int32) (v3 : Int32) : Option ((Int32 × MV) ⊕ (MV)) :=
  f_X12_sell_j108 n mo v5 v4 v1 v2 v3 0
noncomputable def f_X12_sell_j83 (n : Nat) (mo : MV) (v4 : Int32) (v1 : Int32) (v2 : Int32) (v3 : Int32) (s0 : Int32) : Option ((Int32 × MV) ⊕ (MV)) :=
  bc (v4 ≤ 1) (f_X12_sell_j107 n mo s0 v4 v1 v2 v3)
  (bd (f_X12_mayFrank n 235 (mo.2.1 0) v3 v2) fun r_13 =>
  bc (r_13 = 0) (f_X12_sell_j107 n mo s0 v4 v1 v2 v3)
  (f_X12_sell_j108 n mo s0 v4 v1 v2 v3 1))
noncomputable def f_X12_sell_j82 (n : Nat) (mo : MV) (v4 : Int32) (v1 : Int32) (v2 : Int32) (v3 : Int32) : Option ((Int32 × MV) ⊕ (MV)) :=
  f_X12_sell_j83 n mo v4 v1 v2 v3 0
noncomputable def f_X12_sell_b52 (n : Nat) (mo : MV) (v4 : Int32) (v1 : Int32) (v2 : Int32) (v3 : Int32) : Option ((Int32 × MV) ⊕ (MV)) :=
  bc (4 ≤ v4) (some (.inr mo))
  (bc ((v4 &&& 1) = 1) (bd (f_X12_mayFrank n 235 (mo.2.1 0) v3 v1) fun r_17 =>
  bc (r_17 = 0) (f_X12_sell_j82 n mo v4 v1 v2 v3)
  (f_X12_sell_j83 n mo v4 v1 v2 v3 1))
  (f_X12_sell_j82 n mo v4 v1 v2 v3))
noncomputable def f_X12_sell_l52 (fu : Nat) (n : Nat) (mo : MV) (v1 : Int32) (v2 : Int32) (v3 : Int32) (v4 : Int32) : Option (MV) :=
  lp (fun q => f_X12_sell_b52 n q.2 q.1 v1 v2 v3) fu (v4, mo)
noncomputable def f_X12_sell_j253 (n : Nat) (mo : MV) (v5 : Int32) (s0 : Int32) (s1 : Int32) : Option ((Int32 × Int32) ⊕ (Int32)) :=
  bl (s1 ||| s0) fun v4_19 =>
  bl (v5 + 1) fun v5_20 =>
  some (.inl (v5_20, v4_19))
noncomputable def f_X12_sell_j236 (n : Nat) (mo : MV) (v5 : Int32) (v4 : Int32) (s0 : Int32) : Option ((Int32 × Int32) ⊕ (Int32)) :=
  bc (s0 = 0) (f_X12_sell_j253 n mo v5 0 v4)
  (f_X12_sell_j253 n mo v5 (1 <<< (v5 &&& 31)) v4)
noncomputable def f_X12_sell_j235 (n : Nat) (mo : MV) (v5 : Int32) (v4 : Int32) : Option ((Int32 × Int32) ⊕ (Int32)) :=
  f_X12_sell_j236 n mo v5 v4 0
noncomputable def f_X12_sell_b187 (n : Nat) (mo : MV) (v5 : Int32) (v4 : Int32) : Option ((Int32 × Int32) ⊕ (Int32)) :=
  bc (4 ≤ v5) (some (.inr v4))
  (gd (vp_in v5 4) <|
  gd (vp_in (v5 ^^^ 1) 4) <|
  bc ((mo.2.1 8 (ix v5)) < (mo.2.1 8 (ix (v5 ^^^ 1)))) (f_X12_sell_j235 n mo v5 v4)
  (gd (vp_in v5 4) <|
  gd (vp_in (v5 ^^^ 2) 4) <|
  bc ((mo.2.1 9 (ix v5)) < (mo.2.1 9 (ix (v5 ^^^ 2)))) (f_X12_sell_j235 n mo v5 v4)
  (f_X12_sell_j236 n mo v5 v4 1)))
noncomputable def f_X12_sell_l187 (fu : Nat) (n : Nat) (mo : MV) (v5 : Int32) (v4 : Int32) : Option (Int32) :=
  lp (fun q => f_X12_sell_b187 n mo q.1 q.2) fu (v5, v4)
noncomputable def f_X12_sell_j29 (n : Nat) (mo : MV) : Option (Int32 × MV) :=
  bd2 (f_X12_bad n mo (-2)) fun r_29 mo_30 =>
  some (r_29, mo_30)
noncomputable def f_X12_sell (n : Nat) (mo : MV) (v1 : Int32) (v2 : Int32) (v3 : Int32) : Option (Int32 × MV) :=
  bd (f_X12_isMember n mo v1) fun r_31 =>
  bc (r_31 = 0) (f_X12_sell_j29 n mo)
  (bd (f_X12_isMember n mo v2) fun r_33 =>
  bc (r_33 = 0) (f_X12_sell_j29 n mo)
  (bc (v1 = v2) (f_X12_sell_j29 n mo)
  (bd (f_X12_isLetter n mo v3) fun r_36 =>
  bc (r_36 = 0) (f_X12_sell_j29 n mo)
  (bd (f_X12_lies n mo v3) fun r_38 =>
  bc (r_38 = 0) (bd2 (f_X12_no n mo) fun r_44 mo_45 =>
  some (r_44, mo_45))
  (bd (f_X12_sell_l52 n n mo v1 v2 v3 0) fun mo_40 =>
  bd (f_X12_sell_l187 n n mo_40 0 0) fun v4_42 =>
  some (v4_42, mo_40))))))
set_option maxHeartbeats 4000000 in
set_option maxRecDepth 100000 in
theorem c_X12_sell (l : Launch) (G : va_G) (ct : Nat → ClassId) (sk sv : Nat → Nat) (a : Nat → Nat) (n : Nat) (mo : MV) (v1 : Int32) (v2 : Int32) (v3 : Int32) {r : Int32} {mo' : MV} (hf : f_X12_sell n mo v1 v2 v3 = some (r, mo')) : Ctr (l, G, ct, sk, sv) mX12_sell 3 64 [.ref (a 0), .int v1, .int v2, .int v3] (wl [lfM ct a mo]) (wl [lfM ct a mo']) (some (.int r)) := by
  refine ctr_intro (by decide) (Nat.le_of_ble_eq_true rfl) ?_
  intro p e s m args below meth c A C hP hD hS hA ls hl
  obtain ⟨hx, hb, hml, hown, hts, hr, hlocks, hK, hnm, hZ⟩ := C
  have hb : c.code = cX12_sell := hb
  have hml : c.maxLocals = 8 := hml
  have hown : s.vm.findClass "SignedOutsideModel" = some m.cls := hown
  have hr : meth.sig.returnType = some .int := hr
  have hP : va_P G classes (wl [lfM ct a mo]) s.heap := hP
  have hD : va_D A (wl [lfM ct a mo]) := hD
  have hK : va_K G classes (TYS ct) s := hK
  have hl : lv_has ls 8 [(0, .ref (a 0)), (1, .int v1), (2, .int v2), (3, .int v3)] := hl
  have L52 : ∀ (fu : Nat) (mo : MV) (v1 : Int32) (v2 : Int32) (v3 : Int32) (v4 : Int32) (ex : MV) (H : Heap) (locs : List Loc) (ls : Array Slot), va_P G classes (wl [lfM ct a mo]) H → va_D A (wl [lfM ct a mo]) → va_S A s.heap H locs → lv_has ls 8 [(4, .int v4), (0, .ref (a 0)), (1, .int v1), (2, .int v2), (3, .int v3)] → f_X12_sell_l52 fu n mo v1 v2 v3 v4 = some ex → (∀ (x : MV), ex = x → ∀ (H : Heap) (locs : List Loc) (ls : Array Slot), va_P G classes (wl [lfM ct a x]) H → va_D A (wl [lfM ct a x]) → va_S A s.heap H locs → lv_has ls 8 [(0, .ref (a 0))] → WG l G ct sk sv p e (RM 3 64 0 0) s m args below meth c A (Eq2 (some (.int r)) (wl [lfM ct a mo'])) H locs (F0 m 181 ls [])) → WG l G ct sk sv p e (RM 3 64 0 0) s m args below meth c A (Eq2 (some (.int r)) (wl [lfM ct a mo'])) H locs (F0 m 52 ls []) := by
    intro fu
    induction fu with
    | zero =>
      intro mo v1 v2 v3 v4 ex H locs ls hP hD hS hl hf
      exact absurd hf (by unfold f_X12_sell_l52 lp; exact fun h => by cases h)
    | succ fu ih =>
      intro mo v1 v2 v3 v4 ex H locs ls hP hD hS hl hf hE
      unfold f_X12_sell_l52 at hf
      obtain ⟨q, hf, hor⟩ := lp_e hf
      have J174 : ∀ (mo : MV) (v4 : Int32) (s0 : Int32) (s1 : Int32) (H : Heap) (locs : List Loc) (ls : Array Slot), va_P G classes (wl [lfM ct a mo]) H → va_D A (wl [lfM ct a mo]) → va_S A s.heap H locs → lv_has ls 8 [(4, .int v4), (0, .ref (a 0)), (1, .int v1), (2, .int v2), (3, .int v3)] → f_X12_sell_j174 n mo v4 v1 v2 v3 s0 s1 = some q → WG l G ct sk sv p e (RM 3 64 0 0) s m args below meth c A (Eq2 (some (.int r)) (wl [lfM ct a mo'])) H locs (F0 m 174 ls [.int s0, .int s1, .ref (a 10)]) := by
        intro mo v4 s0 s1 H locs ls hP hD hS hl hf
        unfold f_X12_sell_j174 at hf
        obtain ⟨g_1, hf⟩ := gd_e hf
        obtain ⟨mo_2, emo_2, hf⟩ := bl_e hf
        refine va_iast hx hb hK hP hD hS 10 0 rfl rfl g_1 dX12_sell_174 (fun H locs hP hD hS => ?_)
        have hP : va_P G classes (wl [lfM ct a mo_2]) H := by rw [← emo_2]; exact hP
        have hD : va_D A (wl [lfM ct a mo_2]) := by rw [← emo_2]; exact hD
        obtain ⟨v4_3, ev4_3, hf⟩ := bl_e hf
        refine lv_iinc (v := v4_3) (lv' := [(4, .int v4_3), (0, .ref (a 0)), (1, .int v1), (2, .int v2), (3, .int v3)]) hx hb dX12_sell_175 hl (k := 0) rfl ev4_3 (by decide) rfl (fun ls hl => ?_)
        refine lv_goto (tgt := 52) hx hb dX12_sell_178 (by decide) ?_
        exact ih mo_2 v1 v2 v3 v4_3 ex _ _ _ hP hD hS hl (lp_inl hor hf) hE
      have J156 : ∀ (mo : MV) (v7 : Int32) (v6 : Int32) (v4 : Int32) (s0 : Int32) (s1 : Int32) (H : Heap) (locs : List Loc) (ls : Array Slot), va_P G classes (wl [lfM ct a mo]) H → va_D A (wl [lfM ct a mo]) → va_S A s.heap H locs → lv_has ls 8 [(7, .int v7), (6, .int v6), (4, .int v4), (0, .ref (a 0)), (1, .int v1), (2, .int v2), (3, .int v3)] → f_X12_sell_j156 n mo v7 v6 v4 v1 v2 v3 s0 s1 = some q → WG l G ct sk sv p e (RM 3 64 0 0) s m args below meth c A (Eq2 (some (.int r)) (wl [lfM ct a mo'])) H locs (F0 m 156 ls [.int s0, .int s1, .ref (a 9)]) := by
        intro mo v7 v6 v4 s0 s1 H locs ls hP hD hS hl hf
        unfold f_X12_sell_j156 at hf
        obtain ⟨g_4, hf⟩ := gd_e hf
        obtain ⟨mo_5, emo_5, hf⟩ := bl_e hf
        refine va_iast hx hb hK hP hD hS 9 0 rfl rfl g_4 dX12_sell_156 (fun H locs hP hD hS => ?_)
        have hP : va_P G classes (wl [lfM ct a mo_5]) H := by rw [← emo_5]; exact hP
        have hD : va_D A (wl [lfM ct a mo_5]) := by rw [← emo_5]; exact hD
        refine lv_aload_n hx hb dX12_sell_157 rfl (lv_at hl 3 rfl) ?_
        refine va_get (D := G) (C := RX12) (T := TX12) (N := 21) (v := .ref (a 10)) hx hb hts iu_X12 hown hK hP 0 rfl rfl 11 (by decide) (hts _ kw898) (fun _ h9 => h9) rfl dX12_sell_158 ?_
        refine lv_iload hx hb dX12_sell_161 (lv_at hl 2 rfl) ?_
        refine lv_iload hx hb dX12_sell_163 (lv_at hl 1 rfl) ?_
        refine lv_if_eq (tgt := 173) hx hb dX12_sell_165 (by decide) (fun c_6 => ?_) (fun c_6 => ?_)
        · replace hf := bc_t hf c_6
          refine lv_iconst (v := 0) hx hb dX12_sell_173 (by decide) ?_
          exact J174 mo_5 v4 0 v4 _ _ _ hP hD hS (lv_sub hl [2, 3, 4, 5, 6] rfl) hf
        · replace hf := bc_f hf c_6
          refine lv_iload hx hb dX12_sell_168 (lv_at hl 0 rfl) ?_
          refine lv_goto (tgt := 174) hx hb dX12_sell_170 (by decide) ?_
          exact J174 mo_5 v4 v7 v4 _ _ _ hP hD hS (lv_sub hl [2, 3, 4, 5, 6] rfl) hf
      have J137 : ∀ (mo : MV) (v6 : Int32) (v5 : Int32) (v4 : Int32) (s0 : Int32) (H : Heap) (locs : List Loc) (ls : Array Slot), va_P G classes (wl [lfM ct a mo]) H → va_D A (wl [lfM ct a mo]) → va_S A s.heap H locs → lv_has ls 8 [(6, .int v6), (5, .int v5), (4, .int v4), (0, .ref (a 0)), (1, .int v1), (2, .int v2), (3, .int v3)] → f_X12_sell_j137 n mo v6 v5 v4 v1 v2 v3 s0 = some q → WG l G ct sk sv p e (RM 3 64 0 0) s m args below meth c A (Eq2 (some (.int r)) (wl [lfM ct a mo'])) H locs (F0 m 137 ls [.int s0]) := by
        intro mo v6 v5 v4 s0 H locs ls hP hD hS hl hf
        unfold f_X12_sell_j137 at hf
        refine lv_istore (lv' := [(7, .int s0), (6, .int v6), (5, .int v5), (4, .int v4), (0, .ref (a 0)), (1, .int v1), (2, .int v2), (3, .int v3)]) hx hb dX12_sell_137 hl (by decide) rfl (fun ls hl => ?_)
        refine lv_aload_n hx hb dX12_sell_139 rfl (lv_at hl 4 rfl) ?_
        refine va_get (D := G) (C := RX12) (T := TX12) (N := 21) (v := .ref (a 9)) hx hb hts iu_X12 hown hK hP 0 rfl rfl 10 (by decide) (hts _ kw897) (fun _ h9 => h9) rfl dX12_sell_140 ?_
        refine lv_iload hx hb dX12_sell_143 (lv_at hl 3 rfl) ?_
        refine lv_iload hx hb dX12_sell_145 (lv_at hl 2 rfl) ?_
        refine lv_if_eq (tgt := 155) hx hb dX12_sell_147 (by decide) (fun c_7 => ?_) (fun c_7 => ?_)
        · replace hf := bc_t hf c_7
          refine lv_iconst (v := 0) hx hb dX12_sell_155 (by decide) ?_
          exact J156 mo s0 v6 v4 0 v4 _ _ _ hP hD hS (lv_sub hl [0, 1, 3, 4, 5, 6, 7] rfl) hf
        · replace hf := bc_f hf c_7
          refine lv_iload hx hb dX12_sell_150 (lv_at hl 0 rfl) ?_
          refine lv_goto (tgt := 156) hx hb dX12_sell_152 (by decide) ?_
          exact J156 mo s0 v6 v4 s0 v4 _ _ _ hP hD hS (lv_sub hl [0, 1, 3, 4, 5, 6, 7] rfl) hf
      have J132 : ∀ (mo : MV) (v6 : Int32) (v5 : Int32) (v4 : Int32) (H : Heap) (locs : List Loc) (ls : Array Slot), va_P G classes (wl [lfM ct a mo]) H → va_D A (wl [lfM ct a mo]) → va_S A s.heap H locs → lv_has ls 8 [(6, .int v6), (5, .int v5), (4, .int v4), (0, .ref (a 0)), (1, .int v1), (2, .int v2), (3, .int v3)] → f_X12_sell_j132 n mo v6 v5 v4 v1 v2 v3 = some q → WG l G ct sk sv p e (RM 3 64 0 0) s m args below meth c A (Eq2 (some (.int r)) (wl [lfM ct a mo'])) H locs (F0 m 132 ls []) := by
        intro mo v6 v5 v4 H locs ls hP hD hS hl hf
        unfold f_X12_sell_j132 at hf
        refine lv_aload_n hx hb dX12_sell_132 rfl (lv_at hl 3 rfl) ?_
        refine lv_iload_n hx hb dX12_sell_133 rfl (lv_at hl 6 rfl) ?_
        obtain ⟨r_8, hc8, hf⟩ := bd_e hf
        refine call_V (As := [.int v3]) (rest := []) hx hb hml hown hts hK hP hD hS hA hZ lkX12_137 (c_X12_postage l G ct sk sv a n mo v3 hc8) 0 rfl rfl ⟨Nat.le_of_ble_eq_true rfl, Nat.le_of_ble_eq_true rfl⟩ rfl hl.1 rfl (Nat.le_of_ble_eq_true rfl) dX12_sell_134 ⟨Nat.le_of_ble_eq_true rfl, Nat.le_of_ble_eq_true rfl⟩ (fun r9 w9 H locs hB hP hD hS => ?_)
        obtain ⟨rfl, rfl⟩ := hB
        refine WG_eq (g2 := F0 m 137 ls [.int r_8]) rfl ?_
        exact J137 mo v6 v5 v4 r_8 _ _ _ hP hD hS hl hf
      have J108 : ∀ (mo : MV) (v5 : Int32) (v4 : Int32) (s0 : Int32) (H : Heap) (locs : List Loc) (ls : Array Slot), va_P G classes (wl [lfM ct a mo]) H → va_D A (wl [lfM ct a mo]) → va_S A s.heap H locs → lv_has ls 8 [(5, .int v5), (4, .int v4), (0, .ref (a 0)), (1, .int v1), (2, .int v2), (3, .int v3)] → f_X12_sell_j108 n mo v5 v4 v1 v2 v3 s0 = some q → WG l G ct sk sv p e (RM 3 64 0 0) s m args below meth c A (Eq2 (some (.int r)) (wl [lfM ct a mo'])) H locs (F0 m 108 ls [.int s0]) := by
        intro mo v5 v4 s0 H locs ls hP hD hS hl hf
        unfold f_X12_sell_j108 at hf
        refine lv_istore (lv' := [(6, .int s0), (5, .int v5), (4, .int v4), (0, .ref (a 0)), (1, .int v1), (2, .int v2), (3, .int v3)]) hx hb dX12_sell_108 hl (by decide) rfl (fun ls hl => ?_)
        refine lv_iload hx hb dX12_sell_110 (lv_at hl 1 rfl) ?_
        refine lv_if_eq (tgt := 132) hx hb dX12_sell_112 (by decide) (fun c_9 => ?_) (fun c_9 => ?_)
        · replace hf := bc_t hf c_9
          exact J132 mo s0 v5 v4 _ _ _ hP hD hS hl hf
        · replace hf := bc_f hf c_9
          refine lv_iload hx hb dX12_sell_115 (lv_at hl 0 rfl) ?_
          refine lv_if_eq (tgt := 132) hx hb dX12_sell_117 (by decide) (fun c_10 => ?_) (fun c_10 => ?_)
          · replace hf := bc_t hf c_10
            exact J132 mo s0 v5 v4 _ _ _ hP hD hS hl hf
          · replace hf := bc_f hf c_10
            refine lv_aload_n hx hb dX12_sell_120 rfl (lv_at hl 3 rfl) ?_
            refine lv_iload_n hx hb dX12_sell_121 rfl (lv_at hl 6 rfl) ?_
            obtain ⟨r_11, hc11, hf⟩ := bd_e hf
            refine call_V (As := [.int v3]) (rest := []) hx hb hml hown hts hK hP hD hS hA hZ lkX12_137 (c_X12_postage l G ct sk sv a n mo v3 hc11) 0 rfl rfl ⟨Nat.le_of_ble_eq_true rfl, Nat.le_of_ble_eq_true rfl⟩ rfl hl.1 rfl (Nat.le_of_ble_eq_true rfl) dX12_sell_122 ⟨Nat.le_of_ble_eq_true rfl, Nat.le_of_ble_eq_true rfl⟩ (fun r9 w9 H locs hB hP hD hS => ?_)
            obtain ⟨rfl, rfl⟩ := hB
            refine WG_eq (g2 := F0 m 125 ls [.int r_11]) rfl ?_
            refine lv_iconst (v := 2) hx hb dX12_sell_125 (by decide) ?_
            refine lv_idiv hx hb dX12_sell_126 (by decide) ?_
            refine lv_iconst (v := 1) hx hb dX12_sell_127 (by decide) ?_
            refine lv_isub hx hb dX12_sell_128 ?_
            refine lv_goto (tgt := 137) hx hb dX12_sell_129 (by decide) ?_
            exact J137 mo s0 v5 v4 ((r_11 / 2) - 1) _ _ _ hP hD hS hl hf
      have J107 : ∀ (mo : MV) (v5 : Int32) (v4 : Int32) (H : Heap) (locs : List Loc) (ls : Array Slot), va_P G classes (wl [lfM ct a mo]) H → va_D A (wl [lfM ct a mo]) → va_S A s.heap H locs → lv_has ls 8 [(5, .int v5), (4, .int v4), (0, .ref (a 0)), (1, .int v1), (2, .int v2), (3, .int v3)] → f_X12_sell_j107 n mo v5 v4 v1 v2 v3 = some q → WG l G ct sk sv p e (RM 3 64 0 0) s m args below meth c A (Eq2 (some (.int r)) (wl [lfM ct a mo'])) H locs (F0 m 107 ls []) := by
        intro mo v5 v4 H locs ls hP hD hS hl hf
        unfold f_X12_sell_j107 at hf
        refine lv_iconst (v := 0) hx hb dX12_sell_107 (by decide) ?_
        exact J108 mo v5 v4 0 _ _ _ hP hD hS hl hf
      have J83 : ∀ (mo : MV) (v4 : Int32) (s0 : Int32) (H : Heap) (locs : List Loc) (ls : Array Slot), va_P G classes (wl [lfM ct a mo]) H → va_D A (wl [lfM ct a mo]) → va_S A s.heap H locs → lv_has ls 8 [(4, .int v4), (0, .ref (a 0)), (1, .int v1), (2, .int v2), (3, .int v3)] → f_X12_sell_j83 n mo v4 v1 v2 v3 s0 = some q → WG l G ct sk sv p e (RM 3 64 0 0) s m args below meth c A (Eq2 (some (.int r)) (wl [lfM ct a mo'])) H locs (F0 m 83 ls [.int s0]) := by
        intro mo v4 s0 H locs ls hP hD hS hl hf
        unfold f_X12_sell_j83 at hf
        refine lv_istore (lv' := [(5, .int s0), (4, .int v4), (0, .ref (a 0)), (1, .int v1), (2, .int v2), (3, .int v3)]) hx hb dX12_sell_83 hl (by decide) rfl (fun ls hl => ?_)
        refine lv_iload hx hb dX12_sell_85 (lv_at hl 1 rfl) ?_
        refine lv_iconst (v := 1) hx hb dX12_sell_87 (by decide) ?_
        refine lv_icmp_le (tgt := 107) hx hb dX12_sell_88 (by decide) (fun c_12 => ?_) (fun c_12 => ?_)
        · replace hf := bc_t hf c_12
          exact J107 mo s0 v4 _ _ _ hP hD hS hl hf
        · replace hf := bc_f hf c_12
          refine lv_aload_n hx hb dX12_sell_91 rfl (lv_at hl 2 rfl) ?_
          refine va_get (D := G) (C := RX12) (T := TX12) (N := 21) (v := .ref (a 1)) hx hb hts iu_X12 hown hK hP 0 rfl rfl 0 (by decide) (hts _ kw887) (fun _ h9 => h9) rfl dX12_sell_92 ?_
          refine lv_iload_n hx hb dX12_sell_95 rfl (lv_at hl 5 rfl) ?_
          refine lv_iload_n hx hb dX12_sell_96 rfl (lv_at hl 4 rfl) ?_
          obtain ⟨r_13, hc13, hf⟩ := bd_e hf
          refine call_S (As := [.ref (a 1), .int v3, .int v2]) (rest := []) hx hb hml hown hts hK hP hD hS hA hZ lkX12_120 (Ctr.up (W := (wl [lfM ct a mo])) (W' := (wl [lfM ct a mo])) (c_X12_mayFrank l G ct sk sv (fun _ => a 1) n 235 (mo.2.1 0) v3 v2 hc13) [1] [0, 2, 3, 4, 5, 6, 7, 8, 9, 10, 11, 12, 13, 14] [0, 14, 1, 2, 3, 4, 5, 6, 7, 8, 9, 10, 11, 12, 13] rfl rfl rfl rfl (by decide) rfl rfl) ⟨Nat.le_of_ble_eq_true rfl, Nat.le_of_ble_eq_true rfl⟩ rfl hl.1 rfl (Nat.le_of_ble_eq_true rfl) dX12_sell_97 ⟨Nat.le_of_ble_eq_true rfl, Nat.le_of_ble_eq_true rfl⟩ (fun r9 w9 H locs hB hP hD hS => ?_)
          obtain ⟨rfl, rfl⟩ := hB
          refine WG_eq (g2 := F0 m 100 ls [.int r_13]) rfl ?_
          refine lv_if_eq (tgt := 107) hx hb dX12_sell_100 (by decide) (fun c_14 => ?_) (fun c_14 => ?_)
          · replace hf := bc_t hf c_14
            exact J107 mo s0 v4 _ _ _ hP hD hS hl hf
          · replace hf := bc_f hf c_14
            refine lv_iconst (v := 1) hx hb dX12_sell_103 (by decide) ?_
            refine lv_goto (tgt := 108) hx hb dX12_sell_104 (by decide) ?_
            exact J108 mo s0 v4 1 _ _ _ hP hD hS hl hf
      have J82 : ∀ (mo : MV) (v4 : Int32) (H : Heap) (locs : List Loc) (ls : Array Slot), va_P G classes (wl [lfM ct a mo]) H → va_D A (wl [lfM ct a mo]) → va_S A s.heap H locs → lv_has ls 8 [(4, .int v4), (0, .ref (a 0)), (1, .int v1), (2, .int v2), (3, .int v3)] → f_X12_sell_j82 n mo v4 v1 v2 v3 = some q → WG l G ct sk sv p e (RM 3 64 0 0) s m args below meth c A (Eq2 (some (.int r)) (wl [lfM ct a mo'])) H locs (F0 m 82 ls []) := by
        intro mo v4 H locs ls hP hD hS hl hf
        unfold f_X12_sell_j82 at hf
        refine lv_iconst (v := 0) hx hb dX12_sell_82 (by decide) ?_
        exact J83 mo v4 0 _ _ _ hP hD hS hl hf
      replace hf : f_X12_sell_b52 n mo v4 v1 v2 v3 = some q := hf
      unfold f_X12_sell_b52 at hf
      refine lv_iload hx hb dX12_sell_52 (lv_at hl 0 rfl) ?_
      refine lv_iconst (v := 4) hx hb dX12_sell_54 (by decide) ?_
      refine lv_icmp_ge (tgt := 181) hx hb dX12_sell_55 (by decide) (fun c_15 => ?_) (fun c_15 => ?_)
      · replace hf := bc_t hf c_15
        exact hE mo (lp_inr hor hf).symm _ _ _ hP hD hS (lv_sub hl [1] rfl)
      · replace hf := bc_f hf c_15
        refine lv_iload hx hb dX12_sell_58 (lv_at hl 0 rfl) ?_
        refine lv_iconst (v := 1) hx hb dX12_sell_60 (by decide) ?_
        refine lv_iand hx hb dX12_sell_61 ?_
        refine lv_iconst (v := 1) hx hb dX12_sell_62 (by decide) ?_
        refine lv_icmp_ne (tgt := 82) hx hb dX12_sell_63 (by decide) (fun c_16 => ?_) (fun c_16 => ?_)
        · replace hf := bc_f hf c_16
          exact J82 mo v4 _ _ _ hP hD hS hl hf
        · replace hf := bc_t hf c_16
          refine lv_aload_n hx hb dX12_sell_66 rfl (lv_at hl 1 rfl) ?_
          refine va_get (D := G) (C := RX12) (T := TX12) (N := 21) (v := .ref (a 1)) hx hb hts iu_X12 hown hK hP 0 rfl rfl 0 (by decide) (hts _ kw887) (fun _ h9 => h9) rfl dX12_sell_67 ?_
          refine lv_iload_n hx hb dX12_sell_70 rfl (lv_at hl 4 rfl) ?_
          refine lv_iload_n hx hb dX12_sell_71 rfl (lv_at hl 2 rfl) ?_
          obtain ⟨r_17, hc17, hf⟩ := bd_e hf
          refine call_S (As := [.ref (a 1), .int v3, .int v1]) (rest := []) hx hb hml hown hts hK hP hD hS hA hZ lkX12_120 (Ctr.up (W := (wl [lfM ct a mo])) (W' := (wl [lfM ct a mo])) (c_X12_mayFrank l G ct sk sv (fun _ => a 1) n 235 (mo.2.1 0) v3 v1 hc17) [1] [0, 2, 3, 4, 5, 6, 7, 8, 9, 10, 11, 12, 13, 14] [0, 14, 1, 2, 3, 4, 5, 6, 7, 8, 9, 10, 11, 12, 13] rfl rfl rfl rfl (by decide) rfl rfl) ⟨Nat.le_of_ble_eq_true rfl, Nat.le_of_ble_eq_true rfl⟩ rfl hl.1 rfl (Nat.le_of_ble_eq_true rfl) dX12_sell_72 ⟨Nat.le_of_ble_eq_true rfl, Nat.le_of_ble_eq_true rfl⟩ (fun r9 w9 H locs hB hP hD hS => ?_)
          obtain ⟨rfl, rfl⟩ := hB
          refine WG_eq (g2 := F0 m 75 ls [.int r_17]) rfl ?_
          refine lv_if_eq (tgt := 82) hx hb dX12_sell_75 (by decide) (fun c_18 => ?_) (fun c_18 => ?_)
          · replace hf := bc_t hf c_18
            exact J82 mo v4 _ _ _ hP hD hS hl hf
          · replace hf := bc_f hf c_18
            refine lv_iconst (v := 1) hx hb dX12_sell_78 (by decide) ?_
            refine lv_goto (tgt := 83) hx hb dX12_sell_79 (by decide) ?_
            exact J83 mo v4 1 _ _ _ hP hD hS hl hf
  have L187 : ∀ (fu : Nat) (mo : MV) (v5 : Int32) (v4 : Int32) (ex : Int32) (H : Heap) (locs : List Loc) (ls : Array Slot), va_P G classes (wl [lfM ct a mo]) H → va_D A (wl [lfM ct a mo]) → va_S A s.heap H locs → lv_has ls 8 [(5, .int v5), (4, .int v4), (0, .ref (a 0))] → f_X12_sell_l187 fu n mo v5 v4 = some ex → (∀ (x : Int32), ex = x → ∀ (H : Heap) (locs : List Loc) (ls : Array Slot), va_P G classes (wl [lfM ct a mo]) H → va_D A (wl [lfM ct a mo]) → va_S A s.heap H locs → lv_has ls 8 [(4, .int x)] → WG l G ct sk sv p e (RM 3 64 0 0) s m args below meth c A (Eq2 (some (.int r)) (wl [lfM ct a mo'])) H locs (F0 m 262 ls [])) → WG l G ct sk sv p e (RM 3 64 0 0) s m args below meth c A (Eq2 (some (.int r)) (wl [lfM ct a mo'])) H locs (F0 m 187 ls []) := by
    intro fu
    induction fu with
    | zero =>
      intro mo v5 v4 ex H locs ls hP hD hS hl hf
      exact absurd hf (by unfold f_X12_sell_l187 lp; exact fun h => by cases h)
    | succ fu ih =>
      intro mo v5 v4 ex H locs ls hP hD hS hl hf hE
      unfold f_X12_sell_l187 at hf
      obtain ⟨q, hf, hor⟩ := lp_e hf
      have J253 : ∀ (v5 : Int32) (s0 : Int32) (s1 : Int32) (H : Heap) (locs : List Loc) (ls : Array Slot), va_P G classes (wl [lfM ct a mo]) H → va_D A (wl [lfM ct a mo]) → va_S A s.heap H locs → lv_has ls 8 [(5, .int v5), (0, .ref (a 0))] → f_X12_sell_j253 n mo v5 s0 s1 = some q → WG l G ct sk sv p e (RM 3 64 0 0) s m args below meth c A (Eq2 (some (.int r)) (wl [lfM ct a mo'])) H locs (F0 m 253 ls [.int s0, .int s1]) := by
        intro v5 s0 s1 H locs ls hP hD hS hl hf
        unfold f_X12_sell_j253 at hf
        refine lv_ior hx hb dX12_sell_253 ?_
        refine lv_topi (fun v4_19 ev4_19 => ?_)
        replace hf := bl_i hf ev4_19
        refine lv_istore (lv' := [(4, .int v4_19), (5, .int v5), (0, .ref (a 0))]) hx hb dX12_sell_254 hl (by decide) rfl (fun ls hl => ?_)
        obtain ⟨v5_20, ev5_20, hf⟩ := bl_e hf
        refine lv_iinc (v := v5_20) (lv' := [(5, .int v5_20), (4, .int v4_19), (0, .ref (a 0))]) hx hb dX12_sell_256 hl (k := 1) rfl ev5_20 (by decide) rfl (fun ls hl => ?_)
        refine lv_goto (tgt := 187) hx hb dX12_sell_259 (by decide) ?_
        exact ih mo v5_20 v4_19 ex _ _ _ hP hD hS hl (lp_inl hor hf) hE
      have J236 : ∀ (v5 : Int32) (v4 : Int32) (s0 : Int32) (H : Heap) (locs : List Loc) (ls : Array Slot), va_P G classes (wl [lfM ct a mo]) H → va_D A (wl [lfM ct a mo]) → va_S A s.heap H locs → lv_has ls 8 [(5, .int v5), (4, .int v4), (0, .ref (a 0))] → f_X12_sell_j236 n mo v5 v4 s0 = some q → WG l G ct sk sv p e (RM 3 64 0 0) s m args below meth c A (Eq2 (some (.int r)) (wl [lfM ct a mo'])) H locs (F0 m 236 ls [.int s0]) := by
        intro v5 v4 s0 H locs ls hP hD hS hl hf
        unfold f_X12_sell_j236 at hf
        refine lv_istore (lv' := [(6, .int s0), (5, .int v5), (4, .int v4), (0, .ref (a 0))]) hx hb dX12_sell_236 hl (by decide) rfl (fun ls hl => ?_)
        refine lv_iload hx hb dX12_sell_238 (lv_at hl 2 rfl) ?_
        refine lv_iload hx hb dX12_sell_240 (lv_at hl 0 rfl) ?_
        refine lv_if_eq (tgt := 252) hx hb dX12_sell_242 (by decide) (fun c_21 => ?_) (fun c_21 => ?_)
        · replace hf := bc_t hf c_21
          refine lv_iconst (v := 0) hx hb dX12_sell_252 (by decide) ?_
          exact J253 v5 0 v4 _ _ _ hP hD hS (lv_sub hl [1, 3] rfl) hf
        · replace hf := bc_f hf c_21
          refine lv_iconst (v := 1) hx hb dX12_sell_245 (by decide) ?_
          refine lv_iload hx hb dX12_sell_246 (lv_at hl 1 rfl) ?_
          refine lv_ishl hx hb dX12_sell_248 ?_
          refine lv_goto (tgt := 253) hx hb dX12_sell_249 (by decide) ?_
          exact J253 v5 (1 <<< (v5 &&& 31)) v4 _ _ _ hP hD hS (lv_sub hl [1, 3] rfl) hf
      have J235 : ∀ (v5 : Int32) (v4 : Int32) (H : Heap) (locs : List Loc) (ls : Array Slot), va_P G classes (wl [lfM ct a mo]) H → va_D A (wl [lfM ct a mo]) → va_S A s.heap H locs → lv_has ls 8 [(5, .int v5), (4, .int v4), (0, .ref (a 0))] → f_X12_sell_j235 n mo v5 v4 = some q → WG l G ct sk sv p e (RM 3 64 0 0) s m args below meth c A (Eq2 (some (.int r)) (wl [lfM ct a mo'])) H locs (F0 m 235 ls []) := by
        intro v5 v4 H locs ls hP hD hS hl hf
        unfold f_X12_sell_j235 at hf
        refine lv_iconst (v := 0) hx hb dX12_sell_235 (by decide) ?_
        exact J236 v5 v4 0 _ _ _ hP hD hS hl hf
      replace hf : f_X12_sell_b187 n mo v5 v4 = some q := hf
      unfold f_X12_sell_b187 at hf
      refine lv_iload hx hb dX12_sell_187 (lv_at hl 0 rfl) ?_
      refine lv_iconst (v := 4) hx hb dX12_sell_189 (by decide) ?_
      refine lv_icmp_ge (tgt := 262) hx hb dX12_sell_190 (by decide) (fun c_22 => ?_) (fun c_22 => ?_)
      · replace hf := bc_t hf c_22
        exact hE v4 (lp_inr hor hf).symm _ _ _ hP hD hS (lv_sub hl [1] rfl)
      · replace hf := bc_f hf c_22
        refine lv_aload_n hx hb dX12_sell_193 rfl (lv_at hl 2 rfl) ?_
        refine va_get (D := G) (C := RX12) (T := TX12) (N := 21) (v := .ref (a 9)) hx hb hts iu_X12 hown hK hP 0 rfl rfl 10 (by decide) (hts _ kw897) (fun _ h9 => h9) rfl dX12_sell_194 ?_
        refine lv_iload hx hb dX12_sell_197 (lv_at hl 0 rfl) ?_
        obtain ⟨g_23, hf⟩ := gd_e hf
        refine va_iald (f := mo.2.1 8) hx hb hK hP 9 0 rfl rfl g_23 dX12_sell_199 ?_
        refine lv_aload_n hx hb dX12_sell_200 rfl (lv_at hl 2 rfl) ?_
        refine va_get (D := G) (C := RX12) (T := TX12) (N := 21) (v := .ref (a 9)) hx hb hts iu_X12 hown hK hP 0 rfl rfl 10 (by decide) (hts _ kw897) (fun _ h9 => h9) rfl dX12_sell_201 ?_
        refine lv_iload hx hb dX12_sell_204 (lv_at hl 0 rfl) ?_
        refine lv_iconst (v := 1) hx hb dX12_sell_206 (by decide) ?_
        refine lv_ixor hx hb dX12_sell_207 ?_
        obtain ⟨g_24, hf⟩ := gd_e hf
        refine va_iald (f := mo.2.1 8) hx hb hK hP 9 0 rfl rfl g_24 dX12_sell_208 ?_
        refine lv_icmp_lt (tgt := 235) hx hb dX12_sell_209 (by decide) (fun c_25 => ?_) (fun c_25 => ?_)
        · replace hf := bc_t hf c_25
          exact J235 v5 v4 _ _ _ hP hD hS hl hf
        · replace hf := bc_f hf c_25
          refine lv_aload_n hx hb dX12_sell_212 rfl (lv_at hl 2 rfl) ?_
          refine va_get (D := G) (C := RX12) (T := TX12) (N := 21) (v := .ref (a 10)) hx hb hts iu_X12 hown hK hP 0 rfl rfl 11 (by decide) (hts _ kw898) (fun _ h9 => h9) rfl dX12_sell_213 ?_
          refine lv_iload hx hb dX12_sell_216 (lv_at hl 0 rfl) ?_
          obtain ⟨g_26, hf⟩ := gd_e hf
          refine va_iald (f := mo.2.1 9) hx hb hK hP 10 0 rfl rfl g_26 dX12_sell_218 ?_
          refine lv_aload_n hx hb dX12_sell_219 rfl (lv_at hl 2 rfl) ?_
          refine va_get (D := G) (C := RX12) (T := TX12) (N := 21) (v := .ref (a 10)) hx hb hts iu_X12 hown hK hP 0 rfl rfl 11 (by decide) (hts _ kw898) (fun _ h9 => h9) rfl dX12_sell_220 ?_
          refine lv_iload hx hb dX12_sell_223 (lv_at hl 0 rfl) ?_
          refine lv_iconst (v := 2) hx hb dX12_sell_225 (by decide) ?_
          refine lv_ixor hx hb dX12_sell_226 ?_
          obtain ⟨g_27, hf⟩ := gd_e hf
          refine va_iald (f := mo.2.1 9) hx hb hK hP 10 0 rfl rfl g_27 dX12_sell_227 ?_
          refine lv_icmp_lt (tgt := 235) hx hb dX12_sell_228 (by decide) (fun c_28 => ?_) (fun c_28 => ?_)
          · replace hf := bc_t hf c_28
            exact J235 v5 v4 _ _ _ hP hD hS hl hf
          · replace hf := bc_f hf c_28
            refine lv_iconst (v := 1) hx hb dX12_sell_231 (by decide) ?_
            refine lv_goto (tgt := 236) hx hb dX12_sell_232 (by decide) ?_
            exact J236 v5 v4 1 _ _ _ hP hD hS hl hf
  have J29 : ∀ (mo : MV) (H : Heap) (locs : List Loc) (ls : Array Slot), va_P G classes (wl [lfM ct a mo]) H → va_D A (wl [lfM ct a mo]) → va_S A s.heap H locs → lv_has ls 8 [(0, .ref (a 0))] → f_X12_sell_j29 n mo = some (r, mo') → WG l G ct sk sv p e (RM 3 64 0 0) s m args below meth c A (Eq2 (some (.int r)) (wl [lfM ct a mo'])) H locs (F0 m 29 ls []) := by
    intro mo H locs ls hP hD hS hl hf
    unfold f_X12_sell_j29 at hf
    refine lv_aload_n hx hb dX12_sell_29 rfl (lv_at hl 0 rfl) ?_
    refine lv_bipush (v := (-2)) hx hb dX12_sell_30 (by decide) ?_
    obtain ⟨r_29, mo_30, hc30, hf⟩ := bd2_e hf
    refine call_V (As := [.int (-2)]) (rest := []) hx hb hml hown hts hK hP hD hS hA hZ lkX12_80 (c_X12_bad l G ct sk sv a n mo (-2) hc30) 0 rfl rfl ⟨Nat.le_of_ble_eq_true rfl, Nat.le_of_ble_eq_true rfl⟩ rfl hl.1 rfl (Nat.le_of_ble_eq_true rfl) dX12_sell_32 ⟨Nat.le_of_ble_eq_true rfl, Nat.le_of_ble_eq_true rfl⟩ (fun r9 w9 H locs hB hP hD hS => ?_)
    obtain ⟨rfl, rfl⟩ := hB
    refine WG_eq (g2 := F0 m 35 ls [.int r_29]) rfl ?_
    obtain ⟨e1, e2⟩ := inj2 (Option.some.inj hf)
    exact end_i (w' := (wl [lfM ct a mo_30])) hx hb hr hlocks hK hP hD hS dX12_sell_35  ⟨by rw [← e1], by rw [← e2]⟩
  unfold f_X12_sell at hf
  show WG l G ct sk sv p e (RM 3 64 0 0) s m args below meth c A (Eq2 (some (.int r)) (wl [lfM ct a mo'])) s.heap [] (F0 m 0 ls [])
  refine lv_aload_n hx hb dX12_sell_0 rfl (lv_at hl 0 rfl) ?_
  refine lv_iload_n hx hb dX12_sell_1 rfl (lv_at hl 1 rfl) ?_
  obtain ⟨r_31, hc31, hf⟩ := bd_e hf
  refine call_V (As := [.int v1]) (rest := []) hx hb hml hown hts hK hP hD hS hA hZ lkX12_117 (c_X12_isMember l G ct sk sv a n mo v1 hc31) 0 rfl rfl ⟨Nat.le_of_ble_eq_true rfl, Nat.le_of_ble_eq_true rfl⟩ rfl hl.1 rfl (Nat.le_of_ble_eq_true rfl) dX12_sell_2 ⟨Nat.le_of_ble_eq_true rfl, Nat.le_of_ble_eq_true rfl⟩ (fun r9 w9 H locs hB hP hD hS => ?_)
  obtain ⟨rfl, rfl⟩ := hB
  refine WG_eq (g2 := F0 m 5 ls [.int r_31]) rfl ?_
  refine lv_if_eq (tgt := 29) hx hb dX12_sell_5 (by decide) (fun c_32 => ?_) (fun c_32 => ?_)
  · replace hf := bc_t hf c_32
    exact J29 mo _ _ _ hP hD hS (lv_sub hl [0] rfl) hf
  · replace hf := bc_f hf c_32
    refine lv_aload_n hx hb dX12_sell_8 rfl (lv_at hl 0 rfl) ?_
    refine lv_iload_n hx hb dX12_sell_9 rfl (lv_at hl 2 rfl) ?_
    obtain ⟨r_33, hc33, hf⟩ := bd_e hf
    refine call_V (As := [.int v2]) (rest := []) hx hb hml hown hts hK hP hD hS hA hZ lkX12_117 (c_X12_isMember l G ct sk sv a n mo v2 hc33) 0 rfl rfl ⟨Nat.le_of_ble_eq_true rfl, Nat.le_of_ble_eq_true rfl⟩ rfl hl.1 rfl (Nat.le_of_ble_eq_true rfl) dX12_sell_10 ⟨Nat.le_of_ble_eq_true rfl, Nat.le_of_ble_eq_true rfl⟩ (fun r9 w9 H locs hB hP hD hS => ?_)
    obtain ⟨rfl, rfl⟩ := hB
    refine WG_eq (g2 := F0 m 13 ls [.int r_33]) rfl ?_
    refine lv_if_eq (tgt := 29) hx hb dX12_sell_13 (by decide) (fun c_34 => ?_) (fun c_34 => ?_)
    · replace hf := bc_t hf c_34
      exact J29 mo _ _ _ hP hD hS (lv_sub hl [0] rfl) hf
    · replace hf := bc_f hf c_34
      refine lv_iload_n hx hb dX12_sell_16 rfl (lv_at hl 1 rfl) ?_
      refine lv_iload_n hx hb dX12_sell_17 rfl (lv_at hl 2 rfl) ?_
      refine lv_icmp_eq (tgt := 29) hx hb dX12_sell_18 (by decide) (fun c_35 => ?_) (fun c_35 => ?_)
      · replace hf := bc_t hf c_35
        exact J29 mo _ _ _ hP hD hS (lv_sub hl [0] rfl) hf
      · replace hf := bc_f hf c_35
        refine lv_aload_n hx hb dX12_sell_21 rfl (lv_at hl 0 rfl) ?_
        refine lv_iload_n hx hb dX12_sell_22 rfl (lv_at hl 3 rfl) ?_
        obtain ⟨r_36, hc36, hf⟩ := bd_e hf
        refine call_V (As := [.int v3]) (rest := []) hx hb hml hown hts hK hP hD hS hA hZ lkX12_114 (c_X12_isLetter l G ct sk sv a n mo v3 hc36) 0 rfl rfl ⟨Nat.le_of_ble_eq_true rfl, Nat.le_of_ble_eq_true rfl⟩ rfl hl.1 rfl (Nat.le_of_ble_eq_true rfl) dX12_sell_23 ⟨Nat.le_of_ble_eq_true rfl, Nat.le_of_ble_eq_true rfl⟩ (fun r9 w9 H locs hB hP hD hS => ?_)
        obtain ⟨rfl, rfl⟩ := hB
        refine WG_eq (g2 := F0 m 26 ls [.int r_36]) rfl ?_
        refine lv_if_ne (tgt := 36) hx hb dX12_sell_26 (by decide) (fun c_37 => ?_) (fun c_37 => ?_)
        · replace hf := bc_f hf c_37
          refine lv_aload_n hx hb dX12_sell_36 rfl (lv_at hl 0 rfl) ?_
          refine lv_iload_n hx hb dX12_sell_37 rfl (lv_at hl 3 rfl) ?_
          obtain ⟨r_38, hc38, hf⟩ := bd_e hf
          refine call_V (As := [.int v3]) (rest := []) hx hb hml hown hts hK hP hD hS hA hZ lkX12_134 (c_X12_lies l G ct sk sv a n mo v3 hc38) 0 rfl rfl ⟨Nat.le_of_ble_eq_true rfl, Nat.le_of_ble_eq_true rfl⟩ rfl hl.1 rfl (Nat.le_of_ble_eq_true rfl) dX12_sell_38 ⟨Nat.le_of_ble_eq_true rfl, Nat.le_of_ble_eq_true rfl⟩ (fun r9 w9 H locs hB hP hD hS => ?_)
          obtain ⟨rfl, rfl⟩ := hB
          refine WG_eq (g2 := F0 m 41 ls [.int r_38]) rfl ?_
          refine lv_if_ne (tgt := 49) hx hb dX12_sell_41 (by decide) (fun c_39 => ?_) (fun c_39 => ?_)
          · replace hf := bc_f hf c_39
            refine lv_iconst (v := 0) hx hb dX12_sell_49 (by decide) ?_
            refine lv_istore (lv' := [(4, .int 0), (0, .ref (a 0)), (1, .int v1), (2, .int v2), (3, .int v3)]) hx hb dX12_sell_50 hl (by decide) rfl (fun ls hl => ?_)
            obtain ⟨mo_40, hx_41, hf⟩ := bd_e hf
            refine L52 n mo v1 v2 v3 0 mo_40 _ _ _ hP hD hS hl hx_41 ?_
            intro x9 e9 H locs ls hP hD hS hl
            subst e9
            have hP : va_P G classes (wl [lfM ct a mo_40]) H := hP
            have hD : va_D A (wl [lfM ct a mo_40]) := hD
            have hl : lv_has ls 8 [(0, .ref (a 0))] := hl
            refine lv_iconst (v := 0) hx hb dX12_sell_181 (by decide) ?_
            refine lv_istore (lv' := [(4, .int 0), (0, .ref (a 0))]) hx hb dX12_sell_182 hl (by decide) rfl (fun ls hl => ?_)
            refine lv_iconst (v := 0) hx hb dX12_sell_184 (by decide) ?_
            refine lv_istore (lv' := [(5, .int 0), (4, .int 0), (0, .ref (a 0))]) hx hb dX12_sell_185 hl (by decide) rfl (fun ls hl => ?_)
            obtain ⟨v4_42, hx_43, hf⟩ := bd_e hf
            refine L187 n mo_40 0 0 v4_42 _ _ _ hP hD hS hl hx_43 ?_
            intro x9 e9 H locs ls hP hD hS hl
            subst e9
            have hP : va_P G classes (wl [lfM ct a mo_40]) H := hP
            have hD : va_D A (wl [lfM ct a mo_40]) := hD
            have hl : lv_has ls 8 [(4, .int v4_42)] := hl
            refine lv_iload hx hb dX12_sell_262 (lv_at hl 0 rfl) ?_
            obtain ⟨e1, e2⟩ := inj2 (Option.some.inj hf)
            exact end_i (w' := (wl [lfM ct a mo_40])) hx hb hr hlocks hK hP hD hS dX12_sell_264  ⟨by rw [← e1], by rw [← e2]⟩
          · replace hf := bc_t hf c_39
            refine lv_aload_n hx hb dX12_sell_44 rfl (lv_at hl 0 rfl) ?_
            obtain ⟨r_44, mo_45, hc45, hf⟩ := bd2_e hf
            refine call_V (As := []) (rest := []) hx hb hml hown hts hK hP hD hS hA hZ lkX12_124 (c_X12_no l G ct sk sv a n mo hc45) 0 rfl rfl ⟨Nat.le_of_ble_eq_true rfl, Nat.le_of_ble_eq_true rfl⟩ rfl hl.1 rfl (Nat.le_of_ble_eq_true rfl) dX12_sell_45 ⟨Nat.le_of_ble_eq_true rfl, Nat.le_of_ble_eq_true rfl⟩ (fun r9 w9 H locs hB hP hD hS => ?_)
            obtain ⟨rfl, rfl⟩ := hB
            refine WG_eq (g2 := F0 m 48 ls [.int r_44]) rfl ?_
            obtain ⟨e1, e2⟩ := inj2 (Option.some.inj hf)
            exact end_i (w' := (wl [lfM ct a mo_45])) hx hb hr hlocks hK hP hD hS dX12_sell_48  ⟨by rw [← e1], by rw [← e2]⟩
        · replace hf := bc_t hf c_37
          exact J29 mo _ _ _ hP hD hS (lv_sub hl [0] rfl) hf
noncomputable def f_X12_sessions_b40 (n : Nat) (mo : MV) (v6 : Int32) (v5 : Int32) (v3 : Int64) (v2 : Int32) : Option ((Int32 × MV) ⊕ (MV)) :=
  bc (83 ≤ v6) (some (.inr mo))
  (gd (vp_in v6 235) <|
  gd (vp_in v6 83) <|
  bl (setA mo 10 (upd (mo.2.1 10) (ix v6) (mo.2.1 0 (ix v6)))) fun mo_4 =>
  bl (v6 + 1) fun v6_5 =>
  some (.inl (v6_5, mo_4)))
noncomputable def f_X12_sessions_l40 (fu : Nat) (n : Nat) (mo : MV) (v5 : Int32) (v3 : Int64) (v2 : Int32) (v6 : Int32) : Option (MV) :=
  lp (fun q => f_X12_sessions_b40 n q.2 q.1 v5 v3 v2) fu (v6, mo)
noncomputable def f_X12_sessions_j197 (n : Nat) (mo : MV) (v3 : Int64) (v6 : Int32) (v5 : Int32) (v2 : Int32) : Option ((Int32 × Int32 × Int64 × MV) ⊕ (Int32 × MV)) :=
  bl (v6 + 1) fun v6_6 =>
  some (.inl (v6_6, v5, v3, mo))
noncomputable def f_X12_sessions_j176 (n : Nat) (mo : MV) (v3 : Int64) (v6 : Int32) (v5 : Int32) (v2 : Int32) : Option ((Int32 × Int32 × Int64 × MV) ⊕ (Int32 × MV)) :=
  bl (v3 / 1048576) fun w_7 =>
  bc ((lg_cmp (w_7 - w_7 / 4 * 4) 0) = 0) (bd (f_X12_goDay n 83 (mo.2.1 10)) fun t_9 =>
  bl (setA mo 10 t_9) fun mo_10 =>
  f_X12_sessions_j197 n mo_10 v3 v6 v5 v2)
  (f_X12_sessions_j197 n mo v3 v6 v5 v2)
noncomputable def f_X12_sessions_b70 (n : Nat) (mo : MV) (v6 : Int32) (v5 : Int32) (v3 : Int64) (v2 : Int32) : Option ((Int32 × Int32 × Int64 × MV) ⊕ (Int32 × MV)) :=
  bc (v2 ≤ v6) (some (.inr (v5, mo)))
  (bl ((v3 * 1103515245) + 12345) fun w_12 =>
  bl (w_12 - w_12 / 2147483648 * 2147483648) fun v3_13 =>
  bl (v3_13 / 65536) fun w_14 =>
  bl ((w_14 - w_14 / 6 * 6 : Int64).toInt32) fun v7_15 =>
  bl ((v3_13 * 1103515245) + 12345) fun w_16 =>
  bl (w_16 - w_16 / 2147483648 * 2147483648) fun v3_17 =>
  bl (v3_17 / 65536) fun w_18 =>
  bl ((w_18 - w_18 / 5 * 5 : Int64).toInt32) fun v8_19 =>
  bd (f_X12_isLetter n mo v7_15) fun r_20 =>
  bc (r_20 = 0) (f_X12_sessions_j176 n mo v3_17 v6 v5 v2)
  (bd (f_X12_isMember n mo v8_19) fun r_22 =>
  bc (r_22 = 0) (f_X12_sessions_j176 n mo v3_17 v6 v5 v2)
  (bd (f_X12_mayFrank n 83 (mo.2.1 10) v7_15 v8_19) fun r_24 =>
  bc (r_24 = 0) (f_X12_sessions_j176 n mo v3_17 v6 v5 v2)
  (bd2 (f_X12_goFrank n 83 (mo.2.1 10) v7_15 v8_19) fun r_26 t_27 =>
  bl (setA mo 10 t_27) fun mo_28 =>
  bl (v5 + r_26) fun v5_29 =>
  f_X12_sessions_j176 n mo_28 v3_17 v6 v5_29 v2))))
noncomputable def f_X12_sessions_l70 (fu : Nat) (n : Nat) (mo : MV) (v2 : Int32) (v6 : Int32) (v5 : Int32) (v3 : Int64) : Option (Int32 × MV) :=
  lp (fun q => f_X12_sessions_b70 n q.2.2.2 q.1 q.2.1 q.2.2.1 v2) fu (v6, v5, v3, mo)
noncomputable def f_X12_sessions_j24 (n : Nat) (mo : MV) : Option (Int32 × MV) :=
  bd2 (f_X12_bad n mo (-2)) fun r_30 mo_31 =>
  some (r_30, mo_31)
noncomputable def f_X12_sessions (n : Nat) (mo : MV) (v1 : Int32) (v2 : Int32) : Option (Int32 × MV) :=
  bd (f_X12_in n ((v1 : Int32).toInt64) 0 999999) fun r_32 =>
  bc (r_32 = 0) (f_X12_sessions_j24 n mo)
  (bd (f_X12_in n ((v2 : Int32).toInt64) 0 60) fun r_34 =>
  bc (r_34 = 0) (f_X12_sessions_j24 n mo)
  (bl ((v1 : Int32).toInt64) fun v3_36 =>
  bd (f_X12_sessions_l40 n n mo 0 v3_36 v2 0) fun mo_37 =>
  bd2 (f_X12_sessions_l70 n n mo_37 v2 0 0 v3_36) fun v5_39 mo_40 =>
  some (v5_39, mo_40)))
set_option maxHeartbeats 4000000 in
set_option maxRecDepth 100000 in
theorem c_X12_sessions (l : Launch) (G : va_G) (ct : Nat → ClassId) (sk sv : Nat → Nat) (a : Nat → Nat) (n : Nat) (mo : MV) (v1 : Int32) (v2 : Int32) {r : Int32} {mo' : MV} (hf : f_X12_sessions n mo v1 v2 = some (r, mo')) : Ctr (l, G, ct, sk, sv) mX12_sessions 3 65 [.ref (a 0), .int v1, .int v2] (wl [lfM ct a mo]) (wl [lfM ct a mo']) (some (.int r)) := by
  refine ctr_intro (by decide) (Nat.le_of_ble_eq_true rfl) ?_
  intro p e s m args below meth c A C hP hD hS hA ls hl
  obtain ⟨hx, hb, hml, hown, hts, hr, hlocks, hK, hnm, hZ⟩ := C
  have hb : c.code = cX12_sessions := hb
  have hml : c.maxLocals = 9 := hml
  have hown : s.vm.findClass "SignedOutsideModel" = some m.cls := hown
  have hr : meth.sig.returnType = some .int := hr
  have hP : va_P G classes (wl [lfM ct a mo]) s.heap := hP
  have hD : va_D A (wl [lfM ct a mo]) := hD
  have hK : va_K G classes (TYS ct) s := hK
  have hl : lv_has ls 9 [(0, .ref (a 0)), (1, .int v1), (2, .int v2)] := hl
  have L40 : ∀ (fu : Nat) (mo : MV) (v5 : Int32) (v3 : Int64) (v2 : Int32) (v6 : Int32) (ex : MV) (H : Heap) (locs : List Loc) (ls : Array Slot), va_P G classes (wl [lfM ct a mo]) H → va_D A (wl [lfM ct a mo]) → va_S A s.heap H locs → lv_has ls 9 [(6, .int v6), (5, .int v5), (3, .long v3), (0, .ref (a 0)), (2, .int v2)] → f_X12_sessions_l40 fu n mo v5 v3 v2 v6 = some ex → (∀ (x : MV), ex = x → ∀ (H : Heap) (locs : List Loc) (ls : Array Slot), va_P G classes (wl [lfM ct a x]) H → va_D A (wl [lfM ct a x]) → va_S A s.heap H locs → lv_has ls 9 [(5, .int v5), (3, .long v3), (0, .ref (a 0)), (2, .int v2)] → WG l G ct sk sv p e (RM 3 65 0 0) s m args below meth c A (Eq2 (some (.int r)) (wl [lfM ct a mo'])) H locs (F0 m 67 ls [])) → WG l G ct sk sv p e (RM 3 65 0 0) s m args below meth c A (Eq2 (some (.int r)) (wl [lfM ct a mo'])) H locs (F0 m 40 ls []) := by
    intro fu
    induction fu with
    | zero =>
      intro mo v5 v3 v2 v6 ex H locs ls hP hD hS hl hf
      exact absurd hf (by unfold f_X12_sessions_l40 lp; exact fun h => by cases h)
    | succ fu ih =>
      intro mo v5 v3 v2 v6 ex H locs ls hP hD hS hl hf hE
      unfold f_X12_sessions_l40 at hf
      obtain ⟨q, hf, hor⟩ := lp_e hf
      replace hf : f_X12_sessions_b40 n mo v6 v5 v3 v2 = some q := hf
      unfold f_X12_sessions_b40 at hf
      refine lv_iload hx hb dX12_sessions_40 (lv_at hl 0 rfl) ?_
      refine lv_bipush (v := 83) hx hb dX12_sessions_42 (by decide) ?_
      refine lv_icmp_ge (tgt := 67) hx hb dX12_sessions_44 (by decide) (fun c_1 => ?_) (fun c_1 => ?_)
      · replace hf := bc_t hf c_1
        exact hE mo (lp_inr hor hf).symm _ _ _ hP hD hS (lv_sub hl [1, 2, 3, 4] rfl)
      · replace hf := bc_f hf c_1
        refine lv_aload_n hx hb dX12_sessions_47 rfl (lv_at hl 3 rfl) ?_
        refine va_get (D := G) (C := RX12) (T := TX12) (N := 21) (v := .ref (a 11)) hx hb hts iu_X12 hown hK hP 0 rfl rfl 12 (by decide) (hts _ kw899) (fun _ h9 => h9) rfl dX12_sessions_48 ?_
        refine lv_iload hx hb dX12_sessions_51 (lv_at hl 0 rfl) ?_
        refine lv_aload_n hx hb dX12_sessions_53 rfl (lv_at hl 3 rfl) ?_
        refine va_get (D := G) (C := RX12) (T := TX12) (N := 21) (v := .ref (a 1)) hx hb hts iu_X12 hown hK hP 0 rfl rfl 0 (by decide) (hts _ kw887) (fun _ h9 => h9) rfl dX12_sessions_54 ?_
        refine lv_iload hx hb dX12_sessions_57 (lv_at hl 0 rfl) ?_
        obtain ⟨g_2, hf⟩ := gd_e hf
        refine va_iald (f := mo.2.1 0) hx hb hK hP 1 0 rfl rfl g_2 dX12_sessions_59 ?_
        obtain ⟨g_3, hf⟩ := gd_e hf
        obtain ⟨mo_4, emo_4, hf⟩ := bl_e hf
        refine va_iast hx hb hK hP hD hS 11 0 rfl rfl g_3 dX12_sessions_60 (fun H locs hP hD hS => ?_)
        have hP : va_P G classes (wl [lfM ct a mo_4]) H := by rw [← emo_4]; exact hP
        have hD : va_D A (wl [lfM ct a mo_4]) := by rw [← emo_4]; exact hD
        obtain ⟨v6_5, ev6_5, hf⟩ := bl_e hf
        refine lv_iinc (v := v6_5) (lv' := [(6, .int v6_5), (5, .int v5), (3, .long v3), (0, .ref (a 0)), (2, .int v2)]) hx hb dX12_sessions_61 hl (k := 0) rfl ev6_5 (by decide) rfl (fun ls hl => ?_)
        refine lv_goto (tgt := 40) hx hb dX12_sessions_64 (by decide) ?_
        exact ih mo_4 v5 v3 v2 v6_5 ex _ _ _ hP hD hS hl (lp_inl hor hf) hE
  have L70 : ∀ (fu : Nat) (mo : MV) (v2 : Int32) (v6 : Int32) (v5 : Int32) (v3 : Int64) (ex : Int32 × MV) (H : Heap) (locs : List Loc) (ls : Array Slot), va_P G classes (wl [lfM ct a mo]) H → va_D A (wl [lfM ct a mo]) → va_S A s.heap H locs → lv_has ls 9 [(6, .int v6), (5, .int v5), (3, .long v3), (0, .ref (a 0)), (2, .int v2)] → f_X12_sessions_l70 fu n mo v2 v6 v5 v3 = some ex → (∀ (x : Int32 × MV), ex = x → ∀ (H : Heap) (locs : List Loc) (ls : Array Slot), va_P G classes (wl [lfM ct a x.2]) H → va_D A (wl [lfM ct a x.2]) → va_S A s.heap H locs → lv_has ls 9 [(5, .int x.1)] → WG l G ct sk sv p e (RM 3 65 0 0) s m args below meth c A (Eq2 (some (.int r)) (wl [lfM ct a mo'])) H locs (F0 m 203 ls [])) → WG l G ct sk sv p e (RM 3 65 0 0) s m args below meth c A (Eq2 (some (.int r)) (wl [lfM ct a mo'])) H locs (F0 m 70 ls []) := by
    intro fu
    induction fu with
    | zero =>
      intro mo v2 v6 v5 v3 ex H locs ls hP hD hS hl hf
      exact absurd hf (by unfold f_X12_sessions_l70 lp; exact fun h => by cases h)
    | succ fu ih =>
      intro mo v2 v6 v5 v3 ex H locs ls hP hD hS hl hf hE
      unfold f_X12_sessions_l70 at hf
      obtain ⟨q, hf, hor⟩ := lp_e hf
      have J197 : ∀ (mo : MV) (v3 : Int64) (v6 : Int32) (v5 : Int32) (H : Heap) (locs : List Loc) (ls : Array Slot), va_P G classes (wl [lfM ct a mo]) H → va_D A (wl [lfM ct a mo]) → va_S A s.heap H locs → lv_has ls 9 [(3, .long v3), (6, .int v6), (5, .int v5), (0, .ref (a 0)), (2, .int v2)] → f_X12_sessions_j197 n mo v3 v6 v5 v2 = some q → WG l G ct sk sv p e (RM 3 65 0 0) s m args below meth c A (Eq2 (some (.int r)) (wl [lfM ct a mo'])) H locs (F0 m 197 ls []) := by
        intro mo v3 v6 v5 H locs ls hP hD hS hl hf
        unfold f_X12_sessions_j197 at hf
        obtain ⟨v6_6, ev6_6, hf⟩ := bl_e hf
        refine lv_iinc (v := v6_6) (lv' := [(6, .int v6_6), (3, .long v3), (5, .int v5), (0, .ref (a 0)), (2, .int v2)]) hx hb dX12_sessions_197 hl (k := 1) rfl ev6_6 (by decide) rfl (fun ls hl => ?_)
        refine lv_goto (tgt := 70) hx hb dX12_sessions_200 (by decide) ?_
        exact ih mo v2 v6_6 v5 v3 ex _ _ _ hP hD hS (lv_sub hl [0, 2, 1, 3, 4] rfl) (lp_inl hor hf) hE
      have J176 : ∀ (mo : MV) (v3 : Int64) (v6 : Int32) (v5 : Int32) (H : Heap) (locs : List Loc) (ls : Array Slot), va_P G classes (wl [lfM ct a mo]) H → va_D A (wl [lfM ct a mo]) → va_S A s.heap H locs → lv_has ls 9 [(3, .long v3), (6, .int v6), (5, .int v5), (0, .ref (a 0)), (2, .int v2)] → f_X12_sessions_j176 n mo v3 v6 v5 v2 = some q → WG l G ct sk sv p e (RM 3 65 0 0) s m args below meth c A (Eq2 (some (.int r)) (wl [lfM ct a mo'])) H locs (F0 m 176 ls []) := by
        intro mo v3 v6 v5 H locs ls hP hD hS hl hf
        unfold f_X12_sessions_j176 at hf
        refine lv_lload_n hx hb dX12_sessions_176 rfl (lv_at hl 0 rfl) ?_
        refine lv_ldc2 (v := 1048576) hx hb hown (hts _ kw1192) dX12_sessions_177 ?_
        refine lv_ldiv hx hb dX12_sessions_180 (by decide) ?_
        refine lv_ldc2 (v := 4) hx hb hown (hts _ kw1070) dX12_sessions_181 ?_
        obtain ⟨w_7, ew_7, hf⟩ := bl_e hf
        refine W.eq (g2 := F0 m 184 ls ([.long 4, .long w_7])) (by rw [← ew_7]) ?_
        refine lv_lrem hx hb dX12_sessions_184 (by decide) ?_
        refine lv_lconst (v := 0) hx hb dX12_sessions_185 (by decide) ?_
        refine W.lcmp hx hb dX12_sessions_186 ?_
        refine lv_if_ne (tgt := 197) hx hb dX12_sessions_187 (by decide) (fun c_8 => ?_) (fun c_8 => ?_)
        · replace hf := bc_f hf c_8
          exact J197 mo v3 v6 v5 _ _ _ hP hD hS hl hf
        · replace hf := bc_t hf c_8
          refine lv_aload_n hx hb dX12_sessions_190 rfl (lv_at hl 3 rfl) ?_
          refine va_get (D := G) (C := RX12) (T := TX12) (N := 21) (v := .ref (a 11)) hx hb hts iu_X12 hown hK hP 0 rfl rfl 12 (by decide) (hts _ kw899) (fun _ h9 => h9) rfl dX12_sessions_191 ?_
          obtain ⟨t_9, hc10, hf⟩ := bd_e hf
          obtain ⟨mo_10, emo_10, hf⟩ := bl_e hf
          refine call_S (As := [.ref (a 11)]) (rest := []) hx hb hml hown hts hK hP hD hS hA hZ lkX12_140 (Ctr.up (W := (wl [lfM ct a mo])) (W' := (wl [lfM ct a (setA mo 10 t_9)])) (c_X12_goDay l G ct sk sv (fun _ => a 11) n 83 (mo.2.1 10) hc10) [11] [0, 1, 2, 3, 4, 5, 6, 7, 8, 9, 10, 12, 13, 14] [0, 1, 2, 3, 4, 5, 6, 7, 8, 9, 10, 14, 11, 12, 13] rfl rfl rfl rfl (by decide) rfl rfl) ⟨Nat.le_of_ble_eq_true rfl, Nat.le_of_ble_eq_true rfl⟩ rfl hl.1 rfl (Nat.le_of_ble_eq_true rfl) dX12_sessions_194 ⟨Nat.le_of_ble_eq_true rfl, Nat.le_of_ble_eq_true rfl⟩ (fun r9 w9 H locs hB hP hD hS => ?_)
          obtain ⟨rfl, rfl⟩ := hB
          have hP : va_P G classes (wl [lfM ct a mo_10]) H := by rw [← emo_10]; exact hP
          have hD : va_D A (wl [lfM ct a mo_10]) := by rw [← emo_10]; exact hD
          refine WG_eq (g2 := F0 m 197 ls []) rfl ?_
          exact J197 mo_10 v3 v6 v5 _ _ _ hP hD hS hl hf
      replace hf : f_X12_sessions_b70 n mo v6 v5 v3 v2 = some q := hf
      unfold f_X12_sessions_b70 at hf
      refine lv_iload hx hb dX12_sessions_70 (lv_at hl 0 rfl) ?_
      refine lv_iload_n hx hb dX12_sessions_72 rfl (lv_at hl 4 rfl) ?_
      refine lv_icmp_ge (tgt := 203) hx hb dX12_sessions_73 (by decide) (fun c_11 => ?_) (fun c_11 => ?_)
      · replace hf := bc_t hf c_11
        exact hE (v5, mo) (lp_inr hor hf).symm _ _ _ hP hD hS (lv_sub hl [1] rfl)
      · replace hf := bc_f hf c_11
        refine lv_lload_n hx hb dX12_sessions_76 rfl (lv_at hl 2 rfl) ?_
        refine lv_ldc2 (v := 1103515245) hx hb hown (hts _ kw1187) dX12_sessions_77 ?_
        refine lv_lmul hx hb dX12_sessions_80 ?_
        refine lv_ldc2 (v := 12345) hx hb hown (hts _ kw1188) dX12_sessions_81 ?_
        refine lv_ladd hx hb dX12_sessions_84 ?_
        refine lv_ldc2 (v := 2147483648) hx hb hown (hts _ kw1189) dX12_sessions_85 ?_
        obtain ⟨w_12, ew_12, hf⟩ := bl_e hf
        refine W.eq (g2 := F0 m 88 ls ([.long 2147483648, .long w_12])) (by rw [← ew_12]) ?_
        refine lv_lrem hx hb dX12_sessions_88 (by decide) ?_
        refine lv_topl (fun v3_13 ev3_13 => ?_)
        replace hf := bl_i hf ev3_13
        refine lv_lstore_n (lv' := [(3, .long v3_13), (6, .int v6), (5, .int v5), (0, .ref (a 0)), (2, .int v2)]) hx hb dX12_sessions_89 rfl hl (by decide) rfl (fun ls hl => ?_)
        refine lv_lload_n hx hb dX12_sessions_90 rfl (lv_at hl 0 rfl) ?_
        refine lv_ldc2 (v := 65536) hx hb hown (hts _ kw1190) dX12_sessions_91 ?_
        refine lv_ldiv hx hb dX12_sessions_94 (by decide) ?_
        refine lv_ldc2 (v := 6) hx hb hown (hts _ kw1191) dX12_sessions_95 ?_
        obtain ⟨w_14, ew_14, hf⟩ := bl_e hf
        refine W.eq (g2 := F0 m 98 ls ([.long 6, .long w_14])) (by rw [← ew_14]) ?_
        refine lv_lrem hx hb dX12_sessions_98 (by decide) ?_
        refine lv_l2i (v := (w_14 - w_14 / 6 * 6 : Int64).toInt32) hx hb dX12_sessions_99 rfl ?_
        refine lv_topi (fun v7_15 ev7_15 => ?_)
        replace hf := bl_i hf ev7_15
        refine lv_istore (lv' := [(7, .int v7_15), (3, .long v3_13), (6, .int v6), (5, .int v5), (0, .ref (a 0)), (2, .int v2)]) hx hb dX12_sessions_100 hl (by decide) rfl (fun ls hl => ?_)
        refine lv_lload_n hx hb dX12_sessions_102 rfl (lv_at hl 1 rfl) ?_
        refine lv_ldc2 (v := 1103515245) hx hb hown (hts _ kw1187) dX12_sessions_103 ?_
        refine lv_lmul hx hb dX12_sessions_106 ?_
        refine lv_ldc2 (v := 12345) hx hb hown (hts _ kw1188) dX12_sessions_107 ?_
        refine lv_ladd hx hb dX12_sessions_110 ?_
        refine lv_ldc2 (v := 2147483648) hx hb hown (hts _ kw1189) dX12_sessions_111 ?_
        obtain ⟨w_16, ew_16, hf⟩ := bl_e hf
        refine W.eq (g2 := F0 m 114 ls ([.long 2147483648, .long w_16])) (by rw [← ew_16]) ?_
        refine lv_lrem hx hb dX12_sessions_114 (by decide) ?_
        refine lv_topl (fun v3_17 ev3_17 => ?_)
        replace hf := bl_i hf ev3_17
        refine lv_lstore_n (lv' := [(3, .long v3_17), (7, .int v7_15), (6, .int v6), (5, .int v5), (0, .ref (a 0)), (2, .int v2)]) hx hb dX12_sessions_115 rfl hl (by decide) rfl (fun ls hl => ?_)
        refine lv_lload_n hx hb dX12_sessions_116 rfl (lv_at hl 0 rfl) ?_
        refine lv_ldc2 (v := 65536) hx hb hown (hts _ kw1190) dX12_sessions_117 ?_
        refine lv_ldiv hx hb dX12_sessions_120 (by decide) ?_
        refine lv_ldc2 (v := 5) hx hb hown (hts _ kw963) dX12_sessions_121 ?_
        obtain ⟨w_18, ew_18, hf⟩ := bl_e hf
        refine W.eq (g2 := F0 m 124 ls ([.long 5, .long w_18])) (by rw [← ew_18]) ?_
        refine lv_lrem hx hb dX12_sessions_124 (by decide) ?_
        refine lv_l2i (v := (w_18 - w_18 / 5 * 5 : Int64).toInt32) hx hb dX12_sessions_125 rfl ?_
        refine lv_topi (fun v8_19 ev8_19 => ?_)
        replace hf := bl_i hf ev8_19
        refine lv_istore (lv' := [(8, .int v8_19), (3, .long v3_17), (7, .int v7_15), (6, .int v6), (5, .int v5), (0, .ref (a 0)), (2, .int v2)]) hx hb dX12_sessions_126 hl (by decide) rfl (fun ls hl => ?_)
        refine lv_aload_n hx hb dX12_sessions_128 rfl (lv_at hl 5 rfl) ?_
        refine lv_iload hx hb dX12_sessions_129 (lv_at hl 2 rfl) ?_
        obtain ⟨r_20, hc20, hf⟩ := bd_e hf
        refine call_V (As := [.int v7_15]) (rest := []) hx hb hml hown hts hK hP hD hS hA hZ lkX12_114 (c_X12_isLetter l G ct sk sv a n mo v7_15 hc20) 0 rfl rfl ⟨Nat.le_of_ble_eq_true rfl, Nat.le_of_ble_eq_true rfl⟩ rfl hl.1 rfl (Nat.le_of_ble_eq_true rfl) dX12_sessions_131 ⟨Nat.le_of_ble_eq_true rfl, Nat.le_of_ble_eq_true rfl⟩ (fun r9 w9 H locs hB hP hD hS => ?_)
        obtain ⟨rfl, rfl⟩ := hB
        refine WG_eq (g2 := F0 m 134 ls [.int r_20]) rfl ?_
        refine lv_if_eq (tgt := 176) hx hb dX12_sessions_134 (by decide) (fun c_21 => ?_) (fun c_21 => ?_)
        · replace hf := bc_t hf c_21
          exact J176 mo v3_17 v6 v5 _ _ _ hP hD hS (lv_sub hl [1, 3, 4, 5, 6] rfl) hf
        · replace hf := bc_f hf c_21
          refine lv_aload_n hx hb dX12_sessions_137 rfl (lv_at hl 5 rfl) ?_
          refine lv_iload hx hb dX12_sessions_138 (lv_at hl 0 rfl) ?_
          obtain ⟨r_22, hc22, hf⟩ := bd_e hf
          refine call_V (As := [.int v8_19]) (rest := []) hx hb hml hown hts hK hP hD hS hA hZ lkX12_117 (c_X12_isMember l G ct sk sv a n mo v8_19 hc22) 0 rfl rfl ⟨Nat.le_of_ble_eq_true rfl, Nat.le_of_ble_eq_true rfl⟩ rfl hl.1 rfl (Nat.le_of_ble_eq_true rfl) dX12_sessions_140 ⟨Nat.le_of_ble_eq_true rfl, Nat.le_of_ble_eq_true rfl⟩ (fun r9 w9 H locs hB hP hD hS => ?_)
          obtain ⟨rfl, rfl⟩ := hB
          refine WG_eq (g2 := F0 m 143 ls [.int r_22]) rfl ?_
          refine lv_if_eq (tgt := 176) hx hb dX12_sessions_143 (by decide) (fun c_23 => ?_) (fun c_23 => ?_)
          · replace hf := bc_t hf c_23
            exact J176 mo v3_17 v6 v5 _ _ _ hP hD hS (lv_sub hl [1, 3, 4, 5, 6] rfl) hf
          · replace hf := bc_f hf c_23
            refine lv_aload_n hx hb dX12_sessions_146 rfl (lv_at hl 5 rfl) ?_
            refine va_get (D := G) (C := RX12) (T := TX12) (N := 21) (v := .ref (a 11)) hx hb hts iu_X12 hown hK hP 0 rfl rfl 12 (by decide) (hts _ kw899) (fun _ h9 => h9) rfl dX12_sessions_147 ?_
            refine lv_iload hx hb dX12_sessions_150 (lv_at hl 2 rfl) ?_
            refine lv_iload hx hb dX12_sessions_152 (lv_at hl 0 rfl) ?_
            obtain ⟨r_24, hc24, hf⟩ := bd_e hf
            refine call_S (As := [.ref (a 11), .int v7_15, .int v8_19]) (rest := []) hx hb hml hown hts hK hP hD hS hA hZ lkX12_120 (Ctr.up (W := (wl [lfM ct a mo])) (W' := (wl [lfM ct a mo])) (c_X12_mayFrank l G ct sk sv (fun _ => a 11) n 83 (mo.2.1 10) v7_15 v8_19 hc24) [11] [0, 1, 2, 3, 4, 5, 6, 7, 8, 9, 10, 12, 13, 14] [0, 1, 2, 3, 4, 5, 6, 7, 8, 9, 10, 14, 11, 12, 13] rfl rfl rfl rfl (by decide) rfl rfl) ⟨Nat.le_of_ble_eq_true rfl, Nat.le_of_ble_eq_true rfl⟩ rfl hl.1 rfl (Nat.le_of_ble_eq_true rfl) dX12_sessions_154 ⟨Nat.le_of_ble_eq_true rfl, Nat.le_of_ble_eq_true rfl⟩ (fun r9 w9 H locs hB hP hD hS => ?_)
            obtain ⟨rfl, rfl⟩ := hB
            refine WG_eq (g2 := F0 m 157 ls [.int r_24]) rfl ?_
            refine lv_if_eq (tgt := 176) hx hb dX12_sessions_157 (by decide) (fun c_25 => ?_) (fun c_25 => ?_)
            · replace hf := bc_t hf c_25
              exact J176 mo v3_17 v6 v5 _ _ _ hP hD hS (lv_sub hl [1, 3, 4, 5, 6] rfl) hf
            · replace hf := bc_f hf c_25
              refine lv_iload hx hb dX12_sessions_160 (lv_at hl 4 rfl) ?_
              refine lv_aload_n hx hb dX12_sessions_162 rfl (lv_at hl 5 rfl) ?_
              refine va_get (D := G) (C := RX12) (T := TX12) (N := 21) (v := .ref (a 11)) hx hb hts iu_X12 hown hK hP 0 rfl rfl 12 (by decide) (hts _ kw899) (fun _ h9 => h9) rfl dX12_sessions_163 ?_
              refine lv_iload hx hb dX12_sessions_166 (lv_at hl 2 rfl) ?_
              refine lv_iload hx hb dX12_sessions_168 (lv_at hl 0 rfl) ?_
              obtain ⟨r_26, t_27, hc28, hf⟩ := bd2_e hf
              obtain ⟨mo_28, emo_28, hf⟩ := bl_e hf
              refine call_S (As := [.ref (a 11), .int v7_15, .int v8_19]) (rest := [.int v5]) hx hb hml hown hts hK hP hD hS hA hZ lkX12_130 (Ctr.up (W := (wl [lfM ct a mo])) (W' := (wl [lfM ct a (setA mo 10 t_27)])) (c_X12_goFrank l G ct sk sv (fun _ => a 11) n 83 (mo.2.1 10) v7_15 v8_19 hc28) [11] [0, 1, 2, 3, 4, 5, 6, 7, 8, 9, 10, 12, 13, 14] [0, 1, 2, 3, 4, 5, 6, 7, 8, 9, 10, 14, 11, 12, 13] rfl rfl rfl rfl (by decide) rfl rfl) ⟨Nat.le_of_ble_eq_true rfl, Nat.le_of_ble_eq_true rfl⟩ rfl hl.1 rfl (Nat.le_of_ble_eq_true rfl) dX12_sessions_170 ⟨Nat.le_of_ble_eq_true rfl, Nat.le_of_ble_eq_true rfl⟩ (fun r9 w9 H locs hB hP hD hS => ?_)
              obtain ⟨rfl, rfl⟩ := hB
              have hP : va_P G classes (wl [lfM ct a mo_28]) H := by rw [← emo_28]; exact hP
              have hD : va_D A (wl [lfM ct a mo_28]) := by rw [← emo_28]; exact hD
              refine WG_eq (g2 := F0 m 173 ls [.int r_26, .int v5]) rfl ?_
              refine lv_iadd hx hb dX12_sessions_173 ?_
              refine lv_topi (fun v5_29 ev5_29 => ?_)
              replace hf := bl_i hf ev5_29
              refine lv_istore (lv' := [(5, .int v5_29), (8, .int v8_19), (3, .long v3_17), (7, .int v7_15), (6, .int v6), (0, .ref (a 0)), (2, .int v2)]) hx hb dX12_sessions_174 hl (by decide) rfl (fun ls hl => ?_)
              exact J176 mo_28 v3_17 v6 v5_29 _ _ _ hP hD hS (lv_sub hl [2, 4, 0, 5, 6] rfl) hf
  have J24 : ∀ (mo : MV) (H : Heap) (locs : List Loc) (ls : Array Slot), va_P G classes (wl [lfM ct a mo]) H → va_D A (wl [lfM ct a mo]) → va_S A s.heap H locs → lv_has ls 9 [(0, .ref (a 0))] → f_X12_sessions_j24 n mo = some (r, mo') → WG l G ct sk sv p e (RM 3 65 0 0) s m args below meth c A (Eq2 (some (.int r)) (wl [lfM ct a mo'])) H locs (F0 m 24 ls []) := by
    intro mo H locs ls hP hD hS hl hf
    unfold f_X12_sessions_j24 at hf
    refine lv_aload_n hx hb dX12_sessions_24 rfl (lv_at hl 0 rfl) ?_
    refine lv_bipush (v := (-2)) hx hb dX12_sessions_25 (by decide) ?_
    obtain ⟨r_30, mo_31, hc31, hf⟩ := bd2_e hf
    refine call_V (As := [.int (-2)]) (rest := []) hx hb hml hown hts hK hP hD hS hA hZ lkX12_80 (c_X12_bad l G ct sk sv a n mo (-2) hc31) 0 rfl rfl ⟨Nat.le_of_ble_eq_true rfl, Nat.le_of_ble_eq_true rfl⟩ rfl hl.1 rfl (Nat.le_of_ble_eq_true rfl) dX12_sessions_27 ⟨Nat.le_of_ble_eq_true rfl, Nat.le_of_ble_eq_true rfl⟩ (fun r9 w9 H locs hB hP hD hS => ?_)
    obtain ⟨rfl, rfl⟩ := hB
    refine WG_eq (g2 := F0 m 30 ls [.int r_30]) rfl ?_
    obtain ⟨e1, e2⟩ := inj2 (Option.some.inj hf)
    exact end_i (w' := (wl [lfM ct a mo_31])) hx hb hr hlocks hK hP hD hS dX12_sessions_30  ⟨by rw [← e1], by rw [← e2]⟩
  unfold f_X12_sessions at hf
  show WG l G ct sk sv p e (RM 3 65 0 0) s m args below meth c A (Eq2 (some (.int r)) (wl [lfM ct a mo'])) s.heap [] (F0 m 0 ls [])
  refine lv_iload_n hx hb dX12_sessions_0 rfl (lv_at hl 1 rfl) ?_
  refine lv_i2l (v := (v1 : Int32).toInt64) hx hb dX12_sessions_1 rfl ?_
  refine lv_lconst (v := 0) hx hb dX12_sessions_2 (by decide) ?_
  refine lv_ldc2 (v := 999999) hx hb hown (hts _ kw1185) dX12_sessions_3 ?_
  obtain ⟨r_32, hc32, hf⟩ := bd_e hf
  refine call_S (As := [.long ((v1 : Int32).toInt64), .long 0, .long 999999]) (rest := []) hx hb hml hown hts hK hP hD hS hA hZ lkX12_65 (Ctr.upL (c_X12_in l G ct sk sv  n ((v1 : Int32).toInt64) 0 999999 hc32) [lfM ct a mo] [lfM ct a mo] [lfM ct a mo] [0] 1 (by decide) rfl rfl rfl rfl) ⟨Nat.le_of_ble_eq_true rfl, Nat.le_of_ble_eq_true rfl⟩ rfl hl.1 rfl (Nat.le_of_ble_eq_true rfl) dX12_sessions_6 ⟨Nat.le_of_ble_eq_true rfl, Nat.le_of_ble_eq_true rfl⟩ (fun r9 w9 H locs hB hP hD hS => ?_)
  obtain ⟨rfl, rfl⟩ := hB
  refine WG_eq (g2 := F0 m 9 ls [.int r_32]) rfl ?_
  refine lv_if_eq (tgt := 24) hx hb dX12_sessions_9 (by decide) (fun c_33 => ?_) (fun c_33 => ?_)
  · replace hf := bc_t hf c_33
    exact J24 mo _ _ _ hP hD hS (lv_sub hl [0] rfl) hf
  · replace hf := bc_f hf c_33
    refine lv_iload_n hx hb dX12_sessions_12 rfl (lv_at hl 2 rfl) ?_
    refine lv_i2l (v := (v2 : Int32).toInt64) hx hb dX12_sessions_13 rfl ?_
    refine lv_lconst (v := 0) hx hb dX12_sessions_14 (by decide) ?_
    refine lv_ldc2 (v := 60) hx hb hown (hts _ kw1186) dX12_sessions_15 ?_
    obtain ⟨r_34, hc34, hf⟩ := bd_e hf
    refine call_S (As := [.long ((v2 : Int32).toInt64), .long 0, .long 60]) (rest := []) hx hb hml hown hts hK hP hD hS hA hZ lkX12_65 (Ctr.upL (c_X12_in l G ct sk sv  n ((v2 : Int32).toInt64) 0 60 hc34) [lfM ct a mo] [lfM ct a mo] [lfM ct a mo] [0] 1 (by decide) rfl rfl rfl rfl) ⟨Nat.le_of_ble_eq_true rfl, Nat.le_of_ble_eq_true rfl⟩ rfl hl.1 rfl (Nat.le_of_ble_eq_true rfl) dX12_sessions_18 ⟨Nat.le_of_ble_eq_true rfl, Nat.le_of_ble_eq_true rfl⟩ (fun r9 w9 H locs hB hP hD hS => ?_)
    obtain ⟨rfl, rfl⟩ := hB
    refine WG_eq (g2 := F0 m 21 ls [.int r_34]) rfl ?_
    refine lv_if_ne (tgt := 31) hx hb dX12_sessions_21 (by decide) (fun c_35 => ?_) (fun c_35 => ?_)
    · replace hf := bc_f hf c_35
      refine lv_iload_n hx hb dX12_sessions_31 rfl (lv_at hl 1 rfl) ?_
      refine lv_i2l (v := (v1 : Int32).toInt64) hx hb dX12_sessions_32 rfl ?_
      refine lv_topl (fun v3_36 ev3_36 => ?_)
      replace hf := bl_i hf ev3_36
      refine lv_lstore_n (lv' := [(3, .long v3_36), (0, .ref (a 0)), (1, .int v1), (2, .int v2)]) hx hb dX12_sessions_33 rfl hl (by decide) rfl (fun ls hl => ?_)
      refine lv_iconst (v := 0) hx hb dX12_sessions_34 (by decide) ?_
      refine lv_istore (lv' := [(5, .int 0), (3, .long v3_36), (0, .ref (a 0)), (1, .int v1), (2, .int v2)]) hx hb dX12_sessions_35 hl (by decide) rfl (fun ls hl => ?_)
      refine lv_iconst (v := 0) hx hb dX12_sessions_37 (by decide) ?_
      refine lv_istore (lv' := [(6, .int 0), (5, .int 0), (3, .long v3_36), (0, .ref (a 0)), (1, .int v1), (2, .int v2)]) hx hb dX12_sessions_38 hl (by decide) rfl (fun ls hl => ?_)
      obtain ⟨mo_37, hx_38, hf⟩ := bd_e hf
      refine L40 n mo 0 v3_36 v2 0 mo_37 _ _ _ hP hD hS (lv_sub hl [0, 1, 2, 3, 5] rfl) hx_38 ?_
      intro x9 e9 H locs ls hP hD hS hl
      subst e9
      have hP : va_P G classes (wl [lfM ct a mo_37]) H := hP
      have hD : va_D A (wl [lfM ct a mo_37]) := hD
      have hl : lv_has ls 9 [(5, .int 0), (3, .long v3_36), (0, .ref (a 0)), (2, .int v2)] := hl
      refine lv_iconst (v := 0) hx hb dX12_sessions_67 (by decide) ?_
      refine lv_istore (lv' := [(6, .int 0), (5, .int 0), (3, .long v3_36), (0, .ref (a 0)), (2, .int v2)]) hx hb dX12_sessions_68 hl (by decide) rfl (fun ls hl => ?_)
      obtain ⟨v5_39, mo_40, hx_41, hf⟩ := bd2_e hf
      refine L70 n mo_37 v2 0 0 v3_36 (v5_39, mo_40) _ _ _ hP hD hS hl hx_41 ?_
      intro x9 e9 H locs ls hP hD hS hl
      subst e9
      have hP : va_P G classes (wl [lfM ct a mo_40]) H := hP
      have hD : va_D A (wl [lfM ct a mo_40]) := hD
      have hl : lv_has ls 9 [(5, .int v5_39)] := hl
      refine lv_iload hx hb dX12_sessions_203 (lv_at hl 0 rfl) ?_
      obtain ⟨e1, e2⟩ := inj2 (Option.some.inj hf)
      exact end_i (w' := (wl [lfM ct a mo_40])) hx hb hr hlocks hK hP hD hS dX12_sessions_205  ⟨by rw [← e1], by rw [← e2]⟩
    · replace hf := bc_t hf c_35
      exact J24 mo _ _ _ hP hD hS (lv_sub hl [0] rfl) hf
noncomputable def f_X12_worthAt_b71 (n : Nat) (mo : MV) (v6 : Int32) (v5 : Int32) (v4 : Int32) (v3 : Int32) (v1 : Int32) (v2 : Int32) : Option ((Int32 × MV) ⊕ (Int32 × MV)) :=
  bc (v6 ≤ 0) (some (.inr (v6, mo)))
  (gd (vp_in (v6 - 1) 6) <|
  bd (f_X12_postage n mo v5) fun r_3 =>
  bc (r_3 ≤ (mo.2.1 7 (ix (v6 - 1)))) (some (.inr (v6, mo)))
  (gd (vp_in (v6 - 1) 6) <|
  gd (vp_in v6 6) <|
  bl (setA mo 7 (upd (mo.2.1 7) (ix v6) (mo.2.1 7 (ix (v6 - 1))))) fun mo_7 =>
  bl (v6 + (-1)) fun v6_8 =>
  some (.inl (v6_8, mo_7))))
noncomputable def f_X12_worthAt_l71 (fu : Nat) (n : Nat) (mo : MV) (v5 : Int32) (v4 : Int32) (v3 : Int32) (v1 : Int32) (v2 : Int32) (v6 : Int32) : Option (Int32 × MV) :=
  lp (fun q => f_X12_worthAt_b71 n q.2 q.1 v5 v4 v3 v1 v2) fu (v6, mo)
noncomputable def f_X12_worthAt_j132 (n : Nat) (mo : MV) (v5 : Int32) (v4 : Int32) (v3 : Int32) (v1 : Int32) (v2 : Int32) : Option ((Int32 × Int32 × MV) ⊕ (Int32 × MV)) :=
  bl (v5 + 1) fun v5_9 =>
  some (.inl (v5_9, v3, mo))
noncomputable def f_X12_worthAt_j116 (n : Nat) (mo : MV) (v6 : Int32) (v5 : Int32) (v4 : Int32) (v3 : Int32) (v1 : Int32) (v2 : Int32) : Option ((Int32 × Int32 × MV) ⊕ (Int32 × MV)) :=
  bd (f_X12_postage n mo v5) fun r_10 =>
  gd (vp_in v6 6) <|
  bl (setA mo 7 (upd (mo.2.1 7) (ix v6) r_10)) fun mo_12 =>
  bl (v3 + 1) fun v3_13 =>
  f_X12_worthAt_j132 n mo_12 v5 v4 v3_13 v1 v2
noncomputable def f_X12_worthAt_b16 (n : Nat) (mo : MV) (v5 : Int32) (v4 : Int32) (v3 : Int32) (v1 : Int32) (v2 : Int32) : Option ((Int32 × Int32 × MV) ⊕ (Int32 × MV)) :=
  bd (f_X12_letters n mo) fun r_14 =>
  bc (r_14 ≤ v5) (some (.inr (v3, mo)))
  (bd (f_X12_lies n mo v5) fun r_16 =>
  bc (r_16 = 0) (f_X12_worthAt_j132 n mo v5 v4 v3 v1 v2)
  (bd (f_X12_get n mo v5 0) fun r_18 =>
  bd (f_X12_miles n r_18 v2) fun r_19 =>
  bd (f_X12_reachAs n v4) fun r_20 =>
  bc (r_20 < r_19) (f_X12_worthAt_j132 n mo v5 v4 v3 v1 v2)
  (bd (f_X12_get n mo v5 2) fun r_22 =>
  bd (f_X12_bearsAs n v4) fun r_23 =>
  bc (r_23 < r_22) (f_X12_worthAt_j132 n mo v5 v4 v3 v1 v2)
  (bd2 (f_X12_worthAt_l71 n n mo v5 v4 v3 v1 v2 v3) fun v6_25 mo_26 =>
  f_X12_worthAt_j116 n mo_26 v6_25 v5 v4 v3 v1 v2))))
noncomputable def f_X12_worthAt_l16 (fu : Nat) (n : Nat) (mo : MV) (v4 : Int32) (v1 : Int32) (v2 : Int32) (v5 : Int32) (v3 : Int32) : Option (Int32 × MV) :=
  lp (fun q => f_X12_worthAt_b16 n q.2.2 q.1 v4 q.2.1 v1 v2) fu (v5, v3, mo)
noncomputable def f_X12_worthAt_b144 (n : Nat) (mo : MV) (v6 : Int32) (v5 : Int32) (v4 : Int32) (v3 : Int32) (v1 : Int32) : Option ((Int32 × Int32) ⊕ (Int32)) :=
  bc (v3 ≤ v6) (some (.inr v5))
  (gd (vp_in 23 235) <|
  bd (f_X12_coversAs n v4 (mo.2.1 0 (ix 23))) fun r_30 =>
  gd (vp_in (11 + v1) 235) <|
  bc ((r_30 - (mo.2.1 0 (ix (11 + v1)))) ≤ v6) (some (.inr v5))
  (gd (vp_in v6 6) <|
  bl (v5 + (mo.2.1 7 (ix v6))) fun v5_34 =>
  bl (v6 + 1) fun v6_35 =>
  some (.inl (v6_35, v5_34))))
noncomputable def f_X12_worthAt_l144 (fu : Nat) (n : Nat) (mo : MV) (v4 : Int32) (v3 : Int32) (v1 : Int32) (v6 : Int32) (v5 : Int32) : Option (Int32) :=
  lp (fun q => f_X12_worthAt_b144 n mo q.1 q.2 v4 v3 v1) fu (v6, v5)
noncomputable def f_X12_worthAt_j195 (n : Nat) (mo : MV) (v5 : Int32) : Option (Int32 × MV) :=
  some (v5, mo)
noncomputable def f_X12_worthAt (n : Nat) (mo : MV) (v1 : Int32) (v2 : Int32) : Option (Int32 × MV) :=
  gd (vp_in (24 + v1) 235) <|
  bl (mo.2.1 0 (ix (24 + v1))) fun v4_37 =>
  bd2 (f_X12_worthAt_l16 n n mo v4_37 v1 v2 0 0) fun v3_38 mo_39 =>
  bd (f_X12_worthAt_l144 n n mo_39 v4_37 v3_38 v1 0 0) fun v5_41 =>
  f_X12_worthAt_j195 n mo_39 v5_41
set_option maxHeartbeats 4000000 in
set_option maxRecDepth 100000 in
theorem c_X12_worthAt (l : Launch) (G : va_G) (ct : Nat → ClassId) (sk sv : Nat → Nat) (a : Nat → Nat) (n : Nat) (mo : MV) (v1 : Int32) (v2 : Int32) {r : Int32} {mo' : MV} (hf : f_X12_worthAt n mo v1 v2 = some (r, mo')) : Ctr (l, G, ct, sk, sv) mX12_worthAt 3 64 [.ref (a 0), .int v1, .int v2] (wl [lfM ct a mo]) (wl [lfM ct a mo']) (some (.int r)) := by
  refine ctr_intro (by decide) (Nat.le_of_ble_eq_true rfl) ?_
  intro p e s m args below meth c A C hP hD hS hA ls hl
  obtain ⟨hx, hb, hml, hown, hts, hr, hlocks, hK, hnm, hZ⟩ := C
  have hb : c.code = cX12_worthAt := hb
  have hml : c.maxLocals = 7 := hml
  have hown : s.vm.findClass "SignedOutsideModel" = some m.cls := hown
  have hr : meth.sig.returnType = some .int := hr
  have hP : va_P G classes (wl [lfM ct a mo]) s.heap := hP
  have hD : va_D A (wl [lfM ct a mo]) := hD
  have hK : va_K G classes (TYS ct) s := hK
  have hl : lv_has ls 7 [(0, .ref (a 0)), (1, .int v1), (2, .int v2)] := hl
  have L71 : ∀ (fu : Nat) (mo : MV) (v5 : Int32) (v4 : Int32) (v3 : Int32) (v1 : Int32) (v2 : Int32) (v6 : Int32) (ex : Int32 × MV) (H : Heap) (locs : List Loc) (ls : Array Slot), va_P G classes (wl [lfM ct a mo]) H → va_D A (wl [lfM ct a mo]) → va_S A s.heap H locs → lv_has ls 7 [(6, .int v6), (5, .int v5), (4, .int v4), (3, .int v3), (0, .ref (a 0)), (1, .int v1), (2, .int v2)] → f_X12_worthAt_l71 fu n mo v5 v4 v3 v1 v2 v6 = some ex → (∀ (x : Int32 × MV), ex = x → ∀ (H : Heap) (locs : List Loc) (ls : Array Slot), va_P G classes (wl [lfM ct a x.2]) H → va_D A (wl [lfM ct a x.2]) → va_S A s.heap H locs → lv_has ls 7 [(6, .int x.1), (5, .int v5), (4, .int v4), (3, .int v3), (0, .ref (a 0)), (1, .int v1), (2, .int v2)] → WG l G ct sk sv p e (RM 3 64 0 0) s m args below meth c A (Eq2 (some (.int r)) (wl [lfM ct a mo'])) H locs (F0 m 116 ls [])) → WG l G ct sk sv p e (RM 3 64 0 0) s m args below meth c A (Eq2 (some (.int r)) (wl [lfM ct a mo'])) H locs (F0 m 71 ls []) := by
    intro fu
    induction fu with
    | zero =>
      intro mo v5 v4 v3 v1 v2 v6 ex H locs ls hP hD hS hl hf
      exact absurd hf (by unfold f_X12_worthAt_l71 lp; exact fun h => by cases h)
    | succ fu ih =>
      intro mo v5 v4 v3 v1 v2 v6 ex H locs ls hP hD hS hl hf hE
      unfold f_X12_worthAt_l71 at hf
      obtain ⟨q, hf, hor⟩ := lp_e hf
      replace hf : f_X12_worthAt_b71 n mo v6 v5 v4 v3 v1 v2 = some q := hf
      unfold f_X12_worthAt_b71 at hf
      refine lv_iload hx hb dX12_worthAt_71 (lv_at hl 0 rfl) ?_
      refine lv_if_le (tgt := 116) hx hb dX12_worthAt_73 (by decide) (fun c_1 => ?_) (fun c_1 => ?_)
      · replace hf := bc_t hf c_1
        exact hE (v6, mo) (lp_inr hor hf).symm _ _ _ hP hD hS hl
      · replace hf := bc_f hf c_1
        refine lv_aload_n hx hb dX12_worthAt_76 rfl (lv_at hl 4 rfl) ?_
        refine va_get (D := G) (C := RX12) (T := TX12) (N := 21) (v := .ref (a 8)) hx hb hts iu_X12 hown hK hP 0 rfl rfl 9 (by decide) (hts _ kw896) (fun _ h9 => h9) rfl dX12_worthAt_77 ?_
        refine lv_iload hx hb dX12_worthAt_80 (lv_at hl 0 rfl) ?_
        refine lv_iconst (v := 1) hx hb dX12_worthAt_82 (by decide) ?_
        refine lv_isub hx hb dX12_worthAt_83 ?_
        obtain ⟨g_2, hf⟩ := gd_e hf
        refine va_iald (f := mo.2.1 7) hx hb hK hP 8 0 rfl rfl g_2 dX12_worthAt_84 ?_
        refine lv_aload_n hx hb dX12_worthAt_85 rfl (lv_at hl 4 rfl) ?_
        refine lv_iload hx hb dX12_worthAt_86 (lv_at hl 1 rfl) ?_
        obtain ⟨r_3, hc3, hf⟩ := bd_e hf
        refine call_V (As := [.int v5]) (rest := [.int (mo.2.1 7 (ix (v6 - 1)))]) hx hb hml hown hts hK hP hD hS hA hZ lkX12_137 (c_X12_postage l G ct sk sv a n mo v5 hc3) 0 rfl rfl ⟨Nat.le_of_ble_eq_true rfl, Nat.le_of_ble_eq_true rfl⟩ rfl hl.1 rfl (Nat.le_of_ble_eq_true rfl) dX12_worthAt_88 ⟨Nat.le_of_ble_eq_true rfl, Nat.le_of_ble_eq_true rfl⟩ (fun r9 w9 H locs hB hP hD hS => ?_)
        obtain ⟨rfl, rfl⟩ := hB
        refine WG_eq (g2 := F0 m 91 ls [.int r_3, .int (mo.2.1 7 (ix (v6 - 1)))]) rfl ?_
        refine lv_icmp_ge (tgt := 116) hx hb dX12_worthAt_91 (by decide) (fun c_4 => ?_) (fun c_4 => ?_)
        · replace hf := bc_t hf c_4
          exact hE (v6, mo) (lp_inr hor hf).symm _ _ _ hP hD hS hl
        · replace hf := bc_f hf c_4
          refine lv_aload_n hx hb dX12_worthAt_94 rfl (lv_at hl 4 rfl) ?_
          refine va_get (D := G) (C := RX12) (T := TX12) (N := 21) (v := .ref (a 8)) hx hb hts iu_X12 hown hK hP 0 rfl rfl 9 (by decide) (hts _ kw896) (fun _ h9 => h9) rfl dX12_worthAt_95 ?_
          refine lv_iload hx hb dX12_worthAt_98 (lv_at hl 0 rfl) ?_
          refine lv_aload_n hx hb dX12_worthAt_100 rfl (lv_at hl 4 rfl) ?_
          refine va_get (D := G) (C := RX12) (T := TX12) (N := 21) (v := .ref (a 8)) hx hb hts iu_X12 hown hK hP 0 rfl rfl 9 (by decide) (hts _ kw896) (fun _ h9 => h9) rfl dX12_worthAt_101 ?_
          refine lv_iload hx hb dX12_worthAt_104 (lv_at hl 0 rfl) ?_
          refine lv_iconst (v := 1) hx hb dX12_worthAt_106 (by decide) ?_
          refine lv_isub hx hb dX12_worthAt_107 ?_
          obtain ⟨g_5, hf⟩ := gd_e hf
          refine va_iald (f := mo.2.1 7) hx hb hK hP 8 0 rfl rfl g_5 dX12_worthAt_108 ?_
          obtain ⟨g_6, hf⟩ := gd_e hf
          obtain ⟨mo_7, emo_7, hf⟩ := bl_e hf
          refine va_iast hx hb hK hP hD hS 8 0 rfl rfl g_6 dX12_worthAt_109 (fun H locs hP hD hS => ?_)
          have hP : va_P G classes (wl [lfM ct a mo_7]) H := by rw [← emo_7]; exact hP
          have hD : va_D A (wl [lfM ct a mo_7]) := by rw [← emo_7]; exact hD
          obtain ⟨v6_8, ev6_8, hf⟩ := bl_e hf
          refine lv_iinc (v := v6_8) (lv' := [(6, .int v6_8), (5, .int v5), (4, .int v4), (3, .int v3), (0, .ref (a 0)), (1, .int v1), (2, .int v2)]) hx hb dX12_worthAt_110 hl (k := 0) rfl ev6_8 (by decide) rfl (fun ls hl => ?_)
          refine lv_goto (tgt := 71) hx hb dX12_worthAt_113 (by decide) ?_
          exact ih mo_7 v5 v4 v3 v1 v2 v6_8 ex _ _ _ hP hD hS hl (lp_inl hor hf) hE
  have L16 : ∀ (fu : Nat) (mo : MV) (v4 : Int32) (v1 : Int32) (v2 : Int32) (v5 : Int32) (v3 : Int32) (ex : Int32 × MV) (H : Heap) (locs : List Loc) (ls : Array Slot), va_P G classes (wl [lfM ct a mo]) H → va_D A (wl [lfM ct a mo]) → va_S A s.heap H locs → lv_has ls 7 [(5, .int v5), (4, .int v4), (3, .int v3), (0, .ref (a 0)), (1, .int v1), (2, .int v2)] → f_X12_worthAt_l16 fu n mo v4 v1 v2 v5 v3 = some ex → (∀ (x : Int32 × MV), ex = x → ∀ (H : Heap) (locs : List Loc) (ls : Array Slot), va_P G classes (wl [lfM ct a x.2]) H → va_D A (wl [lfM ct a x.2]) → va_S A s.heap H locs → lv_has ls 7 [(4, .int v4), (3, .int x.1), (0, .ref (a 0)), (1, .int v1)] → WG l G ct sk sv p e (RM 3 64 0 0) s m args below meth c A (Eq2 (some (.int r)) (wl [lfM ct a mo'])) H locs (F0 m 138 ls [])) → WG l G ct sk sv p e (RM 3 64 0 0) s m args below meth c A (Eq2 (some (.int r)) (wl [lfM ct a mo'])) H locs (F0 m 16 ls []) := by
    intro fu
    induction fu with
    | zero =>
      intro mo v4 v1 v2 v5 v3 ex H locs ls hP hD hS hl hf
      exact absurd hf (by unfold f_X12_worthAt_l16 lp; exact fun h => by cases h)
    | succ fu ih =>
      intro mo v4 v1 v2 v5 v3 ex H locs ls hP hD hS hl hf hE
      unfold f_X12_worthAt_l16 at hf
      obtain ⟨q, hf, hor⟩ := lp_e hf
      have J132 : ∀ (mo : MV) (v5 : Int32) (v3 : Int32) (H : Heap) (locs : List Loc) (ls : Array Slot), va_P G classes (wl [lfM ct a mo]) H → va_D A (wl [lfM ct a mo]) → va_S A s.heap H locs → lv_has ls 7 [(5, .int v5), (4, .int v4), (3, .int v3), (0, .ref (a 0)), (1, .int v1), (2, .int v2)] → f_X12_worthAt_j132 n mo v5 v4 v3 v1 v2 = some q → WG l G ct sk sv p e (RM 3 64 0 0) s m args below meth c A (Eq2 (some (.int r)) (wl [lfM ct a mo'])) H locs (F0 m 132 ls []) := by
        intro mo v5 v3 H locs ls hP hD hS hl hf
        unfold f_X12_worthAt_j132 at hf
        obtain ⟨v5_9, ev5_9, hf⟩ := bl_e hf
        refine lv_iinc (v := v5_9) (lv' := [(5, .int v5_9), (4, .int v4), (3, .int v3), (0, .ref (a 0)), (1, .int v1), (2, .int v2)]) hx hb dX12_worthAt_132 hl (k := 0) rfl ev5_9 (by decide) rfl (fun ls hl => ?_)
        refine lv_goto (tgt := 16) hx hb dX12_worthAt_135 (by decide) ?_
        exact ih mo v4 v1 v2 v5_9 v3 ex _ _ _ hP hD hS hl (lp_inl hor hf) hE
      have J116 : ∀ (mo : MV) (v6 : Int32) (v5 : Int32) (v3 : Int32) (H : Heap) (locs : List Loc) (ls : Array Slot), va_P G classes (wl [lfM ct a mo]) H → va_D A (wl [lfM ct a mo]) → va_S A s.heap H locs → lv_has ls 7 [(6, .int v6), (5, .int v5), (4, .int v4), (3, .int v3), (0, .ref (a 0)), (1, .int v1), (2, .int v2)] → f_X12_worthAt_j116 n mo v6 v5 v4 v3 v1 v2 = some q → WG l G ct sk sv p e (RM 3 64 0 0) s m args below meth c A (Eq2 (some (.int r)) (wl [lfM ct a mo'])) H locs (F0 m 116 ls []) := by
        intro mo v6 v5 v3 H locs ls hP hD hS hl hf
        unfold f_X12_worthAt_j116 at hf
        refine lv_aload_n hx hb dX12_worthAt_116 rfl (lv_at hl 4 rfl) ?_
        refine va_get (D := G) (C := RX12) (T := TX12) (N := 21) (v := .ref (a 8)) hx hb hts iu_X12 hown hK hP 0 rfl rfl 9 (by decide) (hts _ kw896) (fun _ h9 => h9) rfl dX12_worthAt_117 ?_
        refine lv_iload hx hb dX12_worthAt_120 (lv_at hl 0 rfl) ?_
        refine lv_aload_n hx hb dX12_worthAt_122 rfl (lv_at hl 4 rfl) ?_
        refine lv_iload hx hb dX12_worthAt_123 (lv_at hl 1 rfl) ?_
        obtain ⟨r_10, hc10, hf⟩ := bd_e hf
        refine call_V (As := [.int v5]) (rest := [.int v6, .ref (a 8)]) hx hb hml hown hts hK hP hD hS hA hZ lkX12_137 (c_X12_postage l G ct sk sv a n mo v5 hc10) 0 rfl rfl ⟨Nat.le_of_ble_eq_true rfl, Nat.le_of_ble_eq_true rfl⟩ rfl hl.1 rfl (Nat.le_of_ble_eq_true rfl) dX12_worthAt_125 ⟨Nat.le_of_ble_eq_true rfl, Nat.le_of_ble_eq_true rfl⟩ (fun r9 w9 H locs hB hP hD hS => ?_)
        obtain ⟨rfl, rfl⟩ := hB
        refine WG_eq (g2 := F0 m 128 ls [.int r_10, .int v6, .ref (a 8)]) rfl ?_
        obtain ⟨g_11, hf⟩ := gd_e hf
        obtain ⟨mo_12, emo_12, hf⟩ := bl_e hf
        refine va_iast hx hb hK hP hD hS 8 0 rfl rfl g_11 dX12_worthAt_128 (fun H locs hP hD hS => ?_)
        have hP : va_P G classes (wl [lfM ct a mo_12]) H := by rw [← emo_12]; exact hP
        have hD : va_D A (wl [lfM ct a mo_12]) := by rw [← emo_12]; exact hD
        obtain ⟨v3_13, ev3_13, hf⟩ := bl_e hf
        refine lv_iinc (v := v3_13) (lv' := [(3, .int v3_13), (6, .int v6), (5, .int v5), (4, .int v4), (0, .ref (a 0)), (1, .int v1), (2, .int v2)]) hx hb dX12_worthAt_129 hl (k := 3) rfl ev3_13 (by decide) rfl (fun ls hl => ?_)
        exact J132 mo_12 v5 v3_13 _ _ _ hP hD hS (lv_sub hl [2, 3, 0, 4, 5, 6] rfl) hf
      replace hf : f_X12_worthAt_b16 n mo v5 v4 v3 v1 v2 = some q := hf
      unfold f_X12_worthAt_b16 at hf
      refine lv_iload hx hb dX12_worthAt_16 (lv_at hl 0 rfl) ?_
      refine lv_aload_n hx hb dX12_worthAt_18 rfl (lv_at hl 3 rfl) ?_
      obtain ⟨r_14, hc14, hf⟩ := bd_e hf
      refine call_V (As := []) (rest := [.int v5]) hx hb hml hown hts hK hP hD hS hA hZ lkX12_69 (c_X12_letters l G ct sk sv a n mo hc14) 0 rfl rfl ⟨Nat.le_of_ble_eq_true rfl, Nat.le_of_ble_eq_true rfl⟩ rfl hl.1 rfl (Nat.le_of_ble_eq_true rfl) dX12_worthAt_19 ⟨Nat.le_of_ble_eq_true rfl, Nat.le_of_ble_eq_true rfl⟩ (fun r9 w9 H locs hB hP hD hS => ?_)
      obtain ⟨rfl, rfl⟩ := hB
      refine WG_eq (g2 := F0 m 22 ls [.int r_14, .int v5]) rfl ?_
      refine lv_icmp_ge (tgt := 138) hx hb dX12_worthAt_22 (by decide) (fun c_15 => ?_) (fun c_15 => ?_)
      · replace hf := bc_t hf c_15
        exact hE (v3, mo) (lp_inr hor hf).symm _ _ _ hP hD hS (lv_sub hl [1, 2, 3, 4] rfl)
      · replace hf := bc_f hf c_15
        refine lv_aload_n hx hb dX12_worthAt_25 rfl (lv_at hl 3 rfl) ?_
        refine lv_iload hx hb dX12_worthAt_26 (lv_at hl 0 rfl) ?_
        obtain ⟨r_16, hc16, hf⟩ := bd_e hf
        refine call_V (As := [.int v5]) (rest := []) hx hb hml hown hts hK hP hD hS hA hZ lkX12_134 (c_X12_lies l G ct sk sv a n mo v5 hc16) 0 rfl rfl ⟨Nat.le_of_ble_eq_true rfl, Nat.le_of_ble_eq_true rfl⟩ rfl hl.1 rfl (Nat.le_of_ble_eq_true rfl) dX12_worthAt_28 ⟨Nat.le_of_ble_eq_true rfl, Nat.le_of_ble_eq_true rfl⟩ (fun r9 w9 H locs hB hP hD hS => ?_)
        obtain ⟨rfl, rfl⟩ := hB
        refine WG_eq (g2 := F0 m 31 ls [.int r_16]) rfl ?_
        refine lv_if_eq (tgt := 132) hx hb dX12_worthAt_31 (by decide) (fun c_17 => ?_) (fun c_17 => ?_)
        · replace hf := bc_t hf c_17
          exact J132 mo v5 v3 _ _ _ hP hD hS hl hf
        · replace hf := bc_f hf c_17
          refine lv_aload_n hx hb dX12_worthAt_34 rfl (lv_at hl 3 rfl) ?_
          refine lv_iload hx hb dX12_worthAt_35 (lv_at hl 0 rfl) ?_
          refine lv_iconst (v := 0) hx hb dX12_worthAt_37 (by decide) ?_
          obtain ⟨r_18, hc18, hf⟩ := bd_e hf
          refine call_V (As := [.int v5, .int 0]) (rest := []) hx hb hml hown hts hK hP hD hS hA hZ lkX12_145 (c_X12_get l G ct sk sv a n mo v5 0 hc18) 0 rfl rfl ⟨Nat.le_of_ble_eq_true rfl, Nat.le_of_ble_eq_true rfl⟩ rfl hl.1 rfl (Nat.le_of_ble_eq_true rfl) dX12_worthAt_38 ⟨Nat.le_of_ble_eq_true rfl, Nat.le_of_ble_eq_true rfl⟩ (fun r9 w9 H locs hB hP hD hS => ?_)
          obtain ⟨rfl, rfl⟩ := hB
          refine WG_eq (g2 := F0 m 41 ls [.int r_18]) rfl ?_
          refine lv_iload_n hx hb dX12_worthAt_41 rfl (lv_at hl 5 rfl) ?_
          obtain ⟨r_19, hc19, hf⟩ := bd_e hf
          refine call_S (As := [.int r_18, .int v2]) (rest := []) hx hb hml hown hts hK hP hD hS hA hZ lkX12_97 (Ctr.upL (c_X12_miles l G ct sk sv  n r_18 v2 hc19) [lfM ct a mo] [lfM ct a mo] [lfM ct a mo] [0] 1 (by decide) rfl rfl rfl rfl) ⟨Nat.le_of_ble_eq_true rfl, Nat.le_of_ble_eq_true rfl⟩ rfl hl.1 rfl (Nat.le_of_ble_eq_true rfl) dX12_worthAt_42 ⟨Nat.le_of_ble_eq_true rfl, Nat.le_of_ble_eq_true rfl⟩ (fun r9 w9 H locs hB hP hD hS => ?_)
          obtain ⟨rfl, rfl⟩ := hB
          refine WG_eq (g2 := F0 m 45 ls [.int r_19]) rfl ?_
          refine lv_iload hx hb dX12_worthAt_45 (lv_at hl 1 rfl) ?_
          obtain ⟨r_20, hc20, hf⟩ := bd_e hf
          refine call_S (As := [.int v4]) (rest := [.int r_19]) hx hb hml hown hts hK hP hD hS hA hZ lkX12_105 (Ctr.upL (c_X12_reachAs l G ct sk sv  n v4 hc20) [lfM ct a mo] [lfM ct a mo] [lfM ct a mo] [0] 1 (by decide) rfl rfl rfl rfl) ⟨Nat.le_of_ble_eq_true rfl, Nat.le_of_ble_eq_true rfl⟩ rfl hl.1 rfl (Nat.le_of_ble_eq_true rfl) dX12_worthAt_47 ⟨Nat.le_of_ble_eq_true rfl, Nat.le_of_ble_eq_true rfl⟩ (fun r9 w9 H locs hB hP hD hS => ?_)
          obtain ⟨rfl, rfl⟩ := hB
          refine WG_eq (g2 := F0 m 50 ls [.int r_20, .int r_19]) rfl ?_
          refine lv_icmp_gt (tgt := 132) hx hb dX12_worthAt_50 (by decide) (fun c_21 => ?_) (fun c_21 => ?_)
          · replace hf := bc_t hf c_21
            exact J132 mo v5 v3 _ _ _ hP hD hS hl hf
          · replace hf := bc_f hf c_21
            refine lv_aload_n hx hb dX12_worthAt_53 rfl (lv_at hl 3 rfl) ?_
            refine lv_iload hx hb dX12_worthAt_54 (lv_at hl 0 rfl) ?_
            refine lv_iconst (v := 2) hx hb dX12_worthAt_56 (by decide) ?_
            obtain ⟨r_22, hc22, hf⟩ := bd_e hf
            refine call_V (As := [.int v5, .int 2]) (rest := []) hx hb hml hown hts hK hP hD hS hA hZ lkX12_145 (c_X12_get l G ct sk sv a n mo v5 2 hc22) 0 rfl rfl ⟨Nat.le_of_ble_eq_true rfl, Nat.le_of_ble_eq_true rfl⟩ rfl hl.1 rfl (Nat.le_of_ble_eq_true rfl) dX12_worthAt_57 ⟨Nat.le_of_ble_eq_true rfl, Nat.le_of_ble_eq_true rfl⟩ (fun r9 w9 H locs hB hP hD hS => ?_)
            obtain ⟨rfl, rfl⟩ := hB
            refine WG_eq (g2 := F0 m 60 ls [.int r_22]) rfl ?_
            refine lv_iload hx hb dX12_worthAt_60 (lv_at hl 1 rfl) ?_
            obtain ⟨r_23, hc23, hf⟩ := bd_e hf
            refine call_S (As := [.int v4]) (rest := [.int r_22]) hx hb hml hown hts hK hP hD hS hA hZ lkX12_111 (Ctr.upL (c_X12_bearsAs l G ct sk sv  n v4 hc23) [lfM ct a mo] [lfM ct a mo] [lfM ct a mo] [0] 1 (by decide) rfl rfl rfl rfl) ⟨Nat.le_of_ble_eq_true rfl, Nat.le_of_ble_eq_true rfl⟩ rfl hl.1 rfl (Nat.le_of_ble_eq_true rfl) dX12_worthAt_62 ⟨Nat.le_of_ble_eq_true rfl, Nat.le_of_ble_eq_true rfl⟩ (fun r9 w9 H locs hB hP hD hS => ?_)
            obtain ⟨rfl, rfl⟩ := hB
            refine WG_eq (g2 := F0 m 65 ls [.int r_23, .int r_22]) rfl ?_
            refine lv_icmp_gt (tgt := 132) hx hb dX12_worthAt_65 (by decide) (fun c_24 => ?_) (fun c_24 => ?_)
            · replace hf := bc_t hf c_24
              exact J132 mo v5 v3 _ _ _ hP hD hS hl hf
            · replace hf := bc_f hf c_24
              refine lv_iload_n hx hb dX12_worthAt_68 rfl (lv_at hl 2 rfl) ?_
              refine lv_istore (lv' := [(6, .int v3), (5, .int v5), (4, .int v4), (3, .int v3), (0, .ref (a 0)), (1, .int v1), (2, .int v2)]) hx hb dX12_worthAt_69 hl (by decide) rfl (fun ls hl => ?_)
              obtain ⟨v6_25, mo_26, hx_27, hf⟩ := bd2_e hf
              refine L71 n mo v5 v4 v3 v1 v2 v3 (v6_25, mo_26) _ _ _ hP hD hS hl hx_27 ?_
              intro x9 e9 H locs ls hP hD hS hl
              subst e9
              have hP : va_P G classes (wl [lfM ct a mo_26]) H := hP
              have hD : va_D A (wl [lfM ct a mo_26]) := hD
              have hl : lv_has ls 7 [(6, .int v6_25), (5, .int v5), (4, .int v4), (3, .int v3), (0, .ref (a 0)), (1, .int v1), (2, .int v2)] := hl
              exact J116 mo_26 v6_25 v5 v3 _ _ _ hP hD hS hl hf
  have L144 : ∀ (fu : Nat) (mo : MV) (v4 : Int32) (v3 : Int32) (v1 : Int32) (v6 : Int32) (v5 : Int32) (ex : Int32) (H : Heap) (locs : List Loc) (ls : Array Slot), va_P G classes (wl [lfM ct a mo]) H → va_D A (wl [lfM ct a mo]) → va_S A s.heap H locs → lv_has ls 7 [(6, .int v6), (5, .int v5), (4, .int v4), (3, .int v3), (0, .ref (a 0)), (1, .int v1)] → f_X12_worthAt_l144 fu n mo v4 v3 v1 v6 v5 = some ex → (∀ (x : Int32), ex = x → ∀ (H : Heap) (locs : List Loc) (ls : Array Slot), va_P G classes (wl [lfM ct a mo]) H → va_D A (wl [lfM ct a mo]) → va_S A s.heap H locs → lv_has ls 7 [(5, .int x)] → WG l G ct sk sv p e (RM 3 64 0 0) s m args below meth c A (Eq2 (some (.int r)) (wl [lfM ct a mo'])) H locs (F0 m 195 ls [])) → WG l G ct sk sv p e (RM 3 64 0 0) s m args below meth c A (Eq2 (some (.int r)) (wl [lfM ct a mo'])) H locs (F0 m 144 ls []) := by
    intro fu
    induction fu with
    | zero =>
      intro mo v4 v3 v1 v6 v5 ex H locs ls hP hD hS hl hf
      exact absurd hf (by unfold f_X12_worthAt_l144 lp; exact fun h => by cases h)
    | succ fu ih =>
      intro mo v4 v3 v1 v6 v5 ex H locs ls hP hD hS hl hf hE
      unfold f_X12_worthAt_l144 at hf
      obtain ⟨q, hf, hor⟩ := lp_e hf
      replace hf : f_X12_worthAt_b144 n mo v6 v5 v4 v3 v1 = some q := hf
      unfold f_X12_worthAt_b144 at hf
      refine lv_iload hx hb dX12_worthAt_144 (lv_at hl 0 rfl) ?_
      refine lv_iload_n hx hb dX12_worthAt_146 rfl (lv_at hl 3 rfl) ?_
      refine lv_icmp_ge (tgt := 195) hx hb dX12_worthAt_147 (by decide) (fun c_28 => ?_) (fun c_28 => ?_)
      · replace hf := bc_t hf c_28
        exact hE v5 (lp_inr hor hf).symm _ _ _ hP hD hS (lv_sub hl [1] rfl)
      · replace hf := bc_f hf c_28
        refine lv_iload hx hb dX12_worthAt_150 (lv_at hl 0 rfl) ?_
        refine lv_iload hx hb dX12_worthAt_152 (lv_at hl 2 rfl) ?_
        refine lv_aload_n hx hb dX12_worthAt_154 rfl (lv_at hl 4 rfl) ?_
        refine va_get (D := G) (C := RX12) (T := TX12) (N := 21) (v := .ref (a 1)) hx hb hts iu_X12 hown hK hP 0 rfl rfl 0 (by decide) (hts _ kw887) (fun _ h9 => h9) rfl dX12_worthAt_155 ?_
        refine lv_bipush (v := 23) hx hb dX12_worthAt_158 (by decide) ?_
        obtain ⟨g_29, hf⟩ := gd_e hf
        refine va_iald (f := mo.2.1 0) hx hb hK hP 1 0 rfl rfl g_29 dX12_worthAt_160 ?_
        obtain ⟨r_30, hc30, hf⟩ := bd_e hf
        refine call_S (As := [.int v4, .int (mo.2.1 0 (ix 23))]) (rest := [.int v6]) hx hb hml hown hts hK hP hD hS hA hZ lkX12_108 (Ctr.upL (c_X12_coversAs l G ct sk sv  n v4 (mo.2.1 0 (ix 23)) hc30) [lfM ct a mo] [lfM ct a mo] [lfM ct a mo] [0] 1 (by decide) rfl rfl rfl rfl) ⟨Nat.le_of_ble_eq_true rfl, Nat.le_of_ble_eq_true rfl⟩ rfl hl.1 rfl (Nat.le_of_ble_eq_true rfl) dX12_worthAt_161 ⟨Nat.le_of_ble_eq_true rfl, Nat.le_of_ble_eq_true rfl⟩ (fun r9 w9 H locs hB hP hD hS => ?_)
        obtain ⟨rfl, rfl⟩ := hB
        refine WG_eq (g2 := F0 m 164 ls [.int r_30, .int v6]) rfl ?_
        refine lv_aload_n hx hb dX12_worthAt_164 rfl (lv_at hl 4 rfl) ?_
        refine va_get (D := G) (C := RX12) (T := TX12) (N := 21) (v := .ref (a 1)) hx hb hts iu_X12 hown hK hP 0 rfl rfl 0 (by decide) (hts _ kw887) (fun _ h9 => h9) rfl dX12_worthAt_165 ?_
        refine lv_bipush (v := 11) hx hb dX12_worthAt_168 (by decide) ?_
        refine lv_iload_n hx hb dX12_worthAt_170 rfl (lv_at hl 5 rfl) ?_
        refine lv_iadd hx hb dX12_worthAt_171 ?_
        obtain ⟨g_31, hf⟩ := gd_e hf
        refine va_iald (f := mo.2.1 0) hx hb hK hP 1 0 rfl rfl g_31 dX12_worthAt_172 ?_
        refine lv_isub hx hb dX12_worthAt_173 ?_
        refine lv_icmp_ge (tgt := 195) hx hb dX12_worthAt_174 (by decide) (fun c_32 => ?_) (fun c_32 => ?_)
        · replace hf := bc_t hf c_32
          exact hE v5 (lp_inr hor hf).symm _ _ _ hP hD hS (lv_sub hl [1] rfl)
        · replace hf := bc_f hf c_32
          refine lv_iload hx hb dX12_worthAt_177 (lv_at hl 1 rfl) ?_
          refine lv_aload_n hx hb dX12_worthAt_179 rfl (lv_at hl 4 rfl) ?_
          refine va_get (D := G) (C := RX12) (T := TX12) (N := 21) (v := .ref (a 8)) hx hb hts iu_X12 hown hK hP 0 rfl rfl 9 (by decide) (hts _ kw896) (fun _ h9 => h9) rfl dX12_worthAt_180 ?_
          refine lv_iload hx hb dX12_worthAt_183 (lv_at hl 0 rfl) ?_
          obtain ⟨g_33, hf⟩ := gd_e hf
          refine va_iald (f := mo.2.1 7) hx hb hK hP 8 0 rfl rfl g_33 dX12_worthAt_185 ?_
          refine lv_iadd hx hb dX12_worthAt_186 ?_
          refine lv_topi (fun v5_34 ev5_34 => ?_)
          replace hf := bl_i hf ev5_34
          refine lv_istore (lv' := [(5, .int v5_34), (6, .int v6), (4, .int v4), (3, .int v3), (0, .ref (a 0)), (1, .int v1)]) hx hb dX12_worthAt_187 hl (by decide) rfl (fun ls hl => ?_)
          obtain ⟨v6_35, ev6_35, hf⟩ := bl_e hf
          refine lv_iinc (v := v6_35) (lv' := [(6, .int v6_35), (5, .int v5_34), (4, .int v4), (3, .int v3), (0, .ref (a 0)), (1, .int v1)]) hx hb dX12_worthAt_189 hl (k := 1) rfl ev6_35 (by decide) rfl (fun ls hl => ?_)
          refine lv_goto (tgt := 144) hx hb dX12_worthAt_192 (by decide) ?_
          exact ih mo v4 v3 v1 v6_35 v5_34 ex _ _ _ hP hD hS hl (lp_inl hor hf) hE
  have J195 : ∀ (mo : MV) (v5 : Int32) (H : Heap) (locs : List Loc) (ls : Array Slot), va_P G classes (wl [lfM ct a mo]) H → va_D A (wl [lfM ct a mo]) → va_S A s.heap H locs → lv_has ls 7 [(5, .int v5)] → f_X12_worthAt_j195 n mo v5 = some (r, mo') → WG l G ct sk sv p e (RM 3 64 0 0) s m args below meth c A (Eq2 (some (.int r)) (wl [lfM ct a mo'])) H locs (F0 m 195 ls []) := by
    intro mo v5 H locs ls hP hD hS hl hf
    unfold f_X12_worthAt_j195 at hf
    refine lv_iload hx hb dX12_worthAt_195 (lv_at hl 0 rfl) ?_
    obtain ⟨e1, e2⟩ := inj2 (Option.some.inj hf)
    exact end_i (w' := (wl [lfM ct a mo])) hx hb hr hlocks hK hP hD hS dX12_worthAt_197  ⟨by rw [← e1], by rw [← e2]⟩
  unfold f_X12_worthAt at hf
  show WG l G ct sk sv p e (RM 3 64 0 0) s m args below meth c A (Eq2 (some (.int r)) (wl [lfM ct a mo'])) s.heap [] (F0 m 0 ls [])
  refine lv_iconst (v := 0) hx hb dX12_worthAt_0 (by decide) ?_
  refine lv_istore_n (lv' := [(3, .int 0), (0, .ref (a 0)), (1, .int v1), (2, .int v2)]) hx hb dX12_worthAt_1 rfl hl (by decide) rfl (fun ls hl => ?_)
  refine lv_aload_n hx hb dX12_worthAt_2 rfl (lv_at hl 1 rfl) ?_
  refine va_get (D := G) (C := RX12) (T := TX12) (N := 21) (v := .ref (a 1)) hx hb hts iu_X12 hown hK hP 0 rfl rfl 0 (by decide) (hts _ kw887) (fun _ h9 => h9) rfl dX12_worthAt_3 ?_
  refine lv_bipush (v := 24) hx hb dX12_worthAt_6 (by decide) ?_
  refine lv_iload_n hx hb dX12_worthAt_8 rfl (lv_at hl 2 rfl) ?_
  refine lv_iadd hx hb dX12_worthAt_9 ?_
  obtain ⟨g_36, hf⟩ := gd_e hf
  refine va_iald (f := mo.2.1 0) hx hb hK hP 1 0 rfl rfl g_36 dX12_worthAt_10 ?_
  refine lv_topi (fun v4_37 ev4_37 => ?_)
  replace hf := bl_i hf ev4_37
  refine lv_istore (lv' := [(4, .int v4_37), (3, .int 0), (0, .ref (a 0)), (1, .int v1), (2, .int v2)]) hx hb dX12_worthAt_11 hl (by decide) rfl (fun ls hl => ?_)
  refine lv_iconst (v := 0) hx hb dX12_worthAt_13 (by decide) ?_
  refine lv_istore (lv' := [(5, .int 0), (4, .int v4_37), (3, .int 0), (0, .ref (a 0)), (1, .int v1), (2, .int v2)]) hx hb dX12_worthAt_14 hl (by decide) rfl (fun ls hl => ?_)
  obtain ⟨v3_38, mo_39, hx_40, hf⟩ := bd2_e hf
  refine L16 n mo v4_37 v1 v2 0 0 (v3_38, mo_39) _ _ _ hP hD hS hl hx_40 ?_
  intro x9 e9 H locs ls hP hD hS hl
  subst e9
  have hP : va_P G classes (wl [lfM ct a mo_39]) H := hP
  have hD : va_D A (wl [lfM ct a mo_39]) := hD
  have hl : lv_has ls 7 [(4, .int v4_37), (3, .int v3_38), (0, .ref (a 0)), (1, .int v1)] := hl
  refine lv_iconst (v := 0) hx hb dX12_worthAt_138 (by decide) ?_
  refine lv_istore (lv' := [(5, .int 0), (4, .int v4_37), (3, .int v3_38), (0, .ref (a 0)), (1, .int v1)]) hx hb dX12_worthAt_139 hl (by decide) rfl (fun ls hl => ?_)
  refine lv_iconst (v := 0) hx hb dX12_worthAt_141 (by decide) ?_
  refine lv_istore (lv' := [(6, .int 0), (5, .int 0), (4, .int v4_37), (3, .int v3_38), (0, .ref (a 0)), (1, .int v1)]) hx hb dX12_worthAt_142 hl (by decide) rfl (fun ls hl => ?_)
  obtain ⟨v5_41, hx_42, hf⟩ := bd_e hf
  refine L144 n mo_39 v4_37 v3_38 v1 0 0 v5_41 _ _ _ hP hD hS hl hx_42 ?_
  intro x9 e9 H locs ls hP hD hS hl
  subst e9
  have hP : va_P G classes (wl [lfM ct a mo_39]) H := hP
  have hD : va_D A (wl [lfM ct a mo_39]) := hD
  have hl : lv_has ls 7 [(5, .int v5_41)] := hl
  exact J195 mo_39 v5_41 _ _ _ hP hD hS hl hf
noncomputable def f_X12_stand_j77 (n : Nat) (mo : MV) (v3 : Int32) (v5 : Int32) (v1 : Int32) (v2 : Int32) (s0 : Int32) : Option ((Int32 × Int32 × Int32 × MV) ⊕ (Int32 × Int32 × MV)) :=
  bl (v5 + 1) fun v5_1 =>
  some (.inl (v5_1, s0, v3, mo))
noncomputable def f_X12_stand_j62 (n : Nat) (mo : MV) (v6 : Int32) (v5 : Int32) (v4 : Int32) (v1 : Int32) (v2 : Int32) (s0 : Int32) : Option ((Int32 × Int32 × Int32 × MV) ⊕ (Int32 × Int32 × MV)) :=
  bc (v6 ≤ v4) (f_X12_stand_j77 n mo s0 v5 v1 v2 v4)
  (f_X12_stand_j77 n mo s0 v5 v1 v2 v6)
noncomputable def f_X12_stand_b33 (n : Nat) (mo : MV) (v5 : Int32) (v4 : Int32) (v3 : Int32) (v1 : Int32) (v2 : Int32) : Option ((Int32 × Int32 × Int32 × MV) ⊕ (Int32 × Int32 × MV)) :=
  bc (100 ≤ v5) (some (.inr (v4, v3, mo)))
  (bd2 (f_X12_worthAt n mo v1 v5) fun r_4 mo_5 =>
  bc (r_4 ≤ v4) (f_X12_stand_j62 n mo_5 r_4 v5 v4 v1 v2 v3)
  (f_X12_stand_j62 n mo_5 r_4 v5 v4 v1 v2 v5))
noncomputable def f_X12_stand_l33 (fu : Nat) (n : Nat) (mo : MV) (v1 : Int32) (v2 : Int32) (v5 : Int32) (v4 : Int32) (v3 : Int32) : Option (Int32 × Int32 × MV) :=
  lp (fun q => f_X12_stand_b33 n q.2.2.2 q.1 q.2.1 q.2.2.1 v1 v2) fu (v5, v4, v3, mo)
noncomputable def f_X12_stand_j95 (n : Nat) (mo : MV) (s0 : Int32) : Option (Int32 × MV) :=
  some (s0, mo)
noncomputable def f_X12_stand_j18 (n : Nat) (mo : MV) : Option (Int32 × MV) :=
  bd2 (f_X12_bad n mo (-2)) fun r_7 mo_8 =>
  some (r_7, mo_8)
noncomputable def f_X12_stand (n : Nat) (mo : MV) (v1 : Int32) (v2 : Int32) : Option (Int32 × MV) :=
  bd (f_X12_isMember n mo v1) fun r_9 =>
  bc (r_9 = 0) (f_X12_stand_j18 n mo)
  (bd (f_X12_in n ((v2 : Int32).toInt64) 0 1) fun r_11 =>
  bc (r_11 = 0) (f_X12_stand_j18 n mo)
  (bd3 (f_X12_stand_l33 n n mo v1 v2 0 (-1) 0) fun v4_13 v3_14 mo_15 =>
  bc (v2 = 0) (f_X12_stand_j95 n mo_15 v3_14)
  (f_X12_stand_j95 n mo_15 v4_13)))
set_option maxHeartbeats 4000000 in
set_option maxRecDepth 100000 in
theorem c_X12_stand (l : Launch) (G : va_G) (ct : Nat → ClassId) (sk sv : Nat → Nat) (a : Nat → Nat) (n : Nat) (mo : MV) (v1 : Int32) (v2 : Int32) {r : Int32} {mo' : MV} (hf : f_X12_stand n mo v1 v2 = some (r, mo')) : Ctr (l, G, ct, sk, sv) mX12_stand 4 90 [.ref (a 0), .int v1, .int v2] (wl [lfM ct a mo]) (wl [lfM ct a mo']) (some (.int r)) := by
  refine ctr_intro (by decide) (Nat.le_of_ble_eq_true rfl) ?_
  intro p e s m args below meth c A C hP hD hS hA ls hl
  obtain ⟨hx, hb, hml, hown, hts, hr, hlocks, hK, hnm, hZ⟩ := C
  have hb : c.code = cX12_stand := hb
  have hml : c.maxLocals = 7 := hml
  have hown : s.vm.findClass "SignedOutsideModel" = some m.cls := hown
  have hr : meth.sig.returnType = some .int := hr
  have hP : va_P G classes (wl [lfM ct a mo]) s.heap := hP
  have hD : va_D A (wl [lfM ct a mo]) := hD
  have hK : va_K G classes (TYS ct) s := hK
  have hl : lv_has ls 7 [(0, .ref (a 0)), (1, .int v1), (2, .int v2)] := hl
  have L33 : ∀ (fu : Nat) (mo : MV) (v1 : Int32) (v2 : Int32) (v5 : Int32) (v4 : Int32) (v3 : Int32) (ex : Int32 × Int32 × MV) (H : Heap) (locs : List Loc) (ls : Array Slot), va_P G classes (wl [lfM ct a mo]) H → va_D A (wl [lfM ct a mo]) → va_S A s.heap H locs → lv_has ls 7 [(5, .int v5), (4, .int v4), (3, .int v3), (0, .ref (a 0)), (1, .int v1), (2, .int v2)] → f_X12_stand_l33 fu n mo v1 v2 v5 v4 v3 = some ex → (∀ (x : Int32 × Int32 × MV), ex = x → ∀ (H : Heap) (locs : List Loc) (ls : Array Slot), va_P G classes (wl [lfM ct a x.2.2]) H → va_D A (wl [lfM ct a x.2.2]) → va_S A s.heap H locs → lv_has ls 7 [(4, .int x.1), (3, .int x.2.1), (2, .int v2)] → WG l G ct sk sv p e (RM 4 90 0 0) s m args below meth c A (Eq2 (some (.int r)) (wl [lfM ct a mo'])) H locs (F0 m 85 ls [])) → WG l G ct sk sv p e (RM 4 90 0 0) s m args below meth c A (Eq2 (some (.int r)) (wl [lfM ct a mo'])) H locs (F0 m 33 ls []) := by
    intro fu
    induction fu with
    | zero =>
      intro mo v1 v2 v5 v4 v3 ex H locs ls hP hD hS hl hf
      exact absurd hf (by unfold f_X12_stand_l33 lp; exact fun h => by cases h)
    | succ fu ih =>
      intro mo v1 v2 v5 v4 v3 ex H locs ls hP hD hS hl hf hE
      unfold f_X12_stand_l33 at hf
      obtain ⟨q, hf, hor⟩ := lp_e hf
      have J77 : ∀ (mo : MV) (v3 : Int32) (v5 : Int32) (s0 : Int32) (H : Heap) (locs : List Loc) (ls : Array Slot), va_P G classes (wl [lfM ct a mo]) H → va_D A (wl [lfM ct a mo]) → va_S A s.heap H locs → lv_has ls 7 [(3, .int v3), (5, .int v5), (0, .ref (a 0)), (1, .int v1), (2, .int v2)] → f_X12_stand_j77 n mo v3 v5 v1 v2 s0 = some q → WG l G ct sk sv p e (RM 4 90 0 0) s m args below meth c A (Eq2 (some (.int r)) (wl [lfM ct a mo'])) H locs (F0 m 77 ls [.int s0]) := by
        intro mo v3 v5 s0 H locs ls hP hD hS hl hf
        unfold f_X12_stand_j77 at hf
        refine lv_istore (lv' := [(4, .int s0), (3, .int v3), (5, .int v5), (0, .ref (a 0)), (1, .int v1), (2, .int v2)]) hx hb dX12_stand_77 hl (by decide) rfl (fun ls hl => ?_)
        obtain ⟨v5_1, ev5_1, hf⟩ := bl_e hf
        refine lv_iinc (v := v5_1) (lv' := [(5, .int v5_1), (4, .int s0), (3, .int v3), (0, .ref (a 0)), (1, .int v1), (2, .int v2)]) hx hb dX12_stand_79 hl (k := 2) rfl ev5_1 (by decide) rfl (fun ls hl => ?_)
        refine lv_goto (tgt := 33) hx hb dX12_stand_82 (by decide) ?_
        exact ih mo v1 v2 v5_1 s0 v3 ex _ _ _ hP hD hS hl (lp_inl hor hf) hE
      have J62 : ∀ (mo : MV) (v6 : Int32) (v5 : Int32) (v4 : Int32) (s0 : Int32) (H : Heap) (locs : List Loc) (ls : Array Slot), va_P G classes (wl [lfM ct a mo]) H → va_D A (wl [lfM ct a mo]) → va_S A s.heap H locs → lv_has ls 7 [(6, .int v6), (5, .int v5), (4, .int v4), (0, .ref (a 0)), (1, .int v1), (2, .int v2)] → f_X12_stand_j62 n mo v6 v5 v4 v1 v2 s0 = some q → WG l G ct sk sv p e (RM 4 90 0 0) s m args below meth c A (Eq2 (some (.int r)) (wl [lfM ct a mo'])) H locs (F0 m 62 ls [.int s0]) := by
        intro mo v6 v5 v4 s0 H locs ls hP hD hS hl hf
        unfold f_X12_stand_j62 at hf
        refine lv_istore_n (lv' := [(3, .int s0), (6, .int v6), (5, .int v5), (4, .int v4), (0, .ref (a 0)), (1, .int v1), (2, .int v2)]) hx hb dX12_stand_62 rfl hl (by decide) rfl (fun ls hl => ?_)
        refine lv_iload hx hb dX12_stand_63 (lv_at hl 1 rfl) ?_
        refine lv_iload hx hb dX12_stand_65 (lv_at hl 3 rfl) ?_
        refine lv_icmp_le (tgt := 75) hx hb dX12_stand_67 (by decide) (fun c_2 => ?_) (fun c_2 => ?_)
        · replace hf := bc_t hf c_2
          refine lv_iload hx hb dX12_stand_75 (lv_at hl 3 rfl) ?_
          exact J77 mo s0 v5 v4 _ _ _ hP hD hS (lv_sub hl [0, 2, 4, 5, 6] rfl) hf
        · replace hf := bc_f hf c_2
          refine lv_iload hx hb dX12_stand_70 (lv_at hl 1 rfl) ?_
          refine lv_goto (tgt := 77) hx hb dX12_stand_72 (by decide) ?_
          exact J77 mo s0 v5 v6 _ _ _ hP hD hS (lv_sub hl [0, 2, 4, 5, 6] rfl) hf
      replace hf : f_X12_stand_b33 n mo v5 v4 v3 v1 v2 = some q := hf
      unfold f_X12_stand_b33 at hf
      refine lv_iload hx hb dX12_stand_33 (lv_at hl 0 rfl) ?_
      refine lv_bipush (v := 100) hx hb dX12_stand_35 (by decide) ?_
      refine lv_icmp_ge (tgt := 85) hx hb dX12_stand_37 (by decide) (fun c_3 => ?_) (fun c_3 => ?_)
      · replace hf := bc_t hf c_3
        exact hE (v4, v3, mo) (lp_inr hor hf).symm _ _ _ hP hD hS (lv_sub hl [1, 2, 5] rfl)
      · replace hf := bc_f hf c_3
        refine lv_aload_n hx hb dX12_stand_40 rfl (lv_at hl 3 rfl) ?_
        refine lv_iload_n hx hb dX12_stand_41 rfl (lv_at hl 4 rfl) ?_
        refine lv_iload hx hb dX12_stand_42 (lv_at hl 0 rfl) ?_
        obtain ⟨r_4, mo_5, hc5, hf⟩ := bd2_e hf
        refine call_V (As := [.int v1, .int v5]) (rest := []) hx hb hml hown hts hK hP hD hS hA hZ lkX12_165 (c_X12_worthAt l G ct sk sv a n mo v1 v5 hc5) 0 rfl rfl ⟨Nat.le_of_ble_eq_true rfl, Nat.le_of_ble_eq_true rfl⟩ rfl hl.1 rfl (Nat.le_of_ble_eq_true rfl) dX12_stand_44 ⟨Nat.le_of_ble_eq_true rfl, Nat.le_of_ble_eq_true rfl⟩ (fun r9 w9 H locs hB hP hD hS => ?_)
        obtain ⟨rfl, rfl⟩ := hB
        refine WG_eq (g2 := F0 m 47 ls [.int r_4]) rfl ?_
        refine lv_istore (lv' := [(6, .int r_4), (5, .int v5), (4, .int v4), (3, .int v3), (0, .ref (a 0)), (1, .int v1), (2, .int v2)]) hx hb dX12_stand_47 hl (by decide) rfl (fun ls hl => ?_)
        refine lv_iload hx hb dX12_stand_49 (lv_at hl 0 rfl) ?_
        refine lv_iload hx hb dX12_stand_51 (lv_at hl 2 rfl) ?_
        refine lv_icmp_le (tgt := 61) hx hb dX12_stand_53 (by decide) (fun c_6 => ?_) (fun c_6 => ?_)
        · replace hf := bc_t hf c_6
          refine lv_iload_n hx hb dX12_stand_61 rfl (lv_at hl 3 rfl) ?_
          exact J62 mo_5 r_4 v5 v4 v3 _ _ _ hP hD hS (lv_sub hl [0, 1, 2, 4, 5, 6] rfl) hf
        · replace hf := bc_f hf c_6
          refine lv_iload hx hb dX12_stand_56 (lv_at hl 1 rfl) ?_
          refine lv_goto (tgt := 62) hx hb dX12_stand_58 (by decide) ?_
          exact J62 mo_5 r_4 v5 v4 v5 _ _ _ hP hD hS (lv_sub hl [0, 1, 2, 4, 5, 6] rfl) hf
  have J95 : ∀ (mo : MV) (s0 : Int32) (H : Heap) (locs : List Loc) (ls : Array Slot), va_P G classes (wl [lfM ct a mo]) H → va_D A (wl [lfM ct a mo]) → va_S A s.heap H locs → lv_has ls 7 [] → f_X12_stand_j95 n mo s0 = some (r, mo') → WG l G ct sk sv p e (RM 4 90 0 0) s m args below meth c A (Eq2 (some (.int r)) (wl [lfM ct a mo'])) H locs (F0 m 95 ls [.int s0]) := by
    intro mo s0 H locs ls hP hD hS hl hf
    unfold f_X12_stand_j95 at hf
    obtain ⟨e1, e2⟩ := inj2 (Option.some.inj hf)
    exact end_i (w' := (wl [lfM ct a mo])) hx hb hr hlocks hK hP hD hS dX12_stand_95  ⟨by rw [← e1], by rw [← e2]⟩
  have J18 : ∀ (mo : MV) (H : Heap) (locs : List Loc) (ls : Array Slot), va_P G classes (wl [lfM ct a mo]) H → va_D A (wl [lfM ct a mo]) → va_S A s.heap H locs → lv_has ls 7 [(0, .ref (a 0))] → f_X12_stand_j18 n mo = some (r, mo') → WG l G ct sk sv p e (RM 4 90 0 0) s m args below meth c A (Eq2 (some (.int r)) (wl [lfM ct a mo'])) H locs (F0 m 18 ls []) := by
    intro mo H locs ls hP hD hS hl hf
    unfold f_X12_stand_j18 at hf
    refine lv_aload_n hx hb dX12_stand_18 rfl (lv_at hl 0 rfl) ?_
    refine lv_bipush (v := (-2)) hx hb dX12_stand_19 (by decide) ?_
    obtain ⟨r_7, mo_8, hc8, hf⟩ := bd2_e hf
    refine call_V (As := [.int (-2)]) (rest := []) hx hb hml hown hts hK hP hD hS hA hZ lkX12_80 (c_X12_bad l G ct sk sv a n mo (-2) hc8) 0 rfl rfl ⟨Nat.le_of_ble_eq_true rfl, Nat.le_of_ble_eq_true rfl⟩ rfl hl.1 rfl (Nat.le_of_ble_eq_true rfl) dX12_stand_21 ⟨Nat.le_of_ble_eq_true rfl, Nat.le_of_ble_eq_true rfl⟩ (fun r9 w9 H locs hB hP hD hS => ?_)
    obtain ⟨rfl, rfl⟩ := hB
    refine WG_eq (g2 := F0 m 24 ls [.int r_7]) rfl ?_
    obtain ⟨e1, e2⟩ := inj2 (Option.some.inj hf)
    exact end_i (w' := (wl [lfM ct a mo_8])) hx hb hr hlocks hK hP hD hS dX12_stand_24  ⟨by rw [← e1], by rw [← e2]⟩
  unfold f_X12_stand at hf
  show WG l G ct sk sv p e (RM 4 90 0 0) s m args below meth c A (Eq2 (some (.int r)) (wl [lfM ct a mo'])) s.heap [] (F0 m 0 ls [])
  refine lv_aload_n hx hb dX12_stand_0 rfl (lv_at hl 0 rfl) ?_
  refine lv_iload_n hx hb dX12_stand_1 rfl (lv_at hl 1 rfl) ?_
  obtain ⟨r_9, hc9, hf⟩ := bd_e hf
  refine call_V (As := [.int v1]) (rest := []) hx hb hml hown hts hK hP hD hS hA hZ lkX12_117 (c_X12_isMember l G ct sk sv a n mo v1 hc9) 0 rfl rfl ⟨Nat.le_of_ble_eq_true rfl, Nat.le_of_ble_eq_true rfl⟩ rfl hl.1 rfl (Nat.le_of_ble_eq_true rfl) dX12_stand_2 ⟨Nat.le_of_ble_eq_true rfl, Nat.le_of_ble_eq_true rfl⟩ (fun r9 w9 H locs hB hP hD hS => ?_)
  obtain ⟨rfl, rfl⟩ := hB
  refine WG_eq (g2 := F0 m 5 ls [.int r_9]) rfl ?_
  refine lv_if_eq (tgt := 18) hx hb dX12_stand_5 (by decide) (fun c_10 => ?_) (fun c_10 => ?_)
  · replace hf := bc_t hf c_10
    exact J18 mo _ _ _ hP hD hS (lv_sub hl [0] rfl) hf
  · replace hf := bc_f hf c_10
    refine lv_iload_n hx hb dX12_stand_8 rfl (lv_at hl 2 rfl) ?_
    refine lv_i2l (v := (v2 : Int32).toInt64) hx hb dX12_stand_9 rfl ?_
    refine lv_lconst (v := 0) hx hb dX12_stand_10 (by decide) ?_
    refine lv_lconst (v := 1) hx hb dX12_stand_11 (by decide) ?_
    obtain ⟨r_11, hc11, hf⟩ := bd_e hf
    refine call_S (As := [.long ((v2 : Int32).toInt64), .long 0, .long 1]) (rest := []) hx hb hml hown hts hK hP hD hS hA hZ lkX12_65 (Ctr.upL (c_X12_in l G ct sk sv  n ((v2 : Int32).toInt64) 0 1 hc11) [lfM ct a mo] [lfM ct a mo] [lfM ct a mo] [0] 1 (by decide) rfl rfl rfl rfl) ⟨Nat.le_of_ble_eq_true rfl, Nat.le_of_ble_eq_true rfl⟩ rfl hl.1 rfl (Nat.le_of_ble_eq_true rfl) dX12_stand_12 ⟨Nat.le_of_ble_eq_true rfl, Nat.le_of_ble_eq_true rfl⟩ (fun r9 w9 H locs hB hP hD hS => ?_)
    obtain ⟨rfl, rfl⟩ := hB
    refine WG_eq (g2 := F0 m 15 ls [.int r_11]) rfl ?_
    refine lv_if_ne (tgt := 25) hx hb dX12_stand_15 (by decide) (fun c_12 => ?_) (fun c_12 => ?_)
    · replace hf := bc_f hf c_12
      refine lv_iconst (v := 0) hx hb dX12_stand_25 (by decide) ?_
      refine lv_istore_n (lv' := [(3, .int 0), (0, .ref (a 0)), (1, .int v1), (2, .int v2)]) hx hb dX12_stand_26 rfl hl (by decide) rfl (fun ls hl => ?_)
      refine lv_iconst (v := (-1)) hx hb dX12_stand_27 (by decide) ?_
      refine lv_istore (lv' := [(4, .int (-1)), (3, .int 0), (0, .ref (a 0)), (1, .int v1), (2, .int v2)]) hx hb dX12_stand_28 hl (by decide) rfl (fun ls hl => ?_)
      refine lv_iconst (v := 0) hx hb dX12_stand_30 (by decide) ?_
      refine lv_istore (lv' := [(5, .int 0), (4, .int (-1)), (3, .int 0), (0, .ref (a 0)), (1, .int v1), (2, .int v2)]) hx hb dX12_stand_31 hl (by decide) rfl (fun ls hl => ?_)
      obtain ⟨v4_13, v3_14, mo_15, hx_16, hf⟩ := bd3_e hf
      refine L33 n mo v1 v2 0 (-1) 0 (v4_13, v3_14, mo_15) _ _ _ hP hD hS hl hx_16 ?_
      intro x9 e9 H locs ls hP hD hS hl
      subst e9
      have hP : va_P G classes (wl [lfM ct a mo_15]) H := hP
      have hD : va_D A (wl [lfM ct a mo_15]) := hD
      have hl : lv_has ls 7 [(4, .int v4_13), (3, .int v3_14), (2, .int v2)] := hl
      refine lv_iload_n hx hb dX12_stand_85 rfl (lv_at hl 2 rfl) ?_
      refine lv_if_ne (tgt := 93) hx hb dX12_stand_86 (by decide) (fun c_17 => ?_) (fun c_17 => ?_)
      · replace hf := bc_f hf c_17
        refine lv_iload hx hb dX12_stand_93 (lv_at hl 0 rfl) ?_
        exact J95 mo_15 v4_13 _ _ _ hP hD hS (lv_sub hl [] rfl) hf
      · replace hf := bc_t hf c_17
        refine lv_iload_n hx hb dX12_stand_89 rfl (lv_at hl 1 rfl) ?_
        refine lv_goto (tgt := 95) hx hb dX12_stand_90 (by decide) ?_
        exact J95 mo_15 v3_14 _ _ _ hP hD hS (lv_sub hl [] rfl) hf
    · replace hf := bc_t hf c_12
      exact J18 mo _ _ _ hP hD hS (lv_sub hl [0] rfl) hf
