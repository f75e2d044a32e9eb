noncomputable def f_X12_status_j26 (n : Nat) (mo : MV) (s0 : Int32) : Option (Int32 × MV) :=
  some (s0, mo)
noncomputable def f_X12_status (n : Nat) (mo : MV) (v1 : Int32) : Option (Int32 × MV) :=
  bd (f_X12_in n ((v1 : Int32).toInt64) 0 2) fun r_1 =>
  bc (r_1 = 0) (bd2 (f_X12_bad n mo (-1)) fun r_3 mo_4 =>
  f_X12_status_j26 n mo_4 r_3)
  (gd (vp_in v1 3) <|
  f_X12_status_j26 n mo (mo.2.1 3 (ix v1)))
set_option maxHeartbeats 4000000 in
set_option maxRecDepth 100000 in
theorem c_X12_status (l : Launch) (G : va_G) (ct : Nat → ClassId) (sk sv : Nat → Nat) (a : Nat → Nat) (n : Nat) (mo : MV) (v1 : Int32) {r : Int32} {mo' : MV} (hf : f_X12_status n mo v1 = some (r, mo')) : Ctr (l, G, ct, sk, sv) mX12_status 1 25 [.ref (a 0), .int v1] (wl [lfM ct a mo]) (wl [lfM ct a mo']) (some (.int r)) := by
  refine ctr_intro (by decide) (Nat.le_of_ble_eq_true rfl) ?_
  intro p e s m args below meth c A C hP hD hS hA ls hl
  obtain ⟨hx, hb, hml, hown, hts, hr, hlocks, hK, hnm, hZ⟩ := C
  have hb : c.code = cX12_status := hb
  have hml : c.maxLocals = 2 := hml
  have hown : s.vm.findClass "SignedOutsideModel" = some m.cls := hown
  have hr : meth.sig.returnType = some .int := hr
  have hP : va_P G classes (wl [lfM ct a mo]) s.heap := hP
  have hD : va_D A (wl [lfM ct a mo]) := hD
  have hK : va_K G classes (TYS ct) s := hK
  have hl : lv_has ls 2 [(0, .ref (a 0)), (1, .int v1)] := hl
  have J26 : ∀ (mo : MV) (s0 : Int32) (H : Heap) (locs : List Loc) (ls : Array Slot), va_P G classes (wl [lfM ct a mo]) H → va_D A (wl [lfM ct a mo]) → va_S A s.heap H locs → lv_has ls 2 [] → f_X12_status_j26 n mo s0 = some (r, mo') → WG l G ct sk sv p e (RM 1 25 0 0) s m args below meth c A (Eq2 (some (.int r)) (wl [lfM ct a mo'])) H locs (F0 m 26 ls [.int s0]) := by
    intro mo s0 H locs ls hP hD hS hl hf
    unfold f_X12_status_j26 at hf
    obtain ⟨e1, e2⟩ := inj2 (Option.some.inj hf)
    exact end_i (w' := (wl [lfM ct a mo])) hx hb hr hlocks hK hP hD hS dX12_status_26  ⟨by rw [← e1], by rw [← e2]⟩
  unfold f_X12_status at hf
  show WG l G ct sk sv p e (RM 1 25 0 0) s m args below meth c A (Eq2 (some (.int r)) (wl [lfM ct a mo'])) s.heap [] (F0 m 0 ls [])
  refine lv_iload_n hx hb dX12_status_0 rfl (lv_at hl 1 rfl) ?_
  refine lv_i2l (v := (v1 : Int32).toInt64) hx hb dX12_status_1 rfl ?_
  refine lv_lconst (v := 0) hx hb dX12_status_2 (by decide) ?_
  refine lv_ldc2 (v := 2) hx hb hown (hts _ kw1264) dX12_status_3 ?_
  obtain ⟨r_1, hc1, hf⟩ := bd_e hf
  refine call_S (As := [.long ((v1 : Int32).toInt64), .long 0, .long 2]) (rest := []) hx hb hml hown hts hK hP hD hS hA hZ lkX12_65 (Ctr.upL (c_X12_in l G ct sk sv  n ((v1 : Int32).toInt64) 0 2 hc1) [lfM ct a mo] [lfM ct a mo] [lfM ct a mo] [0] 1 (by decide) rfl rfl rfl rfl) ⟨Nat.le_of_ble_eq_true rfl, Nat.le_of_ble_eq_true rfl⟩ rfl hl.1 rfl (Nat.le_of_ble_eq_true rfl) dX12_status_6 ⟨Nat.le_of_ble_eq_true rfl, Nat.le_of_ble_eq_true rfl⟩ (fun r9 w9 H locs hB hP hD hS => ?_)
  obtain ⟨rfl, rfl⟩ := hB
  refine WG_eq (g2 := F0 m 9 ls [.int r_1]) rfl ?_
  refine lv_if_eq (tgt := 21) hx hb dX12_status_9 (by decide) (fun c_2 => ?_) (fun c_2 => ?_)
  · replace hf := bc_t hf c_2
    refine lv_aload_n hx hb dX12_status_21 rfl (lv_at hl 0 rfl) ?_
    refine lv_iconst (v := (-1)) hx hb dX12_status_22 (by decide) ?_
    obtain ⟨r_3, mo_4, hc4, hf⟩ := bd2_e hf
    refine call_V (As := [.int (-1)]) (rest := []) hx hb hml hown hts hK hP hD hS hA hZ lkX12_80 (c_X12_bad l G ct sk sv a n mo (-1) hc4) 0 rfl rfl ⟨Nat.le_of_ble_eq_true rfl, Nat.le_of_ble_eq_true rfl⟩ rfl hl.1 rfl (Nat.le_of_ble_eq_true rfl) dX12_status_23 ⟨Nat.le_of_ble_eq_true rfl, Nat.le_of_ble_eq_true rfl⟩ (fun r9 w9 H locs hB hP hD hS => ?_)
    obtain ⟨rfl, rfl⟩ := hB
    refine WG_eq (g2 := F0 m 26 ls [.int r_3]) rfl ?_
    exact J26 mo_4 r_3 _ _ _ hP hD hS (lv_sub hl [] rfl) hf
  · replace hf := bc_f hf c_2
    refine lv_aload_n hx hb dX12_status_12 rfl (lv_at hl 0 rfl) ?_
    refine va_get (D := G) (C := RX12) (T := TX12) (N := 21) (v := .ref (a 4)) hx hb hts iu_X12 hown hK hP 0 rfl rfl 3 (by decide) (hts _ kw890) (fun _ h9 => h9) rfl dX12_status_13 ?_
    refine lv_iload_n hx hb dX12_status_16 rfl (lv_at hl 1 rfl) ?_
    obtain ⟨g_5, hf⟩ := gd_e hf
    refine va_iald (f := mo.2.1 3) hx hb hK hP 4 0 rfl rfl g_5 dX12_status_17 ?_
    refine lv_goto (tgt := 26) hx hb dX12_status_18 (by decide) ?_
    exact J26 mo (mo.2.1 3 (ix v1)) _ _ _ hP hD hS (lv_sub hl [] rfl) hf
noncomputable def f_X12_type (n : Nat) (mo : MV) (v1 : Int32) : Option (Int32 × MV) :=
  bd (f_X12_in n ((v1 : Int32).toInt64) 0 127) fun r_1 =>
  bc (r_1 = 0) (bd2 (f_X12_bad n mo (-2)) fun r_9 mo_10 =>
  some (r_9, mo_10))
  (bc ((mo.1 0) = 150) (bd2 (f_X12_full n mo) fun r_7 mo_8 =>
  some (r_7, mo_8))
  (gd (vp_in (mo.1 0) 150) <|
  bl (setA mo 11 (upd (mo.2.1 11) (ix (mo.1 0)) v1)) fun mo_5 =>
  bl (setS mo_5 0 ((mo_5.1 0) + 1)) fun mo_6 =>
  some (mo_6.1 0, mo_6)))
set_option maxHeartbeats 4000000 in
set_option maxRecDepth 100000 in
theorem c_X12_type (l : Launch) (G : va_G) (ct : Nat → ClassId) (sk sv : Nat → Nat) (a : Nat → Nat) (n : Nat) (mo : MV) (v1 : Int32) {r : Int32} {mo' : MV} (hf : f_X12_type n mo v1 = some (r, mo')) : Ctr (l, G, ct, sk, sv) mX12_type 1 25 [.ref (a 0), .int v1] (wl [lfM ct a mo]) (wl [lfM ct a mo']) (some (.int r)) := by
  refine ctr_intro (by decide) (Nat.le_of_ble_eq_true rfl) ?_
  intro p e s m args below meth c A C hP hD hS hA ls hl
  obtain ⟨hx, hb, hml, hown, hts, hr, hlocks, hK, hnm, hZ⟩ := C
  have hb : c.code = cX12_type := hb
  have hml : c.maxLocals = 2 := hml
  have hown : s.vm.findClass "SignedOutsideModel" = some m.cls := hown
  have hr : meth.sig.returnType = some .int := hr
  have hP : va_P G classes (wl [lfM ct a mo]) s.heap := hP
  have hD : va_D A (wl [lfM ct a mo]) := hD
  have hK : va_K G classes (TYS ct) s := hK
  have hl : lv_has ls 2 [(0, .ref (a 0)), (1, .int v1)] := hl
  unfold f_X12_type at hf
  show WG l G ct sk sv p e (RM 1 25 0 0) s m args below meth c A (Eq2 (some (.int r)) (wl [lfM ct a mo'])) s.heap [] (F0 m 0 ls [])
  refine lv_iload_n hx hb dX12_type_0 rfl (lv_at hl 1 rfl) ?_
  refine lv_i2l (v := (v1 : Int32).toInt64) hx hb dX12_type_1 rfl ?_
  refine lv_lconst (v := 0) hx hb dX12_type_2 (by decide) ?_
  refine lv_ldc2 (v := 127) hx hb hown (hts _ kw1197) dX12_type_3 ?_
  obtain ⟨r_1, hc1, hf⟩ := bd_e hf
  refine call_S (As := [.long ((v1 : Int32).toInt64), .long 0, .long 127]) (rest := []) hx hb hml hown hts hK hP hD hS hA hZ lkX12_65 (Ctr.upL (c_X12_in l G ct sk sv  n ((v1 : Int32).toInt64) 0 127 hc1) [lfM ct a mo] [lfM ct a mo] [lfM ct a mo] [0] 1 (by decide) rfl rfl rfl rfl) ⟨Nat.le_of_ble_eq_true rfl, Nat.le_of_ble_eq_true rfl⟩ rfl hl.1 rfl (Nat.le_of_ble_eq_true rfl) dX12_type_6 ⟨Nat.le_of_ble_eq_true rfl, Nat.le_of_ble_eq_true rfl⟩ (fun r9 w9 H locs hB hP hD hS => ?_)
  obtain ⟨rfl, rfl⟩ := hB
  refine WG_eq (g2 := F0 m 9 ls [.int r_1]) rfl ?_
  refine lv_if_ne (tgt := 19) hx hb dX12_type_9 (by decide) (fun c_2 => ?_) (fun c_2 => ?_)
  · replace hf := bc_f hf c_2
    refine lv_aload_n hx hb dX12_type_19 rfl (lv_at hl 0 rfl) ?_
    refine va_get (D := G) (C := RX12) (T := TX12) (N := 21) (v := .int (mo.1 0)) hx hb hts iu_X12 hown hK hP 0 rfl rfl 14 (by decide) (hts _ kw901) (fun _ h9 => h9) rfl dX12_type_20 ?_
    refine lv_sipush (v := 150) hx hb dX12_type_23 (by decide) ?_
    refine lv_icmp_ne (tgt := 34) hx hb dX12_type_26 (by decide) (fun c_3 => ?_) (fun c_3 => ?_)
    · replace hf := bc_f hf c_3
      refine lv_aload_n hx hb dX12_type_34 rfl (lv_at hl 0 rfl) ?_
      refine va_get (D := G) (C := RX12) (T := TX12) (N := 21) (v := .ref (a 12)) hx hb hts iu_X12 hown hK hP 0 rfl rfl 13 (by decide) (hts _ kw900) (fun _ h9 => h9) rfl dX12_type_35 ?_
      refine lv_aload_n hx hb dX12_type_38 rfl (lv_at hl 0 rfl) ?_
      refine va_get (D := G) (C := RX12) (T := TX12) (N := 21) (v := .int (mo.1 0)) hx hb hts iu_X12 hown hK hP 0 rfl rfl 14 (by decide) (hts _ kw901) (fun _ h9 => h9) rfl dX12_type_39 ?_
      refine lv_iload_n hx hb dX12_type_42 rfl (lv_at hl 1 rfl) ?_
      obtain ⟨g_4, hf⟩ := gd_e hf
      obtain ⟨mo_5, emo_5, hf⟩ := bl_e hf
      refine va_iast hx hb hK hP hD hS 12 0 rfl rfl g_4 dX12_type_43 (fun H locs hP hD hS => ?_)
      have hP : va_P G classes (wl [lfM ct a mo_5]) H := by rw [← emo_5]; exact hP
      have hD : va_D A (wl [lfM ct a mo_5]) := by rw [← emo_5]; exact hD
      refine lv_aload_n hx hb dX12_type_44 rfl (lv_at hl 0 rfl) ?_
      refine lv_dup hx hb dX12_type_45 rfl ?_
      refine va_get (D := G) (C := RX12) (T := TX12) (N := 21) (v := .int (mo_5.1 0)) hx hb hts iu_X12 hown hK hP 0 rfl rfl 14 (by decide) (hts _ kw901) (fun _ h9 => h9) rfl dX12_type_46 ?_
      refine lv_iconst (v := 1) hx hb dX12_type_49 (by decide) ?_
      refine lv_iadd hx hb dX12_type_50 ?_
      obtain ⟨mo_6, emo_6, hf⟩ := bl_e hf
      refine va_put (D := G) (C := RX12) (T := TX12) (N := 21) (ty := .int) hx hb hts iu_X12 tyX12 tyX12_ok nmX12 hown hK hP hD hS 0 rfl rfl 14 (by decide) (hts _ kw901) (fun _ h9 => h9) rfl (by decide +kernel) rfl rfl (Nat.le_of_ble_eq_true rfl) dX12_type_51 (fun H locs hP hD hS => ?_)
      have hP : va_P G classes (wl [lfM ct a mo_6]) H := by rw [← emo_6]; exact hP
      have hD : va_D A (wl [lfM ct a mo_6]) := by rw [← emo_6]; exact hD
      refine lv_aload_n hx hb dX12_type_54 rfl (lv_at hl 0 rfl) ?_
      refine va_get (D := G) (C := RX12) (T := TX12) (N := 21) (v := .int (mo_6.1 0)) hx hb hts iu_X12 hown hK hP 0 rfl rfl 14 (by decide) (hts _ kw901) (fun _ h9 => h9) rfl dX12_type_55 ?_
      obtain ⟨e1, e2⟩ := inj2 (Option.some.inj hf)
      exact end_i (w' := (wl [lfM ct a mo_6])) hx hb hr hlocks hK hP hD hS dX12_type_58  ⟨by rw [← e1], by rw [← e2]⟩
    · replace hf := bc_t hf c_3
      refine lv_aload_n hx hb dX12_type_29 rfl (lv_at hl 0 rfl) ?_
      obtain ⟨r_7, mo_8, hc8, hf⟩ := bd2_e hf
      refine call_V (As := []) (rest := []) hx hb hml hown hts hK hP hD hS hA hZ lkX12_84 (c_X12_full l G ct sk sv a n mo hc8) 0 rfl rfl ⟨Nat.le_of_ble_eq_true rfl, Nat.le_of_ble_eq_true rfl⟩ rfl hl.1 rfl (Nat.le_of_ble_eq_true rfl) dX12_type_30 ⟨Nat.le_of_ble_eq_true rfl, Nat.le_of_ble_eq_true rfl⟩ (fun r9 w9 H locs hB hP hD hS => ?_)
      obtain ⟨rfl, rfl⟩ := hB
      refine WG_eq (g2 := F0 m 33 ls [.int r_7]) rfl ?_
      obtain ⟨e1, e2⟩ := inj2 (Option.some.inj hf)
      exact end_i (w' := (wl [lfM ct a mo_8])) hx hb hr hlocks hK hP hD hS dX12_type_33  ⟨by rw [← e1], by rw [← e2]⟩
  · replace hf := bc_t hf c_2
    refine lv_aload_n hx hb dX12_type_12 rfl (lv_at hl 0 rfl) ?_
    refine lv_bipush (v := (-2)) hx hb dX12_type_13 (by decide) ?_
    obtain ⟨r_9, mo_10, hc10, hf⟩ := bd2_e hf
    refine call_V (As := [.int (-2)]) (rest := []) hx hb hml hown hts hK hP hD hS hA hZ lkX12_80 (c_X12_bad l G ct sk sv a n mo (-2) hc10) 0 rfl rfl ⟨Nat.le_of_ble_eq_true rfl, Nat.le_of_ble_eq_true rfl⟩ rfl hl.1 rfl (Nat.le_of_ble_eq_true rfl) dX12_type_15 ⟨Nat.le_of_ble_eq_true rfl, Nat.le_of_ble_eq_true rfl⟩ (fun r9 w9 H locs hB hP hD hS => ?_)
    obtain ⟨rfl, rfl⟩ := hB
    refine WG_eq (g2 := F0 m 18 ls [.int r_9]) rfl ?_
    obtain ⟨e1, e2⟩ := inj2 (Option.some.inj hf)
    exact end_i (w' := (wl [lfM ct a mo_10])) hx hb hr hlocks hK hP hD hS dX12_type_18  ⟨by rw [← e1], by rw [← e2]⟩
noncomputable def f_X12_undo_b26 (n : Nat) (mo : MV) (v1 : Int32) : Option ((Int32 × MV) ⊕ (MV)) :=
  bc (19 ≤ v1) (some (.inr mo))
  (gd (vp_in 4 235) <|
  gd (vp_in ((83 + (19 * (mo.2.1 0 (ix 4)))) + v1) 235) <|
  gd (vp_in (5 + v1) 235) <|
  bl (setA mo 0 (upd (mo.2.1 0) (ix (5 + v1)) (mo.2.1 0 (ix ((83 + (19 * (mo.2.1 0 (ix 4)))) + v1))))) fun mo_5 =>
  bl (v1 + 1) fun v1_6 =>
  some (.inl (v1_6, mo_5)))
noncomputable def f_X12_undo_l26 (fu : Nat) (n : Nat) (mo : MV) (v1 : Int32) : Option (MV) :=
  lp (fun q => f_X12_undo_b26 n q.2 q.1) fu (v1, mo)
noncomputable def f_X12_undo (n : Nat) (mo : MV) : Option (Int32 × MV) :=
  gd (vp_in 4 235) <|
  bc ((mo.2.1 0 (ix 4)) = 0) (bd2 (f_X12_no n mo) fun r_15 mo_16 =>
  some (r_15, mo_16))
  (gd (vp_in 4 235) <|
  gd (vp_in 4 235) <|
  bl (setA mo 0 (upd (mo.2.1 0) (ix 4) ((mo.2.1 0 (ix 4)) - 1))) fun mo_11 =>
  bd (f_X12_undo_l26 n n mo_11 0) fun mo_12 =>
  gd (vp_in 23 235) <|
  some (mo_12.2.1 0 (ix 23), mo_12))
set_option maxHeartbeats 4000000 in
set_option maxRecDepth 100000 in
theorem c_X12_undo (l : Launch) (G : va_G) (ct : Nat → ClassId) (sk sv : Nat → Nat) (a : Nat → Nat) (n : Nat) (mo : MV) {r : Int32} {mo' : MV} (hf : f_X12_undo n mo = some (r, mo')) : Ctr (l, G, ct, sk, sv) mX12_undo 1 20 [.ref (a 0)] (wl [lfM ct a mo]) (wl [lfM ct a mo']) (some (.int r)) := by
  refine ctr_intro (by decide) (Nat.le_of_ble_eq_true rfl) ?_
  intro p e s m args below meth c A C hP hD hS hA ls hl
  obtain ⟨hx, hb, hml, hown, hts, hr, hlocks, hK, hnm, hZ⟩ := C
  have hb : c.code = cX12_undo := hb
  have hml : c.maxLocals = 2 := hml
  have hown : s.vm.findClass "SignedOutsideModel" = some m.cls := hown
  have hr : meth.sig.returnType = some .int := hr
  have hP : va_P G classes (wl [lfM ct a mo]) s.heap := hP
  have hD : va_D A (wl [lfM ct a mo]) := hD
  have hK : va_K G classes (TYS ct) s := hK
  have hl : lv_has ls 2 [(0, .ref (a 0))] := hl
  have L26 : ∀ (fu : Nat) (mo : MV) (v1 : Int32) (ex : MV) (H : Heap) (locs : List Loc) (ls : Array Slot), va_P G classes (wl [lfM ct a mo]) H → va_D A (wl [lfM ct a mo]) → va_S A s.heap H locs → lv_has ls 2 [(1, .int v1), (0, .ref (a 0))] → f_X12_undo_l26 fu n mo v1 = some ex → (∀ (x : MV), ex = x → ∀ (H : Heap) (locs : List Loc) (ls : Array Slot), va_P G classes (wl [lfM ct a x]) H → va_D A (wl [lfM ct a x]) → va_S A s.heap H locs → lv_has ls 2 [(0, .ref (a 0))] → WG l G ct sk sv p e (RM 1 20 0 0) s m args below meth c A (Eq2 (some (.int r)) (wl [lfM ct a mo'])) H locs (F0 m 65 ls [])) → WG l G ct sk sv p e (RM 1 20 0 0) s m args below meth c A (Eq2 (some (.int r)) (wl [lfM ct a mo'])) H locs (F0 m 26 ls []) := by
    intro fu
    induction fu with
    | zero =>
      intro mo v1 ex H locs ls hP hD hS hl hf
      exact absurd hf (by unfold f_X12_undo_l26 lp; exact fun h => by cases h)
    | succ fu ih =>
      intro mo v1 ex H locs ls hP hD hS hl hf hE
      unfold f_X12_undo_l26 at hf
      obtain ⟨q, hf, hor⟩ := lp_e hf
      replace hf : f_X12_undo_b26 n mo v1 = some q := hf
      unfold f_X12_undo_b26 at hf
      refine lv_iload_n hx hb dX12_undo_26 rfl (lv_at hl 0 rfl) ?_
      refine lv_bipush (v := 19) hx hb dX12_undo_27 (by decide) ?_
      refine lv_icmp_ge (tgt := 65) hx hb dX12_undo_29 (by decide) (fun c_1 => ?_) (fun c_1 => ?_)
      · replace hf := bc_t hf c_1
        exact hE mo (lp_inr hor hf).symm _ _ _ hP hD hS (lv_sub hl [1] rfl)
      · replace hf := bc_f hf c_1
        refine lv_aload_n hx hb dX12_undo_32 rfl (lv_at hl 1 rfl) ?_
        refine va_get (D := G) (C := RX12) (T := TX12) (N := 21) (v := .ref (a 1)) hx hb hts iu_X12 hown hK hP 0 rfl rfl 0 (by decide) (hts _ kw887) (fun _ h9 => h9) rfl dX12_undo_33 ?_
        refine lv_iconst (v := 5) hx hb dX12_undo_36 (by decide) ?_
        refine lv_iload_n hx hb dX12_undo_37 rfl (lv_at hl 0 rfl) ?_
        refine lv_iadd hx hb dX12_undo_38 ?_
        refine lv_aload_n hx hb dX12_undo_39 rfl (lv_at hl 1 rfl) ?_
        refine va_get (D := G) (C := RX12) (T := TX12) (N := 21) (v := .ref (a 1)) hx hb hts iu_X12 hown hK hP 0 rfl rfl 0 (by decide) (hts _ kw887) (fun _ h9 => h9) rfl dX12_undo_40 ?_
        refine lv_bipush (v := 83) hx hb dX12_undo_43 (by decide) ?_
        refine lv_bipush (v := 19) hx hb dX12_undo_45 (by decide) ?_
        refine lv_aload_n hx hb dX12_undo_47 rfl (lv_at hl 1 rfl) ?_
        refine va_get (D := G) (C := RX12) (T := TX12) (N := 21) (v := .ref (a 1)) hx hb hts iu_X12 hown hK hP 0 rfl rfl 0 (by decide) (hts _ kw887) (fun _ h9 => h9) rfl dX12_undo_48 ?_
        refine lv_iconst (v := 4) hx hb dX12_undo_51 (by decide) ?_
        obtain ⟨g_2, hf⟩ := gd_e hf
        refine va_iald (f := mo.2.1 0) hx hb hK hP 1 0 rfl rfl g_2 dX12_undo_52 ?_
        refine lv_imul hx hb dX12_undo_53 ?_
        refine lv_iadd hx hb dX12_undo_54 ?_
        refine lv_iload_n hx hb dX12_undo_55 rfl (lv_at hl 0 rfl) ?_
        refine lv_iadd hx hb dX12_undo_56 ?_
        obtain ⟨g_3, hf⟩ := gd_e hf
        refine va_iald (f := mo.2.1 0) hx hb hK hP 1 0 rfl rfl g_3 dX12_undo_57 ?_
        obtain ⟨g_4, hf⟩ := gd_e hf
        obtain ⟨mo_5, emo_5, hf⟩ := bl_e hf
        refine va_iast hx hb hK hP hD hS 1 0 rfl rfl g_4 dX12_undo_58 (fun H locs hP hD hS => ?_)
        have hP : va_P G classes (wl [lfM ct a mo_5]) H := by rw [← emo_5]; exact hP
        have hD : va_D A (wl [lfM ct a mo_5]) := by rw [← emo_5]; exact hD
        obtain ⟨v1_6, ev1_6, hf⟩ := bl_e hf
        refine lv_iinc (v := v1_6) (lv' := [(1, .int v1_6), (0, .ref (a 0))]) hx hb dX12_undo_59 hl (k := 0) rfl ev1_6 (by decide) rfl (fun ls hl => ?_)
        refine lv_goto (tgt := 26) hx hb dX12_undo_62 (by decide) ?_
        exact ih mo_5 v1_6 ex _ _ _ hP hD hS hl (lp_inl hor hf) hE
  unfold f_X12_undo at hf
  show WG l G ct sk sv p e (RM 1 20 0 0) s m args below meth c A (Eq2 (some (.int r)) (wl [lfM ct a mo'])) s.heap [] (F0 m 0 ls [])
  refine lv_aload_n hx hb dX12_undo_0 rfl (lv_at hl 0 rfl) ?_
  refine va_get (D := G) (C := RX12) (T := TX12) (N := 21) (v := .ref (a 1)) hx hb hts iu_X12 hown hK hP 0 rfl rfl 0 (by decide) (hts _ kw887) (fun _ h9 => h9) rfl dX12_undo_1 ?_
  refine lv_iconst (v := 4) hx hb dX12_undo_4 (by decide) ?_
  obtain ⟨g_7, hf⟩ := gd_e hf
  refine va_iald (f := mo.2.1 0) hx hb hK hP 1 0 rfl rfl g_7 dX12_undo_5 ?_
  refine lv_if_ne (tgt := 14) hx hb dX12_undo_6 (by decide) (fun c_8 => ?_) (fun c_8 => ?_)
  · replace hf := bc_f hf c_8
    refine lv_aload_n hx hb dX12_undo_14 rfl (lv_at hl 0 rfl) ?_
    refine va_get (D := G) (C := RX12) (T := TX12) (N := 21) (v := .ref (a 1)) hx hb hts iu_X12 hown hK hP 0 rfl rfl 0 (by decide) (hts _ kw887) (fun _ h9 => h9) rfl dX12_undo_15 ?_
    refine lv_iconst (v := 4) hx hb dX12_undo_18 (by decide) ?_
    refine lv_dup2_11 hx hb dX12_undo_19 rfl rfl ?_
    obtain ⟨g_9, hf⟩ := gd_e hf
    refine va_iald (f := mo.2.1 0) hx hb hK hP 1 0 rfl rfl g_9 dX12_undo_20 ?_
    refine lv_iconst (v := 1) hx hb dX12_undo_21 (by decide) ?_
    refine lv_isub hx hb dX12_undo_22 ?_
    obtain ⟨g_10, hf⟩ := gd_e hf
    obtain ⟨mo_11, emo_11, hf⟩ := bl_e hf
    refine va_iast hx hb hK hP hD hS 1 0 rfl rfl g_10 dX12_undo_23 (fun H locs hP hD hS => ?_)
    have hP : va_P G classes (wl [lfM ct a mo_11]) H := by rw [← emo_11]; exact hP
    have hD : va_D A (wl [lfM ct a mo_11]) := by rw [← emo_11]; exact hD
    refine lv_iconst (v := 0) hx hb dX12_undo_24 (by decide) ?_
    refine lv_istore_n (lv' := [(1, .int 0), (0, .ref (a 0))]) hx hb dX12_undo_25 rfl hl (by decide) rfl (fun ls hl => ?_)
    obtain ⟨mo_12, hx_13, hf⟩ := bd_e hf
    refine L26 n mo_11 0 mo_12 _ _ _ hP hD hS hl hx_13 ?_
    intro x9 e9 H locs ls hP hD hS hl
    subst e9
    have hP : va_P G classes (wl [lfM ct a mo_12]) H := hP
    have hD : va_D A (wl [lfM ct a mo_12]) := hD
    have hl : lv_has ls 2 [(0, .ref (a 0))] := hl
    refine lv_aload_n hx hb dX12_undo_65 rfl (lv_at hl 0 rfl) ?_
    refine va_get (D := G) (C := RX12) (T := TX12) (N := 21) (v := .ref (a 1)) hx hb hts iu_X12 hown hK hP 0 rfl rfl 0 (by decide) (hts _ kw887) (fun _ h9 => h9) rfl dX12_undo_66 ?_
    refine lv_bipush (v := 23) hx hb dX12_undo_69 (by decide) ?_
    obtain ⟨g_14, hf⟩ := gd_e hf
    refine va_iald (f := mo_12.2.1 0) hx hb hK hP 1 0 rfl rfl g_14 dX12_undo_71 ?_
    obtain ⟨e1, e2⟩ := inj2 (Option.some.inj hf)
    exact end_i (w' := (wl [lfM ct a mo_12])) hx hb hr hlocks hK hP hD hS dX12_undo_72  ⟨by rw [← e1], by rw [← e2]⟩
  · replace hf := bc_t hf c_8
    refine lv_aload_n hx hb dX12_undo_9 rfl (lv_at hl 0 rfl) ?_
    obtain ⟨r_15, mo_16, hc16, hf⟩ := bd2_e hf
    refine call_V (As := []) (rest := []) hx hb hml hown hts hK hP hD hS hA hZ lkX12_124 (c_X12_no l G ct sk sv a n mo hc16) 0 rfl rfl ⟨Nat.le_of_ble_eq_true rfl, Nat.le_of_ble_eq_true rfl⟩ rfl hl.1 rfl (Nat.le_of_ble_eq_true rfl) dX12_undo_10 ⟨Nat.le_of_ble_eq_true rfl, Nat.le_of_ble_eq_true rfl⟩ (fun r9 w9 H locs hB hP hD hS => ?_)
    obtain ⟨rfl, rfl⟩ := hB
    refine WG_eq (g2 := F0 m 13 ls [.int r_15]) rfl ?_
    obtain ⟨e1, e2⟩ := inj2 (Option.some.inj hf)
    exact end_i (w' := (wl [lfM ct a mo_16])) hx hb hr hlocks hK hP hD hS dX12_undo_13  ⟨by rw [← e1], by rw [← e2]⟩
noncomputable def f_X12_where_j82 (n : Nat) (mo : MV) (v6 : Int32) (v5 : Int32) (v4 : Int32) (v1 : Int32) (v2 : Int32) (v3 : Int32) : Option ((Int32 × Int32 × Int32) ⊕ (Int32 × Int32)) :=
  bl (v6 + 1) fun v6_1 =>
  some (.inl (v6_1, v5, v4))
noncomputable def f_X12_where_j77 (n : Nat) (mo : MV) (v6 : Int32) (v4 : Int32) (v1 : Int32) (v2 : Int32) (v3 : Int32) (s0 : Int32) : Option ((Int32 × Int32 × Int32) ⊕ (Int32 × Int32)) :=
  bl (v4 + 1) fun v4_2 =>
  f_X12_where_j82 n mo v6 s0 v4_2 v1 v2 v3
noncomputable def f_X12_where_b46 (n : Nat) (mo : MV) (v6 : Int32) (v5 : Int32) (v4 : Int32) (v1 : Int32) (v2 : Int32) (v3 : Int32) : Option ((Int32 × Int32 × Int32) ⊕ (Int32 × Int32)) :=
  bc (100 ≤ v6) (some (.inr (v5, v4)))
  (bd (f_X12_canBeAt n mo v1 v2 v6 0) fun r_4 =>
  bc (r_4 = 0) (f_X12_where_j82 n mo v6 v5 v4 v1 v2 v3)
  (bc (v4 = 0) (f_X12_where_j77 n mo v6 v4 v1 v2 v3 v6)
  (f_X12_where_j77 n mo v6 v4 v1 v2 v3 v5)))
noncomputable def f_X12_where_l46 (fu : Nat) (n : Nat) (mo : MV) (v1 : Int32) (v2 : Int32) (v3 : Int32) (v6 : Int32) (v5 : Int32) (v4 : Int32) : Option (Int32 × Int32) :=
  lp (fun q => f_X12_where_b46 n mo q.1 q.2.1 q.2.2 v1 v2 v3) fu (v6, v5, v4)
noncomputable def f_X12_where_j99 (n : Nat) (mo : MV) (s0 : Int32) : Option (Int32 × MV) :=
  some (s0, mo)
noncomputable def f_X12_where_j30 (n : Nat) (mo : MV) : Option (Int32 × MV) :=
  bd2 (f_X12_bad n mo (-2)) fun r_7 mo_8 =>
  some (r_7, mo_8)
noncomputable def f_X12_where (n : Nat) (mo : MV) (v1 : Int32) (v2 : Int32) (v3 : Int32) : Option (Int32 × MV) :=
  bd (f_X12_isMember n mo v1) fun r_9 =>
  bc (r_9 = 0) (f_X12_where_j30 n mo)
  (bd (f_X12_in n ((v2 : Int32).toInt64) 0 99) fun r_11 =>
  bc (r_11 = 0) (f_X12_where_j30 n mo)
  (bd (f_X12_in n ((v3 : Int32).toInt64) 0 1) fun r_13 =>
  bc (r_13 = 0) (f_X12_where_j30 n mo)
  (bd2 (f_X12_where_l46 n n mo v1 v2 v3 0 (-1) 0) fun v5_15 v4_16 =>
  bc (v3 = 0) (f_X12_where_j99 n mo v4_16)
  (f_X12_where_j99 n mo v5_15))))
set_option maxHeartbeats 4000000 in
set_option maxRecDepth 100000 in
theorem c_X12_where (l : Launch) (G : va_G) (ct : Nat → ClassId) (sk sv : Nat → Nat) (a : Nat → Nat) (n : Nat) (mo : MV) (v1 : Int32) (v2 : Int32) (v3 : Int32) {r : Int32} {mo' : MV} (hf : f_X12_where n mo v1 v2 v3 = some (r, mo')) : Ctr (l, G, ct, sk, sv) mX12_where 2 50 [.ref (a 0), .int v1, .int v2, .int v3] (wl [lfM ct a mo]) (wl [lfM ct a mo']) (some (.int r)) := by
  refine ctr_intro (by decide) (Nat.le_of_ble_eq_true rfl) ?_
  intro p e s m args below meth c A C hP hD hS hA ls hl
  obtain ⟨hx, hb, hml, hown, hts, hr, hlocks, hK, hnm, hZ⟩ := C
  have hb : c.code = cX12_where := hb
  have hml : c.maxLocals = 7 := hml
  have hown : s.vm.findClass "SignedOutsideModel" = some m.cls := hown
  have hr : meth.sig.returnType = some .int := hr
  have hP : va_P G classes (wl [lfM ct a mo]) s.heap := hP
  have hD : va_D A (wl [lfM ct a mo]) := hD
  have hK : va_K G classes (TYS ct) s := hK
  have hl : lv_has ls 7 [(0, .ref (a 0)), (1, .int v1), (2, .int v2), (3, .int v3)] := hl
  have L46 : ∀ (fu : Nat) (mo : MV) (v1 : Int32) (v2 : Int32) (v3 : Int32) (v6 : Int32) (v5 : Int32) (v4 : Int32) (ex : Int32 × Int32) (H : Heap) (locs : List Loc) (ls : Array Slot), va_P G classes (wl [lfM ct a mo]) H → va_D A (wl [lfM ct a mo]) → va_S A s.heap H locs → lv_has ls 7 [(6, .int v6), (5, .int v5), (4, .int v4), (0, .ref (a 0)), (1, .int v1), (2, .int v2), (3, .int v3)] → f_X12_where_l46 fu n mo v1 v2 v3 v6 v5 v4 = some ex → (∀ (x : Int32 × Int32), ex = x → ∀ (H : Heap) (locs : List Loc) (ls : Array Slot), va_P G classes (wl [lfM ct a mo]) H → va_D A (wl [lfM ct a mo]) → va_S A s.heap H locs → lv_has ls 7 [(5, .int x.1), (4, .int x.2), (3, .int v3)] → WG l G ct sk sv p e (RM 2 50 0 0) s m args below meth c A (Eq2 (some (.int r)) (wl [lfM ct a mo'])) H locs (F0 m 88 ls [])) → WG l G ct sk sv p e (RM 2 50 0 0) s m args below meth c A (Eq2 (some (.int r)) (wl [lfM ct a mo'])) H locs (F0 m 46 ls []) := by
    intro fu
    induction fu with
    | zero =>
      intro mo v1 v2 v3 v6 v5 v4 ex H locs ls hP hD hS hl hf
      exact absurd hf (by unfold f_X12_where_l46 lp; exact fun h => by cases h)
    | succ fu ih =>
      intro mo v1 v2 v3 v6 v5 v4 ex H locs ls hP hD hS hl hf hE
      unfold f_X12_where_l46 at hf
      obtain ⟨q, hf, hor⟩ := lp_e hf
      have J82 : ∀ (v6 : Int32) (v5 : Int32) (v4 : Int32) (H : Heap) (locs : List Loc) (ls : Array Slot), va_P G classes (wl [lfM ct a mo]) H → va_D A (wl [lfM ct a mo]) → va_S A s.heap H locs → lv_has ls 7 [(6, .int v6), (5, .int v5), (4, .int v4), (0, .ref (a 0)), (1, .int v1), (2, .int v2), (3, .int v3)] → f_X12_where_j82 n mo v6 v5 v4 v1 v2 v3 = some q → WG l G ct sk sv p e (RM 2 50 0 0) s m args below meth c A (Eq2 (some (.int r)) (wl [lfM ct a mo'])) H locs (F0 m 82 ls []) := by
        intro v6 v5 v4 H locs ls hP hD hS hl hf
        unfold f_X12_where_j82 at hf
        obtain ⟨v6_1, ev6_1, hf⟩ := bl_e hf
        refine lv_iinc (v := v6_1) (lv' := [(6, .int v6_1), (5, .int v5), (4, .int v4), (0, .ref (a 0)), (1, .int v1), (2, .int v2), (3, .int v3)]) hx hb dX12_where_82 hl (k := 0) rfl ev6_1 (by decide) rfl (fun ls hl => ?_)
        refine lv_goto (tgt := 46) hx hb dX12_where_85 (by decide) ?_
        exact ih mo v1 v2 v3 v6_1 v5 v4 ex _ _ _ hP hD hS hl (lp_inl hor hf) hE
      have J77 : ∀ (v6 : Int32) (v4 : Int32) (s0 : Int32) (H : Heap) (locs : List Loc) (ls : Array Slot), va_P G classes (wl [lfM ct a mo]) H → va_D A (wl [lfM ct a mo]) → va_S A s.heap H locs → lv_has ls 7 [(6, .int v6), (4, .int v4), (0, .ref (a 0)), (1, .int v1), (2, .int v2), (3, .int v3)] → f_X12_where_j77 n mo v6 v4 v1 v2 v3 s0 = some q → WG l G ct sk sv p e (RM 2 50 0 0) s m args below meth c A (Eq2 (some (.int r)) (wl [lfM ct a mo'])) H locs (F0 m 77 ls [.int s0]) := by
        intro v6 v4 s0 H locs ls hP hD hS hl hf
        unfold f_X12_where_j77 at hf
        refine lv_istore (lv' := [(5, .int s0), (6, .int v6), (4, .int v4), (0, .ref (a 0)), (1, .int v1), (2, .int v2), (3, .int v3)]) hx hb dX12_where_77 hl (by decide) rfl (fun ls hl => ?_)
        obtain ⟨v4_2, ev4_2, hf⟩ := bl_e hf
        refine lv_iinc (v := v4_2) (lv' := [(4, .int v4_2), (5, .int s0), (6, .int v6), (0, .ref (a 0)), (1, .int v1), (2, .int v2), (3, .int v3)]) hx hb dX12_where_79 hl (k := 2) rfl ev4_2 (by decide) rfl (fun ls hl => ?_)
        exact J82 v6 s0 v4_2 _ _ _ hP hD hS (lv_sub hl [2, 1, 0, 3, 4, 5, 6] rfl) hf
      replace hf : f_X12_where_b46 n mo v6 v5 v4 v1 v2 v3 = some q := hf
      unfold f_X12_where_b46 at hf
      refine lv_iload hx hb dX12_where_46 (lv_at hl 0 rfl) ?_
      refine lv_bipush (v := 100) hx hb dX12_where_48 (by decide) ?_
      refine lv_icmp_ge (tgt := 88) hx hb dX12_where_50 (by decide) (fun c_3 => ?_) (fun c_3 => ?_)
      · replace hf := bc_t hf c_3
        exact hE (v5, v4) (lp_inr hor hf).symm _ _ _ hP hD hS (lv_sub hl [1, 2, 6] rfl)
      · replace hf := bc_f hf c_3
        refine lv_aload_n hx hb dX12_where_53 rfl (lv_at hl 3 rfl) ?_
        refine lv_iload_n hx hb dX12_where_54 rfl (lv_at hl 4 rfl) ?_
        refine lv_iload_n hx hb dX12_where_55 rfl (lv_at hl 5 rfl) ?_
        refine lv_iload hx hb dX12_where_56 (lv_at hl 0 rfl) ?_
        refine lv_iconst (v := 0) hx hb dX12_where_58 (by decide) ?_
        obtain ⟨r_4, hc4, hf⟩ := bd_e hf
        refine call_V (As := [.int v1, .int v2, .int v6, .int 0]) (rest := []) hx hb hml hown hts hK hP hD hS hA hZ lkX12_185 (c_X12_canBeAt l G ct sk sv a n mo v1 v2 v6 0 hc4) 0 rfl rfl ⟨Nat.le_of_ble_eq_true rfl, Nat.le_of_ble_eq_true rfl⟩ rfl hl.1 rfl (Nat.le_of_ble_eq_true rfl) dX12_where_59 ⟨Nat.le_of_ble_eq_true rfl, Nat.le_of_ble_eq_true rfl⟩ (fun r9 w9 H locs hB hP hD hS => ?_)
        obtain ⟨rfl, rfl⟩ := hB
        refine WG_eq (g2 := F0 m 62 ls [.int r_4]) rfl ?_
        refine lv_if_eq (tgt := 82) hx hb dX12_where_62 (by decide) (fun c_5 => ?_) (fun c_5 => ?_)
        · replace hf := bc_t hf c_5
          exact J82 v6 v5 v4 _ _ _ hP hD hS hl hf
        · replace hf := bc_f hf c_5
          refine lv_iload hx hb dX12_where_65 (lv_at hl 2 rfl) ?_
          refine lv_if_ne (tgt := 75) hx hb dX12_where_67 (by decide) (fun c_6 => ?_) (fun c_6 => ?_)
          · replace hf := bc_f hf c_6
            refine lv_iload hx hb dX12_where_75 (lv_at hl 1 rfl) ?_
            exact J77 v6 v4 v5 _ _ _ hP hD hS (lv_sub hl [0, 2, 3, 4, 5, 6] rfl) hf
          · replace hf := bc_t hf c_6
            refine lv_iload hx hb dX12_where_70 (lv_at hl 0 rfl) ?_
            refine lv_goto (tgt := 77) hx hb dX12_where_72 (by decide) ?_
            exact J77 v6 v4 v6 _ _ _ hP hD hS (lv_sub hl [0, 2, 3, 4, 5, 6] rfl) hf
  have J99 : ∀ (mo : MV) (s0 : Int32) (H : Heap) (locs : List Loc) (ls : Array Slot), va_P G classes (wl [lfM ct a mo]) H → va_D A (wl [lfM ct a mo]) → va_S A s.heap H locs → lv_has ls 7 [] → f_X12_where_j99 n mo s0 = some (r, mo') → WG l G ct sk sv p e (RM 2 50 0 0) s m args below meth c A (Eq2 (some (.int r)) (wl [lfM ct a mo'])) H locs (F0 m 99 ls [.int s0]) := by
    intro mo s0 H locs ls hP hD hS hl hf
    unfold f_X12_where_j99 at hf
    obtain ⟨e1, e2⟩ := inj2 (Option.some.inj hf)
    exact end_i (w' := (wl [lfM ct a mo])) hx hb hr hlocks hK hP hD hS dX12_where_99  ⟨by rw [← e1], by rw [← e2]⟩
  have J30 : ∀ (mo : MV) (H : Heap) (locs : List Loc) (ls : Array Slot), va_P G classes (wl [lfM ct a mo]) H → va_D A (wl [lfM ct a mo]) → va_S A s.heap H locs → lv_has ls 7 [(0, .ref (a 0))] → f_X12_where_j30 n mo = some (r, mo') → WG l G ct sk sv p e (RM 2 50 0 0) s m args below meth c A (Eq2 (some (.int r)) (wl [lfM ct a mo'])) H locs (F0 m 30 ls []) := by
    intro mo H locs ls hP hD hS hl hf
    unfold f_X12_where_j30 at hf
    refine lv_aload_n hx hb dX12_where_30 rfl (lv_at hl 0 rfl) ?_
    refine lv_bipush (v := (-2)) hx hb dX12_where_31 (by decide) ?_
    obtain ⟨r_7, mo_8, hc8, hf⟩ := bd2_e hf
    refine call_V (As := [.int (-2)]) (rest := []) hx hb hml hown hts hK hP hD hS hA hZ lkX12_80 (c_X12_bad l G ct sk sv a n mo (-2) hc8) 0 rfl rfl ⟨Nat.le_of_ble_eq_true rfl, Nat.le_of_ble_eq_true rfl⟩ rfl hl.1 rfl (Nat.le_of_ble_eq_true rfl) dX12_where_33 ⟨Nat.le_of_ble_eq_true rfl, Nat.le_of_ble_eq_true rfl⟩ (fun r9 w9 H locs hB hP hD hS => ?_)
    obtain ⟨rfl, rfl⟩ := hB
    refine WG_eq (g2 := F0 m 36 ls [.int r_7]) rfl ?_
    obtain ⟨e1, e2⟩ := inj2 (Option.some.inj hf)
    exact end_i (w' := (wl [lfM ct a mo_8])) hx hb hr hlocks hK hP hD hS dX12_where_36  ⟨by rw [← e1], by rw [← e2]⟩
  unfold f_X12_where at hf
  show WG l G ct sk sv p e (RM 2 50 0 0) s m args below meth c A (Eq2 (some (.int r)) (wl [lfM ct a mo'])) s.heap [] (F0 m 0 ls [])
  refine lv_aload_n hx hb dX12_where_0 rfl (lv_at hl 0 rfl) ?_
  refine lv_iload_n hx hb dX12_where_1 rfl (lv_at hl 1 rfl) ?_
  obtain ⟨r_9, hc9, hf⟩ := bd_e hf
  refine call_V (As := [.int v1]) (rest := []) hx hb hml hown hts hK hP hD hS hA hZ lkX12_117 (c_X12_isMember l G ct sk sv a n mo v1 hc9) 0 rfl rfl ⟨Nat.le_of_ble_eq_true rfl, Nat.le_of_ble_eq_true rfl⟩ rfl hl.1 rfl (Nat.le_of_ble_eq_true rfl) dX12_where_2 ⟨Nat.le_of_ble_eq_true rfl, Nat.le_of_ble_eq_true rfl⟩ (fun r9 w9 H locs hB hP hD hS => ?_)
  obtain ⟨rfl, rfl⟩ := hB
  refine WG_eq (g2 := F0 m 5 ls [.int r_9]) rfl ?_
  refine lv_if_eq (tgt := 30) hx hb dX12_where_5 (by decide) (fun c_10 => ?_) (fun c_10 => ?_)
  · replace hf := bc_t hf c_10
    exact J30 mo _ _ _ hP hD hS (lv_sub hl [0] rfl) hf
  · replace hf := bc_f hf c_10
    refine lv_iload_n hx hb dX12_where_8 rfl (lv_at hl 2 rfl) ?_
    refine lv_i2l (v := (v2 : Int32).toInt64) hx hb dX12_where_9 rfl ?_
    refine lv_lconst (v := 0) hx hb dX12_where_10 (by decide) ?_
    refine lv_ldc2 (v := 99) hx hb hown (hts _ kw970) dX12_where_11 ?_
    obtain ⟨r_11, hc11, hf⟩ := bd_e hf
    refine call_S (As := [.long ((v2 : Int32).toInt64), .long 0, .long 99]) (rest := []) hx hb hml hown hts hK hP hD hS hA hZ lkX12_65 (Ctr.upL (c_X12_in l G ct sk sv  n ((v2 : Int32).toInt64) 0 99 hc11) [lfM ct a mo] [lfM ct a mo] [lfM ct a mo] [0] 1 (by decide) rfl rfl rfl rfl) ⟨Nat.le_of_ble_eq_true rfl, Nat.le_of_ble_eq_true rfl⟩ rfl hl.1 rfl (Nat.le_of_ble_eq_true rfl) dX12_where_14 ⟨Nat.le_of_ble_eq_true rfl, Nat.le_of_ble_eq_true rfl⟩ (fun r9 w9 H locs hB hP hD hS => ?_)
    obtain ⟨rfl, rfl⟩ := hB
    refine WG_eq (g2 := F0 m 17 ls [.int r_11]) rfl ?_
    refine lv_if_eq (tgt := 30) hx hb dX12_where_17 (by decide) (fun c_12 => ?_) (fun c_12 => ?_)
    · replace hf := bc_t hf c_12
      exact J30 mo _ _ _ hP hD hS (lv_sub hl [0] rfl) hf
    · replace hf := bc_f hf c_12
      refine lv_iload_n hx hb dX12_where_20 rfl (lv_at hl 3 rfl) ?_
      refine lv_i2l (v := (v3 : Int32).toInt64) hx hb dX12_where_21 rfl ?_
      refine lv_lconst (v := 0) hx hb dX12_where_22 (by decide) ?_
      refine lv_lconst (v := 1) hx hb dX12_where_23 (by decide) ?_
      obtain ⟨r_13, hc13, hf⟩ := bd_e hf
      refine call_S (As := [.long ((v3 : Int32).toInt64), .long 0, .long 1]) (rest := []) hx hb hml hown hts hK hP hD hS hA hZ lkX12_65 (Ctr.upL (c_X12_in l G ct sk sv  n ((v3 : Int32).toInt64) 0 1 hc13) [lfM ct a mo] [lfM ct a mo] [lfM ct a mo] [0] 1 (by decide) rfl rfl rfl rfl) ⟨Nat.le_of_ble_eq_true rfl, Nat.le_of_ble_eq_true rfl⟩ rfl hl.1 rfl (Nat.le_of_ble_eq_true rfl) dX12_where_24 ⟨Nat.le_of_ble_eq_true rfl, Nat.le_of_ble_eq_true rfl⟩ (fun r9 w9 H locs hB hP hD hS => ?_)
      obtain ⟨rfl, rfl⟩ := hB
      refine WG_eq (g2 := F0 m 27 ls [.int r_13]) rfl ?_
      refine lv_if_ne (tgt := 37) hx hb dX12_where_27 (by decide) (fun c_14 => ?_) (fun c_14 => ?_)
      · replace hf := bc_f hf c_14
        refine lv_iconst (v := 0) hx hb dX12_where_37 (by decide) ?_
        refine lv_istore (lv' := [(4, .int 0), (0, .ref (a 0)), (1, .int v1), (2, .int v2), (3, .int v3)]) hx hb dX12_where_38 hl (by decide) rfl (fun ls hl => ?_)
        refine lv_iconst (v := (-1)) hx hb dX12_where_40 (by decide) ?_
        refine lv_istore (lv' := [(5, .int (-1)), (4, .int 0), (0, .ref (a 0)), (1, .int v1), (2, .int v2), (3, .int v3)]) hx hb dX12_where_41 hl (by decide) rfl (fun ls hl => ?_)
        refine lv_iconst (v := 0) hx hb dX12_where_43 (by decide) ?_
        refine lv_istore (lv' := [(6, .int 0), (5, .int (-1)), (4, .int 0), (0, .ref (a 0)), (1, .int v1), (2, .int v2), (3, .int v3)]) hx hb dX12_where_44 hl (by decide) rfl (fun ls hl => ?_)
        obtain ⟨v5_15, v4_16, hx_17, hf⟩ := bd2_e hf
        refine L46 n mo v1 v2 v3 0 (-1) 0 (v5_15, v4_16) _ _ _ hP hD hS hl hx_17 ?_
        intro x9 e9 H locs ls hP hD hS hl
        subst e9
        have hP : va_P G classes (wl [lfM ct a mo]) H := hP
        have hD : va_D A (wl [lfM ct a mo]) := hD
        have hl : lv_has ls 7 [(5, .int v5_15), (4, .int v4_16), (3, .int v3)] := hl
        refine lv_iload_n hx hb dX12_where_88 rfl (lv_at hl 2 rfl) ?_
        refine lv_if_ne (tgt := 97) hx hb dX12_where_89 (by decide) (fun c_18 => ?_) (fun c_18 => ?_)
        · replace hf := bc_f hf c_18
          refine lv_iload hx hb dX12_where_97 (lv_at hl 0 rfl) ?_
          exact J99 mo v5_15 _ _ _ hP hD hS (lv_sub hl [] rfl) hf
        · replace hf := bc_t hf c_18
          refine lv_iload hx hb dX12_where_92 (lv_at hl 1 rfl) ?_
          refine lv_goto (tgt := 99) hx hb dX12_where_94 (by decide) ?_
          exact J99 mo v4_16 _ _ _ hP hD hS (lv_sub hl [] rfl) hf
      · replace hf := bc_t hf c_14
        exact J30 mo _ _ _ hP hD hS (lv_sub hl [0] rfl) hf
