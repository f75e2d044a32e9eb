noncomputable def f_X12_bad (n : Nat) (mo : MV) (v1 : Int32) : Option (Int32 × MV) :=
  gd (vp_in 0 3) <|
  gd (vp_in 0 3) <|
  bl (setA mo 3 (upd (mo.2.1 3) (ix 0) ((mo.2.1 3 (ix 0)) + 1))) fun mo_3 =>
  some (v1, mo_3)
set_option maxHeartbeats 4000000 in
set_option maxRecDepth 100000 in
theorem c_X12_bad (l : Launch) (G : va_G) (ct : Nat → ClassId) (sk sv : Nat → Nat) (a : Nat → Nat) (n : Nat) (mo : MV) (v1 : Int32) {r : Int32} {mo' : MV} (hf : f_X12_bad n mo v1 = some (r, mo')) : Ctr (l, G, ct, sk, sv) mX12_bad 0 0 [.ref (a 0), .int v1] (wl [lfM ct a mo]) (wl [lfM ct a mo']) (some (.int r)) := by
  refine ctr_intro (by decide) (Nat.le_of_ble_eq_true rfl) ?_
  intro p e s m args below meth c A C hP hD hS hA ls hl
  obtain ⟨hx, hb, hml, hown, hts, hr, hlocks, hK, hnm, hZ⟩ := C
  have hb : c.code = cX12_bad := hb
  have hml : c.maxLocals = 2 := hml
  have hown : s.vm.findClass "SignedOutsideModel" = some m.cls := hown
  have hr : meth.sig.returnType = some .int := hr
  have hP : va_P G classes (wl [lfM ct a mo]) s.heap := hP
  have hD : va_D A (wl [lfM ct a mo]) := hD
  have hK : va_K G classes (TYS ct) s := hK
  have hl : lv_has ls 2 [(0, .ref (a 0)), (1, .int v1)] := hl
  unfold f_X12_bad at hf
  show WG l G ct sk sv p e (RM 0 0 0 0) s m args below meth c A (Eq2 (some (.int r)) (wl [lfM ct a mo'])) s.heap [] (F0 m 0 ls [])
  refine lv_aload_n hx hb dX12_bad_0 rfl (lv_at hl 0 rfl) ?_
  refine va_get (D := G) (C := RX12) (T := TX12) (N := 21) (v := .ref (a 4)) hx hb hts iu_X12 hown hK hP 0 rfl rfl 3 (by decide) (hts _ kw890) (fun _ h9 => h9) rfl dX12_bad_1 ?_
  refine lv_iconst (v := 0) hx hb dX12_bad_4 (by decide) ?_
  refine lv_dup2_11 hx hb dX12_bad_5 rfl rfl ?_
  obtain ⟨g_1, hf⟩ := gd_e hf
  refine va_iald (f := mo.2.1 3) hx hb hK hP 4 0 rfl rfl g_1 dX12_bad_6 ?_
  refine lv_iconst (v := 1) hx hb dX12_bad_7 (by decide) ?_
  refine lv_iadd hx hb dX12_bad_8 ?_
  obtain ⟨g_2, hf⟩ := gd_e hf
  obtain ⟨mo_3, emo_3, hf⟩ := bl_e hf
  refine va_iast hx hb hK hP hD hS 4 0 rfl rfl g_2 dX12_bad_9 (fun H locs hP hD hS => ?_)
  have hP : va_P G classes (wl [lfM ct a mo_3]) H := by rw [← emo_3]; exact hP
  have hD : va_D A (wl [lfM ct a mo_3]) := by rw [← emo_3]; exact hD
  refine lv_iload_n hx hb dX12_bad_10 rfl (lv_at hl 1 rfl) ?_
  obtain ⟨e1, e2⟩ := inj2 (Option.some.inj hf)
  exact end_i (w' := (wl [lfM ct a mo_3])) hx hb hr hlocks hK hP hD hS dX12_bad_11  ⟨by rw [← e1], by rw [← e2]⟩
noncomputable def f_X12_get (n : Nat) (mo : MV) (v1 : Int32) (v2 : Int32) : Option (Int32) :=
  gd (vp_in ((29 + (3 * v1)) + v2) 235) <|
  some (mo.2.1 0 (ix ((29 + (3 * v1)) + v2)))
set_option maxHeartbeats 4000000 in
set_option maxRecDepth 100000 in
theorem c_X12_get (l : Launch) (G : va_G) (ct : Nat → ClassId) (sk sv : Nat → Nat) (a : Nat → Nat) (n : Nat) (mo : MV) (v1 : Int32) (v2 : Int32) {r : Int32} (hf : f_X12_get n mo v1 v2 = some r) : Ctr (l, G, ct, sk, sv) mX12_get 0 0 [.ref (a 0), .int v1, .int v2] (wl [lfM ct a mo]) (wl [lfM ct a mo]) (some (.int r)) := by
  refine ctr_intro (by decide) (Nat.le_of_ble_eq_true rfl) ?_
  intro p e s m args below meth c A C hP hD hS hA ls hl
  obtain ⟨hx, hb, hml, hown, hts, hr, hlocks, hK, hnm, hZ⟩ := C
  have hb : c.code = cX12_get := hb
  have hml : c.maxLocals = 3 := hml
  have hown : s.vm.findClass "SignedOutsideModel" = some m.cls := hown
  have hr : meth.sig.returnType = some .int := hr
  have hP : va_P G classes (wl [lfM ct a mo]) s.heap := hP
  have hD : va_D A (wl [lfM ct a mo]) := hD
  have hK : va_K G classes (TYS ct) s := hK
  have hl : lv_has ls 3 [(0, .ref (a 0)), (1, .int v1), (2, .int v2)] := hl
  unfold f_X12_get at hf
  show WG l G ct sk sv p e (RM 0 0 0 0) s m args below meth c A (Eq2 (some (.int r)) (wl [lfM ct a mo])) s.heap [] (F0 m 0 ls [])
  refine lv_aload_n hx hb dX12_get_0 rfl (lv_at hl 0 rfl) ?_
  refine va_get (D := G) (C := RX12) (T := TX12) (N := 21) (v := .ref (a 1)) hx hb hts iu_X12 hown hK hP 0 rfl rfl 0 (by decide) (hts _ kw887) (fun _ h9 => h9) rfl dX12_get_1 ?_
  refine lv_bipush (v := 29) hx hb dX12_get_4 (by decide) ?_
  refine lv_iconst (v := 3) hx hb dX12_get_6 (by decide) ?_
  refine lv_iload_n hx hb dX12_get_7 rfl (lv_at hl 1 rfl) ?_
  refine lv_imul hx hb dX12_get_8 ?_
  refine lv_iadd hx hb dX12_get_9 ?_
  refine lv_iload_n hx hb dX12_get_10 rfl (lv_at hl 2 rfl) ?_
  refine lv_iadd hx hb dX12_get_11 ?_
  obtain ⟨g_1, hf⟩ := gd_e hf
  refine va_iald (f := mo.2.1 0) hx hb hK hP 1 0 rfl rfl g_1 dX12_get_12 ?_
  have e1 := Option.some.inj hf
  exact end_i (w' := (wl [lfM ct a mo])) hx hb hr hlocks hK hP hD hS dX12_get_13  ⟨by rw [← e1], rfl⟩
noncomputable def f_X12_in_j18 (n : Nat) (s0 : Int32) : Option (Int32) :=
  gd (s0 = 0 ∨ s0 = 1) <| some s0
noncomputable def f_X12_in_j17 (n : Nat) : Option (Int32) :=
  f_X12_in_j18 n 0
noncomputable def f_X12_in (n : Nat) (v0 : Int64) (v2 : Int64) (v4 : Int64) : Option (Int32) :=
  bc ((lg_cmp v0 v2) < 0) (f_X12_in_j17 n)
  (bc (0 < (lg_cmp v0 v4)) (f_X12_in_j17 n)
  (f_X12_in_j18 n 1))
set_option maxHeartbeats 4000000 in
set_option maxRecDepth 100000 in
theorem c_X12_in (l : Launch) (G : va_G) (ct : Nat → ClassId) (sk sv : Nat → Nat)  (n : Nat) (v0 : Int64) (v2 : Int64) (v4 : Int64) {r : Int32} (hf : f_X12_in n v0 v2 v4 = some r) : Ctr (l, G, ct, sk, sv) mX12_in 0 0 [.long v0, .long v2, .long v4] (wl []) (wl []) (some (.int r)) := by
  refine ctr_intro (by decide) (Nat.le_of_ble_eq_true rfl) ?_
  intro p e s m args below meth c A C hP hD hS hA ls hl
  obtain ⟨hx, hb, hml, hown, hts, hr, hlocks, hK, hnm, hZ⟩ := C
  have hb : c.code = cX12_in := hb
  have hml : c.maxLocals = 6 := hml
  have hown : s.vm.findClass "SignedOutsideModel" = some m.cls := hown
  have hr : meth.sig.returnType = some .boolean := hr
  have hP : va_P G classes (wl []) s.heap := hP
  have hD : va_D A (wl []) := hD
  have hK : va_K G classes (TYS ct) s := hK
  have hl : lv_has ls 6 [(0, .long v0), (2, .long v2), (4, .long v4)] := hl
  have J18 : ∀ (s0 : Int32) (H : Heap) (locs : List Loc) (ls : Array Slot), va_P G classes (wl []) H → va_D A (wl []) → va_S A s.heap H locs → lv_has ls 6 [] → f_X12_in_j18 n s0 = some r → WG l G ct sk sv p e (RM 0 0 0 0) s m args below meth c A (Eq2 (some (.int r)) (wl [])) H locs (F0 m 18 ls [.int s0]) := by
    intro s0 H locs ls hP hD hS hl hf
    unfold f_X12_in_j18 at hf
    obtain ⟨g_1, hf⟩ := gd_e hf
    have e1 := Option.some.inj hf
    exact end_z (w' := (wl [])) hx hb hr hlocks hK hP hD hS dX12_in_18 g_1 ⟨by rw [← e1], rfl⟩
  have J17 : ∀ (H : Heap) (locs : List Loc) (ls : Array Slot), va_P G classes (wl []) H → va_D A (wl []) → va_S A s.heap H locs → lv_has ls 6 [] → f_X12_in_j17 n = some r → WG l G ct sk sv p e (RM 0 0 0 0) s m args below meth c A (Eq2 (some (.int r)) (wl [])) H locs (F0 m 17 ls []) := by
    intro  H locs ls hP hD hS hl hf
    unfold f_X12_in_j17 at hf
    refine lv_iconst (v := 0) hx hb dX12_in_17 (by decide) ?_
    exact J18 0 _ _ _ hP hD hS hl hf
  unfold f_X12_in at hf
  show WG l G ct sk sv p e (RM 0 0 0 0) s m args below meth c A (Eq2 (some (.int r)) (wl [])) s.heap [] (F0 m 0 ls [])
  refine lv_lload_n hx hb dX12_in_0 rfl (lv_at hl 0 rfl) ?_
  refine lv_lload_n hx hb dX12_in_1 rfl (lv_at hl 1 rfl) ?_
  refine W.lcmp hx hb dX12_in_2 ?_
  refine lv_if_lt (tgt := 17) hx hb dX12_in_3 (by decide) (fun c_2 => ?_) (fun c_2 => ?_)
  · replace hf := bc_t hf c_2
    exact J17  _ _ _ hP hD hS (lv_sub hl [] rfl) hf
  · replace hf := bc_f hf c_2
    refine lv_lload_n hx hb dX12_in_6 rfl (lv_at hl 0 rfl) ?_
    refine lv_lload hx hb dX12_in_7 (lv_at hl 2 rfl) ?_
    refine W.lcmp hx hb dX12_in_9 ?_
    refine lv_if_gt (tgt := 17) hx hb dX12_in_10 (by decide) (fun c_3 => ?_) (fun c_3 => ?_)
    · replace hf := bc_t hf c_3
      exact J17  _ _ _ hP hD hS (lv_sub hl [] rfl) hf
    · replace hf := bc_f hf c_3
      refine lv_iconst (v := 1) hx hb dX12_in_13 (by decide) ?_
      refine lv_goto (tgt := 18) hx hb dX12_in_14 (by decide) ?_
      exact J18 1 _ _ _ hP hD hS (lv_sub hl [] rfl) hf
noncomputable def f_X12_letters (n : Nat) (mo : MV) : Option (Int32) :=
  gd (vp_in 1 235) <|
  some (mo.2.1 0 (ix 1))
set_option maxHeartbeats 4000000 in
set_option maxRecDepth 100000 in
theorem c_X12_letters (l : Launch) (G : va_G) (ct : Nat → ClassId) (sk sv : Nat → Nat) (a : Nat → Nat) (n : Nat) (mo : MV) {r : Int32} (hf : f_X12_letters n mo = some r) : Ctr (l, G, ct, sk, sv) mX12_letters 0 0 [.ref (a 0)] (wl [lfM ct a mo]) (wl [lfM ct a mo]) (some (.int r)) := by
  refine ctr_intro (by decide) (Nat.le_of_ble_eq_true rfl) ?_
  intro p e s m args below meth c A C hP hD hS hA ls hl
  obtain ⟨hx, hb, hml, hown, hts, hr, hlocks, hK, hnm, hZ⟩ := C
  have hb : c.code = cX12_letters := hb
  have hml : c.maxLocals = 1 := hml
  have hown : s.vm.findClass "SignedOutsideModel" = some m.cls := hown
  have hr : meth.sig.returnType = some .int := hr
  have hP : va_P G classes (wl [lfM ct a mo]) s.heap := hP
  have hD : va_D A (wl [lfM ct a mo]) := hD
  have hK : va_K G classes (TYS ct) s := hK
  have hl : lv_has ls 1 [(0, .ref (a 0))] := hl
  unfold f_X12_letters at hf
  show WG l G ct sk sv p e (RM 0 0 0 0) s m args below meth c A (Eq2 (some (.int r)) (wl [lfM ct a mo])) s.heap [] (F0 m 0 ls [])
  refine lv_aload_n hx hb dX12_letters_0 rfl (lv_at hl 0 rfl) ?_
  refine va_get (D := G) (C := RX12) (T := TX12) (N := 21) (v := .ref (a 1)) hx hb hts iu_X12 hown hK hP 0 rfl rfl 0 (by decide) (hts _ kw887) (fun _ h9 => h9) rfl dX12_letters_1 ?_
  refine lv_iconst (v := 1) hx hb dX12_letters_4 (by decide) ?_
  obtain ⟨g_1, hf⟩ := gd_e hf
  refine va_iald (f := mo.2.1 0) hx hb hK hP 1 0 rfl rfl g_1 dX12_letters_5 ?_
  have e1 := Option.some.inj hf
  exact end_i (w' := (wl [lfM ct a mo])) hx hb hr hlocks hK hP hD hS dX12_letters_6  ⟨by rw [← e1], rfl⟩
noncomputable def f_X12_isLetter (n : Nat) (mo : MV) (v1 : Int32) : Option (Int32) :=
  bd (f_X12_letters n mo) fun r_1 =>
  bd (f_X12_in n ((v1 : Int32).toInt64) 0 ((r_1 - 1 : Int32).toInt64)) fun r_2 =>
  gd (r_2 = 0 ∨ r_2 = 1) <| some r_2
set_option maxHeartbeats 4000000 in
set_option maxRecDepth 100000 in
theorem c_X12_isLetter (l : Launch) (G : va_G) (ct : Nat → ClassId) (sk sv : Nat → Nat) (a : Nat → Nat) (n : Nat) (mo : MV) (v1 : Int32) {r : Int32} (hf : f_X12_isLetter n mo v1 = some r) : Ctr (l, G, ct, sk, sv) mX12_isLetter 1 25 [.ref (a 0), .int v1] (wl [lfM ct a mo]) (wl [lfM ct a mo]) (some (.int r)) := by
  refine ctr_intro (by decide) (Nat.le_of_ble_eq_true rfl) ?_
  intro p e s m args below meth c A C hP hD hS hA ls hl
  obtain ⟨hx, hb, hml, hown, hts, hr, hlocks, hK, hnm, hZ⟩ := C
  have hb : c.code = cX12_isLetter := hb
  have hml : c.maxLocals = 2 := hml
  have hown : s.vm.findClass "SignedOutsideModel" = some m.cls := hown
  have hr : meth.sig.returnType = some .boolean := hr
  have hP : va_P G classes (wl [lfM ct a mo]) s.heap := hP
  have hD : va_D A (wl [lfM ct a mo]) := hD
  have hK : va_K G classes (TYS ct) s := hK
  have hl : lv_has ls 2 [(0, .ref (a 0)), (1, .int v1)] := hl
  unfold f_X12_isLetter at hf
  show WG l G ct sk sv p e (RM 1 25 0 0) s m args below meth c A (Eq2 (some (.int r)) (wl [lfM ct a mo])) s.heap [] (F0 m 0 ls [])
  refine lv_iload_n hx hb dX12_isLetter_0 rfl (lv_at hl 1 rfl) ?_
  refine lv_i2l (v := (v1 : Int32).toInt64) hx hb dX12_isLetter_1 rfl ?_
  refine lv_lconst (v := 0) hx hb dX12_isLetter_2 (by decide) ?_
  refine lv_aload_n hx hb dX12_isLetter_3 rfl (lv_at hl 0 rfl) ?_
  obtain ⟨r_1, hc1, hf⟩ := bd_e hf
  refine call_V (As := []) (rest := [.long 0, .long ((v1 : Int32).toInt64)]) hx hb hml hown hts hK hP hD hS hA hZ lkX12_69 (c_X12_letters l G ct sk sv a n mo hc1) 0 rfl rfl ⟨Nat.le_of_ble_eq_true rfl, Nat.le_of_ble_eq_true rfl⟩ rfl hl.1 rfl (Nat.le_of_ble_eq_true rfl) dX12_isLetter_4 ⟨Nat.le_of_ble_eq_true rfl, Nat.le_of_ble_eq_true rfl⟩ (fun r9 w9 H locs hB hP hD hS => ?_)
  obtain ⟨rfl, rfl⟩ := hB
  refine WG_eq (g2 := F0 m 7 ls [.int r_1, .long 0, .long ((v1 : Int32).toInt64)]) rfl ?_
  refine lv_iconst (v := 1) hx hb dX12_isLetter_7 (by decide) ?_
  refine lv_isub hx hb dX12_isLetter_8 ?_
  refine lv_i2l (v := (r_1 - 1 : Int32).toInt64) hx hb dX12_isLetter_9 rfl ?_
  obtain ⟨r_2, hc2, hf⟩ := bd_e hf
  refine call_S (As := [.long ((v1 : Int32).toInt64), .long 0, .long ((r_1 - 1 : Int32).toInt64)]) (rest := []) hx hb hml hown hts hK hP hD hS hA hZ lkX12_65 (Ctr.upL (c_X12_in l G ct sk sv  n ((v1 : Int32).toInt64) 0 ((r_1 - 1 : Int32).toInt64) hc2) [lfM ct a mo] [lfM ct a mo] [lfM ct a mo] [0] 1 (by decide) rfl rfl rfl rfl) ⟨Nat.le_of_ble_eq_true rfl, Nat.le_of_ble_eq_true rfl⟩ rfl hl.1 rfl (Nat.le_of_ble_eq_true rfl) dX12_isLetter_10 ⟨Nat.le_of_ble_eq_true rfl, Nat.le_of_ble_eq_true rfl⟩ (fun r9 w9 H locs hB hP hD hS => ?_)
  obtain ⟨rfl, rfl⟩ := hB
  refine WG_eq (g2 := F0 m 13 ls [.int r_2]) rfl ?_
  obtain ⟨g_3, hf⟩ := gd_e hf
  have e1 := Option.some.inj hf
  exact end_z (w' := (wl [lfM ct a mo])) hx hb hr hlocks hK hP hD hS dX12_isLetter_13 g_3 ⟨by rw [← e1], rfl⟩
noncomputable def f_X12_miles_j14 (n : Nat) (s0 : Int32) : Option (Int32) :=
  some s0
noncomputable def f_X12_miles (n : Nat) (v0 : Int32) (v1 : Int32) : Option (Int32) :=
  bc (v1 ≤ v0) (f_X12_miles_j14 n (v0 - v1))
  (f_X12_miles_j14 n (v1 - v0))
set_option maxHeartbeats 4000000 in
set_option maxRecDepth 100000 in
theorem c_X12_miles (l : Launch) (G : va_G) (ct : Nat → ClassId) (sk sv : Nat → Nat)  (n : Nat) (v0 : Int32) (v1 : Int32) {r : Int32} (hf : f_X12_miles n v0 v1 = some r) : Ctr (l, G, ct, sk, sv) mX12_miles 0 0 [.int v0, .int v1] (wl []) (wl []) (some (.int r)) := by
  refine ctr_intro (by decide) (Nat.le_of_ble_eq_true rfl) ?_
  intro p e s m args below meth c A C hP hD hS hA ls hl
  obtain ⟨hx, hb, hml, hown, hts, hr, hlocks, hK, hnm, hZ⟩ := C
  have hb : c.code = cX12_miles := hb
  have hml : c.maxLocals = 2 := hml
  have hown : s.vm.findClass "SignedOutsideModel" = some m.cls := hown
  have hr : meth.sig.returnType = some .int := hr
  have hP : va_P G classes (wl []) s.heap := hP
  have hD : va_D A (wl []) := hD
  have hK : va_K G classes (TYS ct) s := hK
  have hl : lv_has ls 2 [(0, .int v0), (1, .int v1)] := hl
  have J14 : ∀ (s0 : Int32) (H : Heap) (locs : List Loc) (ls : Array Slot), va_P G classes (wl []) H → va_D A (wl []) → va_S A s.heap H locs → lv_has ls 2 [] → f_X12_miles_j14 n s0 = some r → WG l G ct sk sv p e (RM 0 0 0 0) s m args below meth c A (Eq2 (some (.int r)) (wl [])) H locs (F0 m 14 ls [.int s0]) := by
    intro s0 H locs ls hP hD hS hl hf
    unfold f_X12_miles_j14 at hf
    have e1 := Option.some.inj hf
    exact end_i (w' := (wl [])) hx hb hr hlocks hK hP hD hS dX12_miles_14  ⟨by rw [← e1], rfl⟩
  unfold f_X12_miles at hf
  show WG l G ct sk sv p e (RM 0 0 0 0) s m args below meth c A (Eq2 (some (.int r)) (wl [])) s.heap [] (F0 m 0 ls [])
  refine lv_iload_n hx hb dX12_miles_0 rfl (lv_at hl 0 rfl) ?_
  refine lv_iload_n hx hb dX12_miles_1 rfl (lv_at hl 1 rfl) ?_
  refine lv_icmp_ge (tgt := 11) hx hb dX12_miles_2 (by decide) (fun c_1 => ?_) (fun c_1 => ?_)
  · replace hf := bc_t hf c_1
    refine lv_iload_n hx hb dX12_miles_11 rfl (lv_at hl 0 rfl) ?_
    refine lv_iload_n hx hb dX12_miles_12 rfl (lv_at hl 1 rfl) ?_
    refine lv_isub hx hb dX12_miles_13 ?_
    exact J14 (v0 - v1) _ _ _ hP hD hS (lv_sub hl [] rfl) hf
  · replace hf := bc_f hf c_1
    refine lv_iload_n hx hb dX12_miles_5 rfl (lv_at hl 1 rfl) ?_
    refine lv_iload_n hx hb dX12_miles_6 rfl (lv_at hl 0 rfl) ?_
    refine lv_isub hx hb dX12_miles_7 ?_
    refine lv_goto (tgt := 14) hx hb dX12_miles_8 (by decide) ?_
    exact J14 (v1 - v0) _ _ _ hP hD hS (lv_sub hl [] rfl) hf
noncomputable def f_X12_postageOf (n : Nat) (z : Nat) (t : (Nat → Int32)) (v1 : Int32) : Option (Int32) :=
  bl (29 + (3 * v1)) fun v2_1 =>
  gd (vp_in (v2_1 + 2) z) <|
  gd (vp_in (v2_1 + 0) z) <|
  gd (vp_in (v2_1 + 1) z) <|
  bd (f_X12_miles n (t (ix (v2_1 + 0))) (t (ix (v2_1 + 1)))) fun r_5 =>
  some ((t (ix (v2_1 + 2))) * (1 + (r_5 / 15)))
set_option maxHeartbeats 4000000 in
set_option maxRecDepth 100000 in
theorem c_X12_postageOf (l : Launch) (G : va_G) (ct : Nat → ClassId) (sk sv : Nat → Nat) (a : Nat → Nat) (n : Nat) (z : Nat) (t : (Nat → Int32)) (v1 : Int32) {r : Int32} (hf : f_X12_postageOf n z t v1 = some r) : Ctr (l, G, ct, sk, sv) mX12_postageOf 1 21 [.ref (a 0), .int v1] (wl [lfA ct a z t]) (wl [lfA ct a z t]) (some (.int r)) := by
  refine ctr_intro (by decide) (Nat.le_of_ble_eq_true rfl) ?_
  intro p e s m args below meth c A C hP hD hS hA ls hl
  obtain ⟨hx, hb, hml, hown, hts, hr, hlocks, hK, hnm, hZ⟩ := C
  have hb : c.code = cX12_postageOf := hb
  have hml : c.maxLocals = 3 := hml
  have hown : s.vm.findClass "SignedOutsideModel" = some m.cls := hown
  have hr : meth.sig.returnType = some .int := hr
  have hP : va_P G classes (wl [lfA ct a z t]) s.heap := hP
  have hD : va_D A (wl [lfA ct a z t]) := hD
  have hK : va_K G classes (TYS ct) s := hK
  have hl : lv_has ls 3 [(0, .ref (a 0)), (1, .int v1)] := hl
  unfold f_X12_postageOf at hf
  show WG l G ct sk sv p e (RM 1 21 0 0) s m args below meth c A (Eq2 (some (.int r)) (wl [lfA ct a z t])) s.heap [] (F0 m 0 ls [])
  refine lv_bipush (v := 29) hx hb dX12_postageOf_0 (by decide) ?_
  refine lv_iconst (v := 3) hx hb dX12_postageOf_2 (by decide) ?_
  refine lv_iload_n hx hb dX12_postageOf_3 rfl (lv_at hl 1 rfl) ?_
  refine lv_imul hx hb dX12_postageOf_4 ?_
  refine lv_iadd hx hb dX12_postageOf_5 ?_
  refine lv_topi (fun v2_1 ev2_1 => ?_)
  replace hf := bl_i hf ev2_1
  refine lv_istore_n (lv' := [(2, .int v2_1), (0, .ref (a 0)), (1, .int v1)]) hx hb dX12_postageOf_6 rfl hl (by decide) rfl (fun ls hl => ?_)
  refine lv_aload_n hx hb dX12_postageOf_7 rfl (lv_at hl 1 rfl) ?_
  refine lv_iload_n hx hb dX12_postageOf_8 rfl (lv_at hl 0 rfl) ?_
  refine lv_iconst (v := 2) hx hb dX12_postageOf_9 (by decide) ?_
  refine lv_iadd hx hb dX12_postageOf_10 ?_
  obtain ⟨g_2, hf⟩ := gd_e hf
  refine va_iald (f := t) hx hb hK hP 0 0 rfl rfl g_2 dX12_postageOf_11 ?_
  refine lv_iconst (v := 1) hx hb dX12_postageOf_12 (by decide) ?_
  refine lv_aload_n hx hb dX12_postageOf_13 rfl (lv_at hl 1 rfl) ?_
  refine lv_iload_n hx hb dX12_postageOf_14 rfl (lv_at hl 0 rfl) ?_
  refine lv_iconst (v := 0) hx hb dX12_postageOf_15 (by decide) ?_
  refine lv_iadd hx hb dX12_postageOf_16 ?_
  obtain ⟨g_3, hf⟩ := gd_e hf
  refine va_iald (f := t) hx hb hK hP 0 0 rfl rfl g_3 dX12_postageOf_17 ?_
  refine lv_aload_n hx hb dX12_postageOf_18 rfl (lv_at hl 1 rfl) ?_
  refine lv_iload_n hx hb dX12_postageOf_19 rfl (lv_at hl 0 rfl) ?_
  refine lv_iconst (v := 1) hx hb dX12_postageOf_20 (by decide) ?_
  refine lv_iadd hx hb dX12_postageOf_21 ?_
  obtain ⟨g_4, hf⟩ := gd_e hf
  refine va_iald (f := t) hx hb hK hP 0 0 rfl rfl g_4 dX12_postageOf_22 ?_
  obtain ⟨r_5, hc5, hf⟩ := bd_e hf
  refine call_S (As := [.int (t (ix (v2_1 + 0))), .int (t (ix (v2_1 + 1)))]) (rest := [.int 1, .int (t (ix (v2_1 + 2)))]) hx hb hml hown hts hK hP hD hS hA hZ lkX12_97 (Ctr.upL (c_X12_miles l G ct sk sv  n (t (ix (v2_1 + 0))) (t (ix (v2_1 + 1))) hc5) [lfA ct a z t] [lfA ct a z t] [lfA ct a z t] [0] 1 (by decide) rfl rfl rfl rfl) ⟨Nat.le_of_ble_eq_true rfl, Nat.le_of_ble_eq_true rfl⟩ rfl hl.1 rfl (Nat.le_of_ble_eq_true rfl) dX12_postageOf_23 ⟨Nat.le_of_ble_eq_true rfl, Nat.le_of_ble_eq_true rfl⟩ (fun r9 w9 H locs hB hP hD hS => ?_)
  obtain ⟨rfl, rfl⟩ := hB
  refine WG_eq (g2 := F0 m 26 ls [.int r_5, .int 1, .int (t (ix (v2_1 + 2)))]) rfl ?_
  refine lv_bipush (v := 15) hx hb dX12_postageOf_26 (by decide) ?_
  refine lv_idiv hx hb dX12_postageOf_28 (by decide) ?_
  refine lv_iadd hx hb dX12_postageOf_29 ?_
  refine lv_imul hx hb dX12_postageOf_30 ?_
  have e1 := Option.some.inj hf
  exact end_i (w' := (wl [lfA ct a z t])) hx hb hr hlocks hK hP hD hS dX12_postageOf_31  ⟨by rw [← e1], rfl⟩
noncomputable def f_X12_postage (n : Nat) (mo : MV) (v1 : Int32) : Option (Int32) :=
  bd (f_X12_postageOf n 235 (mo.2.1 0) v1) fun r_1 =>
  some r_1
set_option maxHeartbeats 4000000 in
set_option maxRecDepth 100000 in
theorem c_X12_postage (l : Launch) (G : va_G) (ct : Nat → ClassId) (sk sv : Nat → Nat) (a : Nat → Nat) (n : Nat) (mo : MV) (v1 : Int32) {r : Int32} (hf : f_X12_postage n mo v1 = some r) : Ctr (l, G, ct, sk, sv) mX12_postage 2 43 [.ref (a 0), .int v1] (wl [lfM ct a mo]) (wl [lfM ct a mo]) (some (.int r)) := by
  refine ctr_intro (by decide) (Nat.le_of_ble_eq_true rfl) ?_
  intro p e s m args below meth c A C hP hD hS hA ls hl
  obtain ⟨hx, hb, hml, hown, hts, hr, hlocks, hK, hnm, hZ⟩ := C
  have hb : c.code = cX12_postage := hb
  have hml : c.maxLocals = 2 := hml
  have hown : s.vm.findClass "SignedOutsideModel" = some m.cls := hown
  have hr : meth.sig.returnType = some .int := hr
  have hP : va_P G classes (wl [lfM ct a mo]) s.heap := hP
  have hD : va_D A (wl [lfM ct a mo]) := hD
  have hK : va_K G classes (TYS ct) s := hK
  have hl : lv_has ls 2 [(0, .ref (a 0)), (1, .int v1)] := hl
  unfold f_X12_postage at hf
  show WG l G ct sk sv p e (RM 2 43 0 0) s m args below meth c A (Eq2 (some (.int r)) (wl [lfM ct a mo])) s.heap [] (F0 m 0 ls [])
  refine lv_aload_n hx hb dX12_postage_0 rfl (lv_at hl 0 rfl) ?_
  refine va_get (D := G) (C := RX12) (T := TX12) (N := 21) (v := .ref (a 1)) hx hb hts iu_X12 hown hK hP 0 rfl rfl 0 (by decide) (hts _ kw887) (fun _ h9 => h9) rfl dX12_postage_1 ?_
  refine lv_iload_n hx hb dX12_postage_4 rfl (lv_at hl 1 rfl) ?_
  obtain ⟨r_1, hc1, hf⟩ := bd_e hf
  refine call_S (As := [.ref (a 1), .int v1]) (rest := []) hx hb hml hown hts hK hP hD hS hA hZ lkX12_101 (Ctr.up (W := (wl [lfM ct a mo])) (W' := (wl [lfM ct a mo])) (c_X12_postageOf l G ct sk sv (fun _ => a 1) n 235 (mo.2.1 0) v1 hc1) [1] [0, 2, 3, 4, 5, 6, 7, 8, 9, 10, 11, 12, 13, 14] [0, 14, 1, 2, 3, 4, 5, 6, 7, 8, 9, 10, 11, 12, 13] rfl rfl rfl rfl (by decide) rfl rfl) ⟨Nat.le_of_ble_eq_true rfl, Nat.le_of_ble_eq_true rfl⟩ rfl hl.1 rfl (Nat.le_of_ble_eq_true rfl) dX12_postage_5 ⟨Nat.le_of_ble_eq_true rfl, Nat.le_of_ble_eq_true rfl⟩ (fun r9 w9 H locs hB hP hD hS => ?_)
  obtain ⟨rfl, rfl⟩ := hB
  refine WG_eq (g2 := F0 m 8 ls [.int r_1]) rfl ?_
  have e1 := Option.some.inj hf
  exact end_i (w' := (wl [lfM ct a mo])) hx hb hr hlocks hK hP hD hS dX12_postage_8  ⟨by rw [← e1], rfl⟩
noncomputable def f_X12_about_j62 (n : Nat) (mo : MV) (s0 : Int32) : Option (Int32 × MV) :=
  some (s0, mo)
noncomputable def f_X12_about_j20 (n : Nat) (mo : MV) : Option (Int32 × MV) :=
  bd2 (f_X12_bad n mo (-10)) fun r_1 mo_2 =>
  some (r_1, mo_2)
noncomputable def f_X12_about (n : Nat) (mo : MV) (v1 : Int32) (v2 : Int32) : Option (Int32 × MV) :=
  bd (f_X12_isLetter n mo v1) fun r_3 =>
  bc (r_3 = 0) (f_X12_about_j20 n mo)
  (bd (f_X12_in n ((v2 : Int32).toInt64) 0 4) fun r_5 =>
  bc (r_5 = 0) (f_X12_about_j20 n mo)
  (bc (3 ≤ v2) (bc (v2 = 3) (bd (f_X12_postage n mo v1) fun r_10 =>
  f_X12_about_j62 n mo r_10)
  (gd (vp_in (5 + v1) 235) <|
  f_X12_about_j62 n mo (mo.2.1 0 (ix (5 + v1)))))
  (bd (f_X12_get n mo v1 v2) fun r_11 =>
  f_X12_about_j62 n mo r_11)))
set_option maxHeartbeats 4000000 in
set_option maxRecDepth 100000 in
theorem c_X12_about (l : Launch) (G : va_G) (ct : Nat → ClassId) (sk sv : Nat → Nat) (a : Nat → Nat) (n : Nat) (mo : MV) (v1 : Int32) (v2 : Int32) {r : Int32} {mo' : MV} (hf : f_X12_about n mo v1 v2 = some (r, mo')) : Ctr (l, G, ct, sk, sv) mX12_about 3 64 [.ref (a 0), .int v1, .int v2] (wl [lfM ct a mo]) (wl [lfM ct a mo']) (some (.int r)) := by
  refine ctr_intro (by decide) (Nat.le_of_ble_eq_true rfl) ?_
  intro p e s m args below meth c A C hP hD hS hA ls hl
  obtain ⟨hx, hb, hml, hown, hts, hr, hlocks, hK, hnm, hZ⟩ := C
  have hb : c.code = cX12_about := hb
  have hml : c.maxLocals = 3 := hml
  have hown : s.vm.findClass "SignedOutsideModel" = some m.cls := hown
  have hr : meth.sig.returnType = some .int := hr
  have hP : va_P G classes (wl [lfM ct a mo]) s.heap := hP
  have hD : va_D A (wl [lfM ct a mo]) := hD
  have hK : va_K G classes (TYS ct) s := hK
  have hl : lv_has ls 3 [(0, .ref (a 0)), (1, .int v1), (2, .int v2)] := hl
  have J62 : ∀ (mo : MV) (s0 : Int32) (H : Heap) (locs : List Loc) (ls : Array Slot), va_P G classes (wl [lfM ct a mo]) H → va_D A (wl [lfM ct a mo]) → va_S A s.heap H locs → lv_has ls 3 [] → f_X12_about_j62 n mo s0 = some (r, mo') → WG l G ct sk sv p e (RM 3 64 0 0) s m args below meth c A (Eq2 (some (.int r)) (wl [lfM ct a mo'])) H locs (F0 m 62 ls [.int s0]) := by
    intro mo s0 H locs ls hP hD hS hl hf
    unfold f_X12_about_j62 at hf
    obtain ⟨e1, e2⟩ := inj2 (Option.some.inj hf)
    exact end_i (w' := (wl [lfM ct a mo])) hx hb hr hlocks hK hP hD hS dX12_about_62  ⟨by rw [← e1], by rw [← e2]⟩
  have J20 : ∀ (mo : MV) (H : Heap) (locs : List Loc) (ls : Array Slot), va_P G classes (wl [lfM ct a mo]) H → va_D A (wl [lfM ct a mo]) → va_S A s.heap H locs → lv_has ls 3 [(0, .ref (a 0))] → f_X12_about_j20 n mo = some (r, mo') → WG l G ct sk sv p e (RM 3 64 0 0) s m args below meth c A (Eq2 (some (.int r)) (wl [lfM ct a mo'])) H locs (F0 m 20 ls []) := by
    intro mo H locs ls hP hD hS hl hf
    unfold f_X12_about_j20 at hf
    refine lv_aload_n hx hb dX12_about_20 rfl (lv_at hl 0 rfl) ?_
    refine lv_bipush (v := (-10)) hx hb dX12_about_21 (by decide) ?_
    obtain ⟨r_1, mo_2, hc2, hf⟩ := bd2_e hf
    refine call_V (As := [.int (-10)]) (rest := []) hx hb hml hown hts hK hP hD hS hA hZ lkX12_80 (c_X12_bad l G ct sk sv a n mo (-10) hc2) 0 rfl rfl ⟨Nat.le_of_ble_eq_true rfl, Nat.le_of_ble_eq_true rfl⟩ rfl hl.1 rfl (Nat.le_of_ble_eq_true rfl) dX12_about_23 ⟨Nat.le_of_ble_eq_true rfl, Nat.le_of_ble_eq_true rfl⟩ (fun r9 w9 H locs hB hP hD hS => ?_)
    obtain ⟨rfl, rfl⟩ := hB
    refine WG_eq (g2 := F0 m 26 ls [.int r_1]) rfl ?_
    obtain ⟨e1, e2⟩ := inj2 (Option.some.inj hf)
    exact end_i (w' := (wl [lfM ct a mo_2])) hx hb hr hlocks hK hP hD hS dX12_about_26  ⟨by rw [← e1], by rw [← e2]⟩
  unfold f_X12_about at hf
  show WG l G ct sk sv p e (RM 3 64 0 0) s m args below meth c A (Eq2 (some (.int r)) (wl [lfM ct a mo'])) s.heap [] (F0 m 0 ls [])
  refine lv_aload_n hx hb dX12_about_0 rfl (lv_at hl 0 rfl) ?_
  refine lv_iload_n hx hb dX12_about_1 rfl (lv_at hl 1 rfl) ?_
  obtain ⟨r_3, hc3, hf⟩ := bd_e hf
  refine call_V (As := [.int v1]) (rest := []) hx hb hml hown hts hK hP hD hS hA hZ lkX12_114 (c_X12_isLetter l G ct sk sv a n mo v1 hc3) 0 rfl rfl ⟨Nat.le_of_ble_eq_true rfl, Nat.le_of_ble_eq_true rfl⟩ rfl hl.1 rfl (Nat.le_of_ble_eq_true rfl) dX12_about_2 ⟨Nat.le_of_ble_eq_true rfl, Nat.le_of_ble_eq_true rfl⟩ (fun r9 w9 H locs hB hP hD hS => ?_)
  obtain ⟨rfl, rfl⟩ := hB
  refine WG_eq (g2 := F0 m 5 ls [.int r_3]) rfl ?_
  refine lv_if_eq (tgt := 20) hx hb dX12_about_5 (by decide) (fun c_4 => ?_) (fun c_4 => ?_)
  · replace hf := bc_t hf c_4
    exact J20 mo _ _ _ hP hD hS (lv_sub hl [0] rfl) hf
  · replace hf := bc_f hf c_4
    refine lv_iload_n hx hb dX12_about_8 rfl (lv_at hl 2 rfl) ?_
    refine lv_i2l (v := (v2 : Int32).toInt64) hx hb dX12_about_9 rfl ?_
    refine lv_lconst (v := 0) hx hb dX12_about_10 (by decide) ?_
    refine lv_ldc2 (v := 4) hx hb hown (hts _ kw1070) dX12_about_11 ?_
    obtain ⟨r_5, hc5, hf⟩ := bd_e hf
    refine call_S (As := [.long ((v2 : Int32).toInt64), .long 0, .long 4]) (rest := []) hx hb hml hown hts hK hP hD hS hA hZ lkX12_65 (Ctr.upL (c_X12_in l G ct sk sv  n ((v2 : Int32).toInt64) 0 4 hc5) [lfM ct a mo] [lfM ct a mo] [lfM ct a mo] [0] 1 (by decide) rfl rfl rfl rfl) ⟨Nat.le_of_ble_eq_true rfl, Nat.le_of_ble_eq_true rfl⟩ rfl hl.1 rfl (Nat.le_of_ble_eq_true rfl) dX12_about_14 ⟨Nat.le_of_ble_eq_true rfl, Nat.le_of_ble_eq_true rfl⟩ (fun r9 w9 H locs hB hP hD hS => ?_)
    obtain ⟨rfl, rfl⟩ := hB
    refine WG_eq (g2 := F0 m 17 ls [.int r_5]) rfl ?_
    refine lv_if_ne (tgt := 27) hx hb dX12_about_17 (by decide) (fun c_6 => ?_) (fun c_6 => ?_)
    · replace hf := bc_f hf c_6
      refine lv_iload_n hx hb dX12_about_27 rfl (lv_at hl 2 rfl) ?_
      refine lv_iconst (v := 3) hx hb dX12_about_28 (by decide) ?_
      refine lv_icmp_ge (tgt := 41) hx hb dX12_about_29 (by decide) (fun c_7 => ?_) (fun c_7 => ?_)
      · replace hf := bc_t hf c_7
        refine lv_iload_n hx hb dX12_about_41 rfl (lv_at hl 2 rfl) ?_
        refine lv_iconst (v := 3) hx hb dX12_about_42 (by decide) ?_
        refine lv_icmp_ne (tgt := 54) hx hb dX12_about_43 (by decide) (fun c_8 => ?_) (fun c_8 => ?_)
        · replace hf := bc_f hf c_8
          refine lv_aload_n hx hb dX12_about_54 rfl (lv_at hl 0 rfl) ?_
          refine va_get (D := G) (C := RX12) (T := TX12) (N := 21) (v := .ref (a 1)) hx hb hts iu_X12 hown hK hP 0 rfl rfl 0 (by decide) (hts _ kw887) (fun _ h9 => h9) rfl dX12_about_55 ?_
          refine lv_iconst (v := 5) hx hb dX12_about_58 (by decide) ?_
          refine lv_iload_n hx hb dX12_about_59 rfl (lv_at hl 1 rfl) ?_
          refine lv_iadd hx hb dX12_about_60 ?_
          obtain ⟨g_9, hf⟩ := gd_e hf
          refine va_iald (f := mo.2.1 0) hx hb hK hP 1 0 rfl rfl g_9 dX12_about_61 ?_
          exact J62 mo (mo.2.1 0 (ix (5 + v1))) _ _ _ hP hD hS (lv_sub hl [] rfl) hf
        · replace hf := bc_t hf c_8
          refine lv_aload_n hx hb dX12_about_46 rfl (lv_at hl 0 rfl) ?_
          refine lv_iload_n hx hb dX12_about_47 rfl (lv_at hl 1 rfl) ?_
          obtain ⟨r_10, hc10, hf⟩ := bd_e hf
          refine call_V (As := [.int v1]) (rest := []) hx hb hml hown hts hK hP hD hS hA hZ lkX12_137 (c_X12_postage l G ct sk sv a n mo v1 hc10) 0 rfl rfl ⟨Nat.le_of_ble_eq_true rfl, Nat.le_of_ble_eq_true rfl⟩ rfl hl.1 rfl (Nat.le_of_ble_eq_true rfl) dX12_about_48 ⟨Nat.le_of_ble_eq_true rfl, Nat.le_of_ble_eq_true rfl⟩ (fun r9 w9 H locs hB hP hD hS => ?_)
          obtain ⟨rfl, rfl⟩ := hB
          refine WG_eq (g2 := F0 m 51 ls [.int r_10]) rfl ?_
          refine lv_goto (tgt := 62) hx hb dX12_about_51 (by decide) ?_
          exact J62 mo r_10 _ _ _ hP hD hS (lv_sub hl [] rfl) hf
      · replace hf := bc_f hf c_7
        refine lv_aload_n hx hb dX12_about_32 rfl (lv_at hl 0 rfl) ?_
        refine lv_iload_n hx hb dX12_about_33 rfl (lv_at hl 1 rfl) ?_
        refine lv_iload_n hx hb dX12_about_34 rfl (lv_at hl 2 rfl) ?_
        obtain ⟨r_11, hc11, hf⟩ := bd_e hf
        refine call_V (As := [.int v1, .int v2]) (rest := []) hx hb hml hown hts hK hP hD hS hA hZ lkX12_145 (c_X12_get l G ct sk sv a n mo v1 v2 hc11) 0 rfl rfl ⟨Nat.le_of_ble_eq_true rfl, Nat.le_of_ble_eq_true rfl⟩ rfl hl.1 rfl (Nat.le_of_ble_eq_true rfl) dX12_about_35 ⟨Nat.le_of_ble_eq_true rfl, Nat.le_of_ble_eq_true rfl⟩ (fun r9 w9 H locs hB hP hD hS => ?_)
        obtain ⟨rfl, rfl⟩ := hB
        refine WG_eq (g2 := F0 m 38 ls [.int r_11]) rfl ?_
        refine lv_goto (tgt := 62) hx hb dX12_about_38 (by decide) ?_
        exact J62 mo r_11 _ _ _ hP hD hS (lv_sub hl [] rfl) hf
    · replace hf := bc_t hf c_6
      exact J20 mo _ _ _ hP hD hS (lv_sub hl [0] rfl) hf
noncomputable def f_X12_codes_b4 (n : Nat) (mo : MV) (v2 : Int32) (v1 : Int32) : Option ((Int32 × Int32) ⊕ (Int32)) :=
  bd (f_X12_letters n mo) fun r_1 =>
  bc (r_1 ≤ v2) (some (.inr v1))
  (bl (v1 * 6) fun v1_3 =>
  bl (v2 + 1) fun v2_4 =>
  some (.inl (v2_4, v1_3)))
noncomputable def f_X12_codes_l4 (fu : Nat) (n : Nat) (mo : MV) (v2 : Int32) (v1 : Int32) : Option (Int32) :=
  lp (fun q => f_X12_codes_b4 n mo q.1 q.2) fu (v2, v1)
noncomputable def f_X12_codes (n : Nat) (mo : MV) : Option (Int32) :=
  bd (f_X12_codes_l4 n n mo 0 1) fun v1_5 =>
  some v1_5
set_option maxHeartbeats 4000000 in
set_option maxRecDepth 100000 in
theorem c_X12_codes (l : Launch) (G : va_G) (ct : Nat → ClassId) (sk sv : Nat → Nat) (a : Nat → Nat) (n : Nat) (mo : MV) {r : Int32} (hf : f_X12_codes n mo = some r) : Ctr (l, G, ct, sk, sv) mX12_codes 1 20 [.ref (a 0)] (wl [lfM ct a mo]) (wl [lfM ct a mo]) (some (.int r)) := by
  refine ctr_intro (by decide) (Nat.le_of_ble_eq_true rfl) ?_
  intro p e s m args below meth c A C hP hD hS hA ls hl
  obtain ⟨hx, hb, hml, hown, hts, hr, hlocks, hK, hnm, hZ⟩ := C
  have hb : c.code = cX12_codes := hb
  have hml : c.maxLocals = 3 := hml
  have hown : s.vm.findClass "SignedOutsideModel" = some m.cls := hown
  have hr : meth.sig.returnType = some .int := hr
  have hP : va_P G classes (wl [lfM ct a mo]) s.heap := hP
  have hD : va_D A (wl [lfM ct a mo]) := hD
  have hK : va_K G classes (TYS ct) s := hK
  have hl : lv_has ls 3 [(0, .ref (a 0))] := hl
  have L4 : ∀ (fu : Nat) (v2 : Int32) (v1 : Int32) (ex : Int32) (H : Heap) (locs : List Loc) (ls : Array Slot), va_P G classes (wl [lfM ct a mo]) H → va_D A (wl [lfM ct a mo]) → va_S A s.heap H locs → lv_has ls 3 [(2, .int v2), (1, .int v1), (0, .ref (a 0))] → f_X12_codes_l4 fu n mo v2 v1 = some ex → (∀ (x : Int32), ex = x → ∀ (H : Heap) (locs : List Loc) (ls : Array Slot), va_P G classes (wl [lfM ct a mo]) H → va_D A (wl [lfM ct a mo]) → va_S A s.heap H locs → lv_has ls 3 [(1, .int x)] → WG l G ct sk sv p e (RM 1 20 0 0) s m args below meth c A (Eq2 (some (.int r)) (wl [lfM ct a mo])) H locs (F0 m 23 ls [])) → WG l G ct sk sv p e (RM 1 20 0 0) s m args below meth c A (Eq2 (some (.int r)) (wl [lfM ct a mo])) H locs (F0 m 4 ls []) := by
    intro fu
    induction fu with
    | zero =>
      intro v2 v1 ex H locs ls hP hD hS hl hf
      exact absurd hf (by unfold f_X12_codes_l4 lp; exact fun h => by cases h)
    | succ fu ih =>
      intro v2 v1 ex H locs ls hP hD hS hl hf hE
      unfold f_X12_codes_l4 at hf
      obtain ⟨q, hf, hor⟩ := lp_e hf
      replace hf : f_X12_codes_b4 n mo v2 v1 = some q := hf
      unfold f_X12_codes_b4 at hf
      refine lv_iload_n hx hb dX12_codes_4 rfl (lv_at hl 0 rfl) ?_
      refine lv_aload_n hx hb dX12_codes_5 rfl (lv_at hl 2 rfl) ?_
      obtain ⟨r_1, hc1, hf⟩ := bd_e hf
      refine call_V (As := []) (rest := [.int v2]) hx hb hml hown hts hK hP hD hS hA hZ lkX12_69 (c_X12_letters l G ct sk sv a n mo hc1) 0 rfl rfl ⟨Nat.le_of_ble_eq_true rfl, Nat.le_of_ble_eq_true rfl⟩ rfl hl.1 rfl (Nat.le_of_ble_eq_true rfl) dX12_codes_6 ⟨Nat.le_of_ble_eq_true rfl, Nat.le_of_ble_eq_true rfl⟩ (fun r9 w9 H locs hB hP hD hS => ?_)
      obtain ⟨rfl, rfl⟩ := hB
      refine WG_eq (g2 := F0 m 9 ls [.int r_1, .int v2]) rfl ?_
      refine lv_icmp_ge (tgt := 23) hx hb dX12_codes_9 (by decide) (fun c_2 => ?_) (fun c_2 => ?_)
      · replace hf := bc_t hf c_2
        exact hE v1 (lp_inr hor hf).symm _ _ _ hP hD hS (lv_sub hl [1] rfl)
      · replace hf := bc_f hf c_2
        refine lv_iload_n hx hb dX12_codes_12 rfl (lv_at hl 1 rfl) ?_
        refine lv_bipush (v := 6) hx hb dX12_codes_13 (by decide) ?_
        refine lv_imul hx hb dX12_codes_15 ?_
        refine lv_topi (fun v1_3 ev1_3 => ?_)
        replace hf := bl_i hf ev1_3
        refine lv_istore_n (lv' := [(1, .int v1_3), (2, .int v2), (0, .ref (a 0))]) hx hb dX12_codes_16 rfl hl (by decide) rfl (fun ls hl => ?_)
        obtain ⟨v2_4, ev2_4, hf⟩ := bl_e hf
        refine lv_iinc (v := v2_4) (lv' := [(2, .int v2_4), (1, .int v1_3), (0, .ref (a 0))]) hx hb dX12_codes_17 hl (k := 1) rfl ev2_4 (by decide) rfl (fun ls hl => ?_)
        refine lv_goto (tgt := 4) hx hb dX12_codes_20 (by decide) ?_
        exact ih v2_4 v1_3 ex _ _ _ hP hD hS hl (lp_inl hor hf) hE
  unfold f_X12_codes at hf
  show WG l G ct sk sv p e (RM 1 20 0 0) s m args below meth c A (Eq2 (some (.int r)) (wl [lfM ct a mo])) s.heap [] (F0 m 0 ls [])
  refine lv_iconst (v := 1) hx hb dX12_codes_0 (by decide) ?_
  refine lv_istore_n (lv' := [(1, .int 1), (0, .ref (a 0))]) hx hb dX12_codes_1 rfl hl (by decide) rfl (fun ls hl => ?_)
  refine lv_iconst (v := 0) hx hb dX12_codes_2 (by decide) ?_
  refine lv_istore_n (lv' := [(2, .int 0), (1, .int 1), (0, .ref (a 0))]) hx hb dX12_codes_3 rfl hl (by decide) rfl (fun ls hl => ?_)
  obtain ⟨v1_5, hx_6, hf⟩ := bd_e hf
  refine L4 n 0 1 v1_5 _ _ _ hP hD hS hl hx_6 ?_
  intro x9 e9 H locs ls hP hD hS hl
  subst e9
  have hP : va_P G classes (wl [lfM ct a mo]) H := hP
  have hD : va_D A (wl [lfM ct a mo]) := hD
  have hl : lv_has ls 3 [(1, .int v1_5)] := hl
  refine lv_iload_n hx hb dX12_codes_23 rfl (lv_at hl 0 rfl) ?_
  have e1 := Option.some.inj hf
  exact end_i (w' := (wl [lfM ct a mo])) hx hb hr hlocks hK hP hD hS dX12_codes_24  ⟨by rw [← e1], rfl⟩
noncomputable def f_X12_coversAs_j53 (n : Nat) (s0 : Int32) : Option (Int32) :=
  some s0
noncomputable def f_X12_coversAs_j12 (n : Nat) (v0 : Int32) (v1 : Int32) (s0 : Int32) : Option (Int32) :=
  bc (v0 = 2) (f_X12_coversAs_j53 n s0)
  (bc (v0 = 4) (bc (7 ≤ v1) (f_X12_coversAs_j53 n 0)
  (f_X12_coversAs_j53 n s0))
  (bc (v0 = 5) (f_X12_coversAs_j53 n 13)
  (f_X12_coversAs_j53 n 10)))
noncomputable def f_X12_coversAs (n : Nat) (v0 : Int32) (v1 : Int32) : Option (Int32) :=
  bc ((v1 - v1 / 2 * 2) = 0) (f_X12_coversAs_j12 n v0 v1 5)
  (f_X12_coversAs_j12 n v0 v1 10)
set_option maxHeartbeats 4000000 in
set_option maxRecDepth 100000 in
theorem c_X12_coversAs (l : Launch) (G : va_G) (ct : Nat → ClassId) (sk sv : Nat → Nat)  (n : Nat) (v0 : Int32) (v1 : Int32) {r : Int32} (hf : f_X12_coversAs n v0 v1 = some r) : Ctr (l, G, ct, sk, sv) mX12_coversAs 0 0 [.int v0, .int v1] (wl []) (wl []) (some (.int r)) := by
  refine ctr_intro (by decide) (Nat.le_of_ble_eq_true rfl) ?_
  intro p e s m args below meth c A C hP hD hS hA ls hl
  obtain ⟨hx, hb, hml, hown, hts, hr, hlocks, hK, hnm, hZ⟩ := C
  have hb : c.code = cX12_coversAs := hb
  have hml : c.maxLocals = 3 := hml
  have hown : s.vm.findClass "SignedOutsideModel" = some m.cls := hown
  have hr : meth.sig.returnType = some .int := hr
  have hP : va_P G classes (wl []) s.heap := hP
  have hD : va_D A (wl []) := hD
  have hK : va_K G classes (TYS ct) s := hK
  have hl : lv_has ls 3 [(0, .int v0), (1, .int v1)] := hl
  have J53 : ∀ (s0 : Int32) (H : Heap) (locs : List Loc) (ls : Array Slot), va_P G classes (wl []) H → va_D A (wl []) → va_S A s.heap H locs → lv_has ls 3 [] → f_X12_coversAs_j53 n s0 = some r → WG l G ct sk sv p e (RM 0 0 0 0) s m args below meth c A (Eq2 (some (.int r)) (wl [])) H locs (F0 m 53 ls [.int s0]) := by
    intro s0 H locs ls hP hD hS hl hf
    unfold f_X12_coversAs_j53 at hf
    have e1 := Option.some.inj hf
    exact end_i (w' := (wl [])) hx hb hr hlocks hK hP hD hS dX12_coversAs_53  ⟨by rw [← e1], rfl⟩
  have J12 : ∀ (v0 : Int32) (v1 : Int32) (s0 : Int32) (H : Heap) (locs : List Loc) (ls : Array Slot), va_P G classes (wl []) H → va_D A (wl []) → va_S A s.heap H locs → lv_has ls 3 [(0, .int v0), (1, .int v1)] → f_X12_coversAs_j12 n v0 v1 s0 = some r → WG l G ct sk sv p e (RM 0 0 0 0) s m args below meth c A (Eq2 (some (.int r)) (wl [])) H locs (F0 m 12 ls [.int s0]) := by
    intro v0 v1 s0 H locs ls hP hD hS hl hf
    unfold f_X12_coversAs_j12 at hf
    refine lv_istore_n (lv' := [(2, .int s0), (0, .int v0), (1, .int v1)]) hx hb dX12_coversAs_12 rfl hl (by decide) rfl (fun ls hl => ?_)
    refine lv_iload_n hx hb dX12_coversAs_13 rfl (lv_at hl 1 rfl) ?_
    refine lv_iconst (v := 2) hx hb dX12_coversAs_14 (by decide) ?_
    refine lv_icmp_ne (tgt := 22) hx hb dX12_coversAs_15 (by decide) (fun c_1 => ?_) (fun c_1 => ?_)
    · replace hf := bc_f hf c_1
      refine lv_iload_n hx hb dX12_coversAs_22 rfl (lv_at hl 1 rfl) ?_
      refine lv_iconst (v := 4) hx hb dX12_coversAs_23 (by decide) ?_
      refine lv_icmp_ne (tgt := 41) hx hb dX12_coversAs_24 (by decide) (fun c_2 => ?_) (fun c_2 => ?_)
      · replace hf := bc_f hf c_2
        refine lv_iload_n hx hb dX12_coversAs_41 rfl (lv_at hl 1 rfl) ?_
        refine lv_iconst (v := 5) hx hb dX12_coversAs_42 (by decide) ?_
        refine lv_icmp_ne (tgt := 51) hx hb dX12_coversAs_43 (by decide) (fun c_3 => ?_) (fun c_3 => ?_)
        · replace hf := bc_f hf c_3
          refine lv_bipush (v := 10) hx hb dX12_coversAs_51 (by decide) ?_
          exact J53 10 _ _ _ hP hD hS (lv_sub hl [] rfl) hf
        · replace hf := bc_t hf c_3
          refine lv_bipush (v := 13) hx hb dX12_coversAs_46 (by decide) ?_
          refine lv_goto (tgt := 53) hx hb dX12_coversAs_48 (by decide) ?_
          exact J53 13 _ _ _ hP hD hS (lv_sub hl [] rfl) hf
      · replace hf := bc_t hf c_2
        refine lv_iload_n hx hb dX12_coversAs_27 rfl (lv_at hl 2 rfl) ?_
        refine lv_bipush (v := 7) hx hb dX12_coversAs_28 (by decide) ?_
        refine lv_icmp_ge (tgt := 37) hx hb dX12_coversAs_30 (by decide) (fun c_4 => ?_) (fun c_4 => ?_)
        · replace hf := bc_t hf c_4
          refine lv_iconst (v := 0) hx hb dX12_coversAs_37 (by decide) ?_
          refine lv_goto (tgt := 53) hx hb dX12_coversAs_38 (by decide) ?_
          exact J53 0 _ _ _ hP hD hS (lv_sub hl [] rfl) hf
        · replace hf := bc_f hf c_4
          refine lv_iload_n hx hb dX12_coversAs_33 rfl (lv_at hl 0 rfl) ?_
          refine lv_goto (tgt := 53) hx hb dX12_coversAs_34 (by decide) ?_
          exact J53 s0 _ _ _ hP hD hS (lv_sub hl [] rfl) hf
    · replace hf := bc_t hf c_1
      refine lv_iload_n hx hb dX12_coversAs_18 rfl (lv_at hl 0 rfl) ?_
      refine lv_goto (tgt := 53) hx hb dX12_coversAs_19 (by decide) ?_
      exact J53 s0 _ _ _ hP hD hS (lv_sub hl [] rfl) hf
  unfold f_X12_coversAs at hf
  show WG l G ct sk sv p e (RM 0 0 0 0) s m args below meth c A (Eq2 (some (.int r)) (wl [])) s.heap [] (F0 m 0 ls [])
  refine lv_iload_n hx hb dX12_coversAs_0 rfl (lv_at hl 1 rfl) ?_
  refine lv_iconst (v := 2) hx hb dX12_coversAs_1 (by decide) ?_
  refine lv_irem hx hb dX12_coversAs_2 (by decide) ?_
  refine lv_if_ne (tgt := 10) hx hb dX12_coversAs_3 (by decide) (fun c_5 => ?_) (fun c_5 => ?_)
  · replace hf := bc_f hf c_5
    refine lv_bipush (v := 10) hx hb dX12_coversAs_10 (by decide) ?_
    exact J12 v0 v1 10 _ _ _ hP hD hS hl hf
  · replace hf := bc_t hf c_5
    refine lv_iconst (v := 5) hx hb dX12_coversAs_6 (by decide) ?_
    refine lv_goto (tgt := 12) hx hb dX12_coversAs_7 (by decide) ?_
    exact J12 v0 v1 5 _ _ _ hP hD hS hl hf
noncomputable def f_X12_members (n : Nat) (mo : MV) : Option (Int32) :=
  gd (vp_in 0 235) <|
  some (mo.2.1 0 (ix 0))
set_option maxHeartbeats 4000000 in
set_option maxRecDepth 100000 in
theorem c_X12_members (l : Launch) (G : va_G) (ct : Nat → ClassId) (sk sv : Nat → Nat) (a : Nat → Nat) (n : Nat) (mo : MV) {r : Int32} (hf : f_X12_members n mo = some r) : Ctr (l, G, ct, sk, sv) mX12_members 0 0 [.ref (a 0)] (wl [lfM ct a mo]) (wl [lfM ct a mo]) (some (.int r)) := by
  refine ctr_intro (by decide) (Nat.le_of_ble_eq_true rfl) ?_
  intro p e s m args below meth c A C hP hD hS hA ls hl
  obtain ⟨hx, hb, hml, hown, hts, hr, hlocks, hK, hnm, hZ⟩ := C
  have hb : c.code = cX12_members := hb
  have hml : c.maxLocals = 1 := hml
  have hown : s.vm.findClass "SignedOutsideModel" = some m.cls := hown
  have hr : meth.sig.returnType = some .int := hr
  have hP : va_P G classes (wl [lfM ct a mo]) s.heap := hP
  have hD : va_D A (wl [lfM ct a mo]) := hD
  have hK : va_K G classes (TYS ct) s := hK
  have hl : lv_has ls 1 [(0, .ref (a 0))] := hl
  unfold f_X12_members at hf
  show WG l G ct sk sv p e (RM 0 0 0 0) s m args below meth c A (Eq2 (some (.int r)) (wl [lfM ct a mo])) s.heap [] (F0 m 0 ls [])
  refine lv_aload_n hx hb dX12_members_0 rfl (lv_at hl 0 rfl) ?_
  refine va_get (D := G) (C := RX12) (T := TX12) (N := 21) (v := .ref (a 1)) hx hb hts iu_X12 hown hK hP 0 rfl rfl 0 (by decide) (hts _ kw887) (fun _ h9 => h9) rfl dX12_members_1 ?_
  refine lv_iconst (v := 0) hx hb dX12_members_4 (by decide) ?_
  obtain ⟨g_1, hf⟩ := gd_e hf
  refine va_iald (f := mo.2.1 0) hx hb hK hP 1 0 rfl rfl g_1 dX12_members_5 ?_
  have e1 := Option.some.inj hf
  exact end_i (w' := (wl [lfM ct a mo])) hx hb hr hlocks hK hP hD hS dX12_members_6  ⟨by rw [← e1], rfl⟩
noncomputable def f_X12_layCovers_b2 (n : Nat) (mo : MV) (v1 : Int32) : Option ((Int32 × MV) ⊕ (MV)) :=
  bd (f_X12_members n mo) fun r_1 =>
  bc (r_1 ≤ v1) (some (.inr mo))
  (gd (vp_in (24 + v1) 235) <|
  gd (vp_in 23 235) <|
  bd (f_X12_coversAs n (mo.2.1 0 (ix (24 + v1))) (mo.2.1 0 (ix 23))) fun r_5 =>
  gd (vp_in (11 + v1) 235) <|
  gd (vp_in v1 5) <|
  bl (setA mo 6 (upd (mo.2.1 6) (ix v1) (r_5 - (mo.2.1 0 (ix (11 + v1)))))) fun mo_8 =>
  bl (v1 + 1) fun v1_9 =>
  some (.inl (v1_9, mo_8)))
noncomputable def f_X12_layCovers_l2 (fu : Nat) (n : Nat) (mo : MV) (v1 : Int32) : Option (MV) :=
  lp (fun q => f_X12_layCovers_b2 n q.2 q.1) fu (v1, mo)
noncomputable def f_X12_layCovers (n : Nat) (mo : MV) : Option (MV) :=
  bd (f_X12_layCovers_l2 n n mo 0) fun mo_10 =>
  some mo_10
set_option maxHeartbeats 4000000 in
set_option maxRecDepth 100000 in
theorem c_X12_layCovers (l : Launch) (G : va_G) (ct : Nat → ClassId) (sk sv : Nat → Nat) (a : Nat → Nat) (n : Nat) (mo : MV) {mo' : MV} (hf : f_X12_layCovers n mo = some mo') : Ctr (l, G, ct, sk, sv) mX12_layCovers 1 22 [.ref (a 0)] (wl [lfM ct a mo]) (wl [lfM ct a mo']) (none) := by
  refine ctr_intro (by decide) (Nat.le_of_ble_eq_true rfl) ?_
  intro p e s m args below meth c A C hP hD hS hA ls hl
  obtain ⟨hx, hb, hml, hown, hts, hr, hlocks, hK, hnm, hZ⟩ := C
  have hb : c.code = cX12_layCovers := hb
  have hml : c.maxLocals = 2 := hml
  have hown : s.vm.findClass "SignedOutsideModel" = some m.cls := hown
  have hr : meth.sig.returnType = none := hr
  have hP : va_P G classes (wl [lfM ct a mo]) s.heap := hP
  have hD : va_D A (wl [lfM ct a mo]) := hD
  have hK : va_K G classes (TYS ct) s := hK
  have hl : lv_has ls 2 [(0, .ref (a 0))] := hl
  have L2 : ∀ (fu : Nat) (mo : MV) (v1 : Int32) (ex : MV) (H : Heap) (locs : List Loc) (ls : Array Slot), va_P G classes (wl [lfM ct a mo]) H → va_D A (wl [lfM ct a mo]) → va_S A s.heap H locs → lv_has ls 2 [(1, .int v1), (0, .ref (a 0))] → f_X12_layCovers_l2 fu n mo v1 = some ex → (∀ (x : MV), ex = x → ∀ (H : Heap) (locs : List Loc) (ls : Array Slot), va_P G classes (wl [lfM ct a x]) H → va_D A (wl [lfM ct a x]) → va_S A s.heap H locs → lv_has ls 2 [] → WG l G ct sk sv p e (RM 1 22 0 0) s m args below meth c A (Eq2 (none) (wl [lfM ct a mo'])) H locs (F0 m 51 ls [])) → WG l G ct sk sv p e (RM 1 22 0 0) s m args below meth c A (Eq2 (none) (wl [lfM ct a mo'])) H locs (F0 m 2 ls []) := by
    intro fu
    induction fu with
    | zero =>
      intro mo v1 ex H locs ls hP hD hS hl hf
      exact absurd hf (by unfold f_X12_layCovers_l2 lp; exact fun h => by cases h)
    | succ fu ih =>
      intro mo v1 ex H locs ls hP hD hS hl hf hE
      unfold f_X12_layCovers_l2 at hf
      obtain ⟨q, hf, hor⟩ := lp_e hf
      replace hf : f_X12_layCovers_b2 n mo v1 = some q := hf
      unfold f_X12_layCovers_b2 at hf
      refine lv_iload_n hx hb dX12_layCovers_2 rfl (lv_at hl 0 rfl) ?_
      refine lv_aload_n hx hb dX12_layCovers_3 rfl (lv_at hl 1 rfl) ?_
      obtain ⟨r_1, hc1, hf⟩ := bd_e hf
      refine call_V (As := []) (rest := [.int v1]) hx hb hml hown hts hK hP hD hS hA hZ lkX12_61 (c_X12_members l G ct sk sv a n mo hc1) 0 rfl rfl ⟨Nat.le_of_ble_eq_true rfl, Nat.le_of_ble_eq_true rfl⟩ rfl hl.1 rfl (Nat.le_of_ble_eq_true rfl) dX12_layCovers_4 ⟨Nat.le_of_ble_eq_true rfl, Nat.le_of_ble_eq_true rfl⟩ (fun r9 w9 H locs hB hP hD hS => ?_)
      obtain ⟨rfl, rfl⟩ := hB
      refine WG_eq (g2 := F0 m 7 ls [.int r_1, .int v1]) rfl ?_
      refine lv_icmp_ge (tgt := 51) hx hb dX12_layCovers_7 (by decide) (fun c_2 => ?_) (fun c_2 => ?_)
      · replace hf := bc_t hf c_2
        exact hE mo (lp_inr hor hf).symm _ _ _ hP hD hS (lv_sub hl [] rfl)
      · replace hf := bc_f hf c_2
        refine lv_aload_n hx hb dX12_layCovers_10 rfl (lv_at hl 1 rfl) ?_
        refine va_get (D := G) (C := RX12) (T := TX12) (N := 21) (v := .ref (a 7)) hx hb hts iu_X12 hown hK hP 0 rfl rfl 8 (by decide) (hts _ kw895) (fun _ h9 => h9) rfl dX12_layCovers_11 ?_
        refine lv_iload_n hx hb dX12_layCovers_14 rfl (lv_at hl 0 rfl) ?_
        refine lv_aload_n hx hb dX12_layCovers_15 rfl (lv_at hl 1 rfl) ?_
        refine va_get (D := G) (C := RX12) (T := TX12) (N := 21) (v := .ref (a 1)) hx hb hts iu_X12 hown hK hP 0 rfl rfl 0 (by decide) (hts _ kw887) (fun _ h9 => h9) rfl dX12_layCovers_16 ?_
        refine lv_bipush (v := 24) hx hb dX12_layCovers_19 (by decide) ?_
        refine lv_iload_n hx hb dX12_layCovers_21 rfl (lv_at hl 0 rfl) ?_
        refine lv_iadd hx hb dX12_layCovers_22 ?_
        obtain ⟨g_3, hf⟩ := gd_e hf
        refine va_iald (f := mo.2.1 0) hx hb hK hP 1 0 rfl rfl g_3 dX12_layCovers_23 ?_
        refine lv_aload_n hx hb dX12_layCovers_24 rfl (lv_at hl 1 rfl) ?_
        refine va_get (D := G) (C := RX12) (T := TX12) (N := 21) (v := .ref (a 1)) hx hb hts iu_X12 hown hK hP 0 rfl rfl 0 (by decide) (hts _ kw887) (fun _ h9 => h9) rfl dX12_layCovers_25 ?_
        refine lv_bipush (v := 23) hx hb dX12_layCovers_28 (by decide) ?_
        obtain ⟨g_4, hf⟩ := gd_e hf
        refine va_iald (f := mo.2.1 0) hx hb hK hP 1 0 rfl rfl g_4 dX12_layCovers_30 ?_
        obtain ⟨r_5, hc5, hf⟩ := bd_e hf
        refine call_S (As := [.int (mo.2.1 0 (ix (24 + v1))), .int (mo.2.1 0 (ix 23))]) (rest := [.int v1, .ref (a 7)]) hx hb hml hown hts hK hP hD hS hA hZ lkX12_108 (Ctr.upL (c_X12_coversAs l G ct sk sv  n (mo.2.1 0 (ix (24 + v1))) (mo.2.1 0 (ix 23)) hc5) [lfM ct a mo] [lfM ct a mo] [lfM ct a mo] [0] 1 (by decide) rfl rfl rfl rfl) ⟨Nat.le_of_ble_eq_true rfl, Nat.le_of_ble_eq_true rfl⟩ rfl hl.1 rfl (Nat.le_of_ble_eq_true rfl) dX12_layCovers_31 ⟨Nat.le_of_ble_eq_true rfl, Nat.le_of_ble_eq_true rfl⟩ (fun r9 w9 H locs hB hP hD hS => ?_)
        obtain ⟨rfl, rfl⟩ := hB
        refine WG_eq (g2 := F0 m 34 ls [.int r_5, .int v1, .ref (a 7)]) rfl ?_
        refine lv_aload_n hx hb dX12_layCovers_34 rfl (lv_at hl 1 rfl) ?_
        refine va_get (D := G) (C := RX12) (T := TX12) (N := 21) (v := .ref (a 1)) hx hb hts iu_X12 hown hK hP 0 rfl rfl 0 (by decide) (hts _ kw887) (fun _ h9 => h9) rfl dX12_layCovers_35 ?_
        refine lv_bipush (v := 11) hx hb dX12_layCovers_38 (by decide) ?_
        refine lv_iload_n hx hb dX12_layCovers_40 rfl (lv_at hl 0 rfl) ?_
        refine lv_iadd hx hb dX12_layCovers_41 ?_
        obtain ⟨g_6, hf⟩ := gd_e hf
        refine va_iald (f := mo.2.1 0) hx hb hK hP 1 0 rfl rfl g_6 dX12_layCovers_42 ?_
        refine lv_isub hx hb dX12_layCovers_43 ?_
        obtain ⟨g_7, hf⟩ := gd_e hf
        obtain ⟨mo_8, emo_8, hf⟩ := bl_e hf
        refine va_iast hx hb hK hP hD hS 7 0 rfl rfl g_7 dX12_layCovers_44 (fun H locs hP hD hS => ?_)
        have hP : va_P G classes (wl [lfM ct a mo_8]) H := by rw [← emo_8]; exact hP
        have hD : va_D A (wl [lfM ct a mo_8]) := by rw [← emo_8]; exact hD
        obtain ⟨v1_9, ev1_9, hf⟩ := bl_e hf
        refine lv_iinc (v := v1_9) (lv' := [(1, .int v1_9), (0, .ref (a 0))]) hx hb dX12_layCovers_45 hl (k := 0) rfl ev1_9 (by decide) rfl (fun ls hl => ?_)
        refine lv_goto (tgt := 2) hx hb dX12_layCovers_48 (by decide) ?_
        exact ih mo_8 v1_9 ex _ _ _ hP hD hS hl (lp_inl hor hf) hE
  unfold f_X12_layCovers at hf
  show WG l G ct sk sv p e (RM 1 22 0 0) s m args below meth c A (Eq2 (none) (wl [lfM ct a mo'])) s.heap [] (F0 m 0 ls [])
  refine lv_iconst (v := 0) hx hb dX12_layCovers_0 (by decide) ?_
  refine lv_istore_n (lv' := [(1, .int 0), (0, .ref (a 0))]) hx hb dX12_layCovers_1 rfl hl (by decide) rfl (fun ls hl => ?_)
  obtain ⟨mo_10, hx_11, hf⟩ := bd_e hf
  refine L2 n mo 0 mo_10 _ _ _ hP hD hS hl hx_11 ?_
  intro x9 e9 H locs ls hP hD hS hl
  subst e9
  have hP : va_P G classes (wl [lfM ct a mo_10]) H := hP
  have hD : va_D A (wl [lfM ct a mo_10]) := hD
  have hl : lv_has ls 2 [] := hl
  have e1 := Option.some.inj hf
  exact end_v (w' := (wl [lfM ct a mo_10])) hx hb hr hlocks hK hP hD hS dX12_layCovers_51  ⟨rfl, by rw [← e1]⟩
noncomputable def f_X12_lies_j17 (n : Nat) (mo : MV) (s0 : Int32) : Option (Int32) :=
  gd (s0 = 0 ∨ s0 = 1) <| some s0
noncomputable def f_X12_lies (n : Nat) (mo : MV) (v1 : Int32) : Option (Int32) :=
  gd (vp_in (5 + v1) 235) <|
  bc ((mo.2.1 0 (ix (5 + v1))) = (-1)) (f_X12_lies_j17 n mo 1)
  (f_X12_lies_j17 n mo 0)
set_option maxHeartbeats 4000000 in
set_option maxRecDepth 100000 in
theorem c_X12_lies (l : Launch) (G : va_G) (ct : Nat → ClassId) (sk sv : Nat → Nat) (a : Nat → Nat) (n : Nat) (mo : MV) (v1 : Int32) {r : Int32} (hf : f_X12_lies n mo v1 = some r) : Ctr (l, G, ct, sk, sv) mX12_lies 0 0 [.ref (a 0), .int v1] (wl [lfM ct a mo]) (wl [lfM ct a mo]) (some (.int r)) := by
  refine ctr_intro (by decide) (Nat.le_of_ble_eq_true rfl) ?_
  intro p e s m args below meth c A C hP hD hS hA ls hl
  obtain ⟨hx, hb, hml, hown, hts, hr, hlocks, hK, hnm, hZ⟩ := C
  have hb : c.code = cX12_lies := hb
  have hml : c.maxLocals = 2 := hml
  have hown : s.vm.findClass "SignedOutsideModel" = some m.cls := hown
  have hr : meth.sig.returnType = some .boolean := hr
  have hP : va_P G classes (wl [lfM ct a mo]) s.heap := hP
  have hD : va_D A (wl [lfM ct a mo]) := hD
  have hK : va_K G classes (TYS ct) s := hK
  have hl : lv_has ls 2 [(0, .ref (a 0)), (1, .int v1)] := hl
  have J17 : ∀ (s0 : Int32) (H : Heap) (locs : List Loc) (ls : Array Slot), va_P G classes (wl [lfM ct a mo]) H → va_D A (wl [lfM ct a mo]) → va_S A s.heap H locs → lv_has ls 2 [] → f_X12_lies_j17 n mo s0 = some r → WG l G ct sk sv p e (RM 0 0 0 0) s m args below meth c A (Eq2 (some (.int r)) (wl [lfM ct a mo])) H locs (F0 m 17 ls [.int s0]) := by
    intro s0 H locs ls hP hD hS hl hf
    unfold f_X12_lies_j17 at hf
    obtain ⟨g_1, hf⟩ := gd_e hf
    have e1 := Option.some.inj hf
    exact end_z (w' := (wl [lfM ct a mo])) hx hb hr hlocks hK hP hD hS dX12_lies_17 g_1 ⟨by rw [← e1], rfl⟩
  unfold f_X12_lies at hf
  show WG l G ct sk sv p e (RM 0 0 0 0) s m args below meth c A (Eq2 (some (.int r)) (wl [lfM ct a mo])) s.heap [] (F0 m 0 ls [])
  refine lv_aload_n hx hb dX12_lies_0 rfl (lv_at hl 0 rfl) ?_
  refine va_get (D := G) (C := RX12) (T := TX12) (N := 21) (v := .ref (a 1)) hx hb hts iu_X12 hown hK hP 0 rfl rfl 0 (by decide) (hts _ kw887) (fun _ h9 => h9) rfl dX12_lies_1 ?_
  refine lv_iconst (v := 5) hx hb dX12_lies_4 (by decide) ?_
  refine lv_iload_n hx hb dX12_lies_5 rfl (lv_at hl 1 rfl) ?_
  refine lv_iadd hx hb dX12_lies_6 ?_
  obtain ⟨g_2, hf⟩ := gd_e hf
  refine va_iald (f := mo.2.1 0) hx hb hK hP 1 0 rfl rfl g_2 dX12_lies_7 ?_
  refine lv_iconst (v := (-1)) hx hb dX12_lies_8 (by decide) ?_
  refine lv_icmp_ne (tgt := 16) hx hb dX12_lies_9 (by decide) (fun c_3 => ?_) (fun c_3 => ?_)
  · replace hf := bc_f hf c_3
    refine lv_iconst (v := 0) hx hb dX12_lies_16 (by decide) ?_
    exact J17 0 _ _ _ hP hD hS (lv_sub hl [] rfl) hf
  · replace hf := bc_t hf c_3
    refine lv_iconst (v := 1) hx hb dX12_lies_12 (by decide) ?_
    refine lv_goto (tgt := 17) hx hb dX12_lies_13 (by decide) ?_
    exact J17 1 _ _ _ hP hD hS (lv_sub hl [] rfl) hf
noncomputable def f_X12_bearsAs_j15 (n : Nat) (s0 : Int32) : Option (Int32) :=
  some s0
noncomputable def f_X12_bearsAs_j10 (n : Nat) : Option (Int32) :=
  f_X12_bearsAs_j15 n 5
noncomputable def f_X12_bearsAs (n : Nat) (v0 : Int32) : Option (Int32) :=
  bc (v0 = 1) (f_X12_bearsAs_j10 n)
  (bc (v0 = 5) (f_X12_bearsAs_j10 n)
  (f_X12_bearsAs_j15 n 2))
set_option maxHeartbeats 4000000 in
set_option maxRecDepth 100000 in
theorem c_X12_bearsAs (l : Launch) (G : va_G) (ct : Nat → ClassId) (sk sv : Nat → Nat)  (n : Nat) (v0 : Int32) {r : Int32} (hf : f_X12_bearsAs n v0 = some r) : Ctr (l, G, ct, sk, sv) mX12_bearsAs 0 0 [.int v0] (wl []) (wl []) (some (.int r)) := by
  refine ctr_intro (by decide) (Nat.le_of_ble_eq_true rfl) ?_
  intro p e s m args below meth c A C hP hD hS hA ls hl
  obtain ⟨hx, hb, hml, hown, hts, hr, hlocks, hK, hnm, hZ⟩ := C
  have hb : c.code = cX12_bearsAs := hb
  have hml : c.maxLocals = 1 := hml
  have hown : s.vm.findClass "SignedOutsideModel" = some m.cls := hown
  have hr : meth.sig.returnType = some .int := hr
  have hP : va_P G classes (wl []) s.heap := hP
  have hD : va_D A (wl []) := hD
  have hK : va_K G classes (TYS ct) s := hK
  have hl : lv_has ls 1 [(0, .int v0)] := hl
  have J15 : ∀ (s0 : Int32) (H : Heap) (locs : List Loc) (ls : Array Slot), va_P G classes (wl []) H → va_D A (wl []) → va_S A s.heap H locs → lv_has ls 1 [] → f_X12_bearsAs_j15 n s0 = some r → WG l G ct sk sv p e (RM 0 0 0 0) s m args below meth c A (Eq2 (some (.int r)) (wl [])) H locs (F0 m 15 ls [.int s0]) := by
    intro s0 H locs ls hP hD hS hl hf
    unfold f_X12_bearsAs_j15 at hf
    have e1 := Option.some.inj hf
    exact end_i (w' := (wl [])) hx hb hr hlocks hK hP hD hS dX12_bearsAs_15  ⟨by rw [← e1], rfl⟩
  have J10 : ∀ (H : Heap) (locs : List Loc) (ls : Array Slot), va_P G classes (wl []) H → va_D A (wl []) → va_S A s.heap H locs → lv_has ls 1 [] → f_X12_bearsAs_j10 n = some r → WG l G ct sk sv p e (RM 0 0 0 0) s m args below meth c A (Eq2 (some (.int r)) (wl [])) H locs (F0 m 10 ls []) := by
    intro  H locs ls hP hD hS hl hf
    unfold f_X12_bearsAs_j10 at hf
    refine lv_iconst (v := 5) hx hb dX12_bearsAs_10 (by decide) ?_
    refine lv_goto (tgt := 15) hx hb dX12_bearsAs_11 (by decide) ?_
    exact J15 5 _ _ _ hP hD hS hl hf
  unfold f_X12_bearsAs at hf
  show WG l G ct sk sv p e (RM 0 0 0 0) s m args below meth c A (Eq2 (some (.int r)) (wl [])) s.heap [] (F0 m 0 ls [])
  refine lv_iload_n hx hb dX12_bearsAs_0 rfl (lv_at hl 0 rfl) ?_
  refine lv_iconst (v := 1) hx hb dX12_bearsAs_1 (by decide) ?_
  refine lv_icmp_eq (tgt := 10) hx hb dX12_bearsAs_2 (by decide) (fun c_1 => ?_) (fun c_1 => ?_)
  · replace hf := bc_t hf c_1
    exact J10  _ _ _ hP hD hS (lv_sub hl [] rfl) hf
  · replace hf := bc_f hf c_1
    refine lv_iload_n hx hb dX12_bearsAs_5 rfl (lv_at hl 0 rfl) ?_
    refine lv_iconst (v := 5) hx hb dX12_bearsAs_6 (by decide) ?_
    refine lv_icmp_ne (tgt := 14) hx hb dX12_bearsAs_7 (by decide) (fun c_2 => ?_) (fun c_2 => ?_)
    · replace hf := bc_f hf c_2
      refine lv_iconst (v := 2) hx hb dX12_bearsAs_14 (by decide) ?_
      exact J15 2 _ _ _ hP hD hS (lv_sub hl [] rfl) hf
    · replace hf := bc_t hf c_2
      exact J10  _ _ _ hP hD hS (lv_sub hl [] rfl) hf
noncomputable def f_X12_reachAs_j31 (n : Nat) (s0 : Int32) : Option (Int32) :=
  some s0
noncomputable def f_X12_reachAs (n : Nat) (v0 : Int32) : Option (Int32) :=
  bc (v0 = 3) (f_X12_reachAs_j31 n 40)
  (bc (v0 = 4) (f_X12_reachAs_j31 n 0)
  (bc (v0 = 5) (f_X12_reachAs_j31 n 10)
  (f_X12_reachAs_j31 n 20)))
set_option maxHeartbeats 4000000 in
set_option maxRecDepth 100000 in
theorem c_X12_reachAs (l : Launch) (G : va_G) (ct : Nat → ClassId) (sk sv : Nat → Nat)  (n : Nat) (v0 : Int32) {r : Int32} (hf : f_X12_reachAs n v0 = some r) : Ctr (l, G, ct, sk, sv) mX12_reachAs 0 0 [.int v0] (wl []) (wl []) (some (.int r)) := by
  refine ctr_intro (by decide) (Nat.le_of_ble_eq_true rfl) ?_
  intro p e s m args below meth c A C hP hD hS hA ls hl
  obtain ⟨hx, hb, hml, hown, hts, hr, hlocks, hK, hnm, hZ⟩ := C
  have hb : c.code = cX12_reachAs := hb
  have hml : c.maxLocals = 1 := hml
  have hown : s.vm.findClass "SignedOutsideModel" = some m.cls := hown
  have hr : meth.sig.returnType = some .int := hr
  have hP : va_P G classes (wl []) s.heap := hP
  have hD : va_D A (wl []) := hD
  have hK : va_K G classes (TYS ct) s := hK
  have hl : lv_has ls 1 [(0, .int v0)] := hl
  have J31 : ∀ (s0 : Int32) (H : Heap) (locs : List Loc) (ls : Array Slot), va_P G classes (wl []) H → va_D A (wl []) → va_S A s.heap H locs → lv_has ls 1 [] → f_X12_reachAs_j31 n s0 = some r → WG l G ct sk sv p e (RM 0 0 0 0) s m args below meth c A (Eq2 (some (.int r)) (wl [])) H locs (F0 m 31 ls [.int s0]) := by
    intro s0 H locs ls hP hD hS hl hf
    unfold f_X12_reachAs_j31 at hf
    have e1 := Option.some.inj hf
    exact end_i (w' := (wl [])) hx hb hr hlocks hK hP hD hS dX12_reachAs_31  ⟨by rw [← e1], rfl⟩
  unfold f_X12_reachAs at hf
  show WG l G ct sk sv p e (RM 0 0 0 0) s m args below meth c A (Eq2 (some (.int r)) (wl [])) s.heap [] (F0 m 0 ls [])
  refine lv_iload_n hx hb dX12_reachAs_0 rfl (lv_at hl 0 rfl) ?_
  refine lv_iconst (v := 3) hx hb dX12_reachAs_1 (by decide) ?_
  refine lv_icmp_ne (tgt := 10) hx hb dX12_reachAs_2 (by decide) (fun c_1 => ?_) (fun c_1 => ?_)
  · replace hf := bc_f hf c_1
    refine lv_iload_n hx hb dX12_reachAs_10 rfl (lv_at hl 0 rfl) ?_
    refine lv_iconst (v := 4) hx hb dX12_reachAs_11 (by decide) ?_
    refine lv_icmp_ne (tgt := 19) hx hb dX12_reachAs_12 (by decide) (fun c_2 => ?_) (fun c_2 => ?_)
    · replace hf := bc_f hf c_2
      refine lv_iload_n hx hb dX12_reachAs_19 rfl (lv_at hl 0 rfl) ?_
      refine lv_iconst (v := 5) hx hb dX12_reachAs_20 (by decide) ?_
      refine lv_icmp_ne (tgt := 29) hx hb dX12_reachAs_21 (by decide) (fun c_3 => ?_) (fun c_3 => ?_)
      · replace hf := bc_f hf c_3
        refine lv_bipush (v := 20) hx hb dX12_reachAs_29 (by decide) ?_
        exact J31 20 _ _ _ hP hD hS (lv_sub hl [] rfl) hf
      · replace hf := bc_t hf c_3
        refine lv_bipush (v := 10) hx hb dX12_reachAs_24 (by decide) ?_
        refine lv_goto (tgt := 31) hx hb dX12_reachAs_26 (by decide) ?_
        exact J31 10 _ _ _ hP hD hS (lv_sub hl [] rfl) hf
    · replace hf := bc_t hf c_2
      refine lv_iconst (v := 0) hx hb dX12_reachAs_15 (by decide) ?_
      refine lv_goto (tgt := 31) hx hb dX12_reachAs_16 (by decide) ?_
      exact J31 0 _ _ _ hP hD hS (lv_sub hl [] rfl) hf
  · replace hf := bc_t hf c_1
    refine lv_bipush (v := 40) hx hb dX12_reachAs_5 (by decide) ?_
    refine lv_goto (tgt := 31) hx hb dX12_reachAs_7 (by decide) ?_
    exact J31 40 _ _ _ hP hD hS (lv_sub hl [] rfl) hf
noncomputable def f_X12_mayFrank_j93 (n : Nat) (z : Nat) (t : (Nat → Int32)) (s0 : Int32) : Option (Int32) :=
  gd (s0 = 0 ∨ s0 = 1) <| some s0
noncomputable def f_X12_mayFrank_j92 (n : Nat) (z : Nat) (t : (Nat → Int32)) : Option (Int32) :=
  f_X12_mayFrank_j93 n z t 0
noncomputable def f_X12_mayFrank_j42 (n : Nat) (z : Nat) (t : (Nat → Int32)) (v4 : Int32) (v3 : Int32) (v1 : Int32) (v2 : Int32) (s0 : Int32) : Option (Int32) :=
  gd (vp_in (5 + v1) z) <|
  bc ((t (ix (5 + v1))) = (-1)) (gd (vp_in (11 + v2) z) <|
  gd (vp_in 23 z) <|
  bd (f_X12_coversAs n v3 (t (ix 23))) fun r_6 =>
  bc (r_6 ≤ (t (ix (11 + v2)))) (f_X12_mayFrank_j92 n z t)
  (bc (s0 = 0) (f_X12_mayFrank_j92 n z t)
  (gd (vp_in (v4 + 2) z) <|
  bd (f_X12_bearsAs n v3) fun r_10 =>
  bc (r_10 < (t (ix (v4 + 2)))) (f_X12_mayFrank_j92 n z t)
  (f_X12_mayFrank_j93 n z t 1))))
  (f_X12_mayFrank_j92 n z t)
noncomputable def f_X12_mayFrank (n : Nat) (z : Nat) (t : (Nat → Int32)) (v1 : Int32) (v2 : Int32) : Option (Int32) :=
  gd (vp_in (24 + v2) z) <|
  bl (t (ix (24 + v2))) fun v3_13 =>
  bl (29 + (3 * v1)) fun v4_14 =>
  gd (vp_in (v4_14 + 0) z) <|
  gd (vp_in (16 + v2) z) <|
  bd (f_X12_miles n (t (ix (v4_14 + 0))) (t (ix (16 + v2)))) fun r_17 =>
  bd (f_X12_reachAs n v3_13) fun r_18 =>
  bc (r_18 < r_17) (f_X12_mayFrank_j42 n z t v4_14 v3_13 v1 v2 0)
  (f_X12_mayFrank_j42 n z t v4_14 v3_13 v1 v2 1)
set_option maxHeartbeats 4000000 in
set_option maxRecDepth 100000 in
theorem c_X12_mayFrank (l : Launch) (G : va_G) (ct : Nat → ClassId) (sk sv : Nat → Nat) (a : Nat → Nat) (n : Nat) (z : Nat) (t : (Nat → Int32)) (v1 : Int32) (v2 : Int32) {r : Int32} (hf : f_X12_mayFrank n z t v1 v2 = some r) : Ctr (l, G, ct, sk, sv) mX12_mayFrank 1 22 [.ref (a 0), .int v1, .int v2] (wl [lfA ct a z t]) (wl [lfA ct a z t]) (some (.int r)) := by
  refine ctr_intro (by decide) (Nat.le_of_ble_eq_true rfl) ?_
  intro p e s m args below meth c A C hP hD hS hA ls hl
  obtain ⟨hx, hb, hml, hown, hts, hr, hlocks, hK, hnm, hZ⟩ := C
  have hb : c.code = cX12_mayFrank := hb
  have hml : c.maxLocals = 6 := hml
  have hown : s.vm.findClass "SignedOutsideModel" = some m.cls := hown
  have hr : meth.sig.returnType = some .boolean := hr
  have hP : va_P G classes (wl [lfA ct a z t]) s.heap := hP
  have hD : va_D A (wl [lfA ct a z t]) := hD
  have hK : va_K G classes (TYS ct) s := hK
  have hl : lv_has ls 6 [(0, .ref (a 0)), (1, .int v1), (2, .int v2)] := hl
  have J93 : ∀ (s0 : Int32) (H : Heap) (locs : List Loc) (ls : Array Slot), va_P G classes (wl [lfA ct a z t]) H → va_D A (wl [lfA ct a z t]) → va_S A s.heap H locs → lv_has ls 6 [] → f_X12_mayFrank_j93 n z t s0 = some r → WG l G ct sk sv p e (RM 1 22 0 0) s m args below meth c A (Eq2 (some (.int r)) (wl [lfA ct a z t])) H locs (F0 m 93 ls [.int s0]) := by
    intro s0 H locs ls hP hD hS hl hf
    unfold f_X12_mayFrank_j93 at hf
    obtain ⟨g_1, hf⟩ := gd_e hf
    have e1 := Option.some.inj hf
    exact end_z (w' := (wl [lfA ct a z t])) hx hb hr hlocks hK hP hD hS dX12_mayFrank_93 g_1 ⟨by rw [← e1], rfl⟩
  have J92 : ∀ (H : Heap) (locs : List Loc) (ls : Array Slot), va_P G classes (wl [lfA ct a z t]) H → va_D A (wl [lfA ct a z t]) → va_S A s.heap H locs → lv_has ls 6 [] → f_X12_mayFrank_j92 n z t = some r → WG l G ct sk sv p e (RM 1 22 0 0) s m args below meth c A (Eq2 (some (.int r)) (wl [lfA ct a z t])) H locs (F0 m 92 ls []) := by
    intro  H locs ls hP hD hS hl hf
    unfold f_X12_mayFrank_j92 at hf
    refine lv_iconst (v := 0) hx hb dX12_mayFrank_92 (by decide) ?_
    exact J93 0 _ _ _ hP hD hS hl hf
  have J42 : ∀ (v4 : Int32) (v3 : Int32) (v1 : Int32) (v2 : Int32) (s0 : Int32) (H : Heap) (locs : List Loc) (ls : Array Slot), va_P G classes (wl [lfA ct a z t]) H → va_D A (wl [lfA ct a z t]) → va_S A s.heap H locs → lv_has ls 6 [(4, .int v4), (3, .int v3), (0, .ref (a 0)), (1, .int v1), (2, .int v2)] → f_X12_mayFrank_j42 n z t v4 v3 v1 v2 s0 = some r → WG l G ct sk sv p e (RM 1 22 0 0) s m args below meth c A (Eq2 (some (.int r)) (wl [lfA ct a z t])) H locs (F0 m 42 ls [.int s0]) := by
    intro v4 v3 v1 v2 s0 H locs ls hP hD hS hl hf
    unfold f_X12_mayFrank_j42 at hf
    refine lv_istore (lv' := [(5, .int s0), (4, .int v4), (3, .int v3), (0, .ref (a 0)), (1, .int v1), (2, .int v2)]) hx hb dX12_mayFrank_42 hl (by decide) rfl (fun ls hl => ?_)
    refine lv_aload_n hx hb dX12_mayFrank_44 rfl (lv_at hl 3 rfl) ?_
    refine lv_iconst (v := 5) hx hb dX12_mayFrank_45 (by decide) ?_
    refine lv_iload_n hx hb dX12_mayFrank_46 rfl (lv_at hl 4 rfl) ?_
    refine lv_iadd hx hb dX12_mayFrank_47 ?_
    obtain ⟨g_2, hf⟩ := gd_e hf
    refine va_iald (f := t) hx hb hK hP 0 0 rfl rfl g_2 dX12_mayFrank_48 ?_
    refine lv_iconst (v := (-1)) hx hb dX12_mayFrank_49 (by decide) ?_
    refine lv_icmp_ne (tgt := 92) hx hb dX12_mayFrank_50 (by decide) (fun c_3 => ?_) (fun c_3 => ?_)
    · replace hf := bc_f hf c_3
      exact J92  _ _ _ hP hD hS (lv_sub hl [] rfl) hf
    · replace hf := bc_t hf c_3
      refine lv_aload_n hx hb dX12_mayFrank_53 rfl (lv_at hl 3 rfl) ?_
      refine lv_bipush (v := 11) hx hb dX12_mayFrank_54 (by decide) ?_
      refine lv_iload_n hx hb dX12_mayFrank_56 rfl (lv_at hl 5 rfl) ?_
      refine lv_iadd hx hb dX12_mayFrank_57 ?_
      obtain ⟨g_4, hf⟩ := gd_e hf
      refine va_iald (f := t) hx hb hK hP 0 0 rfl rfl g_4 dX12_mayFrank_58 ?_
      refine lv_iload_n hx hb dX12_mayFrank_59 rfl (lv_at hl 2 rfl) ?_
      refine lv_aload_n hx hb dX12_mayFrank_60 rfl (lv_at hl 3 rfl) ?_
      refine lv_bipush (v := 23) hx hb dX12_mayFrank_61 (by decide) ?_
      obtain ⟨g_5, hf⟩ := gd_e hf
      refine va_iald (f := t) hx hb hK hP 0 0 rfl rfl g_5 dX12_mayFrank_63 ?_
      obtain ⟨r_6, hc6, hf⟩ := bd_e hf
      refine call_S (As := [.int v3, .int (t (ix 23))]) (rest := [.int (t (ix (11 + v2)))]) hx hb hml hown hts hK hP hD hS hA hZ lkX12_108 (Ctr.upL (c_X12_coversAs l G ct sk sv  n v3 (t (ix 23)) hc6) [lfA ct a z t] [lfA ct a z t] [lfA ct a z t] [0] 1 (by decide) rfl rfl rfl rfl) ⟨Nat.le_of_ble_eq_true rfl, Nat.le_of_ble_eq_true rfl⟩ rfl hl.1 rfl (Nat.le_of_ble_eq_true rfl) dX12_mayFrank_64 ⟨Nat.le_of_ble_eq_true rfl, Nat.le_of_ble_eq_true rfl⟩ (fun r9 w9 H locs hB hP hD hS => ?_)
      obtain ⟨rfl, rfl⟩ := hB
      refine WG_eq (g2 := F0 m 67 ls [.int r_6, .int (t (ix (11 + v2)))]) rfl ?_
      refine lv_icmp_ge (tgt := 92) hx hb dX12_mayFrank_67 (by decide) (fun c_7 => ?_) (fun c_7 => ?_)
      · replace hf := bc_t hf c_7
        exact J92  _ _ _ hP hD hS (lv_sub hl [] rfl) hf
      · replace hf := bc_f hf c_7
        refine lv_iload hx hb dX12_mayFrank_70 (lv_at hl 0 rfl) ?_
        refine lv_if_eq (tgt := 92) hx hb dX12_mayFrank_72 (by decide) (fun c_8 => ?_) (fun c_8 => ?_)
        · replace hf := bc_t hf c_8
          exact J92  _ _ _ hP hD hS (lv_sub hl [] rfl) hf
        · replace hf := bc_f hf c_8
          refine lv_aload_n hx hb dX12_mayFrank_75 rfl (lv_at hl 3 rfl) ?_
          refine lv_iload hx hb dX12_mayFrank_76 (lv_at hl 1 rfl) ?_
          refine lv_iconst (v := 2) hx hb dX12_mayFrank_78 (by decide) ?_
          refine lv_iadd hx hb dX12_mayFrank_79 ?_
          obtain ⟨g_9, hf⟩ := gd_e hf
          refine va_iald (f := t) hx hb hK hP 0 0 rfl rfl g_9 dX12_mayFrank_80 ?_
          refine lv_iload_n hx hb dX12_mayFrank_81 rfl (lv_at hl 2 rfl) ?_
          obtain ⟨r_10, hc10, hf⟩ := bd_e hf
          refine call_S (As := [.int v3]) (rest := [.int (t (ix (v4 + 2)))]) hx hb hml hown hts hK hP hD hS hA hZ lkX12_111 (Ctr.upL (c_X12_bearsAs l G ct sk sv  n v3 hc10) [lfA ct a z t] [lfA ct a z t] [lfA ct a z t] [0] 1 (by decide) rfl rfl rfl rfl) ⟨Nat.le_of_ble_eq_true rfl, Nat.le_of_ble_eq_true rfl⟩ rfl hl.1 rfl (Nat.le_of_ble_eq_true rfl) dX12_mayFrank_82 ⟨Nat.le_of_ble_eq_true rfl, Nat.le_of_ble_eq_true rfl⟩ (fun r9 w9 H locs hB hP hD hS => ?_)
          obtain ⟨rfl, rfl⟩ := hB
          refine WG_eq (g2 := F0 m 85 ls [.int r_10, .int (t (ix (v4 + 2)))]) rfl ?_
          refine lv_icmp_gt (tgt := 92) hx hb dX12_mayFrank_85 (by decide) (fun c_11 => ?_) (fun c_11 => ?_)
          · replace hf := bc_t hf c_11
            exact J92  _ _ _ hP hD hS (lv_sub hl [] rfl) hf
          · replace hf := bc_f hf c_11
            refine lv_iconst (v := 1) hx hb dX12_mayFrank_88 (by decide) ?_
            refine lv_goto (tgt := 93) hx hb dX12_mayFrank_89 (by decide) ?_
            exact J93 1 _ _ _ hP hD hS (lv_sub hl [] rfl) hf
  unfold f_X12_mayFrank at hf
  show WG l G ct sk sv p e (RM 1 22 0 0) s m args below meth c A (Eq2 (some (.int r)) (wl [lfA ct a z t])) s.heap [] (F0 m 0 ls [])
  refine lv_aload_n hx hb dX12_mayFrank_0 rfl (lv_at hl 0 rfl) ?_
  refine lv_bipush (v := 24) hx hb dX12_mayFrank_1 (by decide) ?_
  refine lv_iload_n hx hb dX12_mayFrank_3 rfl (lv_at hl 2 rfl) ?_
  refine lv_iadd hx hb dX12_mayFrank_4 ?_
  obtain ⟨g_12, hf⟩ := gd_e hf
  refine va_iald (f := t) hx hb hK hP 0 0 rfl rfl g_12 dX12_mayFrank_5 ?_
  refine lv_topi (fun v3_13 ev3_13 => ?_)
  replace hf := bl_i hf ev3_13
  refine lv_istore_n (lv' := [(3, .int v3_13), (0, .ref (a 0)), (1, .int v1), (2, .int v2)]) hx hb dX12_mayFrank_6 rfl hl (by decide) rfl (fun ls hl => ?_)
  refine lv_bipush (v := 29) hx hb dX12_mayFrank_7 (by decide) ?_
  refine lv_iconst (v := 3) hx hb dX12_mayFrank_9 (by decide) ?_
  refine lv_iload_n hx hb dX12_mayFrank_10 rfl (lv_at hl 2 rfl) ?_
  refine lv_imul hx hb dX12_mayFrank_11 ?_
  refine lv_iadd hx hb dX12_mayFrank_12 ?_
  refine lv_topi (fun v4_14 ev4_14 => ?_)
  replace hf := bl_i hf ev4_14
  refine lv_istore (lv' := [(4, .int v4_14), (3, .int v3_13), (0, .ref (a 0)), (1, .int v1), (2, .int v2)]) hx hb dX12_mayFrank_13 hl (by decide) rfl (fun ls hl => ?_)
  refine lv_aload_n hx hb dX12_mayFrank_15 rfl (lv_at hl 2 rfl) ?_
  refine lv_iload hx hb dX12_mayFrank_16 (lv_at hl 0 rfl) ?_
  refine lv_iconst (v := 0) hx hb dX12_mayFrank_18 (by decide) ?_
  refine lv_iadd hx hb dX12_mayFrank_19 ?_
  obtain ⟨g_15, hf⟩ := gd_e hf
  refine va_iald (f := t) hx hb hK hP 0 0 rfl rfl g_15 dX12_mayFrank_20 ?_
  refine lv_aload_n hx hb dX12_mayFrank_21 rfl (lv_at hl 2 rfl) ?_
  refine lv_bipush (v := 16) hx hb dX12_mayFrank_22 (by decide) ?_
  refine lv_iload_n hx hb dX12_mayFrank_24 rfl (lv_at hl 4 rfl) ?_
  refine lv_iadd hx hb dX12_mayFrank_25 ?_
  obtain ⟨g_16, hf⟩ := gd_e hf
  refine va_iald (f := t) hx hb hK hP 0 0 rfl rfl g_16 dX12_mayFrank_26 ?_
  obtain ⟨r_17, hc17, hf⟩ := bd_e hf
  refine call_S (As := [.int (t (ix (v4_14 + 0))), .int (t (ix (16 + v2)))]) (rest := []) hx hb hml hown hts hK hP hD hS hA hZ lkX12_97 (Ctr.upL (c_X12_miles l G ct sk sv  n (t (ix (v4_14 + 0))) (t (ix (16 + v2))) hc17) [lfA ct a z t] [lfA ct a z t] [lfA ct a z t] [0] 1 (by decide) rfl rfl rfl rfl) ⟨Nat.le_of_ble_eq_true rfl, Nat.le_of_ble_eq_true rfl⟩ rfl hl.1 rfl (Nat.le_of_ble_eq_true rfl) dX12_mayFrank_27 ⟨Nat.le_of_ble_eq_true rfl, Nat.le_of_ble_eq_true rfl⟩ (fun r9 w9 H locs hB hP hD hS => ?_)
  obtain ⟨rfl, rfl⟩ := hB
  refine WG_eq (g2 := F0 m 30 ls [.int r_17]) rfl ?_
  refine lv_iload_n hx hb dX12_mayFrank_30 rfl (lv_at hl 1 rfl) ?_
  obtain ⟨r_18, hc18, hf⟩ := bd_e hf
  refine call_S (As := [.int v3_13]) (rest := [.int r_17]) hx hb hml hown hts hK hP hD hS hA hZ lkX12_105 (Ctr.upL (c_X12_reachAs l G ct sk sv  n v3_13 hc18) [lfA ct a z t] [lfA ct a z t] [lfA ct a z t] [0] 1 (by decide) rfl rfl rfl rfl) ⟨Nat.le_of_ble_eq_true rfl, Nat.le_of_ble_eq_true rfl⟩ rfl hl.1 rfl (Nat.le_of_ble_eq_true rfl) dX12_mayFrank_31 ⟨Nat.le_of_ble_eq_true rfl, Nat.le_of_ble_eq_true rfl⟩ (fun r9 w9 H locs hB hP hD hS => ?_)
  obtain ⟨rfl, rfl⟩ := hB
  refine WG_eq (g2 := F0 m 34 ls [.int r_18, .int r_17]) rfl ?_
  refine lv_icmp_gt (tgt := 41) hx hb dX12_mayFrank_34 (by decide) (fun c_19 => ?_) (fun c_19 => ?_)
  · replace hf := bc_t hf c_19
    refine lv_iconst (v := 0) hx hb dX12_mayFrank_41 (by decide) ?_
    exact J42 v4_14 v3_13 v1 v2 0 _ _ _ hP hD hS hl hf
  · replace hf := bc_f hf c_19
    refine lv_iconst (v := 1) hx hb dX12_mayFrank_37 (by decide) ?_
    refine lv_goto (tgt := 42) hx hb dX12_mayFrank_38 (by decide) ?_
    exact J42 v4_14 v3_13 v1 v2 1 _ _ _ hP hD hS hl hf
noncomputable def f_X12_savedBy_j165 (n : Nat) (mo : MV) (v4 : Int32) (v2 : Int32) (v5 : Int32) (v3 : Int32) : Option ((Int32 × Int32 × Int32 × Int32 × MV) ⊕ (Int32 × Int32 × MV)) :=
  bl (v5 + (-1)) fun v5_1 =>
  some (.inl (v5_1, v4, v3, v2, mo))
noncomputable def f_X12_savedBy_j143 (n : Nat) (mo : MV) (v2 : Int32) (v6 : Int32) (v5 : Int32) (v3 : Int32) (s0 : Int32) : Option ((Int32 × Int32 × Int32 × Int32 × MV) ⊕ (Int32 × Int32 × MV)) :=
  gd (vp_in v6 5) <|
  gd (vp_in v6 5) <|
  bl (setA mo 6 (upd (mo.2.1 6) (ix v6) ((mo.2.1 6 (ix v6)) - 1))) fun mo_4 =>
  bd (f_X12_postage n mo_4 v5) fun r_5 =>
  bl (v3 + r_5) fun v3_6 =>
  f_X12_savedBy_j165 n mo_4 s0 v2 v5 v3_6
noncomputable def f_X12_savedBy_j142 (n : Nat) (mo : MV) (v2 : Int32) (v6 : Int32) (v5 : Int32) (v3 : Int32) : Option ((Int32 × Int32 × Int32 × Int32 × MV) ⊕ (Int32 × Int32 × MV)) :=
  f_X12_savedBy_j143 n mo v2 v6 v5 v3 0
noncomputable def f_X12_savedBy_j83 (n : Nat) (mo : MV) (v2 : Int32) (v6 : Int32) (v5 : Int32) (v3 : Int32) (s0 : Int32) : Option ((Int32 × Int32 × Int32 × Int32 × MV) ⊕ (Int32 × Int32 × MV)) :=
  bd (f_X12_lies n mo v5) fun r_7 =>
  bc (r_7 = 0) (f_X12_savedBy_j165 n mo s0 v2 v5 v3)
  (bc (v6 = 5) (f_X12_savedBy_j165 n mo s0 v2 v5 v3)
  (bc (s0 = 0) (f_X12_savedBy_j142 n mo v2 v6 v5 v3)
  (bd (f_X12_members n mo) fun r_11 =>
  bc (r_11 ≤ v6) (f_X12_savedBy_j142 n mo v2 v6 v5 v3)
  (bd (f_X12_mayFrank n 235 (mo.2.1 0) v5 v6) fun r_13 =>
  bc (r_13 = 0) (f_X12_savedBy_j142 n mo v2 v6 v5 v3)
  (gd (vp_in v6 5) <|
  bc ((mo.2.1 6 (ix v6)) ≤ 0) (f_X12_savedBy_j142 n mo v2 v6 v5 v3)
  (f_X12_savedBy_j143 n mo v2 v6 v5 v3 1))))))
noncomputable def f_X12_savedBy_j82 (n : Nat) (mo : MV) (v2 : Int32) (v6 : Int32) (v5 : Int32) (v3 : Int32) : Option ((Int32 × Int32 × Int32 × Int32 × MV) ⊕ (Int32 × Int32 × MV)) :=
  f_X12_savedBy_j83 n mo v2 v6 v5 v3 0
noncomputable def f_X12_savedBy_j78 (n : Nat) (mo : MV) (v2 : Int32) (v6 : Int32) (v5 : Int32) (v3 : Int32) : Option ((Int32 × Int32 × Int32 × Int32 × MV) ⊕ (Int32 × Int32 × MV)) :=
  f_X12_savedBy_j83 n mo v2 v6 v5 v3 1
noncomputable def f_X12_savedBy_j57 (n : Nat) (mo : MV) (v2 : Int32) (v6 : Int32) (v5 : Int32) (v4 : Int32) (v3 : Int32) (s0 : Int32) (s1 : Int32) : Option ((Int32 × Int32 × Int32 × Int32 × MV) ⊕ (Int32 × Int32 × MV)) :=
  gd (vp_in s1 6) <|
  bl (setA mo 4 (upd (mo.2.1 4) (ix s1) s0)) fun mo_18 =>
  bc (v4 = 0) (f_X12_savedBy_j82 n mo_18 v2 v6 v5 v3)
  (bd (f_X12_lies n mo_18 v5) fun r_20 =>
  bc (r_20 = 0) (bc (v6 = 5) (f_X12_savedBy_j78 n mo_18 v2 v6 v5 v3)
  (f_X12_savedBy_j82 n mo_18 v2 v6 v5 v3))
  (f_X12_savedBy_j78 n mo_18 v2 v6 v5 v3))
noncomputable def f_X12_savedBy_b19 (n : Nat) (mo : MV) (v5 : Int32) (v4 : Int32) (v3 : Int32) (v2 : Int32) : Option ((Int32 × Int32 × Int32 × Int32 × MV) ⊕ (Int32 × Int32 × MV)) :=
  bc (v5 < 0) (some (.inr (v4, v3, mo)))
  (bl (v2 - v2 / 6 * 6) fun v6_24 =>
  bl (v2 / 6) fun v2_25 =>
  bd (f_X12_lies n mo v5) fun r_26 =>
  bc (r_26 = 0) (f_X12_savedBy_j57 n mo v2_25 v6_24 v5 v4 v3 6 v5)
  (f_X12_savedBy_j57 n mo v2_25 v6_24 v5 v4 v3 v6_24 v5))
noncomputable def f_X12_savedBy_l19 (fu : Nat) (n : Nat) (mo : MV) (v5 : Int32) (v4 : Int32) (v3 : Int32) (v2 : Int32) : Option (Int32 × Int32 × MV) :=
  lp (fun q => f_X12_savedBy_b19 n q.2.2.2.2 q.1 q.2.1 q.2.2.1 q.2.2.2.1) fu (v5, v4, v3, v2, mo)
noncomputable def f_X12_savedBy_j181 (n : Nat) (mo : MV) (s0 : Int32) : Option (Int32 × MV) :=
  some (s0, mo)
noncomputable def f_X12_savedBy (n : Nat) (mo : MV) (v1 : Int32) : Option (Int32 × MV) :=
  bd (f_X12_layCovers n mo) fun mo_28 =>
  bd (f_X12_letters n mo_28) fun r_29 =>
  bl (r_29 - 1) fun v5_30 =>
  bd3 (f_X12_savedBy_l19 n n mo_28 v5_30 1 0 v1) fun v4_31 v3_32 mo_33 =>
  bc (v4_31 = 0) (f_X12_savedBy_j181 n mo_33 (-1))
  (f_X12_savedBy_j181 n mo_33 v3_32)
set_option maxHeartbeats 4000000 in
set_option maxRecDepth 100000 in
theorem c_X12_savedBy (l : Launch) (G : va_G) (ct : Nat → ClassId) (sk sv : Nat → Nat) (a : Nat → Nat) (n : Nat) (mo : MV) (v1 : Int32) {r : Int32} {mo' : MV} (hf : f_X12_savedBy n mo v1 = some (r, mo')) : Ctr (l, G, ct, sk, sv) mX12_savedBy 3 64 [.ref (a 0), .int v1] (wl [lfM ct a mo]) (wl [lfM ct a mo']) (some (.int r)) := by
  refine ctr_intro (by decide) (Nat.le_of_ble_eq_true rfl) ?_
  intro p e s m args below meth c A C hP hD hS hA ls hl
  obtain ⟨hx, hb, hml, hown, hts, hr, hlocks, hK, hnm, hZ⟩ := C
  have hb : c.code = cX12_savedBy := hb
  have hml : c.maxLocals = 7 := hml
  have hown : s.vm.findClass "SignedOutsideModel" = some m.cls := hown
  have hr : meth.sig.returnType = some .int := hr
  have hP : va_P G classes (wl [lfM ct a mo]) s.heap := hP
  have hD : va_D A (wl [lfM ct a mo]) := hD
  have hK : va_K G classes (TYS ct) s := hK
  have hl : lv_has ls 7 [(0, .ref (a 0)), (1, .int v1)] := hl
  have L19 : ∀ (fu : Nat) (mo : MV) (v5 : Int32) (v4 : Int32) (v3 : Int32) (v2 : Int32) (ex : Int32 × Int32 × MV) (H : Heap) (locs : List Loc) (ls : Array Slot), va_P G classes (wl [lfM ct a mo]) H → va_D A (wl [lfM ct a mo]) → va_S A s.heap H locs → lv_has ls 7 [(5, .int v5), (4, .int v4), (3, .int v3), (2, .int v2), (0, .ref (a 0))] → f_X12_savedBy_l19 fu n mo v5 v4 v3 v2 = some ex → (∀ (x : Int32 × Int32 × MV), ex = x → ∀ (H : Heap) (locs : List Loc) (ls : Array Slot), va_P G classes (wl [lfM ct a x.2.2]) H → va_D A (wl [lfM ct a x.2.2]) → va_S A s.heap H locs → lv_has ls 7 [(4, .int x.1), (3, .int x.2.1)] → WG l G ct sk sv p e (RM 3 64 0 0) s m args below meth c A (Eq2 (some (.int r)) (wl [lfM ct a mo'])) H locs (F0 m 171 ls [])) → WG l G ct sk sv p e (RM 3 64 0 0) s m args below meth c A (Eq2 (some (.int r)) (wl [lfM ct a mo'])) H locs (F0 m 19 ls []) := by
    intro fu
    induction fu with
    | zero =>
      intro mo v5 v4 v3 v2 ex H locs ls hP hD hS hl hf
      exact absurd hf (by unfold f_X12_savedBy_l19 lp; exact fun h => by cases h)
    | succ fu ih =>
      intro mo v5 v4 v3 v2 ex H locs ls hP hD hS hl hf hE
      unfold f_X12_savedBy_l19 at hf
      obtain ⟨q, hf, hor⟩ := lp_e hf
      have J165 : ∀ (mo : MV) (v4 : Int32) (v2 : Int32) (v5 : Int32) (v3 : Int32) (H : Heap) (locs : List Loc) (ls : Array Slot), va_P G classes (wl [lfM ct a mo]) H → va_D A (wl [lfM ct a mo]) → va_S A s.heap H locs → lv_has ls 7 [(4, .int v4), (2, .int v2), (5, .int v5), (3, .int v3), (0, .ref (a 0))] → f_X12_savedBy_j165 n mo v4 v2 v5 v3 = some q → WG l G ct sk sv p e (RM 3 64 0 0) s m args below meth c A (Eq2 (some (.int r)) (wl [lfM ct a mo'])) H locs (F0 m 165 ls []) := by
        intro mo v4 v2 v5 v3 H locs ls hP hD hS hl hf
        unfold f_X12_savedBy_j165 at hf
        obtain ⟨v5_1, ev5_1, hf⟩ := bl_e hf
        refine lv_iinc (v := v5_1) (lv' := [(5, .int v5_1), (4, .int v4), (2, .int v2), (3, .int v3), (0, .ref (a 0))]) hx hb dX12_savedBy_165 hl (k := 2) rfl ev5_1 (by decide) rfl (fun ls hl => ?_)
        refine lv_goto (tgt := 19) hx hb dX12_savedBy_168 (by decide) ?_
        exact ih mo v5_1 v4 v3 v2 ex _ _ _ hP hD hS (lv_sub hl [0, 1, 3, 2, 4] rfl) (lp_inl hor hf) hE
      have J143 : ∀ (mo : MV) (v2 : Int32) (v6 : Int32) (v5 : Int32) (v3 : Int32) (s0 : Int32) (H : Heap) (locs : List Loc) (ls : Array Slot), va_P G classes (wl [lfM ct a mo]) H → va_D A (wl [lfM ct a mo]) → va_S A s.heap H locs → lv_has ls 7 [(2, .int v2), (6, .int v6), (5, .int v5), (3, .int v3), (0, .ref (a 0))] → f_X12_savedBy_j143 n mo v2 v6 v5 v3 s0 = some q → WG l G ct sk sv p e (RM 3 64 0 0) s m args below meth c A (Eq2 (some (.int r)) (wl [lfM ct a mo'])) H locs (F0 m 143 ls [.int s0]) := by
        intro mo v2 v6 v5 v3 s0 H locs ls hP hD hS hl hf
        unfold f_X12_savedBy_j143 at hf
        refine lv_istore (lv' := [(4, .int s0), (2, .int v2), (6, .int v6), (5, .int v5), (3, .int v3), (0, .ref (a 0))]) hx hb dX12_savedBy_143 hl (by decide) rfl (fun ls hl => ?_)
        refine lv_aload_n hx hb dX12_savedBy_145 rfl (lv_at hl 5 rfl) ?_
        refine va_get (D := G) (C := RX12) (T := TX12) (N := 21) (v := .ref (a 7)) hx hb hts iu_X12 hown hK hP 0 rfl rfl 8 (by decide) (hts _ kw895) (fun _ h9 => h9) rfl dX12_savedBy_146 ?_
        refine lv_iload hx hb dX12_savedBy_149 (lv_at hl 2 rfl) ?_
        refine lv_dup2_11 hx hb dX12_savedBy_151 rfl rfl ?_
        obtain ⟨g_2, hf⟩ := gd_e hf
        refine va_iald (f := mo.2.1 6) hx hb hK hP 7 0 rfl rfl g_2 dX12_savedBy_152 ?_
        refine lv_iconst (v := 1) hx hb dX12_savedBy_153 (by decide) ?_
        refine lv_isub hx hb dX12_savedBy_154 ?_
        obtain ⟨g_3, hf⟩ := gd_e hf
        obtain ⟨mo_4, emo_4, hf⟩ := bl_e hf
        refine va_iast hx hb hK hP hD hS 7 0 rfl rfl g_3 dX12_savedBy_155 (fun H locs hP hD hS => ?_)
        have hP : va_P G classes (wl [lfM ct a mo_4]) H := by rw [← emo_4]; exact hP
        have hD : va_D A (wl [lfM ct a mo_4]) := by rw [← emo_4]; exact hD
        refine lv_iload_n hx hb dX12_savedBy_156 rfl (lv_at hl 4 rfl) ?_
        refine lv_aload_n hx hb dX12_savedBy_157 rfl (lv_at hl 5 rfl) ?_
        refine lv_iload hx hb dX12_savedBy_158 (lv_at hl 3 rfl) ?_
        obtain ⟨r_5, hc5, hf⟩ := bd_e hf
        refine call_V (As := [.int v5]) (rest := [.int v3]) hx hb hml hown hts hK hP hD hS hA hZ lkX12_137 (c_X12_postage l G ct sk sv a n mo_4 v5 hc5) 0 rfl rfl ⟨Nat.le_of_ble_eq_true rfl, Nat.le_of_ble_eq_true rfl⟩ rfl hl.1 rfl (Nat.le_of_ble_eq_true rfl) dX12_savedBy_160 ⟨Nat.le_of_ble_eq_true rfl, Nat.le_of_ble_eq_true rfl⟩ (fun r9 w9 H locs hB hP hD hS => ?_)
        obtain ⟨rfl, rfl⟩ := hB
        refine WG_eq (g2 := F0 m 163 ls [.int r_5, .int v3]) rfl ?_
        refine lv_iadd hx hb dX12_savedBy_163 ?_
        refine lv_topi (fun v3_6 ev3_6 => ?_)
        replace hf := bl_i hf ev3_6
        refine lv_istore_n (lv' := [(3, .int v3_6), (4, .int s0), (2, .int v2), (6, .int v6), (5, .int v5), (0, .ref (a 0))]) hx hb dX12_savedBy_164 rfl hl (by decide) rfl (fun ls hl => ?_)
        exact J165 mo_4 s0 v2 v5 v3_6 _ _ _ hP hD hS (lv_sub hl [1, 2, 4, 0, 5] rfl) hf
      have J142 : ∀ (mo : MV) (v2 : Int32) (v6 : Int32) (v5 : Int32) (v3 : Int32) (H : Heap) (locs : List Loc) (ls : Array Slot), va_P G classes (wl [lfM ct a mo]) H → va_D A (wl [lfM ct a mo]) → va_S A s.heap H locs → lv_has ls 7 [(2, .int v2), (6, .int v6), (5, .int v5), (3, .int v3), (0, .ref (a 0))] → f_X12_savedBy_j142 n mo v2 v6 v5 v3 = some q → WG l G ct sk sv p e (RM 3 64 0 0) s m args below meth c A (Eq2 (some (.int r)) (wl [lfM ct a mo'])) H locs (F0 m 142 ls []) := by
        intro mo v2 v6 v5 v3 H locs ls hP hD hS hl hf
        unfold f_X12_savedBy_j142 at hf
        refine lv_iconst (v := 0) hx hb dX12_savedBy_142 (by decide) ?_
        exact J143 mo v2 v6 v5 v3 0 _ _ _ hP hD hS hl hf
      have J83 : ∀ (mo : MV) (v2 : Int32) (v6 : Int32) (v5 : Int32) (v3 : Int32) (s0 : Int32) (H : Heap) (locs : List Loc) (ls : Array Slot), va_P G classes (wl [lfM ct a mo]) H → va_D A (wl [lfM ct a mo]) → va_S A s.heap H locs → lv_has ls 7 [(2, .int v2), (6, .int v6), (5, .int v5), (3, .int v3), (0, .ref (a 0))] → f_X12_savedBy_j83 n mo v2 v6 v5 v3 s0 = some q → WG l G ct sk sv p e (RM 3 64 0 0) s m args below meth c A (Eq2 (some (.int r)) (wl [lfM ct a mo'])) H locs (F0 m 83 ls [.int s0]) := by
        intro mo v2 v6 v5 v3 s0 H locs ls hP hD hS hl hf
        unfold f_X12_savedBy_j83 at hf
        refine lv_istore (lv' := [(4, .int s0), (2, .int v2), (6, .int v6), (5, .int v5), (3, .int v3), (0, .ref (a 0))]) hx hb dX12_savedBy_83 hl (by decide) rfl (fun ls hl => ?_)
        refine lv_aload_n hx hb dX12_savedBy_85 rfl (lv_at hl 5 rfl) ?_
        refine lv_iload hx hb dX12_savedBy_86 (lv_at hl 3 rfl) ?_
        obtain ⟨r_7, hc7, hf⟩ := bd_e hf
        refine call_V (As := [.int v5]) (rest := []) hx hb hml hown hts hK hP hD hS hA hZ lkX12_134 (c_X12_lies l G ct sk sv a n mo v5 hc7) 0 rfl rfl ⟨Nat.le_of_ble_eq_true rfl, Nat.le_of_ble_eq_true rfl⟩ rfl hl.1 rfl (Nat.le_of_ble_eq_true rfl) dX12_savedBy_88 ⟨Nat.le_of_ble_eq_true rfl, Nat.le_of_ble_eq_true rfl⟩ (fun r9 w9 H locs hB hP hD hS => ?_)
        obtain ⟨rfl, rfl⟩ := hB
        refine WG_eq (g2 := F0 m 91 ls [.int r_7]) rfl ?_
        refine lv_if_eq (tgt := 165) hx hb dX12_savedBy_91 (by decide) (fun c_8 => ?_) (fun c_8 => ?_)
        · replace hf := bc_t hf c_8
          exact J165 mo s0 v2 v5 v3 _ _ _ hP hD hS (lv_sub hl [0, 1, 3, 4, 5] rfl) hf
        · replace hf := bc_f hf c_8
          refine lv_iload hx hb dX12_savedBy_94 (lv_at hl 2 rfl) ?_
          refine lv_iconst (v := 5) hx hb dX12_savedBy_96 (by decide) ?_
          refine lv_icmp_eq (tgt := 165) hx hb dX12_savedBy_97 (by decide) (fun c_9 => ?_) (fun c_9 => ?_)
          · replace hf := bc_t hf c_9
            exact J165 mo s0 v2 v5 v3 _ _ _ hP hD hS (lv_sub hl [0, 1, 3, 4, 5] rfl) hf
          · replace hf := bc_f hf c_9
            refine lv_iload hx hb dX12_savedBy_100 (lv_at hl 0 rfl) ?_
            refine lv_if_eq (tgt := 142) hx hb dX12_savedBy_102 (by decide) (fun c_10 => ?_) (fun c_10 => ?_)
            · replace hf := bc_t hf c_10
              exact J142 mo v2 v6 v5 v3 _ _ _ hP hD hS (lv_sub hl [1, 2, 3, 4, 5] rfl) hf
            · replace hf := bc_f hf c_10
              refine lv_iload hx hb dX12_savedBy_105 (lv_at hl 2 rfl) ?_
              refine lv_aload_n hx hb dX12_savedBy_107 rfl (lv_at hl 5 rfl) ?_
              obtain ⟨r_11, hc11, hf⟩ := bd_e hf
              refine call_V (As := []) (rest := [.int v6]) hx hb hml hown hts hK hP hD hS hA hZ lkX12_61 (c_X12_members l G ct sk sv a n mo hc11) 0 rfl rfl ⟨Nat.le_of_ble_eq_true rfl, Nat.le_of_ble_eq_true rfl⟩ rfl hl.1 rfl (Nat.le_of_ble_eq_true rfl) dX12_savedBy_108 ⟨Nat.le_of_ble_eq_true rfl, Nat.le_of_ble_eq_true rfl⟩ (fun r9 w9 H locs hB hP hD hS => ?_)
              obtain ⟨rfl, rfl⟩ := hB
              refine WG_eq (g2 := F0 m 111 ls [.int r_11, .int v6]) rfl ?_
              refine lv_icmp_ge (tgt := 142) hx hb dX12_savedBy_111 (by decide) (fun c_12 => ?_) (fun c_12 => ?_)
              · replace hf := bc_t hf c_12
                exact J142 mo v2 v6 v5 v3 _ _ _ hP hD hS (lv_sub hl [1, 2, 3, 4, 5] rfl) hf
              · replace hf := bc_f hf c_12
                refine lv_aload_n hx hb dX12_savedBy_114 rfl (lv_at hl 5 rfl) ?_
                refine va_get (D := G) (C := RX12) (T := TX12) (N := 21) (v := .ref (a 1)) hx hb hts iu_X12 hown hK hP 0 rfl rfl 0 (by decide) (hts _ kw887) (fun _ h9 => h9) rfl dX12_savedBy_115 ?_
                refine lv_iload hx hb dX12_savedBy_118 (lv_at hl 3 rfl) ?_
                refine lv_iload hx hb dX12_savedBy_120 (lv_at hl 2 rfl) ?_
                obtain ⟨r_13, hc13, hf⟩ := bd_e hf
                refine call_S (As := [.ref (a 1), .int v5, .int v6]) (rest := []) hx hb hml hown hts hK hP hD hS hA hZ lkX12_120 (Ctr.up (W := (wl [lfM ct a mo])) (W' := (wl [lfM ct a mo])) (c_X12_mayFrank l G ct sk sv (fun _ => a 1) n 235 (mo.2.1 0) v5 v6 hc13) [1] [0, 2, 3, 4, 5, 6, 7, 8, 9, 10, 11, 12, 13, 14] [0, 14, 1, 2, 3, 4, 5, 6, 7, 8, 9, 10, 11, 12, 13] rfl rfl rfl rfl (by decide) rfl rfl) ⟨Nat.le_of_ble_eq_true rfl, Nat.le_of_ble_eq_true rfl⟩ rfl hl.1 rfl (Nat.le_of_ble_eq_true rfl) dX12_savedBy_122 ⟨Nat.le_of_ble_eq_true rfl, Nat.le_of_ble_eq_true rfl⟩ (fun r9 w9 H locs hB hP hD hS => ?_)
                obtain ⟨rfl, rfl⟩ := hB
                refine WG_eq (g2 := F0 m 125 ls [.int r_13]) rfl ?_
                refine lv_if_eq (tgt := 142) hx hb dX12_savedBy_125 (by decide) (fun c_14 => ?_) (fun c_14 => ?_)
                · replace hf := bc_t hf c_14
                  exact J142 mo v2 v6 v5 v3 _ _ _ hP hD hS (lv_sub hl [1, 2, 3, 4, 5] rfl) hf
                · replace hf := bc_f hf c_14
                  refine lv_aload_n hx hb dX12_savedBy_128 rfl (lv_at hl 5 rfl) ?_
                  refine va_get (D := G) (C := RX12) (T := TX12) (N := 21) (v := .ref (a 7)) hx hb hts iu_X12 hown hK hP 0 rfl rfl 8 (by decide) (hts _ kw895) (fun _ h9 => h9) rfl dX12_savedBy_129 ?_
                  refine lv_iload hx hb dX12_savedBy_132 (lv_at hl 2 rfl) ?_
                  obtain ⟨g_15, hf⟩ := gd_e hf
                  refine va_iald (f := mo.2.1 6) hx hb hK hP 7 0 rfl rfl g_15 dX12_savedBy_134 ?_
                  refine lv_if_le (tgt := 142) hx hb dX12_savedBy_135 (by decide) (fun c_16 => ?_) (fun c_16 => ?_)
                  · replace hf := bc_t hf c_16
                    exact J142 mo v2 v6 v5 v3 _ _ _ hP hD hS (lv_sub hl [1, 2, 3, 4, 5] rfl) hf
                  · replace hf := bc_f hf c_16
                    refine lv_iconst (v := 1) hx hb dX12_savedBy_138 (by decide) ?_
                    refine lv_goto (tgt := 143) hx hb dX12_savedBy_139 (by decide) ?_
                    exact J143 mo v2 v6 v5 v3 1 _ _ _ hP hD hS (lv_sub hl [1, 2, 3, 4, 5] rfl) hf
      have J82 : ∀ (mo : MV) (v2 : Int32) (v6 : Int32) (v5 : Int32) (v3 : Int32) (H : Heap) (locs : List Loc) (ls : Array Slot), va_P G classes (wl [lfM ct a mo]) H → va_D A (wl [lfM ct a mo]) → va_S A s.heap H locs → lv_has ls 7 [(2, .int v2), (6, .int v6), (5, .int v5), (3, .int v3), (0, .ref (a 0))] → f_X12_savedBy_j82 n mo v2 v6 v5 v3 = some q → WG l G ct sk sv p e (RM 3 64 0 0) s m args below meth c A (Eq2 (some (.int r)) (wl [lfM ct a mo'])) H locs (F0 m 82 ls []) := by
        intro mo v2 v6 v5 v3 H locs ls hP hD hS hl hf
        unfold f_X12_savedBy_j82 at hf
        refine lv_iconst (v := 0) hx hb dX12_savedBy_82 (by decide) ?_
        exact J83 mo v2 v6 v5 v3 0 _ _ _ hP hD hS hl hf
      have J78 : ∀ (mo : MV) (v2 : Int32) (v6 : Int32) (v5 : Int32) (v3 : Int32) (H : Heap) (locs : List Loc) (ls : Array Slot), va_P G classes (wl [lfM ct a mo]) H → va_D A (wl [lfM ct a mo]) → va_S A s.heap H locs → lv_has ls 7 [(2, .int v2), (6, .int v6), (5, .int v5), (3, .int v3), (0, .ref (a 0))] → f_X12_savedBy_j78 n mo v2 v6 v5 v3 = some q → WG l G ct sk sv p e (RM 3 64 0 0) s m args below meth c A (Eq2 (some (.int r)) (wl [lfM ct a mo'])) H locs (F0 m 78 ls []) := by
        intro mo v2 v6 v5 v3 H locs ls hP hD hS hl hf
        unfold f_X12_savedBy_j78 at hf
        refine lv_iconst (v := 1) hx hb dX12_savedBy_78 (by decide) ?_
        refine lv_goto (tgt := 83) hx hb dX12_savedBy_79 (by decide) ?_
        exact J83 mo v2 v6 v5 v3 1 _ _ _ hP hD hS hl hf
      have J57 : ∀ (mo : MV) (v2 : Int32) (v6 : Int32) (v5 : Int32) (v4 : Int32) (v3 : Int32) (s0 : Int32) (s1 : Int32) (H : Heap) (locs : List Loc) (ls : Array Slot), va_P G classes (wl [lfM ct a mo]) H → va_D A (wl [lfM ct a mo]) → va_S A s.heap H locs → lv_has ls 7 [(2, .int v2), (6, .int v6), (5, .int v5), (4, .int v4), (3, .int v3), (0, .ref (a 0))] → f_X12_savedBy_j57 n mo v2 v6 v5 v4 v3 s0 s1 = some q → WG l G ct sk sv p e (RM 3 64 0 0) s m args below meth c A (Eq2 (some (.int r)) (wl [lfM ct a mo'])) H locs (F0 m 57 ls [.int s0, .int s1, .ref (a 5)]) := by
        intro mo v2 v6 v5 v4 v3 s0 s1 H locs ls hP hD hS hl hf
        unfold f_X12_savedBy_j57 at hf
        obtain ⟨g_17, hf⟩ := gd_e hf
        obtain ⟨mo_18, emo_18, hf⟩ := bl_e hf
        refine va_iast hx hb hK hP hD hS 5 0 rfl rfl g_17 dX12_savedBy_57 (fun H locs hP hD hS => ?_)
        have hP : va_P G classes (wl [lfM ct a mo_18]) H := by rw [← emo_18]; exact hP
        have hD : va_D A (wl [lfM ct a mo_18]) := by rw [← emo_18]; exact hD
        refine lv_iload hx hb dX12_savedBy_58 (lv_at hl 3 rfl) ?_
        refine lv_if_eq (tgt := 82) hx hb dX12_savedBy_60 (by decide) (fun c_19 => ?_) (fun c_19 => ?_)
        · replace hf := bc_t hf c_19
          exact J82 mo_18 v2 v6 v5 v3 _ _ _ hP hD hS (lv_sub hl [0, 1, 2, 4, 5] rfl) hf
        · replace hf := bc_f hf c_19
          refine lv_aload_n hx hb dX12_savedBy_63 rfl (lv_at hl 5 rfl) ?_
          refine lv_iload hx hb dX12_savedBy_64 (lv_at hl 2 rfl) ?_
          obtain ⟨r_20, hc20, hf⟩ := bd_e hf
          refine call_V (As := [.int v5]) (rest := []) hx hb hml hown hts hK hP hD hS hA hZ lkX12_134 (c_X12_lies l G ct sk sv a n mo_18 v5 hc20) 0 rfl rfl ⟨Nat.le_of_ble_eq_true rfl, Nat.le_of_ble_eq_true rfl⟩ rfl hl.1 rfl (Nat.le_of_ble_eq_true rfl) dX12_savedBy_66 ⟨Nat.le_of_ble_eq_true rfl, Nat.le_of_ble_eq_true rfl⟩ (fun r9 w9 H locs hB hP hD hS => ?_)
          obtain ⟨rfl, rfl⟩ := hB
          refine WG_eq (g2 := F0 m 69 ls [.int r_20]) rfl ?_
          refine lv_if_ne (tgt := 78) hx hb dX12_savedBy_69 (by decide) (fun c_21 => ?_) (fun c_21 => ?_)
          · replace hf := bc_f hf c_21
            exact J78 mo_18 v2 v6 v5 v3 _ _ _ hP hD hS (lv_sub hl [0, 1, 2, 4, 5] rfl) hf
          · replace hf := bc_t hf c_21
            refine lv_iload hx hb dX12_savedBy_72 (lv_at hl 1 rfl) ?_
            refine lv_iconst (v := 5) hx hb dX12_savedBy_74 (by decide) ?_
            refine lv_icmp_ne (tgt := 82) hx hb dX12_savedBy_75 (by decide) (fun c_22 => ?_) (fun c_22 => ?_)
            · replace hf := bc_f hf c_22
              exact J82 mo_18 v2 v6 v5 v3 _ _ _ hP hD hS (lv_sub hl [0, 1, 2, 4, 5] rfl) hf
            · replace hf := bc_t hf c_22
              exact J78 mo_18 v2 v6 v5 v3 _ _ _ hP hD hS (lv_sub hl [0, 1, 2, 4, 5] rfl) hf
      replace hf : f_X12_savedBy_b19 n mo v5 v4 v3 v2 = some q := hf
      unfold f_X12_savedBy_b19 at hf
      refine lv_iload hx hb dX12_savedBy_19 (lv_at hl 0 rfl) ?_
      refine lv_if_lt (tgt := 171) hx hb dX12_savedBy_21 (by decide) (fun c_23 => ?_) (fun c_23 => ?_)
      · replace hf := bc_t hf c_23
        exact hE (v4, v3, mo) (lp_inr hor hf).symm _ _ _ hP hD hS (lv_sub hl [1, 2] rfl)
      · replace hf := bc_f hf c_23
        refine lv_iload_n hx hb dX12_savedBy_24 rfl (lv_at hl 3 rfl) ?_
        refine lv_bipush (v := 6) hx hb dX12_savedBy_25 (by decide) ?_
        refine lv_irem hx hb dX12_savedBy_27 (by decide) ?_
        refine lv_topi (fun v6_24 ev6_24 => ?_)
        replace hf := bl_i hf ev6_24
        refine lv_istore (lv' := [(6, .int v6_24), (5, .int v5), (4, .int v4), (3, .int v3), (2, .int v2), (0, .ref (a 0))]) hx hb dX12_savedBy_28 hl (by decide) rfl (fun ls hl => ?_)
        refine lv_iload_n hx hb dX12_savedBy_30 rfl (lv_at hl 4 rfl) ?_
        refine lv_bipush (v := 6) hx hb dX12_savedBy_31 (by decide) ?_
        refine lv_idiv hx hb dX12_savedBy_33 (by decide) ?_
        refine lv_topi (fun v2_25 ev2_25 => ?_)
        replace hf := bl_i hf ev2_25
        refine lv_istore_n (lv' := [(2, .int v2_25), (6, .int v6_24), (5, .int v5), (4, .int v4), (3, .int v3), (0, .ref (a 0))]) hx hb dX12_savedBy_34 rfl hl (by decide) rfl (fun ls hl => ?_)
        refine lv_aload_n hx hb dX12_savedBy_35 rfl (lv_at hl 5 rfl) ?_
        refine va_get (D := G) (C := RX12) (T := TX12) (N := 21) (v := .ref (a 5)) hx hb hts iu_X12 hown hK hP 0 rfl rfl 6 (by decide) (hts _ kw893) (fun _ h9 => h9) rfl dX12_savedBy_36 ?_
        refine lv_iload hx hb dX12_savedBy_39 (lv_at hl 2 rfl) ?_
        refine lv_aload_n hx hb dX12_savedBy_41 rfl (lv_at hl 5 rfl) ?_
        refine lv_iload hx hb dX12_savedBy_42 (lv_at hl 2 rfl) ?_
        obtain ⟨r_26, hc26, hf⟩ := bd_e hf
        refine call_V (As := [.int v5]) (rest := [.int v5, .ref (a 5)]) hx hb hml hown hts hK hP hD hS hA hZ lkX12_134 (c_X12_lies l G ct sk sv a n mo v5 hc26) 0 rfl rfl ⟨Nat.le_of_ble_eq_true rfl, Nat.le_of_ble_eq_true rfl⟩ rfl hl.1 rfl (Nat.le_of_ble_eq_true rfl) dX12_savedBy_44 ⟨Nat.le_of_ble_eq_true rfl, Nat.le_of_ble_eq_true rfl⟩ (fun r9 w9 H locs hB hP hD hS => ?_)
        obtain ⟨rfl, rfl⟩ := hB
        refine WG_eq (g2 := F0 m 47 ls [.int r_26, .int v5, .ref (a 5)]) rfl ?_
        refine lv_if_eq (tgt := 55) hx hb dX12_savedBy_47 (by decide) (fun c_27 => ?_) (fun c_27 => ?_)
        · replace hf := bc_t hf c_27
          refine lv_bipush (v := 6) hx hb dX12_savedBy_55 (by decide) ?_
          exact J57 mo v2_25 v6_24 v5 v4 v3 6 v5 _ _ _ hP hD hS hl hf
        · replace hf := bc_f hf c_27
          refine lv_iload hx hb dX12_savedBy_50 (lv_at hl 1 rfl) ?_
          refine lv_goto (tgt := 57) hx hb dX12_savedBy_52 (by decide) ?_
          exact J57 mo v2_25 v6_24 v5 v4 v3 v6_24 v5 _ _ _ hP hD hS hl hf
  have J181 : ∀ (mo : MV) (s0 : Int32) (H : Heap) (locs : List Loc) (ls : Array Slot), va_P G classes (wl [lfM ct a mo]) H → va_D A (wl [lfM ct a mo]) → va_S A s.heap H locs → lv_has ls 7 [] → f_X12_savedBy_j181 n mo s0 = some (r, mo') → WG l G ct sk sv p e (RM 3 64 0 0) s m args below meth c A (Eq2 (some (.int r)) (wl [lfM ct a mo'])) H locs (F0 m 181 ls [.int s0]) := by
    intro mo s0 H locs ls hP hD hS hl hf
    unfold f_X12_savedBy_j181 at hf
    obtain ⟨e1, e2⟩ := inj2 (Option.some.inj hf)
    exact end_i (w' := (wl [lfM ct a mo])) hx hb hr hlocks hK hP hD hS dX12_savedBy_181  ⟨by rw [← e1], by rw [← e2]⟩
  unfold f_X12_savedBy at hf
  show WG l G ct sk sv p e (RM 3 64 0 0) s m args below meth c A (Eq2 (some (.int r)) (wl [lfM ct a mo'])) s.heap [] (F0 m 0 ls [])
  refine lv_iload_n hx hb dX12_savedBy_0 rfl (lv_at hl 1 rfl) ?_
  refine lv_istore_n (lv' := [(2, .int v1), (0, .ref (a 0)), (1, .int v1)]) hx hb dX12_savedBy_1 rfl hl (by decide) rfl (fun ls hl => ?_)
  refine lv_iconst (v := 0) hx hb dX12_savedBy_2 (by decide) ?_
  refine lv_istore_n (lv' := [(3, .int 0), (2, .int v1), (0, .ref (a 0)), (1, .int v1)]) hx hb dX12_savedBy_3 rfl hl (by decide) rfl (fun ls hl => ?_)
  refine lv_iconst (v := 1) hx hb dX12_savedBy_4 (by decide) ?_
  refine lv_istore (lv' := [(4, .int 1), (3, .int 0), (2, .int v1), (0, .ref (a 0)), (1, .int v1)]) hx hb dX12_savedBy_5 hl (by decide) rfl (fun ls hl => ?_)
  refine lv_aload_n hx hb dX12_savedBy_7 rfl (lv_at hl 3 rfl) ?_
  obtain ⟨mo_28, hc28, hf⟩ := bd_e hf
  refine call_V (As := []) (rest := []) hx hb hml hown hts hK hP hD hS hA hZ lkX12_151 (c_X12_layCovers l G ct sk sv a n mo hc28) 0 rfl rfl ⟨Nat.le_of_ble_eq_true rfl, Nat.le_of_ble_eq_true rfl⟩ rfl hl.1 rfl (Nat.le_of_ble_eq_true rfl) dX12_savedBy_8 ⟨Nat.le_of_ble_eq_true rfl, Nat.le_of_ble_eq_true rfl⟩ (fun r9 w9 H locs hB hP hD hS => ?_)
  obtain ⟨rfl, rfl⟩ := hB
  refine WG_eq (g2 := F0 m 11 ls []) rfl ?_
  refine lv_aload_n hx hb dX12_savedBy_11 rfl (lv_at hl 3 rfl) ?_
  obtain ⟨r_29, hc29, hf⟩ := bd_e hf
  refine call_V (As := []) (rest := []) hx hb hml hown hts hK hP hD hS hA hZ lkX12_69 (c_X12_letters l G ct sk sv a n mo_28 hc29) 0 rfl rfl ⟨Nat.le_of_ble_eq_true rfl, Nat.le_of_ble_eq_true rfl⟩ rfl hl.1 rfl (Nat.le_of_ble_eq_true rfl) dX12_savedBy_12 ⟨Nat.le_of_ble_eq_true rfl, Nat.le_of_ble_eq_true rfl⟩ (fun r9 w9 H locs hB hP hD hS => ?_)
  obtain ⟨rfl, rfl⟩ := hB
  refine WG_eq (g2 := F0 m 15 ls [.int r_29]) rfl ?_
  refine lv_iconst (v := 1) hx hb dX12_savedBy_15 (by decide) ?_
  refine lv_isub hx hb dX12_savedBy_16 ?_
  refine lv_topi (fun v5_30 ev5_30 => ?_)
  replace hf := bl_i hf ev5_30
  refine lv_istore (lv' := [(5, .int v5_30), (4, .int 1), (3, .int 0), (2, .int v1), (0, .ref (a 0)), (1, .int v1)]) hx hb dX12_savedBy_17 hl (by decide) rfl (fun ls hl => ?_)
  obtain ⟨v4_31, v3_32, mo_33, hx_34, hf⟩ := bd3_e hf
  refine L19 n mo_28 v5_30 1 0 v1 (v4_31, v3_32, mo_33) _ _ _ hP hD hS (lv_sub hl [0, 1, 2, 3, 4] rfl) hx_34 ?_
  intro x9 e9 H locs ls hP hD hS hl
  subst e9
  have hP : va_P G classes (wl [lfM ct a mo_33]) H := hP
  have hD : va_D A (wl [lfM ct a mo_33]) := hD
  have hl : lv_has ls 7 [(4, .int v4_31), (3, .int v3_32)] := hl
  refine lv_iload hx hb dX12_savedBy_171 (lv_at hl 0 rfl) ?_
  refine lv_if_eq (tgt := 180) hx hb dX12_savedBy_173 (by decide) (fun c_35 => ?_) (fun c_35 => ?_)
  · replace hf := bc_t hf c_35
    refine lv_iconst (v := (-1)) hx hb dX12_savedBy_180 (by decide) ?_
    exact J181 mo_33 (-1) _ _ _ hP hD hS (lv_sub hl [] rfl) hf
  · replace hf := bc_f hf c_35
    refine lv_iload_n hx hb dX12_savedBy_176 rfl (lv_at hl 1 rfl) ?_
    refine lv_goto (tgt := 181) hx hb dX12_savedBy_177 (by decide) ?_
    exact J181 mo_33 v3_32 _ _ _ hP hD hS (lv_sub hl [] rfl) hf
noncomputable def f_X12_all_b47 (n : Nat) (mo : MV) (v5 : Int32) (v4 : Int32) (v3 : Int32) (v2 : Int32) (v1 : Int32) : Option ((Int32 × MV) ⊕ (MV)) :=
  bd (f_X12_letters n mo) fun r_1 =>
  bc (r_1 ≤ v5) (some (.inr mo))
  (bc (v4 ≤ v2) (some (.inr mo))
  (gd (vp_in v5 6) <|
  gd (vp_in v5 6) <|
  bl (setA mo 5 (upd (mo.2.1 5) (ix v5) (mo.2.1 4 (ix v5)))) fun mo_6 =>
  bl (v5 + 1) fun v5_7 =>
  some (.inl (v5_7, mo_6))))
noncomputable def f_X12_all_l47 (fu : Nat) (n : Nat) (mo : MV) (v4 : Int32) (v3 : Int32) (v2 : Int32) (v1 : Int32) (v5 : Int32) : Option (MV) :=
  lp (fun q => f_X12_all_b47 n q.2 q.1 v4 v3 v2 v1) fu (v5, mo)
noncomputable def f_X12_all_j94 (n : Nat) (mo : MV) (v3 : Int32) (v1 : Int32) (s0 : Int32) : Option ((Int32 × Int32 × MV) ⊕ (Int32 × MV)) :=
  bl (v3 + 1) fun v3_8 =>
  some (.inl (v3_8, s0, mo))
noncomputable def f_X12_all_j82 (n : Nat) (mo : MV) (v4 : Int32) (v3 : Int32) (v2 : Int32) (v1 : Int32) : Option ((Int32 × Int32 × MV) ⊕ (Int32 × MV)) :=
  bc (v4 ≤ v2) (f_X12_all_j94 n mo v3 v1 v2)
  (f_X12_all_j94 n mo v3 v1 v4)
noncomputable def f_X12_all_b29 (n : Nat) (mo : MV) (v3 : Int32) (v2 : Int32) (v1 : Int32) : Option ((Int32 × Int32 × MV) ⊕ (Int32 × MV)) :=
  bd (f_X12_codes n mo) fun r_10 =>
  bc (r_10 ≤ v3) (some (.inr (v2, mo)))
  (bd2 (f_X12_savedBy n mo v3) fun r_12 mo_13 =>
  bd (f_X12_all_l47 n n mo_13 r_12 v3 v2 v1 0) fun mo_14 =>
  f_X12_all_j82 n mo_14 r_12 v3 v2 v1)
noncomputable def f_X12_all_l29 (fu : Nat) (n : Nat) (mo : MV) (v1 : Int32) (v3 : Int32) (v2 : Int32) : Option (Int32 × MV) :=
  lp (fun q => f_X12_all_b29 n q.2.2 q.1 q.2.1 v1) fu (v3, v2, mo)
noncomputable def f_X12_all_j116 (n : Nat) (mo : MV) (s0 : Int32) : Option (Int32 × MV) :=
  some (s0, mo)
noncomputable def f_X12_all (n : Nat) (mo : MV) (v1 : Int32) : Option (Int32 × MV) :=
  bd (f_X12_letters n mo) fun r_16 =>
  bd (f_X12_in n ((v1 : Int32).toInt64) (-1) ((r_16 - 1 : Int32).toInt64)) fun r_17 =>
  bc (r_17 = 0) (bd2 (f_X12_bad n mo (-10)) fun r_24 mo_25 =>
  some (r_24, mo_25))
  (bd2 (f_X12_all_l29 n n mo v1 0 (-1)) fun v2_19 mo_20 =>
  bc (v1 = (-1)) (f_X12_all_j116 n mo_20 v2_19)
  (gd (vp_in v1 6) <|
  f_X12_all_j116 n mo_20 (mo_20.2.1 5 (ix v1))))
set_option maxHeartbeats 4000000 in
set_option maxRecDepth 100000 in
theorem c_X12_all (l : Launch) (G : va_G) (ct : Nat → ClassId) (sk sv : Nat → Nat) (a : Nat → Nat) (n : Nat) (mo : MV) (v1 : Int32) {r : Int32} {mo' : MV} (hf : f_X12_all n mo v1 = some (r, mo')) : Ctr (l, G, ct, sk, sv) mX12_all 4 90 [.ref (a 0), .int v1] (wl [lfM ct a mo]) (wl [lfM ct a mo']) (some (.int r)) := by
  refine ctr_intro (by decide) (Nat.le_of_ble_eq_true rfl) ?_
  intro p e s m args below meth c A C hP hD hS hA ls hl
  obtain ⟨hx, hb, hml, hown, hts, hr, hlocks, hK, hnm, hZ⟩ := C
  have hb : c.code = cX12_all := hb
  have hml : c.maxLocals = 6 := hml
  have hown : s.vm.findClass "SignedOutsideModel" = some m.cls := hown
  have hr : meth.sig.returnType = some .int := hr
  have hP : va_P G classes (wl [lfM ct a mo]) s.heap := hP
  have hD : va_D A (wl [lfM ct a mo]) := hD
  have hK : va_K G classes (TYS ct) s := hK
  have hl : lv_has ls 6 [(0, .ref (a 0)), (1, .int v1)] := hl
  have L47 : ∀ (fu : Nat) (mo : MV) (v4 : Int32) (v3 : Int32) (v2 : Int32) (v1 : Int32) (v5 : Int32) (ex : MV) (H : Heap) (locs : List Loc) (ls : Array Slot), va_P G classes (wl [lfM ct a mo]) H → va_D A (wl [lfM ct a mo]) → va_S A s.heap H locs → lv_has ls 6 [(5, .int v5), (4, .int v4), (3, .int v3), (2, .int v2), (0, .ref (a 0)), (1, .int v1)] → f_X12_all_l47 fu n mo v4 v3 v2 v1 v5 = some ex → (∀ (x : MV), ex = x → ∀ (H : Heap) (locs : List Loc) (ls : Array Slot), va_P G classes (wl [lfM ct a x]) H → va_D A (wl [lfM ct a x]) → va_S A s.heap H locs → lv_has ls 6 [(4, .int v4), (3, .int v3), (2, .int v2), (0, .ref (a 0)), (1, .int v1)] → WG l G ct sk sv p e (RM 4 90 0 0) s m args below meth c A (Eq2 (some (.int r)) (wl [lfM ct a mo'])) H locs (F0 m 82 ls [])) → WG l G ct sk sv p e (RM 4 90 0 0) s m args below meth c A (Eq2 (some (.int r)) (wl [lfM ct a mo'])) H locs (F0 m 47 ls []) := by
    intro fu
    induction fu with
    | zero =>
      intro mo v4 v3 v2 v1 v5 ex H locs ls hP hD hS hl hf
      exact absurd hf (by unfold f_X12_all_l47 lp; exact fun h => by cases h)
    | succ fu ih =>
      intro mo v4 v3 v2 v1 v5 ex H locs ls hP hD hS hl hf hE
      unfold f_X12_all_l47 at hf
      obtain ⟨q, hf, hor⟩ := lp_e hf
      replace hf : f_X12_all_b47 n mo v5 v4 v3 v2 v1 = some q := hf
      unfold f_X12_all_b47 at hf
      refine lv_iload hx hb dX12_all_47 (lv_at hl 0 rfl) ?_
      refine lv_aload_n hx hb dX12_all_49 rfl (lv_at hl 4 rfl) ?_
      obtain ⟨r_1, hc1, hf⟩ := bd_e hf
      refine call_V (As := []) (rest := [.int v5]) hx hb hml hown hts hK hP hD hS hA hZ lkX12_69 (c_X12_letters l G ct sk sv a n mo hc1) 0 rfl rfl ⟨Nat.le_of_ble_eq_true rfl, Nat.le_of_ble_eq_true rfl⟩ rfl hl.1 rfl (Nat.le_of_ble_eq_true rfl) dX12_all_50 ⟨Nat.le_of_ble_eq_true rfl, Nat.le_of_ble_eq_true rfl⟩ (fun r9 w9 H locs hB hP hD hS => ?_)
      obtain ⟨rfl, rfl⟩ := hB
      refine WG_eq (g2 := F0 m 53 ls [.int r_1, .int v5]) rfl ?_
      refine lv_icmp_ge (tgt := 82) hx hb dX12_all_53 (by decide) (fun c_2 => ?_) (fun c_2 => ?_)
      · replace hf := bc_t hf c_2
        exact hE mo (lp_inr hor hf).symm _ _ _ hP hD hS (lv_sub hl [1, 2, 3, 4, 5] rfl)
      · replace hf := bc_f hf c_2
        refine lv_iload hx hb dX12_all_56 (lv_at hl 1 rfl) ?_
        refine lv_iload_n hx hb dX12_all_58 rfl (lv_at hl 3 rfl) ?_
        refine lv_icmp_le (tgt := 82) hx hb dX12_all_59 (by decide) (fun c_3 => ?_) (fun c_3 => ?_)
        · replace hf := bc_t hf c_3
          exact hE mo (lp_inr hor hf).symm _ _ _ hP hD hS (lv_sub hl [1, 2, 3, 4, 5] rfl)
        · replace hf := bc_f hf c_3
          refine lv_aload_n hx hb dX12_all_62 rfl (lv_at hl 4 rfl) ?_
          refine va_get (D := G) (C := RX12) (T := TX12) (N := 21) (v := .ref (a 6)) hx hb hts iu_X12 hown hK hP 0 rfl rfl 7 (by decide) (hts _ kw894) (fun _ h9 => h9) rfl dX12_all_63 ?_
          refine lv_iload hx hb dX12_all_66 (lv_at hl 0 rfl) ?_
          refine lv_aload_n hx hb dX12_all_68 rfl (lv_at hl 4 rfl) ?_
          refine va_get (D := G) (C := RX12) (T := TX12) (N := 21) (v := .ref (a 5)) hx hb hts iu_X12 hown hK hP 0 rfl rfl 6 (by decide) (hts _ kw893) (fun _ h9 => h9) rfl dX12_all_69 ?_
          refine lv_iload hx hb dX12_all_72 (lv_at hl 0 rfl) ?_
          obtain ⟨g_4, hf⟩ := gd_e hf
          refine va_iald (f := mo.2.1 4) hx hb hK hP 5 0 rfl rfl g_4 dX12_all_74 ?_
          obtain ⟨g_5, hf⟩ := gd_e hf
          obtain ⟨mo_6, emo_6, hf⟩ := bl_e hf
          refine va_iast hx hb hK hP hD hS 6 0 rfl rfl g_5 dX12_all_75 (fun H locs hP hD hS => ?_)
          have hP : va_P G classes (wl [lfM ct a mo_6]) H := by rw [← emo_6]; exact hP
          have hD : va_D A (wl [lfM ct a mo_6]) := by rw [← emo_6]; exact hD
          obtain ⟨v5_7, ev5_7, hf⟩ := bl_e hf
          refine lv_iinc (v := v5_7) (lv' := [(5, .int v5_7), (4, .int v4), (3, .int v3), (2, .int v2), (0, .ref (a 0)), (1, .int v1)]) hx hb dX12_all_76 hl (k := 0) rfl ev5_7 (by decide) rfl (fun ls hl => ?_)
          refine lv_goto (tgt := 47) hx hb dX12_all_79 (by decide) ?_
          exact ih mo_6 v4 v3 v2 v1 v5_7 ex _ _ _ hP hD hS hl (lp_inl hor hf) hE
  have L29 : ∀ (fu : Nat) (mo : MV) (v1 : Int32) (v3 : Int32) (v2 : Int32) (ex : Int32 × MV) (H : Heap) (locs : List Loc) (ls : Array Slot), va_P G classes (wl [lfM ct a mo]) H → va_D A (wl [lfM ct a mo]) → va_S A s.heap H locs → lv_has ls 6 [(3, .int v3), (2, .int v2), (0, .ref (a 0)), (1, .int v1)] → f_X12_all_l29 fu n mo v1 v3 v2 = some ex → (∀ (x : Int32 × MV), ex = x → ∀ (H : Heap) (locs : List Loc) (ls : Array Slot), va_P G classes (wl [lfM ct a x.2]) H → va_D A (wl [lfM ct a x.2]) → va_S A s.heap H locs → lv_has ls 6 [(2, .int x.1), (0, .ref (a 0)), (1, .int v1)] → WG l G ct sk sv p e (RM 4 90 0 0) s m args below meth c A (Eq2 (some (.int r)) (wl [lfM ct a mo'])) H locs (F0 m 101 ls [])) → WG l G ct sk sv p e (RM 4 90 0 0) s m args below meth c A (Eq2 (some (.int r)) (wl [lfM ct a mo'])) H locs (F0 m 29 ls []) := by
    intro fu
    induction fu with
    | zero =>
      intro mo v1 v3 v2 ex H locs ls hP hD hS hl hf
      exact absurd hf (by unfold f_X12_all_l29 lp; exact fun h => by cases h)
    | succ fu ih =>
      intro mo v1 v3 v2 ex H locs ls hP hD hS hl hf hE
      unfold f_X12_all_l29 at hf
      obtain ⟨q, hf, hor⟩ := lp_e hf
      have J94 : ∀ (mo : MV) (v3 : Int32) (s0 : Int32) (H : Heap) (locs : List Loc) (ls : Array Slot), va_P G classes (wl [lfM ct a mo]) H → va_D A (wl [lfM ct a mo]) → va_S A s.heap H locs → lv_has ls 6 [(3, .int v3), (0, .ref (a 0)), (1, .int v1)] → f_X12_all_j94 n mo v3 v1 s0 = some q → WG l G ct sk sv p e (RM 4 90 0 0) s m args below meth c A (Eq2 (some (.int r)) (wl [lfM ct a mo'])) H locs (F0 m 94 ls [.int s0]) := by
        intro mo v3 s0 H locs ls hP hD hS hl hf
        unfold f_X12_all_j94 at hf
        refine lv_istore_n (lv' := [(2, .int s0), (3, .int v3), (0, .ref (a 0)), (1, .int v1)]) hx hb dX12_all_94 rfl hl (by decide) rfl (fun ls hl => ?_)
        obtain ⟨v3_8, ev3_8, hf⟩ := bl_e hf
        refine lv_iinc (v := v3_8) (lv' := [(3, .int v3_8), (2, .int s0), (0, .ref (a 0)), (1, .int v1)]) hx hb dX12_all_95 hl (k := 1) rfl ev3_8 (by decide) rfl (fun ls hl => ?_)
        refine lv_goto (tgt := 29) hx hb dX12_all_98 (by decide) ?_
        exact ih mo v1 v3_8 s0 ex _ _ _ hP hD hS hl (lp_inl hor hf) hE
      have J82 : ∀ (mo : MV) (v4 : Int32) (v3 : Int32) (v2 : Int32) (H : Heap) (locs : List Loc) (ls : Array Slot), va_P G classes (wl [lfM ct a mo]) H → va_D A (wl [lfM ct a mo]) → va_S A s.heap H locs → lv_has ls 6 [(4, .int v4), (3, .int v3), (2, .int v2), (0, .ref (a 0)), (1, .int v1)] → f_X12_all_j82 n mo v4 v3 v2 v1 = some q → WG l G ct sk sv p e (RM 4 90 0 0) s m args below meth c A (Eq2 (some (.int r)) (wl [lfM ct a mo'])) H locs (F0 m 82 ls []) := by
        intro mo v4 v3 v2 H locs ls hP hD hS hl hf
        unfold f_X12_all_j82 at hf
        refine lv_iload hx hb dX12_all_82 (lv_at hl 0 rfl) ?_
        refine lv_iload_n hx hb dX12_all_84 rfl (lv_at hl 2 rfl) ?_
        refine lv_icmp_le (tgt := 93) hx hb dX12_all_85 (by decide) (fun c_9 => ?_) (fun c_9 => ?_)
        · replace hf := bc_t hf c_9
          refine lv_iload_n hx hb dX12_all_93 rfl (lv_at hl 2 rfl) ?_
          exact J94 mo v3 v2 _ _ _ hP hD hS (lv_sub hl [1, 3, 4] rfl) hf
        · replace hf := bc_f hf c_9
          refine lv_iload hx hb dX12_all_88 (lv_at hl 0 rfl) ?_
          refine lv_goto (tgt := 94) hx hb dX12_all_90 (by decide) ?_
          exact J94 mo v3 v4 _ _ _ hP hD hS (lv_sub hl [1, 3, 4] rfl) hf
      replace hf : f_X12_all_b29 n mo v3 v2 v1 = some q := hf
      unfold f_X12_all_b29 at hf
      refine lv_iload_n hx hb dX12_all_29 rfl (lv_at hl 0 rfl) ?_
      refine lv_aload_n hx hb dX12_all_30 rfl (lv_at hl 2 rfl) ?_
      obtain ⟨r_10, hc10, hf⟩ := bd_e hf
      refine call_V (As := []) (rest := [.int v3]) hx hb hml hown hts hK hP hD hS hA hZ lkX12_156 (c_X12_codes l G ct sk sv a n mo hc10) 0 rfl rfl ⟨Nat.le_of_ble_eq_true rfl, Nat.le_of_ble_eq_true rfl⟩ rfl hl.1 rfl (Nat.le_of_ble_eq_true rfl) dX12_all_31 ⟨Nat.le_of_ble_eq_true rfl, Nat.le_of_ble_eq_true rfl⟩ (fun r9 w9 H locs hB hP hD hS => ?_)
      obtain ⟨rfl, rfl⟩ := hB
      refine WG_eq (g2 := F0 m 34 ls [.int r_10, .int v3]) rfl ?_
      refine lv_icmp_ge (tgt := 101) hx hb dX12_all_34 (by decide) (fun c_11 => ?_) (fun c_11 => ?_)
      · replace hf := bc_t hf c_11
        exact hE (v2, mo) (lp_inr hor hf).symm _ _ _ hP hD hS (lv_sub hl [1, 2, 3] rfl)
      · replace hf := bc_f hf c_11
        refine lv_aload_n hx hb dX12_all_37 rfl (lv_at hl 2 rfl) ?_
        refine lv_iload_n hx hb dX12_all_38 rfl (lv_at hl 0 rfl) ?_
        obtain ⟨r_12, mo_13, hc13, hf⟩ := bd2_e hf
        refine call_V (As := [.int v3]) (rest := []) hx hb hml hown hts hK hP hD hS hA hZ lkX12_159 (c_X12_savedBy l G ct sk sv a n mo v3 hc13) 0 rfl rfl ⟨Nat.le_of_ble_eq_true rfl, Nat.le_of_ble_eq_true rfl⟩ rfl hl.1 rfl (Nat.le_of_ble_eq_true rfl) dX12_all_39 ⟨Nat.le_of_ble_eq_true rfl, Nat.le_of_ble_eq_true rfl⟩ (fun r9 w9 H locs hB hP hD hS => ?_)
        obtain ⟨rfl, rfl⟩ := hB
        refine WG_eq (g2 := F0 m 42 ls [.int r_12]) rfl ?_
        refine lv_istore (lv' := [(4, .int r_12), (3, .int v3), (2, .int v2), (0, .ref (a 0)), (1, .int v1)]) hx hb dX12_all_42 hl (by decide) rfl (fun ls hl => ?_)
        refine lv_iconst (v := 0) hx hb dX12_all_44 (by decide) ?_
        refine lv_istore (lv' := [(5, .int 0), (4, .int r_12), (3, .int v3), (2, .int v2), (0, .ref (a 0)), (1, .int v1)]) hx hb dX12_all_45 hl (by decide) rfl (fun ls hl => ?_)
        obtain ⟨mo_14, hx_15, hf⟩ := bd_e hf
        refine L47 n mo_13 r_12 v3 v2 v1 0 mo_14 _ _ _ hP hD hS hl hx_15 ?_
        intro x9 e9 H locs ls hP hD hS hl
        subst e9
        have hP : va_P G classes (wl [lfM ct a mo_14]) H := hP
        have hD : va_D A (wl [lfM ct a mo_14]) := hD
        have hl : lv_has ls 6 [(4, .int r_12), (3, .int v3), (2, .int v2), (0, .ref (a 0)), (1, .int v1)] := hl
        exact J82 mo_14 r_12 v3 v2 _ _ _ hP hD hS hl hf
  have J116 : ∀ (mo : MV) (s0 : Int32) (H : Heap) (locs : List Loc) (ls : Array Slot), va_P G classes (wl [lfM ct a mo]) H → va_D A (wl [lfM ct a mo]) → va_S A s.heap H locs → lv_has ls 6 [] → f_X12_all_j116 n mo s0 = some (r, mo') → WG l G ct sk sv p e (RM 4 90 0 0) s m args below meth c A (Eq2 (some (.int r)) (wl [lfM ct a mo'])) H locs (F0 m 116 ls [.int s0]) := by
    intro mo s0 H locs ls hP hD hS hl hf
    unfold f_X12_all_j116 at hf
    obtain ⟨e1, e2⟩ := inj2 (Option.some.inj hf)
    exact end_i (w' := (wl [lfM ct a mo])) hx hb hr hlocks hK hP hD hS dX12_all_116  ⟨by rw [← e1], by rw [← e2]⟩
  unfold f_X12_all at hf
  show WG l G ct sk sv p e (RM 4 90 0 0) s m args below meth c A (Eq2 (some (.int r)) (wl [lfM ct a mo'])) s.heap [] (F0 m 0 ls [])
  refine lv_iload_n hx hb dX12_all_0 rfl (lv_at hl 1 rfl) ?_
  refine lv_i2l (v := (v1 : Int32).toInt64) hx hb dX12_all_1 rfl ?_
  refine lv_ldc2 (v := (-1)) hx hb hown (hts _ kw1091) dX12_all_2 ?_
  refine lv_aload_n hx hb dX12_all_5 rfl (lv_at hl 0 rfl) ?_
  obtain ⟨r_16, hc16, hf⟩ := bd_e hf
  refine call_V (As := []) (rest := [.long (-1), .long ((v1 : Int32).toInt64)]) hx hb hml hown hts hK hP hD hS hA hZ lkX12_69 (c_X12_letters l G ct sk sv a n mo hc16) 0 rfl rfl ⟨Nat.le_of_ble_eq_true rfl, Nat.le_of_ble_eq_true rfl⟩ rfl hl.1 rfl (Nat.le_of_ble_eq_true rfl) dX12_all_6 ⟨Nat.le_of_ble_eq_true rfl, Nat.le_of_ble_eq_true rfl⟩ (fun r9 w9 H locs hB hP hD hS => ?_)
  obtain ⟨rfl, rfl⟩ := hB
  refine WG_eq (g2 := F0 m 9 ls [.int r_16, .long (-1), .long ((v1 : Int32).toInt64)]) rfl ?_
  refine lv_iconst (v := 1) hx hb dX12_all_9 (by decide) ?_
  refine lv_isub hx hb dX12_all_10 ?_
  refine lv_i2l (v := (r_16 - 1 : Int32).toInt64) hx hb dX12_all_11 rfl ?_
  obtain ⟨r_17, hc17, hf⟩ := bd_e hf
  refine call_S (As := [.long ((v1 : Int32).toInt64), .long (-1), .long ((r_16 - 1 : Int32).toInt64)]) (rest := []) hx hb hml hown hts hK hP hD hS hA hZ lkX12_65 (Ctr.upL (c_X12_in l G ct sk sv  n ((v1 : Int32).toInt64) (-1) ((r_16 - 1 : Int32).toInt64) hc17) [lfM ct a mo] [lfM ct a mo] [lfM ct a mo] [0] 1 (by decide) rfl rfl rfl rfl) ⟨Nat.le_of_ble_eq_true rfl, Nat.le_of_ble_eq_true rfl⟩ rfl hl.1 rfl (Nat.le_of_ble_eq_true rfl) dX12_all_12 ⟨Nat.le_of_ble_eq_true rfl, Nat.le_of_ble_eq_true rfl⟩ (fun r9 w9 H locs hB hP hD hS => ?_)
  obtain ⟨rfl, rfl⟩ := hB
  refine WG_eq (g2 := F0 m 15 ls [.int r_17]) rfl ?_
  refine lv_if_ne (tgt := 25) hx hb dX12_all_15 (by decide) (fun c_18 => ?_) (fun c_18 => ?_)
  · replace hf := bc_f hf c_18
    refine lv_iconst (v := (-1)) hx hb dX12_all_25 (by decide) ?_
    refine lv_istore_n (lv' := [(2, .int (-1)), (0, .ref (a 0)), (1, .int v1)]) hx hb dX12_all_26 rfl hl (by decide) rfl (fun ls hl => ?_)
    refine lv_iconst (v := 0) hx hb dX12_all_27 (by decide) ?_
    refine lv_istore_n (lv' := [(3, .int 0), (2, .int (-1)), (0, .ref (a 0)), (1, .int v1)]) hx hb dX12_all_28 rfl hl (by decide) rfl (fun ls hl => ?_)
    obtain ⟨v2_19, mo_20, hx_21, hf⟩ := bd2_e hf
    refine L29 n mo v1 0 (-1) (v2_19, mo_20) _ _ _ hP hD hS hl hx_21 ?_
    intro x9 e9 H locs ls hP hD hS hl
    subst e9
    have hP : va_P G classes (wl [lfM ct a mo_20]) H := hP
    have hD : va_D A (wl [lfM ct a mo_20]) := hD
    have hl : lv_has ls 6 [(2, .int v2_19), (0, .ref (a 0)), (1, .int v1)] := hl
    refine lv_iload_n hx hb dX12_all_101 rfl (lv_at hl 2 rfl) ?_
    refine lv_iconst (v := (-1)) hx hb dX12_all_102 (by decide) ?_
    refine lv_icmp_ne (tgt := 110) hx hb dX12_all_103 (by decide) (fun c_22 => ?_) (fun c_22 => ?_)
    · replace hf := bc_f hf c_22
      refine lv_aload_n hx hb dX12_all_110 rfl (lv_at hl 1 rfl) ?_
      refine va_get (D := G) (C := RX12) (T := TX12) (N := 21) (v := .ref (a 6)) hx hb hts iu_X12 hown hK hP 0 rfl rfl 7 (by decide) (hts _ kw894) (fun _ h9 => h9) rfl dX12_all_111 ?_
      refine lv_iload_n hx hb dX12_all_114 rfl (lv_at hl 2 rfl) ?_
      obtain ⟨g_23, hf⟩ := gd_e hf
      refine va_iald (f := mo_20.2.1 5) hx hb hK hP 6 0 rfl rfl g_23 dX12_all_115 ?_
      exact J116 mo_20 (mo_20.2.1 5 (ix v1)) _ _ _ hP hD hS (lv_sub hl [] rfl) hf
    · replace hf := bc_t hf c_22
      refine lv_iload_n hx hb dX12_all_106 rfl (lv_at hl 0 rfl) ?_
      refine lv_goto (tgt := 116) hx hb dX12_all_107 (by decide) ?_
      exact J116 mo_20 v2_19 _ _ _ hP hD hS (lv_sub hl [] rfl) hf
  · replace hf := bc_t hf c_18
    refine lv_aload_n hx hb dX12_all_18 rfl (lv_at hl 0 rfl) ?_
    refine lv_bipush (v := (-10)) hx hb dX12_all_19 (by decide) ?_
    obtain ⟨r_24, mo_25, hc25, hf⟩ := bd2_e hf
    refine call_V (As := [.int (-10)]) (rest := []) hx hb hml hown hts hK hP hD hS hA hZ lkX12_80 (c_X12_bad l G ct sk sv a n mo (-10) hc25) 0 rfl rfl ⟨Nat.le_of_ble_eq_true rfl, Nat.le_of_ble_eq_true rfl⟩ rfl hl.1 rfl (Nat.le_of_ble_eq_true rfl) dX12_all_21 ⟨Nat.le_of_ble_eq_true rfl, Nat.le_of_ble_eq_true rfl⟩ (fun r9 w9 H locs hB hP hD hS => ?_)
    obtain ⟨rfl, rfl⟩ := hB
    refine WG_eq (g2 := F0 m 24 ls [.int r_24]) rfl ?_
    obtain ⟨e1, e2⟩ := inj2 (Option.some.inj hf)
    exact end_i (w' := (wl [lfM ct a mo_25])) hx hb hr hlocks hK hP hD hS dX12_all_24  ⟨by rw [← e1], by rw [← e2]⟩
noncomputable def f_X12_has_j14 (n : Nat) (s0 : Int32) : Option (Int32) :=
  gd (s0 = 0 ∨ s0 = 1) <| some s0
noncomputable def f_X12_has (n : Nat) (v0 : Int32) (v1 : Int32) : Option (Int32) :=
  bc (((v0 >>> (v1 &&& 31)) &&& 1) = 1) (f_X12_has_j14 n 1)
  (f_X12_has_j14 n 0)
set_option maxHeartbeats 4000000 in
set_option maxRecDepth 100000 in
theorem c_X12_has (l : Launch) (G : va_G) (ct : Nat → ClassId) (sk sv : Nat → Nat)  (n : Nat) (v0 : Int32) (v1 : Int32) {r : Int32} (hf : f_X12_has n v0 v1 = some r) : Ctr (l, G, ct, sk, sv) mX12_has 0 0 [.int v0, .int v1] (wl []) (wl []) (some (.int r)) := by
  refine ctr_intro (by decide) (Nat.le_of_ble_eq_true rfl) ?_
  intro p e s m args below meth c A C hP hD hS hA ls hl
  obtain ⟨hx, hb, hml, hown, hts, hr, hlocks, hK, hnm, hZ⟩ := C
  have hb : c.code = cX12_has := hb
  have hml : c.maxLocals = 2 := hml
  have hown : s.vm.findClass "SignedOutsideModel" = some m.cls := hown
  have hr : meth.sig.returnType = some .boolean := hr
  have hP : va_P G classes (wl []) s.heap := hP
  have hD : va_D A (wl []) := hD
  have hK : va_K G classes (TYS ct) s := hK
  have hl : lv_has ls 2 [(0, .int v0), (1, .int v1)] := hl
  have J14 : ∀ (s0 : Int32) (H : Heap) (locs : List Loc) (ls : Array Slot), va_P G classes (wl []) H → va_D A (wl []) → va_S A s.heap H locs → lv_has ls 2 [] → f_X12_has_j14 n s0 = some r → WG l G ct sk sv p e (RM 0 0 0 0) s m args below meth c A (Eq2 (some (.int r)) (wl [])) H locs (F0 m 14 ls [.int s0]) := by
    intro s0 H locs ls hP hD hS hl hf
    unfold f_X12_has_j14 at hf
    obtain ⟨g_1, hf⟩ := gd_e hf
    have e1 := Option.some.inj hf
    exact end_z (w' := (wl [])) hx hb hr hlocks hK hP hD hS dX12_has_14 g_1 ⟨by rw [← e1], rfl⟩
  unfold f_X12_has at hf
  show WG l G ct sk sv p e (RM 0 0 0 0) s m args below meth c A (Eq2 (some (.int r)) (wl [])) s.heap [] (F0 m 0 ls [])
  refine lv_iload_n hx hb dX12_has_0 rfl (lv_at hl 0 rfl) ?_
  refine lv_iload_n hx hb dX12_has_1 rfl (lv_at hl 1 rfl) ?_
  refine lv_ishr hx hb dX12_has_2 ?_
  refine lv_iconst (v := 1) hx hb dX12_has_3 (by decide) ?_
  refine lv_iand hx hb dX12_has_4 ?_
  refine lv_iconst (v := 1) hx hb dX12_has_5 (by decide) ?_
  refine lv_icmp_ne (tgt := 13) hx hb dX12_has_6 (by decide) (fun c_2 => ?_) (fun c_2 => ?_)
  · replace hf := bc_f hf c_2
    refine lv_iconst (v := 0) hx hb dX12_has_13 (by decide) ?_
    exact J14 0 _ _ _ hP hD hS (lv_sub hl [] rfl) hf
  · replace hf := bc_t hf c_2
    refine lv_iconst (v := 1) hx hb dX12_has_9 (by decide) ?_
    refine lv_goto (tgt := 14) hx hb dX12_has_10 (by decide) ?_
    exact J14 1 _ _ _ hP hD hS (lv_sub hl [] rfl) hf
noncomputable def f_X12_isCoverOf_j37 (n : Nat) (mo : MV) (s0 : Int32) : Option (Int32) :=
  gd (s0 = 0 ∨ s0 = 1) <| some s0
noncomputable def f_X12_isCoverOf_j36 (n : Nat) (mo : MV) : Option (Int32) :=
  f_X12_isCoverOf_j37 n mo 0
noncomputable def f_X12_isCoverOf (n : Nat) (mo : MV) (v1 : Int32) (v2 : Int32) (v3 : Int32) : Option (Int32) :=
  gd (vp_in (47 + (3 * v1)) 235) <|
  bc ((mo.2.1 0 (ix (47 + (3 * v1)))) = v2) (gd (vp_in ((47 + (3 * v1)) + 1) 235) <|
  bc ((mo.2.1 0 (ix ((47 + (3 * v1)) + 1))) = v3) (f_X12_isCoverOf_j37 n mo 1)
  (f_X12_isCoverOf_j36 n mo))
  (f_X12_isCoverOf_j36 n mo)
set_option maxHeartbeats 4000000 in
set_option maxRecDepth 100000 in
theorem c_X12_isCoverOf (l : Launch) (G : va_G) (ct : Nat → ClassId) (sk sv : Nat → Nat) (a : Nat → Nat) (n : Nat) (mo : MV) (v1 : Int32) (v2 : Int32) (v3 : Int32) {r : Int32} (hf : f_X12_isCoverOf n mo v1 v2 v3 = some r) : Ctr (l, G, ct, sk, sv) mX12_isCoverOf 0 0 [.ref (a 0), .int v1, .int v2, .int v3] (wl [lfM ct a mo]) (wl [lfM ct a mo]) (some (.int r)) := by
  refine ctr_intro (by decide) (Nat.le_of_ble_eq_true rfl) ?_
  intro p e s m args below meth c A C hP hD hS hA ls hl
  obtain ⟨hx, hb, hml, hown, hts, hr, hlocks, hK, hnm, hZ⟩ := C
  have hb : c.code = cX12_isCoverOf := hb
  have hml : c.maxLocals = 4 := hml
  have hown : s.vm.findClass "SignedOutsideModel" = some m.cls := hown
  have hr : meth.sig.returnType = some .boolean := hr
  have hP : va_P G classes (wl [lfM ct a mo]) s.heap := hP
  have hD : va_D A (wl [lfM ct a mo]) := hD
  have hK : va_K G classes (TYS ct) s := hK
  have hl : lv_has ls 4 [(0, .ref (a 0)), (1, .int v1), (2, .int v2), (3, .int v3)] := hl
  have J37 : ∀ (s0 : Int32) (H : Heap) (locs : List Loc) (ls : Array Slot), va_P G classes (wl [lfM ct a mo]) H → va_D A (wl [lfM ct a mo]) → va_S A s.heap H locs → lv_has ls 4 [] → f_X12_isCoverOf_j37 n mo s0 = some r → WG l G ct sk sv p e (RM 0 0 0 0) s m args below meth c A (Eq2 (some (.int r)) (wl [lfM ct a mo])) H locs (F0 m 37 ls [.int s0]) := by
    intro s0 H locs ls hP hD hS hl hf
    unfold f_X12_isCoverOf_j37 at hf
    obtain ⟨g_1, hf⟩ := gd_e hf
    have e1 := Option.some.inj hf
    exact end_z (w' := (wl [lfM ct a mo])) hx hb hr hlocks hK hP hD hS dX12_isCoverOf_37 g_1 ⟨by rw [← e1], rfl⟩
  have J36 : ∀ (H : Heap) (locs : List Loc) (ls : Array Slot), va_P G classes (wl [lfM ct a mo]) H → va_D A (wl [lfM ct a mo]) → va_S A s.heap H locs → lv_has ls 4 [] → f_X12_isCoverOf_j36 n mo = some r → WG l G ct sk sv p e (RM 0 0 0 0) s m args below meth c A (Eq2 (some (.int r)) (wl [lfM ct a mo])) H locs (F0 m 36 ls []) := by
    intro  H locs ls hP hD hS hl hf
    unfold f_X12_isCoverOf_j36 at hf
    refine lv_iconst (v := 0) hx hb dX12_isCoverOf_36 (by decide) ?_
    exact J37 0 _ _ _ hP hD hS hl hf
  unfold f_X12_isCoverOf at hf
  show WG l G ct sk sv p e (RM 0 0 0 0) s m args below meth c A (Eq2 (some (.int r)) (wl [lfM ct a mo])) s.heap [] (F0 m 0 ls [])
  refine lv_aload_n hx hb dX12_isCoverOf_0 rfl (lv_at hl 0 rfl) ?_
  refine va_get (D := G) (C := RX12) (T := TX12) (N := 21) (v := .ref (a 1)) hx hb hts iu_X12 hown hK hP 0 rfl rfl 0 (by decide) (hts _ kw887) (fun _ h9 => h9) rfl dX12_isCoverOf_1 ?_
  refine lv_bipush (v := 47) hx hb dX12_isCoverOf_4 (by decide) ?_
  refine lv_iconst (v := 3) hx hb dX12_isCoverOf_6 (by decide) ?_
  refine lv_iload_n hx hb dX12_isCoverOf_7 rfl (lv_at hl 1 rfl) ?_
  refine lv_imul hx hb dX12_isCoverOf_8 ?_
  refine lv_iadd hx hb dX12_isCoverOf_9 ?_
  obtain ⟨g_2, hf⟩ := gd_e hf
  refine va_iald (f := mo.2.1 0) hx hb hK hP 1 0 rfl rfl g_2 dX12_isCoverOf_10 ?_
  refine lv_iload_n hx hb dX12_isCoverOf_11 rfl (lv_at hl 2 rfl) ?_
  refine lv_icmp_ne (tgt := 36) hx hb dX12_isCoverOf_12 (by decide) (fun c_3 => ?_) (fun c_3 => ?_)
  · replace hf := bc_f hf c_3
    exact J36  _ _ _ hP hD hS (lv_sub hl [] rfl) hf
  · replace hf := bc_t hf c_3
    refine lv_aload_n hx hb dX12_isCoverOf_15 rfl (lv_at hl 0 rfl) ?_
    refine va_get (D := G) (C := RX12) (T := TX12) (N := 21) (v := .ref (a 1)) hx hb hts iu_X12 hown hK hP 0 rfl rfl 0 (by decide) (hts _ kw887) (fun _ h9 => h9) rfl dX12_isCoverOf_16 ?_
    refine lv_bipush (v := 47) hx hb dX12_isCoverOf_19 (by decide) ?_
    refine lv_iconst (v := 3) hx hb dX12_isCoverOf_21 (by decide) ?_
    refine lv_iload_n hx hb dX12_isCoverOf_22 rfl (lv_at hl 1 rfl) ?_
    refine lv_imul hx hb dX12_isCoverOf_23 ?_
    refine lv_iadd hx hb dX12_isCoverOf_24 ?_
    refine lv_iconst (v := 1) hx hb dX12_isCoverOf_25 (by decide) ?_
    refine lv_iadd hx hb dX12_isCoverOf_26 ?_
    obtain ⟨g_4, hf⟩ := gd_e hf
    refine va_iald (f := mo.2.1 0) hx hb hK hP 1 0 rfl rfl g_4 dX12_isCoverOf_27 ?_
    refine lv_iload_n hx hb dX12_isCoverOf_28 rfl (lv_at hl 3 rfl) ?_
    refine lv_icmp_ne (tgt := 36) hx hb dX12_isCoverOf_29 (by decide) (fun c_5 => ?_) (fun c_5 => ?_)
    · replace hf := bc_f hf c_5
      exact J36  _ _ _ hP hD hS (lv_sub hl [] rfl) hf
    · replace hf := bc_t hf c_5
      refine lv_iconst (v := 1) hx hb dX12_isCoverOf_32 (by decide) ?_
      refine lv_goto (tgt := 37) hx hb dX12_isCoverOf_33 (by decide) ?_
      exact J37 1 _ _ _ hP hD hS (lv_sub hl [] rfl) hf
noncomputable def f_X12_canBeAt_j93 (n : Nat) (mo : MV) (v6 : Int32) (v1 : Int32) (v2 : Int32) (v3 : Int32) (v4 : Int32) (s0 : Int32) : Option ((Int32 × Int32) ⊕ (Int32)) :=
  bl (v6 + 1) fun v6_1 =>
  some (.inl (v6_1, s0))
noncomputable def f_X12_canBeAt_j92 (n : Nat) (mo : MV) (v6 : Int32) (v1 : Int32) (v2 : Int32) (v3 : Int32) (v4 : Int32) : Option ((Int32 × Int32) ⊕ (Int32)) :=
  f_X12_canBeAt_j93 n mo v6 v1 v2 v3 v4 0
noncomputable def f_X12_canBeAt_j88 (n : Nat) (mo : MV) (v6 : Int32) (v1 : Int32) (v2 : Int32) (v3 : Int32) (v4 : Int32) : Option ((Int32 × Int32) ⊕ (Int32)) :=
  f_X12_canBeAt_j93 n mo v6 v1 v2 v3 v4 1
noncomputable def f_X12_canBeAt_j55 (n : Nat) (mo : MV) (v6 : Int32) (v5 : Int32) (v1 : Int32) (v2 : Int32) (v3 : Int32) (v4 : Int32) (s0 : Int32) : Option ((Int32 × Int32) ⊕ (Int32)) :=
  bc (v5 = 0) (f_X12_canBeAt_j92 n mo v6 v1 v2 v3 v4)
  (bd (f_X12_isCoverOf n mo v6 v1 v2) fun r_3 =>
  bc (r_3 = 0) (f_X12_canBeAt_j88 n mo v6 v1 v2 v3 v4)
  (bd (f_X12_has n v4 v6) fun r_5 =>
  bc (r_5 = 0) (bc (s0 = 0) (f_X12_canBeAt_j92 n mo v6 v1 v2 v3 v4)
  (f_X12_canBeAt_j88 n mo v6 v1 v2 v3 v4))
  (f_X12_canBeAt_j88 n mo v6 v1 v2 v3 v4)))
noncomputable def f_X12_canBeAt_b6 (n : Nat) (mo : MV) (v6 : Int32) (v5 : Int32) (v1 : Int32) (v2 : Int32) (v3 : Int32) (v4 : Int32) : Option ((Int32 × Int32) ⊕ (Int32)) :=
  gd (vp_in 2 235) <|
  bc ((mo.2.1 0 (ix 2)) ≤ v6) (some (.inr v5))
  (gd (vp_in ((47 + (3 * v6)) + 2) 235) <|
  bd (f_X12_miles n (mo.2.1 0 (ix ((47 + (3 * v6)) + 2))) v3) fun r_11 =>
  gd (vp_in (24 + v1) 235) <|
  bd (f_X12_reachAs n (mo.2.1 0 (ix (24 + v1)))) fun r_13 =>
  bc (r_13 < r_11) (f_X12_canBeAt_j55 n mo v6 v5 v1 v2 v3 v4 0)
  (f_X12_canBeAt_j55 n mo v6 v5 v1 v2 v3 v4 1))
noncomputable def f_X12_canBeAt_l6 (fu : Nat) (n : Nat) (mo : MV) (v1 : Int32) (v2 : Int32) (v3 : Int32) (v4 : Int32) (v6 : Int32) (v5 : Int32) : Option (Int32) :=
  lp (fun q => f_X12_canBeAt_b6 n mo q.1 q.2 v1 v2 v3 v4) fu (v6, v5)
noncomputable def f_X12_canBeAt (n : Nat) (mo : MV) (v1 : Int32) (v2 : Int32) (v3 : Int32) (v4 : Int32) : Option (Int32) :=
  bd (f_X12_canBeAt_l6 n n mo v1 v2 v3 v4 0 1) fun v5_15 =>
  gd (v5_15 = 0 ∨ v5_15 = 1) <| some v5_15
set_option maxHeartbeats 4000000 in
set_option maxRecDepth 100000 in
theorem c_X12_canBeAt (l : Launch) (G : va_G) (ct : Nat → ClassId) (sk sv : Nat → Nat) (a : Nat → Nat) (n : Nat) (mo : MV) (v1 : Int32) (v2 : Int32) (v3 : Int32) (v4 : Int32) {r : Int32} (hf : f_X12_canBeAt n mo v1 v2 v3 v4 = some r) : Ctr (l, G, ct, sk, sv) mX12_canBeAt 1 23 [.ref (a 0), .int v1, .int v2, .int v3, .int v4] (wl [lfM ct a mo]) (wl [lfM ct a mo]) (some (.int r)) := by
  refine ctr_intro (by decide) (Nat.le_of_ble_eq_true rfl) ?_
  intro p e s m args below meth c A C hP hD hS hA ls hl
  obtain ⟨hx, hb, hml, hown, hts, hr, hlocks, hK, hnm, hZ⟩ := C
  have hb : c.code = cX12_canBeAt := hb
  have hml : c.maxLocals = 8 := hml
  have hown : s.vm.findClass "SignedOutsideModel" = some m.cls := hown
  have hr : meth.sig.returnType = some .boolean := hr
  have hP : va_P G classes (wl [lfM ct a mo]) s.heap := hP
  have hD : va_D A (wl [lfM ct a mo]) := hD
  have hK : va_K G classes (TYS ct) s := hK
  have hl : lv_has ls 8 [(0, .ref (a 0)), (1, .int v1), (2, .int v2), (3, .int v3), (4, .int v4)] := hl
  have L6 : ∀ (fu : Nat) (v1 : Int32) (v2 : Int32) (v3 : Int32) (v4 : Int32) (v6 : Int32) (v5 : Int32) (ex : Int32) (H : Heap) (locs : List Loc) (ls : Array Slot), va_P G classes (wl [lfM ct a mo]) H → va_D A (wl [lfM ct a mo]) → va_S A s.heap H locs → lv_has ls 8 [(6, .int v6), (5, .int v5), (0, .ref (a 0)), (1, .int v1), (2, .int v2), (3, .int v3), (4, .int v4)] → f_X12_canBeAt_l6 fu n mo v1 v2 v3 v4 v6 v5 = some ex → (∀ (x : Int32), ex = x → ∀ (H : Heap) (locs : List Loc) (ls : Array Slot), va_P G classes (wl [lfM ct a mo]) H → va_D A (wl [lfM ct a mo]) → va_S A s.heap H locs → lv_has ls 8 [(5, .int x)] → WG l G ct sk sv p e (RM 1 23 0 0) s m args below meth c A (Eq2 (some (.int r)) (wl [lfM ct a mo])) H locs (F0 m 101 ls [])) → WG l G ct sk sv p e (RM 1 23 0 0) s m args below meth c A (Eq2 (some (.int r)) (wl [lfM ct a mo])) H locs (F0 m 6 ls []) := by
    intro fu
    induction fu with
    | zero =>
      intro v1 v2 v3 v4 v6 v5 ex H locs ls hP hD hS hl hf
      exact absurd hf (by unfold f_X12_canBeAt_l6 lp; exact fun h => by cases h)
    | succ fu ih =>
      intro v1 v2 v3 v4 v6 v5 ex H locs ls hP hD hS hl hf hE
      unfold f_X12_canBeAt_l6 at hf
      obtain ⟨q, hf, hor⟩ := lp_e hf
      have J93 : ∀ (v6 : Int32) (s0 : Int32) (H : Heap) (locs : List Loc) (ls : Array Slot), va_P G classes (wl [lfM ct a mo]) H → va_D A (wl [lfM ct a mo]) → va_S A s.heap H locs → lv_has ls 8 [(6, .int v6), (0, .ref (a 0)), (1, .int v1), (2, .int v2), (3, .int v3), (4, .int v4)] → f_X12_canBeAt_j93 n mo v6 v1 v2 v3 v4 s0 = some q → WG l G ct sk sv p e (RM 1 23 0 0) s m args below meth c A (Eq2 (some (.int r)) (wl [lfM ct a mo])) H locs (F0 m 93 ls [.int s0]) := by
        intro v6 s0 H locs ls hP hD hS hl hf
        unfold f_X12_canBeAt_j93 at hf
        refine lv_istore (lv' := [(5, .int s0), (6, .int v6), (0, .ref (a 0)), (1, .int v1), (2, .int v2), (3, .int v3), (4, .int v4)]) hx hb dX12_canBeAt_93 hl (by decide) rfl (fun ls hl => ?_)
        obtain ⟨v6_1, ev6_1, hf⟩ := bl_e hf
        refine lv_iinc (v := v6_1) (lv' := [(6, .int v6_1), (5, .int s0), (0, .ref (a 0)), (1, .int v1), (2, .int v2), (3, .int v3), (4, .int v4)]) hx hb dX12_canBeAt_95 hl (k := 1) rfl ev6_1 (by decide) rfl (fun ls hl => ?_)
        refine lv_goto (tgt := 6) hx hb dX12_canBeAt_98 (by decide) ?_
        exact ih v1 v2 v3 v4 v6_1 s0 ex _ _ _ hP hD hS hl (lp_inl hor hf) hE
      have J92 : ∀ (v6 : Int32) (H : Heap) (locs : List Loc) (ls : Array Slot), va_P G classes (wl [lfM ct a mo]) H → va_D A (wl [lfM ct a mo]) → va_S A s.heap H locs → lv_has ls 8 [(6, .int v6), (0, .ref (a 0)), (1, .int v1), (2, .int v2), (3, .int v3), (4, .int v4)] → f_X12_canBeAt_j92 n mo v6 v1 v2 v3 v4 = some q → WG l G ct sk sv p e (RM 1 23 0 0) s m args below meth c A (Eq2 (some (.int r)) (wl [lfM ct a mo])) H locs (F0 m 92 ls []) := by
        intro v6 H locs ls hP hD hS hl hf
        unfold f_X12_canBeAt_j92 at hf
        refine lv_iconst (v := 0) hx hb dX12_canBeAt_92 (by decide) ?_
        exact J93 v6 0 _ _ _ hP hD hS hl hf
      have J88 : ∀ (v6 : Int32) (H : Heap) (locs : List Loc) (ls : Array Slot), va_P G classes (wl [lfM ct a mo]) H → va_D A (wl [lfM ct a mo]) → va_S A s.heap H locs → lv_has ls 8 [(6, .int v6), (0, .ref (a 0)), (1, .int v1), (2, .int v2), (3, .int v3), (4, .int v4)] → f_X12_canBeAt_j88 n mo v6 v1 v2 v3 v4 = some q → WG l G ct sk sv p e (RM 1 23 0 0) s m args below meth c A (Eq2 (some (.int r)) (wl [lfM ct a mo])) H locs (F0 m 88 ls []) := by
        intro v6 H locs ls hP hD hS hl hf
        unfold f_X12_canBeAt_j88 at hf
        refine lv_iconst (v := 1) hx hb dX12_canBeAt_88 (by decide) ?_
        refine lv_goto (tgt := 93) hx hb dX12_canBeAt_89 (by decide) ?_
        exact J93 v6 1 _ _ _ hP hD hS hl hf
      have J55 : ∀ (v6 : Int32) (v5 : Int32) (s0 : Int32) (H : Heap) (locs : List Loc) (ls : Array Slot), va_P G classes (wl [lfM ct a mo]) H → va_D A (wl [lfM ct a mo]) → va_S A s.heap H locs → lv_has ls 8 [(6, .int v6), (5, .int v5), (0, .ref (a 0)), (1, .int v1), (2, .int v2), (3, .int v3), (4, .int v4)] → f_X12_canBeAt_j55 n mo v6 v5 v1 v2 v3 v4 s0 = some q → WG l G ct sk sv p e (RM 1 23 0 0) s m args below meth c A (Eq2 (some (.int r)) (wl [lfM ct a mo])) H locs (F0 m 55 ls [.int s0]) := by
        intro v6 v5 s0 H locs ls hP hD hS hl hf
        unfold f_X12_canBeAt_j55 at hf
        refine lv_istore (lv' := [(7, .int s0), (6, .int v6), (5, .int v5), (0, .ref (a 0)), (1, .int v1), (2, .int v2), (3, .int v3), (4, .int v4)]) hx hb dX12_canBeAt_55 hl (by decide) rfl (fun ls hl => ?_)
        refine lv_iload hx hb dX12_canBeAt_57 (lv_at hl 2 rfl) ?_
        refine lv_if_eq (tgt := 92) hx hb dX12_canBeAt_59 (by decide) (fun c_2 => ?_) (fun c_2 => ?_)
        · replace hf := bc_t hf c_2
          exact J92 v6 _ _ _ hP hD hS (lv_sub hl [1, 3, 4, 5, 6, 7] rfl) hf
        · replace hf := bc_f hf c_2
          refine lv_aload_n hx hb dX12_canBeAt_62 rfl (lv_at hl 3 rfl) ?_
          refine lv_iload hx hb dX12_canBeAt_63 (lv_at hl 1 rfl) ?_
          refine lv_iload_n hx hb dX12_canBeAt_65 rfl (lv_at hl 4 rfl) ?_
          refine lv_iload_n hx hb dX12_canBeAt_66 rfl (lv_at hl 5 rfl) ?_
          obtain ⟨r_3, hc3, hf⟩ := bd_e hf
          refine call_V (As := [.int v6, .int v1, .int v2]) (rest := []) hx hb hml hown hts hK hP hD hS hA hZ lkX12_177 (c_X12_isCoverOf l G ct sk sv a n mo v6 v1 v2 hc3) 0 rfl rfl ⟨Nat.le_of_ble_eq_true rfl, Nat.le_of_ble_eq_true rfl⟩ rfl hl.1 rfl (Nat.le_of_ble_eq_true rfl) dX12_canBeAt_67 ⟨Nat.le_of_ble_eq_true rfl, Nat.le_of_ble_eq_true rfl⟩ (fun r9 w9 H locs hB hP hD hS => ?_)
          obtain ⟨rfl, rfl⟩ := hB
          refine WG_eq (g2 := F0 m 70 ls [.int r_3]) rfl ?_
          refine lv_if_eq (tgt := 88) hx hb dX12_canBeAt_70 (by decide) (fun c_4 => ?_) (fun c_4 => ?_)
          · replace hf := bc_t hf c_4
            exact J88 v6 _ _ _ hP hD hS (lv_sub hl [1, 3, 4, 5, 6, 7] rfl) hf
          · replace hf := bc_f hf c_4
            refine lv_iload hx hb dX12_canBeAt_73 (lv_at hl 7 rfl) ?_
            refine lv_iload hx hb dX12_canBeAt_75 (lv_at hl 1 rfl) ?_
            obtain ⟨r_5, hc5, hf⟩ := bd_e hf
            refine call_S (As := [.int v4, .int v6]) (rest := []) hx hb hml hown hts hK hP hD hS hA hZ lkX12_181 (Ctr.upL (c_X12_has l G ct sk sv  n v4 v6 hc5) [lfM ct a mo] [lfM ct a mo] [lfM ct a mo] [0] 1 (by decide) rfl rfl rfl rfl) ⟨Nat.le_of_ble_eq_true rfl, Nat.le_of_ble_eq_true rfl⟩ rfl hl.1 rfl (Nat.le_of_ble_eq_true rfl) dX12_canBeAt_77 ⟨Nat.le_of_ble_eq_true rfl, Nat.le_of_ble_eq_true rfl⟩ (fun r9 w9 H locs hB hP hD hS => ?_)
            obtain ⟨rfl, rfl⟩ := hB
            refine WG_eq (g2 := F0 m 80 ls [.int r_5]) rfl ?_
            refine lv_if_ne (tgt := 88) hx hb dX12_canBeAt_80 (by decide) (fun c_6 => ?_) (fun c_6 => ?_)
            · replace hf := bc_f hf c_6
              exact J88 v6 _ _ _ hP hD hS (lv_sub hl [1, 3, 4, 5, 6, 7] rfl) hf
            · replace hf := bc_t hf c_6
              refine lv_iload hx hb dX12_canBeAt_83 (lv_at hl 0 rfl) ?_
              refine lv_if_eq (tgt := 92) hx hb dX12_canBeAt_85 (by decide) (fun c_7 => ?_) (fun c_7 => ?_)
              · replace hf := bc_t hf c_7
                exact J92 v6 _ _ _ hP hD hS (lv_sub hl [1, 3, 4, 5, 6, 7] rfl) hf
              · replace hf := bc_f hf c_7
                exact J88 v6 _ _ _ hP hD hS (lv_sub hl [1, 3, 4, 5, 6, 7] rfl) hf
      replace hf : f_X12_canBeAt_b6 n mo v6 v5 v1 v2 v3 v4 = some q := hf
      unfold f_X12_canBeAt_b6 at hf
      refine lv_iload hx hb dX12_canBeAt_6 (lv_at hl 0 rfl) ?_
      refine lv_aload_n hx hb dX12_canBeAt_8 rfl (lv_at hl 2 rfl) ?_
      refine va_get (D := G) (C := RX12) (T := TX12) (N := 21) (v := .ref (a 1)) hx hb hts iu_X12 hown hK hP 0 rfl rfl 0 (by decide) (hts _ kw887) (fun _ h9 => h9) rfl dX12_canBeAt_9 ?_
      refine lv_iconst (v := 2) hx hb dX12_canBeAt_12 (by decide) ?_
      obtain ⟨g_8, hf⟩ := gd_e hf
      refine va_iald (f := mo.2.1 0) hx hb hK hP 1 0 rfl rfl g_8 dX12_canBeAt_13 ?_
      refine lv_icmp_ge (tgt := 101) hx hb dX12_canBeAt_14 (by decide) (fun c_9 => ?_) (fun c_9 => ?_)
      · replace hf := bc_t hf c_9
        exact hE v5 (lp_inr hor hf).symm _ _ _ hP hD hS (lv_sub hl [1] rfl)
      · replace hf := bc_f hf c_9
        refine lv_aload_n hx hb dX12_canBeAt_17 rfl (lv_at hl 2 rfl) ?_
        refine va_get (D := G) (C := RX12) (T := TX12) (N := 21) (v := .ref (a 1)) hx hb hts iu_X12 hown hK hP 0 rfl rfl 0 (by decide) (hts _ kw887) (fun _ h9 => h9) rfl dX12_canBeAt_18 ?_
        refine lv_bipush (v := 47) hx hb dX12_canBeAt_21 (by decide) ?_
        refine lv_iconst (v := 3) hx hb dX12_canBeAt_23 (by decide) ?_
        refine lv_iload hx hb dX12_canBeAt_24 (lv_at hl 0 rfl) ?_
        refine lv_imul hx hb dX12_canBeAt_26 ?_
        refine lv_iadd hx hb dX12_canBeAt_27 ?_
        refine lv_iconst (v := 2) hx hb dX12_canBeAt_28 (by decide) ?_
        refine lv_iadd hx hb dX12_canBeAt_29 ?_
        obtain ⟨g_10, hf⟩ := gd_e hf
        refine va_iald (f := mo.2.1 0) hx hb hK hP 1 0 rfl rfl g_10 dX12_canBeAt_30 ?_
        refine lv_iload_n hx hb dX12_canBeAt_31 rfl (lv_at hl 5 rfl) ?_
        obtain ⟨r_11, hc11, hf⟩ := bd_e hf
        refine call_S (As := [.int (mo.2.1 0 (ix ((47 + (3 * v6)) + 2))), .int v3]) (rest := []) hx hb hml hown hts hK hP hD hS hA hZ lkX12_97 (Ctr.upL (c_X12_miles l G ct sk sv  n (mo.2.1 0 (ix ((47 + (3 * v6)) + 2))) v3 hc11) [lfM ct a mo] [lfM ct a mo] [lfM ct a mo] [0] 1 (by decide) rfl rfl rfl rfl) ⟨Nat.le_of_ble_eq_true rfl, Nat.le_of_ble_eq_true rfl⟩ rfl hl.1 rfl (Nat.le_of_ble_eq_true rfl) dX12_canBeAt_32 ⟨Nat.le_of_ble_eq_true rfl, Nat.le_of_ble_eq_true rfl⟩ (fun r9 w9 H locs hB hP hD hS => ?_)
        obtain ⟨rfl, rfl⟩ := hB
        refine WG_eq (g2 := F0 m 35 ls [.int r_11]) rfl ?_
        refine lv_aload_n hx hb dX12_canBeAt_35 rfl (lv_at hl 2 rfl) ?_
        refine va_get (D := G) (C := RX12) (T := TX12) (N := 21) (v := .ref (a 1)) hx hb hts iu_X12 hown hK hP 0 rfl rfl 0 (by decide) (hts _ kw887) (fun _ h9 => h9) rfl dX12_canBeAt_36 ?_
        refine lv_bipush (v := 24) hx hb dX12_canBeAt_39 (by decide) ?_
        refine lv_iload_n hx hb dX12_canBeAt_41 rfl (lv_at hl 3 rfl) ?_
        refine lv_iadd hx hb dX12_canBeAt_42 ?_
        obtain ⟨g_12, hf⟩ := gd_e hf
        refine va_iald (f := mo.2.1 0) hx hb hK hP 1 0 rfl rfl g_12 dX12_canBeAt_43 ?_
        obtain ⟨r_13, hc13, hf⟩ := bd_e hf
        refine call_S (As := [.int (mo.2.1 0 (ix (24 + v1)))]) (rest := [.int r_11]) hx hb hml hown hts hK hP hD hS hA hZ lkX12_105 (Ctr.upL (c_X12_reachAs l G ct sk sv  n (mo.2.1 0 (ix (24 + v1))) hc13) [lfM ct a mo] [lfM ct a mo] [lfM ct a mo] [0] 1 (by decide) rfl rfl rfl rfl) ⟨Nat.le_of_ble_eq_true rfl, Nat.le_of_ble_eq_true rfl⟩ rfl hl.1 rfl (Nat.le_of_ble_eq_true rfl) dX12_canBeAt_44 ⟨Nat.le_of_ble_eq_true rfl, Nat.le_of_ble_eq_true rfl⟩ (fun r9 w9 H locs hB hP hD hS => ?_)
        obtain ⟨rfl, rfl⟩ := hB
        refine WG_eq (g2 := F0 m 47 ls [.int r_13, .int r_11]) rfl ?_
        refine lv_icmp_gt (tgt := 54) hx hb dX12_canBeAt_47 (by decide) (fun c_14 => ?_) (fun c_14 => ?_)
        · replace hf := bc_t hf c_14
          refine lv_iconst (v := 0) hx hb dX12_canBeAt_54 (by decide) ?_
          exact J55 v6 v5 0 _ _ _ hP hD hS hl hf
        · replace hf := bc_f hf c_14
          refine lv_iconst (v := 1) hx hb dX12_canBeAt_50 (by decide) ?_
          refine lv_goto (tgt := 55) hx hb dX12_canBeAt_51 (by decide) ?_
          exact J55 v6 v5 1 _ _ _ hP hD hS hl hf
  unfold f_X12_canBeAt at hf
  show WG l G ct sk sv p e (RM 1 23 0 0) s m args below meth c A (Eq2 (some (.int r)) (wl [lfM ct a mo])) s.heap [] (F0 m 0 ls [])
  refine lv_iconst (v := 1) hx hb dX12_canBeAt_0 (by decide) ?_
  refine lv_istore (lv' := [(5, .int 1), (0, .ref (a 0)), (1, .int v1), (2, .int v2), (3, .int v3), (4, .int v4)]) hx hb dX12_canBeAt_1 hl (by decide) rfl (fun ls hl => ?_)
  refine lv_iconst (v := 0) hx hb dX12_canBeAt_3 (by decide) ?_
  refine lv_istore (lv' := [(6, .int 0), (5, .int 1), (0, .ref (a 0)), (1, .int v1), (2, .int v2), (3, .int v3), (4, .int v4)]) hx hb dX12_canBeAt_4 hl (by decide) rfl (fun ls hl => ?_)
  obtain ⟨v5_15, hx_16, hf⟩ := bd_e hf
  refine L6 n v1 v2 v3 v4 0 1 v5_15 _ _ _ hP hD hS hl hx_16 ?_
  intro x9 e9 H locs ls hP hD hS hl
  subst e9
  have hP : va_P G classes (wl [lfM ct a mo]) H := hP
  have hD : va_D A (wl [lfM ct a mo]) := hD
  have hl : lv_has ls 8 [(5, .int v5_15)] := hl
  refine lv_iload hx hb dX12_canBeAt_101 (lv_at hl 0 rfl) ?_
  obtain ⟨g_17, hf⟩ := gd_e hf
  have e1 := Option.some.inj hf
  exact end_z (w' := (wl [lfM ct a mo])) hx hb hr hlocks hK hP hD hS dX12_canBeAt_103 g_17 ⟨by rw [← e1], rfl⟩
noncomputable def f_X12_areTrue_j47 (n : Nat) (mo : MV) (v6 : Int32) (v5 : Int32) (v1 : Int32) (v2 : Int32) (v3 : Int32) (s0 : Int32) (s1 : Int32) : Option ((Int32 × Int32) ⊕ (Int32)) :=
  bl (s1 + s0) fun v4_1 =>
  bl (v6 + 1) fun v6_2 =>
  some (.inl (v6_2, v4_1))
noncomputable def f_X12_areTrue_j46 (n : Nat) (mo : MV) (v6 : Int32) (v5 : Int32) (v1 : Int32) (v2 : Int32) (v3 : Int32) (s0 : Int32) : Option ((Int32 × Int32) ⊕ (Int32)) :=
  f_X12_areTrue_j47 n mo v6 v5 v1 v2 v3 0 s0
noncomputable def f_X12_areTrue_b9 (n : Nat) (mo : MV) (v6 : Int32) (v5 : Int32) (v4 : Int32) (v1 : Int32) (v2 : Int32) (v3 : Int32) : Option ((Int32 × Int32) ⊕ (Int32)) :=
  gd (vp_in 2 235) <|
  bc ((mo.2.1 0 (ix 2)) ≤ v6) (some (.inr v4))
  (bd (f_X12_isCoverOf n mo v6 v1 v2) fun r_5 =>
  bc (r_5 = 0) (f_X12_areTrue_j46 n mo v6 v5 v1 v2 v3 v4)
  (bd (f_X12_has n v3 v6) fun r_7 =>
  bc (r_7 = 0) (f_X12_areTrue_j47 n mo v6 v5 v1 v2 v3 1 v4)
  (f_X12_areTrue_j46 n mo v6 v5 v1 v2 v3 v4)))
noncomputable def f_X12_areTrue_l9 (fu : Nat) (n : Nat) (mo : MV) (v5 : Int32) (v1 : Int32) (v2 : Int32) (v3 : Int32) (v6 : Int32) (v4 : Int32) : Option (Int32) :=
  lp (fun q => f_X12_areTrue_b9 n mo q.1 v5 q.2 v1 v2 v3) fu (v6, v4)
noncomputable def f_X12_areTrue_b59 (n : Nat) (mo : MV) (v6 : Int32) (v5 : Int32) (v4 : Int32) (v1 : Int32) (v2 : Int32) (v3 : Int32) : Option ((Int32 × Int32) ⊕ (Int32)) :=
  bc (100 ≤ v6) (some (.inr v5))
  (bc (v5 = 0) (bd (f_X12_canBeAt n mo v1 v2 v6 v3) fun r_11 =>
  bl (v6 + 1) fun v6_12 =>
  some (.inl (v6_12, r_11)))
  (some (.inr v5)))
noncomputable def f_X12_areTrue_l59 (fu : Nat) (n : Nat) (mo : MV) (v4 : Int32) (v1 : Int32) (v2 : Int32) (v3 : Int32) (v6 : Int32) (v5 : Int32) : Option (Int32) :=
  lp (fun q => f_X12_areTrue_b59 n mo q.1 q.2 v4 v1 v2 v3) fu (v6, v5)
noncomputable def f_X12_areTrue_j116 (n : Nat) (mo : MV) (s0 : Int32) : Option (Int32) :=
  gd (s0 = 0 ∨ s0 = 1) <| some s0
noncomputable def f_X12_areTrue_j115 (n : Nat) (mo : MV) : Option (Int32) :=
  f_X12_areTrue_j116 n mo 0
noncomputable def f_X12_areTrue_j88 (n : Nat) (mo : MV) (v5 : Int32) (v4 : Int32) (v1 : Int32) (v2 : Int32) : Option (Int32) :=
  bc (v5 = 0) (f_X12_areTrue_j115 n mo)
  (gd (vp_in (24 + v1) 235) <|
  bd (f_X12_coversAs n (mo.2.1 0 (ix (24 + v1))) v2) fun r_16 =>
  bc (r_16 < v4) (f_X12_areTrue_j115 n mo)
  (f_X12_areTrue_j116 n mo 1))
noncomputable def f_X12_areTrue (n : Nat) (mo : MV) (v1 : Int32) (v2 : Int32) (v3 : Int32) : Option (Int32) :=
  bd (f_X12_areTrue_l9 n n mo 0 v1 v2 v3 0 0) fun v4_18 =>
  bd (f_X12_areTrue_l59 n n mo v4_18 v1 v2 v3 0 0) fun v5_20 =>
  f_X12_areTrue_j88 n mo v5_20 v4_18 v1 v2
set_option maxHeartbeats 4000000 in
set_option maxRecDepth 100000 in
theorem c_X12_areTrue (l : Launch) (G : va_G) (ct : Nat → ClassId) (sk sv : Nat → Nat) (a : Nat → Nat) (n : Nat) (mo : MV) (v1 : Int32) (v2 : Int32) (v3 : Int32) {r : Int32} (hf : f_X12_areTrue n mo v1 v2 v3 = some r) : Ctr (l, G, ct, sk, sv) mX12_areTrue 2 50 [.ref (a 0), .int v1, .int v2, .int v3] (wl [lfM ct a mo]) (wl [lfM ct a mo]) (some (.int r)) := by
  refine ctr_intro (by decide) (Nat.le_of_ble_eq_true rfl) ?_
  intro p e s m args below meth c A C hP hD hS hA ls hl
  obtain ⟨hx, hb, hml, hown, hts, hr, hlocks, hK, hnm, hZ⟩ := C
  have hb : c.code = cX12_areTrue := hb
  have hml : c.maxLocals = 7 := hml
  have hown : s.vm.findClass "SignedOutsideModel" = some m.cls := hown
  have hr : meth.sig.returnType = some .boolean := hr
  have hP : va_P G classes (wl [lfM ct a mo]) s.heap := hP
  have hD : va_D A (wl [lfM ct a mo]) := hD
  have hK : va_K G classes (TYS ct) s := hK
  have hl : lv_has ls 7 [(0, .ref (a 0)), (1, .int v1), (2, .int v2), (3, .int v3)] := hl
  have L9 : ∀ (fu : Nat) (v5 : Int32) (v1 : Int32) (v2 : Int32) (v3 : Int32) (v6 : Int32) (v4 : Int32) (ex : Int32) (H : Heap) (locs : List Loc) (ls : Array Slot), va_P G classes (wl [lfM ct a mo]) H → va_D A (wl [lfM ct a mo]) → va_S A s.heap H locs → lv_has ls 7 [(6, .int v6), (5, .int v5), (4, .int v4), (0, .ref (a 0)), (1, .int v1), (2, .int v2), (3, .int v3)] → f_X12_areTrue_l9 fu n mo v5 v1 v2 v3 v6 v4 = some ex → (∀ (x : Int32), ex = x → ∀ (H : Heap) (locs : List Loc) (ls : Array Slot), va_P G classes (wl [lfM ct a mo]) H → va_D A (wl [lfM ct a mo]) → va_S A s.heap H locs → lv_has ls 7 [(5, .int v5), (4, .int x), (0, .ref (a 0)), (1, .int v1), (2, .int v2), (3, .int v3)] → WG l G ct sk sv p e (RM 2 50 0 0) s m args below meth c A (Eq2 (some (.int r)) (wl [lfM ct a mo])) H locs (F0 m 56 ls [])) → WG l G ct sk sv p e (RM 2 50 0 0) s m args below meth c A (Eq2 (some (.int r)) (wl [lfM ct a mo])) H locs (F0 m 9 ls []) := by
    intro fu
    induction fu with
    | zero =>
      intro v5 v1 v2 v3 v6 v4 ex H locs ls hP hD hS hl hf
      exact absurd hf (by unfold f_X12_areTrue_l9 lp; exact fun h => by cases h)
    | succ fu ih =>
      intro v5 v1 v2 v3 v6 v4 ex H locs ls hP hD hS hl hf hE
      unfold f_X12_areTrue_l9 at hf
      obtain ⟨q, hf, hor⟩ := lp_e hf
      have J47 : ∀ (v6 : Int32) (s0 : Int32) (s1 : Int32) (H : Heap) (locs : List Loc) (ls : Array Slot), va_P G classes (wl [lfM ct a mo]) H → va_D A (wl [lfM ct a mo]) → va_S A s.heap H locs → lv_has ls 7 [(6, .int v6), (5, .int v5), (0, .ref (a 0)), (1, .int v1), (2, .int v2), (3, .int v3)] → f_X12_areTrue_j47 n mo v6 v5 v1 v2 v3 s0 s1 = some q → WG l G ct sk sv p e (RM 2 50 0 0) s m args below meth c A (Eq2 (some (.int r)) (wl [lfM ct a mo])) H locs (F0 m 47 ls [.int s0, .int s1]) := by
        intro v6 s0 s1 H locs ls hP hD hS hl hf
        unfold f_X12_areTrue_j47 at hf
        refine lv_iadd hx hb dX12_areTrue_47 ?_
        refine lv_topi (fun v4_1 ev4_1 => ?_)
        replace hf := bl_i hf ev4_1
        refine lv_istore (lv' := [(4, .int v4_1), (6, .int v6), (5, .int v5), (0, .ref (a 0)), (1, .int v1), (2, .int v2), (3, .int v3)]) hx hb dX12_areTrue_48 hl (by decide) rfl (fun ls hl => ?_)
        obtain ⟨v6_2, ev6_2, hf⟩ := bl_e hf
        refine lv_iinc (v := v6_2) (lv' := [(6, .int v6_2), (4, .int v4_1), (5, .int v5), (0, .ref (a 0)), (1, .int v1), (2, .int v2), (3, .int v3)]) hx hb dX12_areTrue_50 hl (k := 1) rfl ev6_2 (by decide) rfl (fun ls hl => ?_)
        refine lv_goto (tgt := 9) hx hb dX12_areTrue_53 (by decide) ?_
        exact ih v5 v1 v2 v3 v6_2 v4_1 ex _ _ _ hP hD hS (lv_sub hl [0, 2, 1, 3, 4, 5, 6] rfl) (lp_inl hor hf) hE
      have J46 : ∀ (v6 : Int32) (s0 : Int32) (H : Heap) (locs : List Loc) (ls : Array Slot), va_P G classes (wl [lfM ct a mo]) H → va_D A (wl [lfM ct a mo]) → va_S A s.heap H locs → lv_has ls 7 [(6, .int v6), (5, .int v5), (0, .ref (a 0)), (1, .int v1), (2, .int v2), (3, .int v3)] → f_X12_areTrue_j46 n mo v6 v5 v1 v2 v3 s0 = some q → WG l G ct sk sv p e (RM 2 50 0 0) s m args below meth c A (Eq2 (some (.int r)) (wl [lfM ct a mo])) H locs (F0 m 46 ls [.int s0]) := by
        intro v6 s0 H locs ls hP hD hS hl hf
        unfold f_X12_areTrue_j46 at hf
        refine lv_iconst (v := 0) hx hb dX12_areTrue_46 (by decide) ?_
        exact J47 v6 0 s0 _ _ _ hP hD hS hl hf
      replace hf : f_X12_areTrue_b9 n mo v6 v5 v4 v1 v2 v3 = some q := hf
      unfold f_X12_areTrue_b9 at hf
      refine lv_iload hx hb dX12_areTrue_9 (lv_at hl 0 rfl) ?_
      refine lv_aload_n hx hb dX12_areTrue_11 rfl (lv_at hl 3 rfl) ?_
      refine va_get (D := G) (C := RX12) (T := TX12) (N := 21) (v := .ref (a 1)) hx hb hts iu_X12 hown hK hP 0 rfl rfl 0 (by decide) (hts _ kw887) (fun _ h9 => h9) rfl dX12_areTrue_12 ?_
      refine lv_iconst (v := 2) hx hb dX12_areTrue_15 (by decide) ?_
      obtain ⟨g_3, hf⟩ := gd_e hf
      refine va_iald (f := mo.2.1 0) hx hb hK hP 1 0 rfl rfl g_3 dX12_areTrue_16 ?_
      refine lv_icmp_ge (tgt := 56) hx hb dX12_areTrue_17 (by decide) (fun c_4 => ?_) (fun c_4 => ?_)
      · replace hf := bc_t hf c_4
        exact hE v4 (lp_inr hor hf).symm _ _ _ hP hD hS (lv_sub hl [1, 2, 3, 4, 5, 6] rfl)
      · replace hf := bc_f hf c_4
        refine lv_iload hx hb dX12_areTrue_20 (lv_at hl 2 rfl) ?_
        refine lv_aload_n hx hb dX12_areTrue_22 rfl (lv_at hl 3 rfl) ?_
        refine lv_iload hx hb dX12_areTrue_23 (lv_at hl 0 rfl) ?_
        refine lv_iload_n hx hb dX12_areTrue_25 rfl (lv_at hl 4 rfl) ?_
        refine lv_iload_n hx hb dX12_areTrue_26 rfl (lv_at hl 5 rfl) ?_
        obtain ⟨r_5, hc5, hf⟩ := bd_e hf
        refine call_V (As := [.int v6, .int v1, .int v2]) (rest := [.int v4]) hx hb hml hown hts hK hP hD hS hA hZ lkX12_177 (c_X12_isCoverOf l G ct sk sv a n mo v6 v1 v2 hc5) 0 rfl rfl ⟨Nat.le_of_ble_eq_true rfl, Nat.le_of_ble_eq_true rfl⟩ rfl hl.1 rfl (Nat.le_of_ble_eq_true rfl) dX12_areTrue_27 ⟨Nat.le_of_ble_eq_true rfl, Nat.le_of_ble_eq_true rfl⟩ (fun r9 w9 H locs hB hP hD hS => ?_)
        obtain ⟨rfl, rfl⟩ := hB
        refine WG_eq (g2 := F0 m 30 ls [.int r_5, .int v4]) rfl ?_
        refine lv_if_eq (tgt := 46) hx hb dX12_areTrue_30 (by decide) (fun c_6 => ?_) (fun c_6 => ?_)
        · replace hf := bc_t hf c_6
          exact J46 v6 v4 _ _ _ hP hD hS (lv_sub hl [0, 1, 3, 4, 5, 6] rfl) hf
        · replace hf := bc_f hf c_6
          refine lv_iload_n hx hb dX12_areTrue_33 rfl (lv_at hl 6 rfl) ?_
          refine lv_iload hx hb dX12_areTrue_34 (lv_at hl 0 rfl) ?_
          obtain ⟨r_7, hc7, hf⟩ := bd_e hf
          refine call_S (As := [.int v3, .int v6]) (rest := [.int v4]) hx hb hml hown hts hK hP hD hS hA hZ lkX12_181 (Ctr.upL (c_X12_has l G ct sk sv  n v3 v6 hc7) [lfM ct a mo] [lfM ct a mo] [lfM ct a mo] [0] 1 (by decide) rfl rfl rfl rfl) ⟨Nat.le_of_ble_eq_true rfl, Nat.le_of_ble_eq_true rfl⟩ rfl hl.1 rfl (Nat.le_of_ble_eq_true rfl) dX12_areTrue_36 ⟨Nat.le_of_ble_eq_true rfl, Nat.le_of_ble_eq_true rfl⟩ (fun r9 w9 H locs hB hP hD hS => ?_)
          obtain ⟨rfl, rfl⟩ := hB
          refine WG_eq (g2 := F0 m 39 ls [.int r_7, .int v4]) rfl ?_
          refine lv_if_ne (tgt := 46) hx hb dX12_areTrue_39 (by decide) (fun c_8 => ?_) (fun c_8 => ?_)
          · replace hf := bc_f hf c_8
            exact J46 v6 v4 _ _ _ hP hD hS (lv_sub hl [0, 1, 3, 4, 5, 6] rfl) hf
          · replace hf := bc_t hf c_8
            refine lv_iconst (v := 1) hx hb dX12_areTrue_42 (by decide) ?_
            refine lv_goto (tgt := 47) hx hb dX12_areTrue_43 (by decide) ?_
            exact J47 v6 1 v4 _ _ _ hP hD hS (lv_sub hl [0, 1, 3, 4, 5, 6] rfl) hf
  have L59 : ∀ (fu : Nat) (v4 : Int32) (v1 : Int32) (v2 : Int32) (v3 : Int32) (v6 : Int32) (v5 : Int32) (ex : Int32) (H : Heap) (locs : List Loc) (ls : Array Slot), va_P G classes (wl [lfM ct a mo]) H → va_D A (wl [lfM ct a mo]) → va_S A s.heap H locs → lv_has ls 7 [(6, .int v6), (5, .int v5), (4, .int v4), (0, .ref (a 0)), (1, .int v1), (2, .int v2), (3, .int v3)] → f_X12_areTrue_l59 fu n mo v4 v1 v2 v3 v6 v5 = some ex → (∀ (x : Int32), ex = x → ∀ (H : Heap) (locs : List Loc) (ls : Array Slot), va_P G classes (wl [lfM ct a mo]) H → va_D A (wl [lfM ct a mo]) → va_S A s.heap H locs → lv_has ls 7 [(5, .int x), (4, .int v4), (0, .ref (a 0)), (1, .int v1), (2, .int v2)] → WG l G ct sk sv p e (RM 2 50 0 0) s m args below meth c A (Eq2 (some (.int r)) (wl [lfM ct a mo])) H locs (F0 m 88 ls [])) → WG l G ct sk sv p e (RM 2 50 0 0) s m args below meth c A (Eq2 (some (.int r)) (wl [lfM ct a mo])) H locs (F0 m 59 ls []) := by
    intro fu
    induction fu with
    | zero =>
      intro v4 v1 v2 v3 v6 v5 ex H locs ls hP hD hS hl hf
      exact absurd hf (by unfold f_X12_areTrue_l59 lp; exact fun h => by cases h)
    | succ fu ih =>
      intro v4 v1 v2 v3 v6 v5 ex H locs ls hP hD hS hl hf hE
      unfold f_X12_areTrue_l59 at hf
      obtain ⟨q, hf, hor⟩ := lp_e hf
      replace hf : f_X12_areTrue_b59 n mo v6 v5 v4 v1 v2 v3 = some q := hf
      unfold f_X12_areTrue_b59 at hf
      refine lv_iload hx hb dX12_areTrue_59 (lv_at hl 0 rfl) ?_
      refine lv_bipush (v := 100) hx hb dX12_areTrue_61 (by decide) ?_
      refine lv_icmp_ge (tgt := 88) hx hb dX12_areTrue_63 (by decide) (fun c_9 => ?_) (fun c_9 => ?_)
      · replace hf := bc_t hf c_9
        exact hE v5 (lp_inr hor hf).symm _ _ _ hP hD hS (lv_sub hl [1, 2, 3, 4, 5] rfl)
      · replace hf := bc_f hf c_9
        refine lv_iload hx hb dX12_areTrue_66 (lv_at hl 1 rfl) ?_
        refine lv_if_ne (tgt := 88) hx hb dX12_areTrue_68 (by decide) (fun c_10 => ?_) (fun c_10 => ?_)
        · replace hf := bc_f hf c_10
          exact hE v5 (lp_inr hor hf).symm _ _ _ hP hD hS (lv_sub hl [1, 2, 3, 4, 5] rfl)
        · replace hf := bc_t hf c_10
          refine lv_aload_n hx hb dX12_areTrue_71 rfl (lv_at hl 3 rfl) ?_
          refine lv_iload_n hx hb dX12_areTrue_72 rfl (lv_at hl 4 rfl) ?_
          refine lv_iload_n hx hb dX12_areTrue_73 rfl (lv_at hl 5 rfl) ?_
          refine lv_iload hx hb dX12_areTrue_74 (lv_at hl 0 rfl) ?_
          refine lv_iload_n hx hb dX12_areTrue_76 rfl (lv_at hl 6 rfl) ?_
          obtain ⟨r_11, hc11, hf⟩ := bd_e hf
          refine call_V (As := [.int v1, .int v2, .int v6, .int v3]) (rest := []) hx hb hml hown hts hK hP hD hS hA hZ lkX12_185 (c_X12_canBeAt l G ct sk sv a n mo v1 v2 v6 v3 hc11) 0 rfl rfl ⟨Nat.le_of_ble_eq_true rfl, Nat.le_of_ble_eq_true rfl⟩ rfl hl.1 rfl (Nat.le_of_ble_eq_true rfl) dX12_areTrue_77 ⟨Nat.le_of_ble_eq_true rfl, Nat.le_of_ble_eq_true rfl⟩ (fun r9 w9 H locs hB hP hD hS => ?_)
          obtain ⟨rfl, rfl⟩ := hB
          refine WG_eq (g2 := F0 m 80 ls [.int r_11]) rfl ?_
          refine lv_istore (lv' := [(5, .int r_11), (6, .int v6), (4, .int v4), (0, .ref (a 0)), (1, .int v1), (2, .int v2), (3, .int v3)]) hx hb dX12_areTrue_80 hl (by decide) rfl (fun ls hl => ?_)
          obtain ⟨v6_12, ev6_12, hf⟩ := bl_e hf
          refine lv_iinc (v := v6_12) (lv' := [(6, .int v6_12), (5, .int r_11), (4, .int v4), (0, .ref (a 0)), (1, .int v1), (2, .int v2), (3, .int v3)]) hx hb dX12_areTrue_82 hl (k := 1) rfl ev6_12 (by decide) rfl (fun ls hl => ?_)
          refine lv_goto (tgt := 59) hx hb dX12_areTrue_85 (by decide) ?_
          exact ih v4 v1 v2 v3 v6_12 r_11 ex _ _ _ hP hD hS hl (lp_inl hor hf) hE
  have J116 : ∀ (s0 : Int32) (H : Heap) (locs : List Loc) (ls : Array Slot), va_P G classes (wl [lfM ct a mo]) H → va_D A (wl [lfM ct a mo]) → va_S A s.heap H locs → lv_has ls 7 [] → f_X12_areTrue_j116 n mo s0 = some r → WG l G ct sk sv p e (RM 2 50 0 0) s m args below meth c A (Eq2 (some (.int r)) (wl [lfM ct a mo])) H locs (F0 m 116 ls [.int s0]) := by
    intro s0 H locs ls hP hD hS hl hf
    unfold f_X12_areTrue_j116 at hf
    obtain ⟨g_13, hf⟩ := gd_e hf
    have e1 := Option.some.inj hf
    exact end_z (w' := (wl [lfM ct a mo])) hx hb hr hlocks hK hP hD hS dX12_areTrue_116 g_13 ⟨by rw [← e1], rfl⟩
  have J115 : ∀ (H : Heap) (locs : List Loc) (ls : Array Slot), va_P G classes (wl [lfM ct a mo]) H → va_D A (wl [lfM ct a mo]) → va_S A s.heap H locs → lv_has ls 7 [] → f_X12_areTrue_j115 n mo = some r → WG l G ct sk sv p e (RM 2 50 0 0) s m args below meth c A (Eq2 (some (.int r)) (wl [lfM ct a mo])) H locs (F0 m 115 ls []) := by
    intro  H locs ls hP hD hS hl hf
    unfold f_X12_areTrue_j115 at hf
    refine lv_iconst (v := 0) hx hb dX12_areTrue_115 (by decide) ?_
    exact J116 0 _ _ _ hP hD hS hl hf
  have J88 : ∀ (v5 : Int32) (v4 : Int32) (v1 : Int32) (v2 : Int32) (H : Heap) (locs : List Loc) (ls : Array Slot), va_P G classes (wl [lfM ct a mo]) H → va_D A (wl [lfM ct a mo]) → va_S A s.heap H locs → lv_has ls 7 [(5, .int v5), (4, .int v4), (0, .ref (a 0)), (1, .int v1), (2, .int v2)] → f_X12_areTrue_j88 n mo v5 v4 v1 v2 = some r → WG l G ct sk sv p e (RM 2 50 0 0) s m args below meth c A (Eq2 (some (.int r)) (wl [lfM ct a mo])) H locs (F0 m 88 ls []) := by
    intro v5 v4 v1 v2 H locs ls hP hD hS hl hf
    unfold f_X12_areTrue_j88 at hf
    refine lv_iload hx hb dX12_areTrue_88 (lv_at hl 0 rfl) ?_
    refine lv_if_eq (tgt := 115) hx hb dX12_areTrue_90 (by decide) (fun c_14 => ?_) (fun c_14 => ?_)
    · replace hf := bc_t hf c_14
      exact J115  _ _ _ hP hD hS (lv_sub hl [] rfl) hf
    · replace hf := bc_f hf c_14
      refine lv_iload hx hb dX12_areTrue_93 (lv_at hl 1 rfl) ?_
      refine lv_aload_n hx hb dX12_areTrue_95 rfl (lv_at hl 2 rfl) ?_
      refine va_get (D := G) (C := RX12) (T := TX12) (N := 21) (v := .ref (a 1)) hx hb hts iu_X12 hown hK hP 0 rfl rfl 0 (by decide) (hts _ kw887) (fun _ h9 => h9) rfl dX12_areTrue_96 ?_
      refine lv_bipush (v := 24) hx hb dX12_areTrue_99 (by decide) ?_
      refine lv_iload_n hx hb dX12_areTrue_101 rfl (lv_at hl 3 rfl) ?_
      refine lv_iadd hx hb dX12_areTrue_102 ?_
      obtain ⟨g_15, hf⟩ := gd_e hf
      refine va_iald (f := mo.2.1 0) hx hb hK hP 1 0 rfl rfl g_15 dX12_areTrue_103 ?_
      refine lv_iload_n hx hb dX12_areTrue_104 rfl (lv_at hl 4 rfl) ?_
      obtain ⟨r_16, hc16, hf⟩ := bd_e hf
      refine call_S (As := [.int (mo.2.1 0 (ix (24 + v1))), .int v2]) (rest := [.int v4]) hx hb hml hown hts hK hP hD hS hA hZ lkX12_108 (Ctr.upL (c_X12_coversAs l G ct sk sv  n (mo.2.1 0 (ix (24 + v1))) v2 hc16) [lfM ct a mo] [lfM ct a mo] [lfM ct a mo] [0] 1 (by decide) rfl rfl rfl rfl) ⟨Nat.le_of_ble_eq_true rfl, Nat.le_of_ble_eq_true rfl⟩ rfl hl.1 rfl (Nat.le_of_ble_eq_true rfl) dX12_areTrue_105 ⟨Nat.le_of_ble_eq_true rfl, Nat.le_of_ble_eq_true rfl⟩ (fun r9 w9 H locs hB hP hD hS => ?_)
      obtain ⟨rfl, rfl⟩ := hB
      refine WG_eq (g2 := F0 m 108 ls [.int r_16, .int v4]) rfl ?_
      refine lv_icmp_gt (tgt := 115) hx hb dX12_areTrue_108 (by decide) (fun c_17 => ?_) (fun c_17 => ?_)
      · replace hf := bc_t hf c_17
        exact J115  _ _ _ hP hD hS (lv_sub hl [] rfl) hf
      · replace hf := bc_f hf c_17
        refine lv_iconst (v := 1) hx hb dX12_areTrue_111 (by decide) ?_
        refine lv_goto (tgt := 116) hx hb dX12_areTrue_112 (by decide) ?_
        exact J116 1 _ _ _ hP hD hS (lv_sub hl [] rfl) hf
  unfold f_X12_areTrue at hf
  show WG l G ct sk sv p e (RM 2 50 0 0) s m args below meth c A (Eq2 (some (.int r)) (wl [lfM ct a mo])) s.heap [] (F0 m 0 ls [])
  refine lv_iconst (v := 0) hx hb dX12_areTrue_0 (by decide) ?_
  refine lv_istore (lv' := [(4, .int 0), (0, .ref (a 0)), (1, .int v1), (2, .int v2), (3, .int v3)]) hx hb dX12_areTrue_1 hl (by decide) rfl (fun ls hl => ?_)
  refine lv_iconst (v := 0) hx hb dX12_areTrue_3 (by decide) ?_
  refine lv_istore (lv' := [(5, .int 0), (4, .int 0), (0, .ref (a 0)), (1, .int v1), (2, .int v2), (3, .int v3)]) hx hb dX12_areTrue_4 hl (by decide) rfl (fun ls hl => ?_)
  refine lv_iconst (v := 0) hx hb dX12_areTrue_6 (by decide) ?_
  refine lv_istore (lv' := [(6, .int 0), (5, .int 0), (4, .int 0), (0, .ref (a 0)), (1, .int v1), (2, .int v2), (3, .int v3)]) hx hb dX12_areTrue_7 hl (by decide) rfl (fun ls hl => ?_)
  obtain ⟨v4_18, hx_19, hf⟩ := bd_e hf
  refine L9 n 0 v1 v2 v3 0 0 v4_18 _ _ _ hP hD hS hl hx_19 ?_
  intro x9 e9 H locs ls hP hD hS hl
  subst e9
  have hP : va_P G classes (wl [lfM ct a mo]) H := hP
  have hD : va_D A (wl [lfM ct a mo]) := hD
  have hl : lv_has ls 7 [(5, .int 0), (4, .int v4_18), (0, .ref (a 0)), (1, .int v1), (2, .int v2), (3, .int v3)] := hl
  refine lv_iconst (v := 0) hx hb dX12_areTrue_56 (by decide) ?_
  refine lv_istore (lv' := [(6, .int 0), (5, .int 0), (4, .int v4_18), (0, .ref (a 0)), (1, .int v1), (2, .int v2), (3, .int v3)]) hx hb dX12_areTrue_57 hl (by decide) rfl (fun ls hl => ?_)
  obtain ⟨v5_20, hx_21, hf⟩ := bd_e hf
  refine L59 n v4_18 v1 v2 v3 0 0 v5_20 _ _ _ hP hD hS hl hx_21 ?_
  intro x9 e9 H locs ls hP hD hS hl
  subst e9
  have hP : va_P G classes (wl [lfM ct a mo]) H := hP
  have hD : va_D A (wl [lfM ct a mo]) := hD
  have hl : lv_has ls 7 [(5, .int v5_20), (4, .int v4_18), (0, .ref (a 0)), (1, .int v1), (2, .int v2)] := hl
  exact J88 v5_20 v4_18 v1 v2 _ _ _ hP hD hS hl hf
noncomputable def f_X12_begin_b2 (n : Nat) (z : Nat) (t : (Nat → Int32)) (v1 : Int32) : Option ((Int32 × (Nat → Int32)) ⊕ ((Nat → Int32))) :=
  bc (83 ≤ v1) (some (.inr t))
  (gd (vp_in v1 z) <|
  bl (upd t (ix v1) 0) fun t_3 =>
  bl (v1 + 1) fun v1_4 =>
  some (.inl (v1_4, t_3)))
noncomputable def f_X12_begin_l2 (fu : Nat) (n : Nat) (z : Nat) (t : (Nat → Int32)) (v1 : Int32) : Option ((Nat → Int32)) :=
  lp (fun q => f_X12_begin_b2 n z q.2 q.1) fu (v1, t)
noncomputable def f_X12_begin_b20 (n : Nat) (z : Nat) (t : (Nat → Int32)) (v1 : Int32) : Option ((Int32 × (Nat → Int32)) ⊕ ((Nat → Int32))) :=
  bc (6 ≤ v1) (some (.inr t))
  (gd (vp_in (5 + v1) z) <|
  bl (upd t (ix (5 + v1)) (-1)) fun t_7 =>
  bl (v1 + 1) fun v1_8 =>
  some (.inl (v1_8, t_7)))
noncomputable def f_X12_begin_l20 (fu : Nat) (n : Nat) (z : Nat) (t : (Nat → Int32)) (v1 : Int32) : Option ((Nat → Int32)) :=
  lp (fun q => f_X12_begin_b20 n z q.2 q.1) fu (v1, t)
noncomputable def f_X12_begin (n : Nat) (z : Nat) (t : (Nat → Int32)) : Option ((Nat → Int32)) :=
  bd (f_X12_begin_l2 n n z t 0) fun t_9 =>
  bd (f_X12_begin_l20 n n z t_9 0) fun t_11 =>
  some t_11
set_option maxHeartbeats 4000000 in
set_option maxRecDepth 100000 in
theorem c_X12_begin (l : Launch) (G : va_G) (ct : Nat → ClassId) (sk sv : Nat → Nat) (a : Nat → Nat) (n : Nat) (z : Nat) (t : (Nat → Int32)) {t' : (Nat → Int32)} (hf : f_X12_begin n z t = some t') : Ctr (l, G, ct, sk, sv) mX12_begin 0 0 [.ref (a 0)] (wl [lfA ct a z t]) (wl [lfA ct a z t']) (none) := by
  refine ctr_intro (by decide) (Nat.le_of_ble_eq_true rfl) ?_
  intro p e s m args below meth c A C hP hD hS hA ls hl
  obtain ⟨hx, hb, hml, hown, hts, hr, hlocks, hK, hnm, hZ⟩ := C
  have hb : c.code = cX12_begin := hb
  have hml : c.maxLocals = 2 := hml
  have hown : s.vm.findClass "SignedOutsideModel" = some m.cls := hown
  have hr : meth.sig.returnType = none := hr
  have hP : va_P G classes (wl [lfA ct a z t]) s.heap := hP
  have hD : va_D A (wl [lfA ct a z t]) := hD
  have hK : va_K G classes (TYS ct) s := hK
  have hl : lv_has ls 2 [(0, .ref (a 0))] := hl
  have L2 : ∀ (fu : Nat) (t : (Nat → Int32)) (v1 : Int32) (ex : (Nat → Int32)) (H : Heap) (locs : List Loc) (ls : Array Slot), va_P G classes (wl [lfA ct a z t]) H → va_D A (wl [lfA ct a z t]) → va_S A s.heap H locs → lv_has ls 2 [(1, .int v1), (0, .ref (a 0))] → f_X12_begin_l2 fu n z t v1 = some ex → (∀ (x : (Nat → Int32)), ex = x → ∀ (H : Heap) (locs : List Loc) (ls : Array Slot), va_P G classes (wl [lfA ct a z x]) H → va_D A (wl [lfA ct a z x]) → va_S A s.heap H locs → lv_has ls 2 [(0, .ref (a 0))] → WG l G ct sk sv p e (RM 0 0 0 0) s m args below meth c A (Eq2 (none) (wl [lfA ct a z t'])) H locs (F0 m 18 ls [])) → WG l G ct sk sv p e (RM 0 0 0 0) s m args below meth c A (Eq2 (none) (wl [lfA ct a z t'])) H locs (F0 m 2 ls []) := by
    intro fu
    induction fu with
    | zero =>
      intro t v1 ex H locs ls hP hD hS hl hf
      exact absurd hf (by unfold f_X12_begin_l2 lp; exact fun h => by cases h)
    | succ fu ih =>
      intro t v1 ex H locs ls hP hD hS hl hf hE
      unfold f_X12_begin_l2 at hf
      obtain ⟨q, hf, hor⟩ := lp_e hf
      replace hf : f_X12_begin_b2 n z t v1 = some q := hf
      unfold f_X12_begin_b2 at hf
      refine lv_iload_n hx hb dX12_begin_2 rfl (lv_at hl 0 rfl) ?_
      refine lv_bipush (v := 83) hx hb dX12_begin_3 (by decide) ?_
      refine lv_icmp_ge (tgt := 18) hx hb dX12_begin_5 (by decide) (fun c_1 => ?_) (fun c_1 => ?_)
      · replace hf := bc_t hf c_1
        exact hE t (lp_inr hor hf).symm _ _ _ hP hD hS (lv_sub hl [1] rfl)
      · replace hf := bc_f hf c_1
        refine lv_aload_n hx hb dX12_begin_8 rfl (lv_at hl 1 rfl) ?_
        refine lv_iload_n hx hb dX12_begin_9 rfl (lv_at hl 0 rfl) ?_
        refine lv_iconst (v := 0) hx hb dX12_begin_10 (by decide) ?_
        obtain ⟨g_2, hf⟩ := gd_e hf
        obtain ⟨t_3, et_3, hf⟩ := bl_e hf
        refine va_iast hx hb hK hP hD hS 0 0 rfl rfl g_2 dX12_begin_11 (fun H locs hP hD hS => ?_)
        have hP : va_P G classes (wl [lfA ct a z t_3]) H := by rw [← et_3]; exact hP
        have hD : va_D A (wl [lfA ct a z t_3]) := by rw [← et_3]; exact hD
        obtain ⟨v1_4, ev1_4, hf⟩ := bl_e hf
        refine lv_iinc (v := v1_4) (lv' := [(1, .int v1_4), (0, .ref (a 0))]) hx hb dX12_begin_12 hl (k := 0) rfl ev1_4 (by decide) rfl (fun ls hl => ?_)
        refine lv_goto (tgt := 2) hx hb dX12_begin_15 (by decide) ?_
        exact ih t_3 v1_4 ex _ _ _ hP hD hS hl (lp_inl hor hf) hE
  have L20 : ∀ (fu : Nat) (t : (Nat → Int32)) (v1 : Int32) (ex : (Nat → Int32)) (H : Heap) (locs : List Loc) (ls : Array Slot), va_P G classes (wl [lfA ct a z t]) H → va_D A (wl [lfA ct a z t]) → va_S A s.heap H locs → lv_has ls 2 [(1, .int v1), (0, .ref (a 0))] → f_X12_begin_l20 fu n z t v1 = some ex → (∀ (x : (Nat → Int32)), ex = x → ∀ (H : Heap) (locs : List Loc) (ls : Array Slot), va_P G classes (wl [lfA ct a z x]) H → va_D A (wl [lfA ct a z x]) → va_S A s.heap H locs → lv_has ls 2 [] → WG l G ct sk sv p e (RM 0 0 0 0) s m args below meth c A (Eq2 (none) (wl [lfA ct a z t'])) H locs (F0 m 38 ls [])) → WG l G ct sk sv p e (RM 0 0 0 0) s m args below meth c A (Eq2 (none) (wl [lfA ct a z t'])) H locs (F0 m 20 ls []) := by
    intro fu
    induction fu with
    | zero =>
      intro t v1 ex H locs ls hP hD hS hl hf
      exact absurd hf (by unfold f_X12_begin_l20 lp; exact fun h => by cases h)
    | succ fu ih =>
      intro t v1 ex H locs ls hP hD hS hl hf hE
      unfold f_X12_begin_l20 at hf
      obtain ⟨q, hf, hor⟩ := lp_e hf
      replace hf : f_X12_begin_b20 n z t v1 = some q := hf
      unfold f_X12_begin_b20 at hf
      refine lv_iload_n hx hb dX12_begin_20 rfl (lv_at hl 0 rfl) ?_
      refine lv_bipush (v := 6) hx hb dX12_begin_21 (by decide) ?_
      refine lv_icmp_ge (tgt := 38) hx hb dX12_begin_23 (by decide) (fun c_5 => ?_) (fun c_5 => ?_)
      · replace hf := bc_t hf c_5
        exact hE t (lp_inr hor hf).symm _ _ _ hP hD hS (lv_sub hl [] rfl)
      · replace hf := bc_f hf c_5
        refine lv_aload_n hx hb dX12_begin_26 rfl (lv_at hl 1 rfl) ?_
        refine lv_iconst (v := 5) hx hb dX12_begin_27 (by decide) ?_
        refine lv_iload_n hx hb dX12_begin_28 rfl (lv_at hl 0 rfl) ?_
        refine lv_iadd hx hb dX12_begin_29 ?_
        refine lv_iconst (v := (-1)) hx hb dX12_begin_30 (by decide) ?_
        obtain ⟨g_6, hf⟩ := gd_e hf
        obtain ⟨t_7, et_7, hf⟩ := bl_e hf
        refine va_iast hx hb hK hP hD hS 0 0 rfl rfl g_6 dX12_begin_31 (fun H locs hP hD hS => ?_)
        have hP : va_P G classes (wl [lfA ct a z t_7]) H := by rw [← et_7]; exact hP
        have hD : va_D A (wl [lfA ct a z t_7]) := by rw [← et_7]; exact hD
        obtain ⟨v1_8, ev1_8, hf⟩ := bl_e hf
        refine lv_iinc (v := v1_8) (lv' := [(1, .int v1_8), (0, .ref (a 0))]) hx hb dX12_begin_32 hl (k := 0) rfl ev1_8 (by decide) rfl (fun ls hl => ?_)
        refine lv_goto (tgt := 20) hx hb dX12_begin_35 (by decide) ?_
        exact ih t_7 v1_8 ex _ _ _ hP hD hS hl (lp_inl hor hf) hE
  unfold f_X12_begin at hf
  show WG l G ct sk sv p e (RM 0 0 0 0) s m args below meth c A (Eq2 (none) (wl [lfA ct a z t'])) s.heap [] (F0 m 0 ls [])
  refine lv_iconst (v := 0) hx hb dX12_begin_0 (by decide) ?_
  refine lv_istore_n (lv' := [(1, .int 0), (0, .ref (a 0))]) hx hb dX12_begin_1 rfl hl (by decide) rfl (fun ls hl => ?_)
  obtain ⟨t_9, hx_10, hf⟩ := bd_e hf
  refine L2 n t 0 t_9 _ _ _ hP hD hS hl hx_10 ?_
  intro x9 e9 H locs ls hP hD hS hl
  subst e9
  have hP : va_P G classes (wl [lfA ct a z t_9]) H := hP
  have hD : va_D A (wl [lfA ct a z t_9]) := hD
  have hl : lv_has ls 2 [(0, .ref (a 0))] := hl
  refine lv_iconst (v := 0) hx hb dX12_begin_18 (by decide) ?_
  refine lv_istore_n (lv' := [(1, .int 0), (0, .ref (a 0))]) hx hb dX12_begin_19 rfl hl (by decide) rfl (fun ls hl => ?_)
  obtain ⟨t_11, hx_12, hf⟩ := bd_e hf
  refine L20 n t_9 0 t_11 _ _ _ hP hD hS hl hx_12 ?_
  intro x9 e9 H locs ls hP hD hS hl
  subst e9
  have hP : va_P G classes (wl [lfA ct a z t_11]) H := hP
  have hD : va_D A (wl [lfA ct a z t_11]) := hD
  have hl : lv_has ls 2 [] := hl
  have e1 := Option.some.inj hf
  exact end_v (w' := (wl [lfA ct a z t_11])) hx hb hr hlocks hK hP hD hS dX12_begin_38  ⟨rfl, by rw [← e1]⟩
noncomputable def f_X12_bits_b4 (n : Nat) (v2 : Int32) (v1 : Int32) : Option ((Int32 × Int32) ⊕ (Int32)) :=
  bc (v2 ≤ 0) (some (.inr v1))
  (bl (v1 + (v2 &&& 1)) fun v1_2 =>
  bl (v2 >>> (1 &&& 31)) fun v2_3 =>
  some (.inl (v2_3, v1_2)))
noncomputable def f_X12_bits_l4 (fu : Nat) (n : Nat) (v2 : Int32) (v1 : Int32) : Option (Int32) :=
  lp (fun q => f_X12_bits_b4 n q.1 q.2) fu (v2, v1)
noncomputable def f_X12_bits (n : Nat) (v0 : Int32) : Option (Int32) :=
  bd (f_X12_bits_l4 n n v0 0) fun v1_4 =>
  some v1_4
set_option maxHeartbeats 4000000 in
set_option maxRecDepth 100000 in
theorem c_X12_bits (l : Launch) (G : va_G) (ct : Nat → ClassId) (sk sv : Nat → Nat)  (n : Nat) (v0 : Int32) {r : Int32} (hf : f_X12_bits n v0 = some r) : Ctr (l, G, ct, sk, sv) mX12_bits 0 0 [.int v0] (wl []) (wl []) (some (.int r)) := by
  refine ctr_intro (by decide) (Nat.le_of_ble_eq_true rfl) ?_
  intro p e s m args below meth c A C hP hD hS hA ls hl
  obtain ⟨hx, hb, hml, hown, hts, hr, hlocks, hK, hnm, hZ⟩ := C
  have hb : c.code = cX12_bits := hb
  have hml : c.maxLocals = 3 := hml
  have hown : s.vm.findClass "SignedOutsideModel" = some m.cls := hown
  have hr : meth.sig.returnType = some .int := hr
  have hP : va_P G classes (wl []) s.heap := hP
  have hD : va_D A (wl []) := hD
  have hK : va_K G classes (TYS ct) s := hK
  have hl : lv_has ls 3 [(0, .int v0)] := hl
  have L4 : ∀ (fu : Nat) (v2 : Int32) (v1 : Int32) (ex : Int32) (H : Heap) (locs : List Loc) (ls : Array Slot), va_P G classes (wl []) H → va_D A (wl []) → va_S A s.heap H locs → lv_has ls 3 [(2, .int v2), (1, .int v1)] → f_X12_bits_l4 fu n v2 v1 = some ex → (∀ (x : Int32), ex = x → ∀ (H : Heap) (locs : List Loc) (ls : Array Slot), va_P G classes (wl []) H → va_D A (wl []) → va_S A s.heap H locs → lv_has ls 3 [(1, .int x)] → WG l G ct sk sv p e (RM 0 0 0 0) s m args below meth c A (Eq2 (some (.int r)) (wl [])) H locs (F0 m 21 ls [])) → WG l G ct sk sv p e (RM 0 0 0 0) s m args below meth c A (Eq2 (some (.int r)) (wl [])) H locs (F0 m 4 ls []) := by
    intro fu
    induction fu with
    | zero =>
      intro v2 v1 ex H locs ls hP hD hS hl hf
      exact absurd hf (by unfold f_X12_bits_l4 lp; exact fun h => by cases h)
    | succ fu ih =>
      intro v2 v1 ex H locs ls hP hD hS hl hf hE
      unfold f_X12_bits_l4 at hf
      obtain ⟨q, hf, hor⟩ := lp_e hf
      replace hf : f_X12_bits_b4 n v2 v1 = some q := hf
      unfold f_X12_bits_b4 at hf
      refine lv_iload_n hx hb dX12_bits_4 rfl (lv_at hl 0 rfl) ?_
      refine lv_if_le (tgt := 21) hx hb dX12_bits_5 (by decide) (fun c_1 => ?_) (fun c_1 => ?_)
      · replace hf := bc_t hf c_1
        exact hE v1 (lp_inr hor hf).symm _ _ _ hP hD hS (lv_sub hl [1] rfl)
      · replace hf := bc_f hf c_1
        refine lv_iload_n hx hb dX12_bits_8 rfl (lv_at hl 1 rfl) ?_
        refine lv_iload_n hx hb dX12_bits_9 rfl (lv_at hl 0 rfl) ?_
        refine lv_iconst (v := 1) hx hb dX12_bits_10 (by decide) ?_
        refine lv_iand hx hb dX12_bits_11 ?_
        refine lv_iadd hx hb dX12_bits_12 ?_
        refine lv_topi (fun v1_2 ev1_2 => ?_)
        replace hf := bl_i hf ev1_2
        refine lv_istore_n (lv' := [(1, .int v1_2), (2, .int v2)]) hx hb dX12_bits_13 rfl hl (by decide) rfl (fun ls hl => ?_)
        refine lv_iload_n hx hb dX12_bits_14 rfl (lv_at hl 1 rfl) ?_
        refine lv_iconst (v := 1) hx hb dX12_bits_15 (by decide) ?_
        refine lv_ishr hx hb dX12_bits_16 ?_
        refine lv_topi (fun v2_3 ev2_3 => ?_)
        replace hf := bl_i hf ev2_3
        refine lv_istore_n (lv' := [(2, .int v2_3), (1, .int v1_2)]) hx hb dX12_bits_17 rfl hl (by decide) rfl (fun ls hl => ?_)
        refine lv_goto (tgt := 4) hx hb dX12_bits_18 (by decide) ?_
        exact ih v2_3 v1_2 ex _ _ _ hP hD hS hl (lp_inl hor hf) hE
  unfold f_X12_bits at hf
  show WG l G ct sk sv p e (RM 0 0 0 0) s m args below meth c A (Eq2 (some (.int r)) (wl [])) s.heap [] (F0 m 0 ls [])
  refine lv_iconst (v := 0) hx hb dX12_bits_0 (by decide) ?_
  refine lv_istore_n (lv' := [(1, .int 0), (0, .int v0)]) hx hb dX12_bits_1 rfl hl (by decide) rfl (fun ls hl => ?_)
  refine lv_iload_n hx hb dX12_bits_2 rfl (lv_at hl 1 rfl) ?_
  refine lv_istore_n (lv' := [(2, .int v0), (1, .int 0), (0, .int v0)]) hx hb dX12_bits_3 rfl hl (by decide) rfl (fun ls hl => ?_)
  obtain ⟨v1_4, hx_5, hf⟩ := bd_e hf
  refine L4 n v0 0 v1_4 _ _ _ hP hD hS (lv_sub hl [0, 1] rfl) hx_5 ?_
  intro x9 e9 H locs ls hP hD hS hl
  subst e9
  have hP : va_P G classes (wl []) H := hP
  have hD : va_D A (wl []) := hD
  have hl : lv_has ls 3 [(1, .int v1_4)] := hl
  refine lv_iload_n hx hb dX12_bits_21 rfl (lv_at hl 0 rfl) ?_
  have e1 := Option.some.inj hf
  exact end_i (w' := (wl [])) hx hb hr hlocks hK hP hD hS dX12_bits_22  ⟨by rw [← e1], rfl⟩
noncomputable def f_X12_clear (n : Nat) (mo : MV) : Option (Int32 × MV) :=
  bl (mo.1 0) fun v1_1 =>
  bl (setS mo 0 0) fun mo_2 =>
  some (v1_1, mo_2)
set_option maxHeartbeats 4000000 in
set_option maxRecDepth 100000 in
theorem c_X12_clear (l : Launch) (G : va_G) (ct : Nat → ClassId) (sk sv : Nat → Nat) (a : Nat → Nat) (n : Nat) (mo : MV) {r : Int32} {mo' : MV} (hf : f_X12_clear n mo = some (r, mo')) : Ctr (l, G, ct, sk, sv) mX12_clear 0 0 [.ref (a 0)] (wl [lfM ct a mo]) (wl [lfM ct a mo']) (some (.int r)) := by
  refine ctr_intro (by decide) (Nat.le_of_ble_eq_true rfl) ?_
  intro p e s m args below meth c A C hP hD hS hA ls hl
  obtain ⟨hx, hb, hml, hown, hts, hr, hlocks, hK, hnm, hZ⟩ := C
  have hb : c.code = cX12_clear := hb
  have hml : c.maxLocals = 2 := hml
  have hown : s.vm.findClass "SignedOutsideModel" = some m.cls := hown
  have hr : meth.sig.returnType = some .int := hr
  have hP : va_P G classes (wl [lfM ct a mo]) s.heap := hP
  have hD : va_D A (wl [lfM ct a mo]) := hD
  have hK : va_K G classes (TYS ct) s := hK
  have hl : lv_has ls 2 [(0, .ref (a 0))] := hl
  unfold f_X12_clear at hf
  show WG l G ct sk sv p e (RM 0 0 0 0) s m args below meth c A (Eq2 (some (.int r)) (wl [lfM ct a mo'])) s.heap [] (F0 m 0 ls [])
  refine lv_aload_n hx hb dX12_clear_0 rfl (lv_at hl 0 rfl) ?_
  refine va_get (D := G) (C := RX12) (T := TX12) (N := 21) (v := .int (mo.1 0)) hx hb hts iu_X12 hown hK hP 0 rfl rfl 14 (by decide) (hts _ kw901) (fun _ h9 => h9) rfl dX12_clear_1 ?_
  refine lv_topi (fun v1_1 ev1_1 => ?_)
  replace hf := bl_i hf ev1_1
  refine lv_istore_n (lv' := [(1, .int v1_1), (0, .ref (a 0))]) hx hb dX12_clear_4 rfl hl (by decide) rfl (fun ls hl => ?_)
  refine lv_aload_n hx hb dX12_clear_5 rfl (lv_at hl 1 rfl) ?_
  refine lv_iconst (v := 0) hx hb dX12_clear_6 (by decide) ?_
  obtain ⟨mo_2, emo_2, hf⟩ := bl_e hf
  refine va_put (D := G) (C := RX12) (T := TX12) (N := 21) (ty := .int) hx hb hts iu_X12 tyX12 tyX12_ok nmX12 hown hK hP hD hS 0 rfl rfl 14 (by decide) (hts _ kw901) (fun _ h9 => h9) rfl (by decide +kernel) rfl rfl (Nat.le_of_ble_eq_true rfl) dX12_clear_7 (fun H locs hP hD hS => ?_)
  have hP : va_P G classes (wl [lfM ct a mo_2]) H := by rw [← emo_2]; exact hP
  have hD : va_D A (wl [lfM ct a mo_2]) := by rw [← emo_2]; exact hD
  refine lv_iload_n hx hb dX12_clear_10 rfl (lv_at hl 0 rfl) ?_
  obtain ⟨e1, e2⟩ := inj2 (Option.some.inj hf)
  exact end_i (w' := (wl [lfM ct a mo_2])) hx hb hr hlocks hK hP hD hS dX12_clear_11  ⟨by rw [← e1], by rw [← e2]⟩
noncomputable def f_X12_manyLie_j26 (n : Nat) (mo : MV) (v2 : Int32) (s0 : Int32) (s1 : Int32) : Option ((Int32 × Int32) ⊕ (Int32)) :=
  bl (s1 + s0) fun v1_1 =>
  bl (v2 + 1) fun v2_2 =>
  some (.inl (v2_2, v1_1))
noncomputable def f_X12_manyLie_b4 (n : Nat) (mo : MV) (v2 : Int32) (v1 : Int32) : Option ((Int32 × Int32) ⊕ (Int32)) :=
  bd (f_X12_letters n mo) fun r_3 =>
  bc (r_3 ≤ v2) (some (.inr v1))
  (bd (f_X12_lies n mo v2) fun r_5 =>
  bc (r_5 = 0) (f_X12_manyLie_j26 n mo v2 0 v1)
  (f_X12_manyLie_j26 n mo v2 1 v1))
noncomputable def f_X12_manyLie_l4 (fu : Nat) (n : Nat) (mo : MV) (v2 : Int32) (v1 : Int32) : Option (Int32) :=
  lp (fun q => f_X12_manyLie_b4 n mo q.1 q.2) fu (v2, v1)
noncomputable def f_X12_manyLie (n : Nat) (mo : MV) : Option (Int32) :=
  bd (f_X12_manyLie_l4 n n mo 0 0) fun v1_7 =>
  some v1_7
set_option maxHeartbeats 4000000 in
set_option maxRecDepth 100000 in
theorem c_X12_manyLie (l : Launch) (G : va_G) (ct : Nat → ClassId) (sk sv : Nat → Nat) (a : Nat → Nat) (n : Nat) (mo : MV) {r : Int32} (hf : f_X12_manyLie n mo = some r) : Ctr (l, G, ct, sk, sv) mX12_manyLie 1 21 [.ref (a 0)] (wl [lfM ct a mo]) (wl [lfM ct a mo]) (some (.int r)) := by
  refine ctr_intro (by decide) (Nat.le_of_ble_eq_true rfl) ?_
  intro p e s m args below meth c A C hP hD hS hA ls hl
  obtain ⟨hx, hb, hml, hown, hts, hr, hlocks, hK, hnm, hZ⟩ := C
  have hb : c.code = cX12_manyLie := hb
  have hml : c.maxLocals = 3 := hml
  have hown : s.vm.findClass "SignedOutsideModel" = some m.cls := hown
  have hr : meth.sig.returnType = some .int := hr
  have hP : va_P G classes (wl [lfM ct a mo]) s.heap := hP
  have hD : va_D A (wl [lfM ct a mo]) := hD
  have hK : va_K G classes (TYS ct) s := hK
  have hl : lv_has ls 3 [(0, .ref (a 0))] := hl
  have L4 : ∀ (fu : Nat) (v2 : Int32) (v1 : Int32) (ex : Int32) (H : Heap) (locs : List Loc) (ls : Array Slot), va_P G classes (wl [lfM ct a mo]) H → va_D A (wl [lfM ct a mo]) → va_S A s.heap H locs → lv_has ls 3 [(2, .int v2), (1, .int v1), (0, .ref (a 0))] → f_X12_manyLie_l4 fu n mo v2 v1 = some ex → (∀ (x : Int32), ex = x → ∀ (H : Heap) (locs : List Loc) (ls : Array Slot), va_P G classes (wl [lfM ct a mo]) H → va_D A (wl [lfM ct a mo]) → va_S A s.heap H locs → lv_has ls 3 [(1, .int x)] → WG l G ct sk sv p e (RM 1 21 0 0) s m args below meth c A (Eq2 (some (.int r)) (wl [lfM ct a mo])) H locs (F0 m 34 ls [])) → WG l G ct sk sv p e (RM 1 21 0 0) s m args below meth c A (Eq2 (some (.int r)) (wl [lfM ct a mo])) H locs (F0 m 4 ls []) := by
    intro fu
    induction fu with
    | zero =>
      intro v2 v1 ex H locs ls hP hD hS hl hf
      exact absurd hf (by unfold f_X12_manyLie_l4 lp; exact fun h => by cases h)
    | succ fu ih =>
      intro v2 v1 ex H locs ls hP hD hS hl hf hE
      unfold f_X12_manyLie_l4 at hf
      obtain ⟨q, hf, hor⟩ := lp_e hf
      have J26 : ∀ (v2 : Int32) (s0 : Int32) (s1 : Int32) (H : Heap) (locs : List Loc) (ls : Array Slot), va_P G classes (wl [lfM ct a mo]) H → va_D A (wl [lfM ct a mo]) → va_S A s.heap H locs → lv_has ls 3 [(2, .int v2), (0, .ref (a 0))] → f_X12_manyLie_j26 n mo v2 s0 s1 = some q → WG l G ct sk sv p e (RM 1 21 0 0) s m args below meth c A (Eq2 (some (.int r)) (wl [lfM ct a mo])) H locs (F0 m 26 ls [.int s0, .int s1]) := by
        intro v2 s0 s1 H locs ls hP hD hS hl hf
        unfold f_X12_manyLie_j26 at hf
        refine lv_iadd hx hb dX12_manyLie_26 ?_
        refine lv_topi (fun v1_1 ev1_1 => ?_)
        replace hf := bl_i hf ev1_1
        refine lv_istore_n (lv' := [(1, .int v1_1), (2, .int v2), (0, .ref (a 0))]) hx hb dX12_manyLie_27 rfl hl (by decide) rfl (fun ls hl => ?_)
        obtain ⟨v2_2, ev2_2, hf⟩ := bl_e hf
        refine lv_iinc (v := v2_2) (lv' := [(2, .int v2_2), (1, .int v1_1), (0, .ref (a 0))]) hx hb dX12_manyLie_28 hl (k := 1) rfl ev2_2 (by decide) rfl (fun ls hl => ?_)
        refine lv_goto (tgt := 4) hx hb dX12_manyLie_31 (by decide) ?_
        exact ih v2_2 v1_1 ex _ _ _ hP hD hS hl (lp_inl hor hf) hE
      replace hf : f_X12_manyLie_b4 n mo v2 v1 = some q := hf
      unfold f_X12_manyLie_b4 at hf
      refine lv_iload_n hx hb dX12_manyLie_4 rfl (lv_at hl 0 rfl) ?_
      refine lv_aload_n hx hb dX12_manyLie_5 rfl (lv_at hl 2 rfl) ?_
      obtain ⟨r_3, hc3, hf⟩ := bd_e hf
      refine call_V (As := []) (rest := [.int v2]) hx hb hml hown hts hK hP hD hS hA hZ lkX12_69 (c_X12_letters l G ct sk sv a n mo hc3) 0 rfl rfl ⟨Nat.le_of_ble_eq_true rfl, Nat.le_of_ble_eq_true rfl⟩ rfl hl.1 rfl (Nat.le_of_ble_eq_true rfl) dX12_manyLie_6 ⟨Nat.le_of_ble_eq_true rfl, Nat.le_of_ble_eq_true rfl⟩ (fun r9 w9 H locs hB hP hD hS => ?_)
      obtain ⟨rfl, rfl⟩ := hB
      refine WG_eq (g2 := F0 m 9 ls [.int r_3, .int v2]) rfl ?_
      refine lv_icmp_ge (tgt := 34) hx hb dX12_manyLie_9 (by decide) (fun c_4 => ?_) (fun c_4 => ?_)
      · replace hf := bc_t hf c_4
        exact hE v1 (lp_inr hor hf).symm _ _ _ hP hD hS (lv_sub hl [1] rfl)
      · replace hf := bc_f hf c_4
        refine lv_iload_n hx hb dX12_manyLie_12 rfl (lv_at hl 1 rfl) ?_
        refine lv_aload_n hx hb dX12_manyLie_13 rfl (lv_at hl 2 rfl) ?_
        refine lv_iload_n hx hb dX12_manyLie_14 rfl (lv_at hl 0 rfl) ?_
        obtain ⟨r_5, hc5, hf⟩ := bd_e hf
        refine call_V (As := [.int v2]) (rest := [.int v1]) hx hb hml hown hts hK hP hD hS hA hZ lkX12_134 (c_X12_lies l G ct sk sv a n mo v2 hc5) 0 rfl rfl ⟨Nat.le_of_ble_eq_true rfl, Nat.le_of_ble_eq_true rfl⟩ rfl hl.1 rfl (Nat.le_of_ble_eq_true rfl) dX12_manyLie_15 ⟨Nat.le_of_ble_eq_true rfl, Nat.le_of_ble_eq_true rfl⟩ (fun r9 w9 H locs hB hP hD hS => ?_)
        obtain ⟨rfl, rfl⟩ := hB
        refine WG_eq (g2 := F0 m 18 ls [.int r_5, .int v1]) rfl ?_
        refine lv_if_eq (tgt := 25) hx hb dX12_manyLie_18 (by decide) (fun c_6 => ?_) (fun c_6 => ?_)
        · replace hf := bc_t hf c_6
          refine lv_iconst (v := 0) hx hb dX12_manyLie_25 (by decide) ?_
          exact J26 v2 0 v1 _ _ _ hP hD hS (lv_sub hl [0, 2] rfl) hf
        · replace hf := bc_f hf c_6
          refine lv_iconst (v := 1) hx hb dX12_manyLie_21 (by decide) ?_
          refine lv_goto (tgt := 26) hx hb dX12_manyLie_22 (by decide) ?_
          exact J26 v2 1 v1 _ _ _ hP hD hS (lv_sub hl [0, 2] rfl) hf
  unfold f_X12_manyLie at hf
  show WG l G ct sk sv p e (RM 1 21 0 0) s m args below meth c A (Eq2 (some (.int r)) (wl [lfM ct a mo])) s.heap [] (F0 m 0 ls [])
  refine lv_iconst (v := 0) hx hb dX12_manyLie_0 (by decide) ?_
  refine lv_istore_n (lv' := [(1, .int 0), (0, .ref (a 0))]) hx hb dX12_manyLie_1 rfl hl (by decide) rfl (fun ls hl => ?_)
  refine lv_iconst (v := 0) hx hb dX12_manyLie_2 (by decide) ?_
  refine lv_istore_n (lv' := [(2, .int 0), (1, .int 0), (0, .ref (a 0))]) hx hb dX12_manyLie_3 rfl hl (by decide) rfl (fun ls hl => ?_)
  obtain ⟨v1_7, hx_8, hf⟩ := bd_e hf
  refine L4 n 0 0 v1_7 _ _ _ hP hD hS hl hx_8 ?_
  intro x9 e9 H locs ls hP hD hS hl
  subst e9
  have hP : va_P G classes (wl [lfM ct a mo]) H := hP
  have hD : va_D A (wl [lfM ct a mo]) := hD
  have hl : lv_has ls 3 [(1, .int v1_7)] := hl
  refine lv_iload_n hx hb dX12_manyLie_34 rfl (lv_at hl 0 rfl) ?_
  have e1 := Option.some.inj hf
  exact end_i (w' := (wl [lfM ct a mo])) hx hb hr hlocks hK hP hD hS dX12_manyLie_35  ⟨by rw [← e1], rfl⟩
noncomputable def f_X12_counted (n : Nat) (mo : MV) (v1 : Int32) : Option (Int32) :=
  bc (v1 = 0) (bd (f_X12_members n mo) fun r_2 =>
  some r_2) <|
  bc (v1 = 1) (bd (f_X12_letters n mo) fun r_4 =>
  some r_4) <|
  bc (v1 = 2) (gd (vp_in 23 235) <|
  some (mo.2.1 0 (ix 23))) <|
  bc (v1 = 3) (bd (f_X12_manyLie n mo) fun r_8 =>
  some r_8) <|
  bc (v1 = 4) (gd (vp_in 2 235) <|
  some (mo.2.1 0 (ix 2))) <|
  bc (v1 = 5) (gd (vp_in 3 235) <|
  some (mo.2.1 0 (ix 3))) <|
  bc (v1 = 6) (gd (vp_in 4 235) <|
  some (mo.2.1 0 (ix 4))) <|
  some (mo.1 0)
set_option maxHeartbeats 4000000 in
set_option maxRecDepth 100000 in
theorem c_X12_counted (l : Launch) (G : va_G) (ct : Nat → ClassId) (sk sv : Nat → Nat) (a : Nat → Nat) (n : Nat) (mo : MV) (v1 : Int32) {r : Int32} (hf : f_X12_counted n mo v1 = some r) : Ctr (l, G, ct, sk, sv) mX12_counted 2 43 [.ref (a 0), .int v1] (wl [lfM ct a mo]) (wl [lfM ct a mo]) (some (.int r)) := by
  refine ctr_intro (by decide) (Nat.le_of_ble_eq_true rfl) ?_
  intro p e s m args below meth c A C hP hD hS hA ls hl
  obtain ⟨hx, hb, hml, hown, hts, hr, hlocks, hK, hnm, hZ⟩ := C
  have hb : c.code = cX12_counted := hb
  have hml : c.maxLocals = 2 := hml
  have hown : s.vm.findClass "SignedOutsideModel" = some m.cls := hown
  have hr : meth.sig.returnType = some .int := hr
  have hP : va_P G classes (wl [lfM ct a mo]) s.heap := hP
  have hD : va_D A (wl [lfM ct a mo]) := hD
  have hK : va_K G classes (TYS ct) s := hK
  have hl : lv_has ls 2 [(0, .ref (a 0)), (1, .int v1)] := hl
  unfold f_X12_counted at hf
  show WG l G ct sk sv p e (RM 2 43 0 0) s m args below meth c A (Eq2 (some (.int r)) (wl [lfM ct a mo])) s.heap [] (F0 m 0 ls [])
  refine lv_iload_n hx hb dX12_counted_0 rfl (lv_at hl 1 rfl) ?_
  rcases Classical.em (v1 = 0) with c_1 | c_1
  · replace hf := bc_t hf c_1
    refine lv_tableIn (tgt := 44) hx hb dX12_counted_1 (by rw [c_1]; decide) (by rw [c_1]; decide) (by rw [c_1]; rfl) (by decide) ?_
    refine lv_aload_n hx hb dX12_counted_44 rfl (lv_at hl 0 rfl) ?_
    obtain ⟨r_2, hc2, hf⟩ := bd_e hf
    refine call_V (As := []) (rest := []) hx hb hml hown hts hK hP hD hS hA hZ lkX12_61 (c_X12_members l G ct sk sv a n mo hc2) 0 rfl rfl ⟨Nat.le_of_ble_eq_true rfl, Nat.le_of_ble_eq_true rfl⟩ rfl hl.1 rfl (Nat.le_of_ble_eq_true rfl) dX12_counted_45 ⟨Nat.le_of_ble_eq_true rfl, Nat.le_of_ble_eq_true rfl⟩ (fun r9 w9 H locs hB hP hD hS => ?_)
    obtain ⟨rfl, rfl⟩ := hB
    refine WG_eq (g2 := F0 m 48 ls [.int r_2]) rfl ?_
    have e1 := Option.some.inj hf
    exact end_i (w' := (wl [lfM ct a mo])) hx hb hr hlocks hK hP hD hS dX12_counted_48  ⟨by rw [← e1], rfl⟩
  replace hf := bc_f hf c_1
  rcases Classical.em (v1 = 1) with c_3 | c_3
  · replace hf := bc_t hf c_3
    refine lv_tableIn (tgt := 49) hx hb dX12_counted_1 (by rw [c_3]; decide) (by rw [c_3]; decide) (by rw [c_3]; rfl) (by decide) ?_
    refine lv_aload_n hx hb dX12_counted_49 rfl (lv_at hl 0 rfl) ?_
    obtain ⟨r_4, hc4, hf⟩ := bd_e hf
    refine call_V (As := []) (rest := []) hx hb hml hown hts hK hP hD hS hA hZ lkX12_69 (c_X12_letters l G ct sk sv a n mo hc4) 0 rfl rfl ⟨Nat.le_of_ble_eq_true rfl, Nat.le_of_ble_eq_true rfl⟩ rfl hl.1 rfl (Nat.le_of_ble_eq_true rfl) dX12_counted_50 ⟨Nat.le_of_ble_eq_true rfl, Nat.le_of_ble_eq_true rfl⟩ (fun r9 w9 H locs hB hP hD hS => ?_)
    obtain ⟨rfl, rfl⟩ := hB
    refine WG_eq (g2 := F0 m 53 ls [.int r_4]) rfl ?_
    have e1 := Option.some.inj hf
    exact end_i (w' := (wl [lfM ct a mo])) hx hb hr hlocks hK hP hD hS dX12_counted_53  ⟨by rw [← e1], rfl⟩
  replace hf := bc_f hf c_3
  rcases Classical.em (v1 = 2) with c_5 | c_5
  · replace hf := bc_t hf c_5
    refine lv_tableIn (tgt := 54) hx hb dX12_counted_1 (by rw [c_5]; decide) (by rw [c_5]; decide) (by rw [c_5]; rfl) (by decide) ?_
    refine lv_aload_n hx hb dX12_counted_54 rfl (lv_at hl 0 rfl) ?_
    refine va_get (D := G) (C := RX12) (T := TX12) (N := 21) (v := .ref (a 1)) hx hb hts iu_X12 hown hK hP 0 rfl rfl 0 (by decide) (hts _ kw887) (fun _ h9 => h9) rfl dX12_counted_55 ?_
    refine lv_bipush (v := 23) hx hb dX12_counted_58 (by decide) ?_
    obtain ⟨g_6, hf⟩ := gd_e hf
    refine va_iald (f := mo.2.1 0) hx hb hK hP 1 0 rfl rfl g_6 dX12_counted_60 ?_
    have e1 := Option.some.inj hf
    exact end_i (w' := (wl [lfM ct a mo])) hx hb hr hlocks hK hP hD hS dX12_counted_61  ⟨by rw [← e1], rfl⟩
  replace hf := bc_f hf c_5
  rcases Classical.em (v1 = 3) with c_7 | c_7
  · replace hf := bc_t hf c_7
    refine lv_tableIn (tgt := 62) hx hb dX12_counted_1 (by rw [c_7]; decide) (by rw [c_7]; decide) (by rw [c_7]; rfl) (by decide) ?_
    refine lv_aload_n hx hb dX12_counted_62 rfl (lv_at hl 0 rfl) ?_
    obtain ⟨r_8, hc8, hf⟩ := bd_e hf
    refine call_V (As := []) (rest := []) hx hb hml hown hts hK hP hD hS hA hZ lkX12_272 (c_X12_manyLie l G ct sk sv a n mo hc8) 0 rfl rfl ⟨Nat.le_of_ble_eq_true rfl, Nat.le_of_ble_eq_true rfl⟩ rfl hl.1 rfl (Nat.le_of_ble_eq_true rfl) dX12_counted_63 ⟨Nat.le_of_ble_eq_true rfl, Nat.le_of_ble_eq_true rfl⟩ (fun r9 w9 H locs hB hP hD hS => ?_)
    obtain ⟨rfl, rfl⟩ := hB
    refine WG_eq (g2 := F0 m 66 ls [.int r_8]) rfl ?_
    have e1 := Option.some.inj hf
    exact end_i (w' := (wl [lfM ct a mo])) hx hb hr hlocks hK hP hD hS dX12_counted_66  ⟨by rw [← e1], rfl⟩
  replace hf := bc_f hf c_7
  rcases Classical.em (v1 = 4) with c_9 | c_9
  · replace hf := bc_t hf c_9
    refine lv_tableIn (tgt := 67) hx hb dX12_counted_1 (by rw [c_9]; decide) (by rw [c_9]; decide) (by rw [c_9]; rfl) (by decide) ?_
    refine lv_aload_n hx hb dX12_counted_67 rfl (lv_at hl 0 rfl) ?_
    refine va_get (D := G) (C := RX12) (T := TX12) (N := 21) (v := .ref (a 1)) hx hb hts iu_X12 hown hK hP 0 rfl rfl 0 (by decide) (hts _ kw887) (fun _ h9 => h9) rfl dX12_counted_68 ?_
    refine lv_iconst (v := 2) hx hb dX12_counted_71 (by decide) ?_
    obtain ⟨g_10, hf⟩ := gd_e hf
    refine va_iald (f := mo.2.1 0) hx hb hK hP 1 0 rfl rfl g_10 dX12_counted_72 ?_
    have e1 := Option.some.inj hf
    exact end_i (w' := (wl [lfM ct a mo])) hx hb hr hlocks hK hP hD hS dX12_counted_73  ⟨by rw [← e1], rfl⟩
  replace hf := bc_f hf c_9
  rcases Classical.em (v1 = 5) with c_11 | c_11
  · replace hf := bc_t hf c_11
    refine lv_tableIn (tgt := 74) hx hb dX12_counted_1 (by rw [c_11]; decide) (by rw [c_11]; decide) (by rw [c_11]; rfl) (by decide) ?_
    refine lv_aload_n hx hb dX12_counted_74 rfl (lv_at hl 0 rfl) ?_
    refine va_get (D := G) (C := RX12) (T := TX12) (N := 21) (v := .ref (a 1)) hx hb hts iu_X12 hown hK hP 0 rfl rfl 0 (by decide) (hts _ kw887) (fun _ h9 => h9) rfl dX12_counted_75 ?_
    refine lv_iconst (v := 3) hx hb dX12_counted_78 (by decide) ?_
    obtain ⟨g_12, hf⟩ := gd_e hf
    refine va_iald (f := mo.2.1 0) hx hb hK hP 1 0 rfl rfl g_12 dX12_counted_79 ?_
    have e1 := Option.some.inj hf
    exact end_i (w' := (wl [lfM ct a mo])) hx hb hr hlocks hK hP hD hS dX12_counted_80  ⟨by rw [← e1], rfl⟩
  replace hf := bc_f hf c_11
  rcases Classical.em (v1 = 6) with c_13 | c_13
  · replace hf := bc_t hf c_13
    refine lv_tableIn (tgt := 81) hx hb dX12_counted_1 (by rw [c_13]; decide) (by rw [c_13]; decide) (by rw [c_13]; rfl) (by decide) ?_
    refine lv_aload_n hx hb dX12_counted_81 rfl (lv_at hl 0 rfl) ?_
    refine va_get (D := G) (C := RX12) (T := TX12) (N := 21) (v := .ref (a 1)) hx hb hts iu_X12 hown hK hP 0 rfl rfl 0 (by decide) (hts _ kw887) (fun _ h9 => h9) rfl dX12_counted_82 ?_
    refine lv_iconst (v := 4) hx hb dX12_counted_85 (by decide) ?_
    obtain ⟨g_14, hf⟩ := gd_e hf
    refine va_iald (f := mo.2.1 0) hx hb hK hP 1 0 rfl rfl g_14 dX12_counted_86 ?_
    have e1 := Option.some.inj hf
    exact end_i (w' := (wl [lfM ct a mo])) hx hb hr hlocks hK hP hD hS dX12_counted_87  ⟨by rw [← e1], rfl⟩
  replace hf := bc_f hf c_13
  have tc_1 := lv_neT (a := 0) c_1 (by decide)
  have tc_3 := lv_neT (a := 1) c_3 (by decide)
  have tc_5 := lv_neT (a := 2) c_5 (by decide)
  have tc_7 := lv_neT (a := 3) c_7 (by decide)
  have tc_9 := lv_neT (a := 4) c_9 (by decide)
  have tc_11 := lv_neT (a := 5) c_11 (by decide)
  have tc_13 := lv_neT (a := 6) c_13 (by decide)
  refine lv_tableOut (tgt := 88) hx hb dX12_counted_1 (by omega) (by decide) ?_
  refine lv_aload_n hx hb dX12_counted_88 rfl (lv_at hl 0 rfl) ?_
  refine va_get (D := G) (C := RX12) (T := TX12) (N := 21) (v := .int (mo.1 0)) hx hb hts iu_X12 hown hK hP 0 rfl rfl 14 (by decide) (hts _ kw901) (fun _ h9 => h9) rfl dX12_counted_89 ?_
  have e1 := Option.some.inj hf
  exact end_i (w' := (wl [lfM ct a mo])) hx hb hr hlocks hK hP hD hS dX12_counted_92  ⟨by rw [← e1], rfl⟩
noncomputable def f_X12_count_j26 (n : Nat) (mo : MV) (s0 : Int32) : Option (Int32 × MV) :=
  some (s0, mo)
noncomputable def f_X12_count (n : Nat) (mo : MV) (v1 : Int32) : Option (Int32 × MV) :=
  bd (f_X12_in n ((v1 : Int32).toInt64) 0 7) fun r_1 =>
  bc (r_1 = 0) (bd2 (f_X12_bad n mo (-2)) fun r_3 mo_4 =>
  f_X12_count_j26 n mo_4 r_3)
  (bd (f_X12_counted n mo v1) fun r_5 =>
  f_X12_count_j26 n mo r_5)
set_option maxHeartbeats 4000000 in
set_option maxRecDepth 100000 in
theorem c_X12_count (l : Launch) (G : va_G) (ct : Nat → ClassId) (sk sv : Nat → Nat) (a : Nat → Nat) (n : Nat) (mo : MV) (v1 : Int32) {r : Int32} {mo' : MV} (hf : f_X12_count n mo v1 = some (r, mo')) : Ctr (l, G, ct, sk, sv) mX12_count 3 64 [.ref (a 0), .int v1] (wl [lfM ct a mo]) (wl [lfM ct a mo']) (some (.int r)) := by
  refine ctr_intro (by decide) (Nat.le_of_ble_eq_true rfl) ?_
  intro p e s m args below meth c A C hP hD hS hA ls hl
  obtain ⟨hx, hb, hml, hown, hts, hr, hlocks, hK, hnm, hZ⟩ := C
  have hb : c.code = cX12_count := hb
  have hml : c.maxLocals = 2 := hml
  have hown : s.vm.findClass "SignedOutsideModel" = some m.cls := hown
  have hr : meth.sig.returnType = some .int := hr
  have hP : va_P G classes (wl [lfM ct a mo]) s.heap := hP
  have hD : va_D A (wl [lfM ct a mo]) := hD
  have hK : va_K G classes (TYS ct) s := hK
  have hl : lv_has ls 2 [(0, .ref (a 0)), (1, .int v1)] := hl
  have J26 : ∀ (mo : MV) (s0 : Int32) (H : Heap) (locs : List Loc) (ls : Array Slot), va_P G classes (wl [lfM ct a mo]) H → va_D A (wl [lfM ct a mo]) → va_S A s.heap H locs → lv_has ls 2 [] → f_X12_count_j26 n mo s0 = some (r, mo') → WG l G ct sk sv p e (RM 3 64 0 0) s m args below meth c A (Eq2 (some (.int r)) (wl [lfM ct a mo'])) H locs (F0 m 26 ls [.int s0]) := by
    intro mo s0 H locs ls hP hD hS hl hf
    unfold f_X12_count_j26 at hf
    obtain ⟨e1, e2⟩ := inj2 (Option.some.inj hf)
    exact end_i (w' := (wl [lfM ct a mo])) hx hb hr hlocks hK hP hD hS dX12_count_26  ⟨by rw [← e1], by rw [← e2]⟩
  unfold f_X12_count at hf
  show WG l G ct sk sv p e (RM 3 64 0 0) s m args below meth c A (Eq2 (some (.int r)) (wl [lfM ct a mo'])) s.heap [] (F0 m 0 ls [])
  refine lv_iload_n hx hb dX12_count_0 rfl (lv_at hl 1 rfl) ?_
  refine lv_i2l (v := (v1 : Int32).toInt64) hx hb dX12_count_1 rfl ?_
  refine lv_lconst (v := 0) hx hb dX12_count_2 (by decide) ?_
  refine lv_ldc2 (v := 7) hx hb hown (hts _ kw1269) dX12_count_3 ?_
  obtain ⟨r_1, hc1, hf⟩ := bd_e hf
  refine call_S (As := [.long ((v1 : Int32).toInt64), .long 0, .long 7]) (rest := []) hx hb hml hown hts hK hP hD hS hA hZ lkX12_65 (Ctr.upL (c_X12_in l G ct sk sv  n ((v1 : Int32).toInt64) 0 7 hc1) [lfM ct a mo] [lfM ct a mo] [lfM ct a mo] [0] 1 (by decide) rfl rfl rfl rfl) ⟨Nat.le_of_ble_eq_true rfl, Nat.le_of_ble_eq_true rfl⟩ rfl hl.1 rfl (Nat.le_of_ble_eq_true rfl) dX12_count_6 ⟨Nat.le_of_ble_eq_true rfl, Nat.le_of_ble_eq_true rfl⟩ (fun r9 w9 H locs hB hP hD hS => ?_)
  obtain ⟨rfl, rfl⟩ := hB
  refine WG_eq (g2 := F0 m 9 ls [.int r_1]) rfl ?_
  refine lv_if_eq (tgt := 20) hx hb dX12_count_9 (by decide) (fun c_2 => ?_) (fun c_2 => ?_)
  · replace hf := bc_t hf c_2
    refine lv_aload_n hx hb dX12_count_20 rfl (lv_at hl 0 rfl) ?_
    refine lv_bipush (v := (-2)) hx hb dX12_count_21 (by decide) ?_
    obtain ⟨r_3, mo_4, hc4, hf⟩ := bd2_e hf
    refine call_V (As := [.int (-2)]) (rest := []) hx hb hml hown hts hK hP hD hS hA hZ lkX12_80 (c_X12_bad l G ct sk sv a n mo (-2) hc4) 0 rfl rfl ⟨Nat.le_of_ble_eq_true rfl, Nat.le_of_ble_eq_true rfl⟩ rfl hl.1 rfl (Nat.le_of_ble_eq_true rfl) dX12_count_23 ⟨Nat.le_of_ble_eq_true rfl, Nat.le_of_ble_eq_true rfl⟩ (fun r9 w9 H locs hB hP hD hS => ?_)
    obtain ⟨rfl, rfl⟩ := hB
    refine WG_eq (g2 := F0 m 26 ls [.int r_3]) rfl ?_
    exact J26 mo_4 r_3 _ _ _ hP hD hS (lv_sub hl [] rfl) hf
  · replace hf := bc_f hf c_2
    refine lv_aload_n hx hb dX12_count_12 rfl (lv_at hl 0 rfl) ?_
    refine lv_iload_n hx hb dX12_count_13 rfl (lv_at hl 1 rfl) ?_
    obtain ⟨r_5, hc5, hf⟩ := bd_e hf
    refine call_V (As := [.int v1]) (rest := []) hx hb hml hown hts hK hP hD hS hA hZ lkX12_277 (c_X12_counted l G ct sk sv a n mo v1 hc5) 0 rfl rfl ⟨Nat.le_of_ble_eq_true rfl, Nat.le_of_ble_eq_true rfl⟩ rfl hl.1 rfl (Nat.le_of_ble_eq_true rfl) dX12_count_14 ⟨Nat.le_of_ble_eq_true rfl, Nat.le_of_ble_eq_true rfl⟩ (fun r9 w9 H locs hB hP hD hS => ?_)
    obtain ⟨rfl, rfl⟩ := hB
    refine WG_eq (g2 := F0 m 17 ls [.int r_5]) rfl ?_
    refine lv_goto (tgt := 26) hx hb dX12_count_17 (by decide) ?_
    exact J26 mo r_5 _ _ _ hP hD hS (lv_sub hl [] rfl) hf
noncomputable def f_X12_full (n : Nat) (mo : MV) : Option (Int32 × MV) :=
  gd (vp_in 2 3) <|
  gd (vp_in 2 3) <|
  bl (setA mo 3 (upd (mo.2.1 3) (ix 2) ((mo.2.1 3 (ix 2)) + 1))) fun mo_3 =>
  some ((-4), mo_3)
set_option maxHeartbeats 4000000 in
set_option maxRecDepth 100000 in
theorem c_X12_full (l : Launch) (G : va_G) (ct : Nat → ClassId) (sk sv : Nat → Nat) (a : Nat → Nat) (n : Nat) (mo : MV) {r : Int32} {mo' : MV} (hf : f_X12_full n mo = some (r, mo')) : Ctr (l, G, ct, sk, sv) mX12_full 0 0 [.ref (a 0)] (wl [lfM ct a mo]) (wl [lfM ct a mo']) (some (.int r)) := by
  refine ctr_intro (by decide) (Nat.le_of_ble_eq_true rfl) ?_
  intro p e s m args below meth c A C hP hD hS hA ls hl
  obtain ⟨hx, hb, hml, hown, hts, hr, hlocks, hK, hnm, hZ⟩ := C
  have hb : c.code = cX12_full := hb
  have hml : c.maxLocals = 1 := hml
  have hown : s.vm.findClass "SignedOutsideModel" = some m.cls := hown
  have hr : meth.sig.returnType = some .int := hr
  have hP : va_P G classes (wl [lfM ct a mo]) s.heap := hP
  have hD : va_D A (wl [lfM ct a mo]) := hD
  have hK : va_K G classes (TYS ct) s := hK
  have hl : lv_has ls 1 [(0, .ref (a 0))] := hl
  unfold f_X12_full at hf
  show WG l G ct sk sv p e (RM 0 0 0 0) s m args below meth c A (Eq2 (some (.int r)) (wl [lfM ct a mo'])) s.heap [] (F0 m 0 ls [])
  refine lv_aload_n hx hb dX12_full_0 rfl (lv_at hl 0 rfl) ?_
  refine va_get (D := G) (C := RX12) (T := TX12) (N := 21) (v := .ref (a 4)) hx hb hts iu_X12 hown hK hP 0 rfl rfl 3 (by decide) (hts _ kw890) (fun _ h9 => h9) rfl dX12_full_1 ?_
  refine lv_iconst (v := 2) hx hb dX12_full_4 (by decide) ?_
  refine lv_dup2_11 hx hb dX12_full_5 rfl rfl ?_
  obtain ⟨g_1, hf⟩ := gd_e hf
  refine va_iald (f := mo.2.1 3) hx hb hK hP 4 0 rfl rfl g_1 dX12_full_6 ?_
  refine lv_iconst (v := 1) hx hb dX12_full_7 (by decide) ?_
  refine lv_iadd hx hb dX12_full_8 ?_
  obtain ⟨g_2, hf⟩ := gd_e hf
  obtain ⟨mo_3, emo_3, hf⟩ := bl_e hf
  refine va_iast hx hb hK hP hD hS 4 0 rfl rfl g_2 dX12_full_9 (fun H locs hP hD hS => ?_)
  have hP : va_P G classes (wl [lfM ct a mo_3]) H := by rw [← emo_3]; exact hP
  have hD : va_D A (wl [lfM ct a mo_3]) := by rw [← emo_3]; exact hD
  refine lv_bipush (v := (-4)) hx hb dX12_full_10 (by decide) ?_
  obtain ⟨e1, e2⟩ := inj2 (Option.some.inj hf)
  exact end_i (w' := (wl [lfM ct a mo_3])) hx hb hr hlocks hK hP hD hS dX12_full_12  ⟨by rw [← e1], by rw [← e2]⟩
noncomputable def f_X12_isMember (n : Nat) (mo : MV) (v1 : Int32) : Option (Int32) :=
  bd (f_X12_members n mo) fun r_1 =>
  bd (f_X12_in n ((v1 : Int32).toInt64) 0 ((r_1 - 1 : Int32).toInt64)) fun r_2 =>
  gd (r_2 = 0 ∨ r_2 = 1) <| some r_2
set_option maxHeartbeats 4000000 in
set_option maxRecDepth 100000 in
theorem c_X12_isMember (l : Launch) (G : va_G) (ct : Nat → ClassId) (sk sv : Nat → Nat) (a : Nat → Nat) (n : Nat) (mo : MV) (v1 : Int32) {r : Int32} (hf : f_X12_isMember n mo v1 = some r) : Ctr (l, G, ct, sk, sv) mX12_isMember 1 25 [.ref (a 0), .int v1] (wl [lfM ct a mo]) (wl [lfM ct a mo]) (some (.int r)) := by
  refine ctr_intro (by decide) (Nat.le_of_ble_eq_true rfl) ?_
  intro p e s m args below meth c A C hP hD hS hA ls hl
  obtain ⟨hx, hb, hml, hown, hts, hr, hlocks, hK, hnm, hZ⟩ := C
  have hb : c.code = cX12_isMember := hb
  have hml : c.maxLocals = 2 := hml
  have hown : s.vm.findClass "SignedOutsideModel" = some m.cls := hown
  have hr : meth.sig.returnType = some .boolean := hr
  have hP : va_P G classes (wl [lfM ct a mo]) s.heap := hP
  have hD : va_D A (wl [lfM ct a mo]) := hD
  have hK : va_K G classes (TYS ct) s := hK
  have hl : lv_has ls 2 [(0, .ref (a 0)), (1, .int v1)] := hl
  unfold f_X12_isMember at hf
  show WG l G ct sk sv p e (RM 1 25 0 0) s m args below meth c A (Eq2 (some (.int r)) (wl [lfM ct a mo])) s.heap [] (F0 m 0 ls [])
  refine lv_iload_n hx hb dX12_isMember_0 rfl (lv_at hl 1 rfl) ?_
  refine lv_i2l (v := (v1 : Int32).toInt64) hx hb dX12_isMember_1 rfl ?_
  refine lv_lconst (v := 0) hx hb dX12_isMember_2 (by decide) ?_
  refine lv_aload_n hx hb dX12_isMember_3 rfl (lv_at hl 0 rfl) ?_
  obtain ⟨r_1, hc1, hf⟩ := bd_e hf
  refine call_V (As := []) (rest := [.long 0, .long ((v1 : Int32).toInt64)]) hx hb hml hown hts hK hP hD hS hA hZ lkX12_61 (c_X12_members l G ct sk sv a n mo hc1) 0 rfl rfl ⟨Nat.le_of_ble_eq_true rfl, Nat.le_of_ble_eq_true rfl⟩ rfl hl.1 rfl (Nat.le_of_ble_eq_true rfl) dX12_isMember_4 ⟨Nat.le_of_ble_eq_true rfl, Nat.le_of_ble_eq_true rfl⟩ (fun r9 w9 H locs hB hP hD hS => ?_)
  obtain ⟨rfl, rfl⟩ := hB
  refine WG_eq (g2 := F0 m 7 ls [.int r_1, .long 0, .long ((v1 : Int32).toInt64)]) rfl ?_
  refine lv_iconst (v := 1) hx hb dX12_isMember_7 (by decide) ?_
  refine lv_isub hx hb dX12_isMember_8 ?_
  refine lv_i2l (v := (r_1 - 1 : Int32).toInt64) hx hb dX12_isMember_9 rfl ?_
  obtain ⟨r_2, hc2, hf⟩ := bd_e hf
  refine call_S (As := [.long ((v1 : Int32).toInt64), .long 0, .long ((r_1 - 1 : Int32).toInt64)]) (rest := []) hx hb hml hown hts hK hP hD hS hA hZ lkX12_65 (Ctr.upL (c_X12_in l G ct sk sv  n ((v1 : Int32).toInt64) 0 ((r_1 - 1 : Int32).toInt64) hc2) [lfM ct a mo] [lfM ct a mo] [lfM ct a mo] [0] 1 (by decide) rfl rfl rfl rfl) ⟨Nat.le_of_ble_eq_true rfl, Nat.le_of_ble_eq_true rfl⟩ rfl hl.1 rfl (Nat.le_of_ble_eq_true rfl) dX12_isMember_10 ⟨Nat.le_of_ble_eq_true rfl, Nat.le_of_ble_eq_true rfl⟩ (fun r9 w9 H locs hB hP hD hS => ?_)
  obtain ⟨rfl, rfl⟩ := hB
  refine WG_eq (g2 := F0 m 13 ls [.int r_2]) rfl ?_
  obtain ⟨g_3, hf⟩ := gd_e hf
  have e1 := Option.some.inj hf
  exact end_z (w' := (wl [lfM ct a mo])) hx hb hr hlocks hK hP hD hS dX12_isMember_13 g_3 ⟨by rw [← e1], rfl⟩
noncomputable def f_X12_isPlace (n : Nat) (v0 : Int32) : Option (Int32) :=
  bd (f_X12_in n ((v0 : Int32).toInt64) 0 99) fun r_1 =>
  gd (r_1 = 0 ∨ r_1 = 1) <| some r_1
set_option maxHeartbeats 4000000 in
set_option maxRecDepth 100000 in
theorem c_X12_isPlace (l : Launch) (G : va_G) (ct : Nat → ClassId) (sk sv : Nat → Nat)  (n : Nat) (v0 : Int32) {r : Int32} (hf : f_X12_isPlace n v0 = some r) : Ctr (l, G, ct, sk, sv) mX12_isPlace 1 25 [.int v0] (wl []) (wl []) (some (.int r)) := by
  refine ctr_intro (by decide) (Nat.le_of_ble_eq_true rfl) ?_
  intro p e s m args below meth c A C hP hD hS hA ls hl
  obtain ⟨hx, hb, hml, hown, hts, hr, hlocks, hK, hnm, hZ⟩ := C
  have hb : c.code = cX12_isPlace := hb
  have hml : c.maxLocals = 1 := hml
  have hown : s.vm.findClass "SignedOutsideModel" = some m.cls := hown
  have hr : meth.sig.returnType = some .boolean := hr
  have hP : va_P G classes (wl []) s.heap := hP
  have hD : va_D A (wl []) := hD
  have hK : va_K G classes (TYS ct) s := hK
  have hl : lv_has ls 1 [(0, .int v0)] := hl
  unfold f_X12_isPlace at hf
  show WG l G ct sk sv p e (RM 1 25 0 0) s m args below meth c A (Eq2 (some (.int r)) (wl [])) s.heap [] (F0 m 0 ls [])
  refine lv_iload_n hx hb dX12_isPlace_0 rfl (lv_at hl 0 rfl) ?_
  refine lv_i2l (v := (v0 : Int32).toInt64) hx hb dX12_isPlace_1 rfl ?_
  refine lv_lconst (v := 0) hx hb dX12_isPlace_2 (by decide) ?_
  refine lv_ldc2 (v := 99) hx hb hown (hts _ kw970) dX12_isPlace_3 ?_
  obtain ⟨r_1, hc1, hf⟩ := bd_e hf
  refine call_S (As := [.long ((v0 : Int32).toInt64), .long 0, .long 99]) (rest := []) hx hb hml hown hts hK hP hD hS hA hZ lkX12_65 (c_X12_in l G ct sk sv  n ((v0 : Int32).toInt64) 0 99 hc1) ⟨Nat.le_of_ble_eq_true rfl, Nat.le_of_ble_eq_true rfl⟩ rfl hl.1 rfl (Nat.le_of_ble_eq_true rfl) dX12_isPlace_6 ⟨Nat.le_of_ble_eq_true rfl, Nat.le_of_ble_eq_true rfl⟩ (fun r9 w9 H locs hB hP hD hS => ?_)
  obtain ⟨rfl, rfl⟩ := hB
  refine WG_eq (g2 := F0 m 9 ls [.int r_1]) rfl ?_
  obtain ⟨g_2, hf⟩ := gd_e hf
  have e1 := Option.some.inj hf
  exact end_z (w' := (wl [])) hx hb hr hlocks hK hP hD hS dX12_isPlace_9 g_2 ⟨by rw [← e1], rfl⟩
noncomputable def f_X12_cover_j27 (n : Nat) (mo : MV) : Option (Int32 × MV) :=
  bd2 (f_X12_bad n mo (-2)) fun r_1 mo_2 =>
  some (r_1, mo_2)
noncomputable def f_X12_cover (n : Nat) (mo : MV) (v1 : Int32) (v2 : Int32) (v3 : Int32) : Option (Int32 × MV) :=
  bd (f_X12_isMember n mo v1) fun r_3 =>
  bc (r_3 = 0) (f_X12_cover_j27 n mo)
  (bd (f_X12_in n ((v2 : Int32).toInt64) 0 99) fun r_5 =>
  bc (r_5 = 0) (f_X12_cover_j27 n mo)
  (bd (f_X12_isPlace n v3) fun r_7 =>
  bc (r_7 = 0) (f_X12_cover_j27 n mo)
  (gd (vp_in 2 235) <|
  bc ((mo.2.1 0 (ix 2)) = 6) (bd2 (f_X12_full n mo) fun r_23 mo_24 =>
  some (r_23, mo_24))
  (gd (vp_in 2 235) <|
  bl (47 + (3 * (mo.2.1 0 (ix 2)))) fun v4_12 =>
  gd (vp_in v4_12 235) <|
  bl (setA mo 0 (upd (mo.2.1 0) (ix v4_12) v1)) fun mo_14 =>
  gd (vp_in (v4_12 + 1) 235) <|
  bl (setA mo_14 0 (upd (mo_14.2.1 0) (ix (v4_12 + 1)) v2)) fun mo_16 =>
  gd (vp_in (v4_12 + 2) 235) <|
  bl (setA mo_16 0 (upd (mo_16.2.1 0) (ix (v4_12 + 2)) v3)) fun mo_18 =>
  gd (vp_in 2 235) <|
  gd (vp_in 2 235) <|
  bl (setA mo_18 0 (upd (mo_18.2.1 0) (ix 2) ((mo_18.2.1 0 (ix 2)) + 1))) fun mo_21 =>
  gd (vp_in 2 235) <|
  some (mo_21.2.1 0 (ix 2), mo_21)))))
set_option maxHeartbeats 4000000 in
set_option maxRecDepth 100000 in
theorem c_X12_cover (l : Launch) (G : va_G) (ct : Nat → ClassId) (sk sv : Nat → Nat) (a : Nat → Nat) (n : Nat) (mo : MV) (v1 : Int32) (v2 : Int32) (v3 : Int32) {r : Int32} {mo' : MV} (hf : f_X12_cover n mo v1 v2 v3 = some (r, mo')) : Ctr (l, G, ct, sk, sv) mX12_cover 2 46 [.ref (a 0), .int v1, .int v2, .int v3] (wl [lfM ct a mo]) (wl [lfM ct a mo']) (some (.int r)) := by
  refine ctr_intro (by decide) (Nat.le_of_ble_eq_true rfl) ?_
  intro p e s m args below meth c A C hP hD hS hA ls hl
  obtain ⟨hx, hb, hml, hown, hts, hr, hlocks, hK, hnm, hZ⟩ := C
  have hb : c.code = cX12_cover := hb
  have hml : c.maxLocals = 5 := hml
  have hown : s.vm.findClass "SignedOutsideModel" = some m.cls := hown
  have hr : meth.sig.returnType = some .int := hr
  have hP : va_P G classes (wl [lfM ct a mo]) s.heap := hP
  have hD : va_D A (wl [lfM ct a mo]) := hD
  have hK : va_K G classes (TYS ct) s := hK
  have hl : lv_has ls 5 [(0, .ref (a 0)), (1, .int v1), (2, .int v2), (3, .int v3)] := hl
  have J27 : ∀ (mo : MV) (H : Heap) (locs : List Loc) (ls : Array Slot), va_P G classes (wl [lfM ct a mo]) H → va_D A (wl [lfM ct a mo]) → va_S A s.heap H locs → lv_has ls 5 [(0, .ref (a 0))] → f_X12_cover_j27 n mo = some (r, mo') → WG l G ct sk sv p e (RM 2 46 0 0) s m args below meth c A (Eq2 (some (.int r)) (wl [lfM ct a mo'])) H locs (F0 m 27 ls []) := by
    intro mo H locs ls hP hD hS hl hf
    unfold f_X12_cover_j27 at hf
    refine lv_aload_n hx hb dX12_cover_27 rfl (lv_at hl 0 rfl) ?_
    refine lv_bipush (v := (-2)) hx hb dX12_cover_28 (by decide) ?_
    obtain ⟨r_1, mo_2, hc2, hf⟩ := bd2_e hf
    refine call_V (As := [.int (-2)]) (rest := []) hx hb hml hown hts hK hP hD hS hA hZ lkX12_80 (c_X12_bad l G ct sk sv a n mo (-2) hc2) 0 rfl rfl ⟨Nat.le_of_ble_eq_true rfl, Nat.le_of_ble_eq_true rfl⟩ rfl hl.1 rfl (Nat.le_of_ble_eq_true rfl) dX12_cover_30 ⟨Nat.le_of_ble_eq_true rfl, Nat.le_of_ble_eq_true rfl⟩ (fun r9 w9 H locs hB hP hD hS => ?_)
    obtain ⟨rfl, rfl⟩ := hB
    refine WG_eq (g2 := F0 m 33 ls [.int r_1]) rfl ?_
    obtain ⟨e1, e2⟩ := inj2 (Option.some.inj hf)
    exact end_i (w' := (wl [lfM ct a mo_2])) hx hb hr hlocks hK hP hD hS dX12_cover_33  ⟨by rw [← e1], by rw [← e2]⟩
  unfold f_X12_cover at hf
  show WG l G ct sk sv p e (RM 2 46 0 0) s m args below meth c A (Eq2 (some (.int r)) (wl [lfM ct a mo'])) s.heap [] (F0 m 0 ls [])
  refine lv_aload_n hx hb dX12_cover_0 rfl (lv_at hl 0 rfl) ?_
  refine lv_iload_n hx hb dX12_cover_1 rfl (lv_at hl 1 rfl) ?_
  obtain ⟨r_3, hc3, hf⟩ := bd_e hf
  refine call_V (As := [.int v1]) (rest := []) hx hb hml hown hts hK hP hD hS hA hZ lkX12_117 (c_X12_isMember l G ct sk sv a n mo v1 hc3) 0 rfl rfl ⟨Nat.le_of_ble_eq_true rfl, Nat.le_of_ble_eq_true rfl⟩ rfl hl.1 rfl (Nat.le_of_ble_eq_true rfl) dX12_cover_2 ⟨Nat.le_of_ble_eq_true rfl, Nat.le_of_ble_eq_true rfl⟩ (fun r9 w9 H locs hB hP hD hS => ?_)
  obtain ⟨rfl, rfl⟩ := hB
  refine WG_eq (g2 := F0 m 5 ls [.int r_3]) rfl ?_
  refine lv_if_eq (tgt := 27) hx hb dX12_cover_5 (by decide) (fun c_4 => ?_) (fun c_4 => ?_)
  · replace hf := bc_t hf c_4
    exact J27 mo _ _ _ hP hD hS (lv_sub hl [0] rfl) hf
  · replace hf := bc_f hf c_4
    refine lv_iload_n hx hb dX12_cover_8 rfl (lv_at hl 2 rfl) ?_
    refine lv_i2l (v := (v2 : Int32).toInt64) hx hb dX12_cover_9 rfl ?_
    refine lv_lconst (v := 0) hx hb dX12_cover_10 (by decide) ?_
    refine lv_ldc2 (v := 99) hx hb hown (hts _ kw970) dX12_cover_11 ?_
    obtain ⟨r_5, hc5, hf⟩ := bd_e hf
    refine call_S (As := [.long ((v2 : Int32).toInt64), .long 0, .long 99]) (rest := []) hx hb hml hown hts hK hP hD hS hA hZ lkX12_65 (Ctr.upL (c_X12_in l G ct sk sv  n ((v2 : Int32).toInt64) 0 99 hc5) [lfM ct a mo] [lfM ct a mo] [lfM ct a mo] [0] 1 (by decide) rfl rfl rfl rfl) ⟨Nat.le_of_ble_eq_true rfl, Nat.le_of_ble_eq_true rfl⟩ rfl hl.1 rfl (Nat.le_of_ble_eq_true rfl) dX12_cover_14 ⟨Nat.le_of_ble_eq_true rfl, Nat.le_of_ble_eq_true rfl⟩ (fun r9 w9 H locs hB hP hD hS => ?_)
    obtain ⟨rfl, rfl⟩ := hB
    refine WG_eq (g2 := F0 m 17 ls [.int r_5]) rfl ?_
    refine lv_if_eq (tgt := 27) hx hb dX12_cover_17 (by decide) (fun c_6 => ?_) (fun c_6 => ?_)
    · replace hf := bc_t hf c_6
      exact J27 mo _ _ _ hP hD hS (lv_sub hl [0] rfl) hf
    · replace hf := bc_f hf c_6
      refine lv_iload_n hx hb dX12_cover_20 rfl (lv_at hl 3 rfl) ?_
      obtain ⟨r_7, hc7, hf⟩ := bd_e hf
      refine call_S (As := [.int v3]) (rest := []) hx hb hml hown hts hK hP hD hS hA hZ lkX12_76 (Ctr.upL (c_X12_isPlace l G ct sk sv  n v3 hc7) [lfM ct a mo] [lfM ct a mo] [lfM ct a mo] [0] 1 (by decide) rfl rfl rfl rfl) ⟨Nat.le_of_ble_eq_true rfl, Nat.le_of_ble_eq_true rfl⟩ rfl hl.1 rfl (Nat.le_of_ble_eq_true rfl) dX12_cover_21 ⟨Nat.le_of_ble_eq_true rfl, Nat.le_of_ble_eq_true rfl⟩ (fun r9 w9 H locs hB hP hD hS => ?_)
      obtain ⟨rfl, rfl⟩ := hB
      refine WG_eq (g2 := F0 m 24 ls [.int r_7]) rfl ?_
      refine lv_if_ne (tgt := 34) hx hb dX12_cover_24 (by decide) (fun c_8 => ?_) (fun c_8 => ?_)
      · replace hf := bc_f hf c_8
        refine lv_aload_n hx hb dX12_cover_34 rfl (lv_at hl 0 rfl) ?_
        refine va_get (D := G) (C := RX12) (T := TX12) (N := 21) (v := .ref (a 1)) hx hb hts iu_X12 hown hK hP 0 rfl rfl 0 (by decide) (hts _ kw887) (fun _ h9 => h9) rfl dX12_cover_35 ?_
        refine lv_iconst (v := 2) hx hb dX12_cover_38 (by decide) ?_
        obtain ⟨g_9, hf⟩ := gd_e hf
        refine va_iald (f := mo.2.1 0) hx hb hK hP 1 0 rfl rfl g_9 dX12_cover_39 ?_
        refine lv_bipush (v := 6) hx hb dX12_cover_40 (by decide) ?_
        refine lv_icmp_ne (tgt := 50) hx hb dX12_cover_42 (by decide) (fun c_10 => ?_) (fun c_10 => ?_)
        · replace hf := bc_f hf c_10
          refine lv_bipush (v := 47) hx hb dX12_cover_50 (by decide) ?_
          refine lv_iconst (v := 3) hx hb dX12_cover_52 (by decide) ?_
          refine lv_aload_n hx hb dX12_cover_53 rfl (lv_at hl 0 rfl) ?_
          refine va_get (D := G) (C := RX12) (T := TX12) (N := 21) (v := .ref (a 1)) hx hb hts iu_X12 hown hK hP 0 rfl rfl 0 (by decide) (hts _ kw887) (fun _ h9 => h9) rfl dX12_cover_54 ?_
          refine lv_iconst (v := 2) hx hb dX12_cover_57 (by decide) ?_
          obtain ⟨g_11, hf⟩ := gd_e hf
          refine va_iald (f := mo.2.1 0) hx hb hK hP 1 0 rfl rfl g_11 dX12_cover_58 ?_
          refine lv_imul hx hb dX12_cover_59 ?_
          refine lv_iadd hx hb dX12_cover_60 ?_
          refine lv_topi (fun v4_12 ev4_12 => ?_)
          replace hf := bl_i hf ev4_12
          refine lv_istore (lv' := [(4, .int v4_12), (0, .ref (a 0)), (1, .int v1), (2, .int v2), (3, .int v3)]) hx hb dX12_cover_61 hl (by decide) rfl (fun ls hl => ?_)
          refine lv_aload_n hx hb dX12_cover_63 rfl (lv_at hl 1 rfl) ?_
          refine va_get (D := G) (C := RX12) (T := TX12) (N := 21) (v := .ref (a 1)) hx hb hts iu_X12 hown hK hP 0 rfl rfl 0 (by decide) (hts _ kw887) (fun _ h9 => h9) rfl dX12_cover_64 ?_
          refine lv_iload hx hb dX12_cover_67 (lv_at hl 0 rfl) ?_
          refine lv_iload_n hx hb dX12_cover_69 rfl (lv_at hl 2 rfl) ?_
          obtain ⟨g_13, hf⟩ := gd_e hf
          obtain ⟨mo_14, emo_14, hf⟩ := bl_e hf
          refine va_iast hx hb hK hP hD hS 1 0 rfl rfl g_13 dX12_cover_70 (fun H locs hP hD hS => ?_)
          have hP : va_P G classes (wl [lfM ct a mo_14]) H := by rw [← emo_14]; exact hP
          have hD : va_D A (wl [lfM ct a mo_14]) := by rw [← emo_14]; exact hD
          refine lv_aload_n hx hb dX12_cover_71 rfl (lv_at hl 1 rfl) ?_
          refine va_get (D := G) (C := RX12) (T := TX12) (N := 21) (v := .ref (a 1)) hx hb hts iu_X12 hown hK hP 0 rfl rfl 0 (by decide) (hts _ kw887) (fun _ h9 => h9) rfl dX12_cover_72 ?_
          refine lv_iload hx hb dX12_cover_75 (lv_at hl 0 rfl) ?_
          refine lv_iconst (v := 1) hx hb dX12_cover_77 (by decide) ?_
          refine lv_iadd hx hb dX12_cover_78 ?_
          refine lv_iload_n hx hb dX12_cover_79 rfl (lv_at hl 3 rfl) ?_
          obtain ⟨g_15, hf⟩ := gd_e hf
          obtain ⟨mo_16, emo_16, hf⟩ := bl_e hf
          refine va_iast hx hb hK hP hD hS 1 0 rfl rfl g_15 dX12_cover_80 (fun H locs hP hD hS => ?_)
          have hP : va_P G classes (wl [lfM ct a mo_16]) H := by rw [← emo_16]; exact hP
          have hD : va_D A (wl [lfM ct a mo_16]) := by rw [← emo_16]; exact hD
          refine lv_aload_n hx hb dX12_cover_81 rfl (lv_at hl 1 rfl) ?_
          refine va_get (D := G) (C := RX12) (T := TX12) (N := 21) (v := .ref (a 1)) hx hb hts iu_X12 hown hK hP 0 rfl rfl 0 (by decide) (hts _ kw887) (fun _ h9 => h9) rfl dX12_cover_82 ?_
          refine lv_iload hx hb dX12_cover_85 (lv_at hl 0 rfl) ?_
          refine lv_iconst (v := 2) hx hb dX12_cover_87 (by decide) ?_
          refine lv_iadd hx hb dX12_cover_88 ?_
          refine lv_iload_n hx hb dX12_cover_89 rfl (lv_at hl 4 rfl) ?_
          obtain ⟨g_17, hf⟩ := gd_e hf
          obtain ⟨mo_18, emo_18, hf⟩ := bl_e hf
          refine va_iast hx hb hK hP hD hS 1 0 rfl rfl g_17 dX12_cover_90 (fun H locs hP hD hS => ?_)
          have hP : va_P G classes (wl [lfM ct a mo_18]) H := by rw [← emo_18]; exact hP
          have hD : va_D A (wl [lfM ct a mo_18]) := by rw [← emo_18]; exact hD
          refine lv_aload_n hx hb dX12_cover_91 rfl (lv_at hl 1 rfl) ?_
          refine va_get (D := G) (C := RX12) (T := TX12) (N := 21) (v := .ref (a 1)) hx hb hts iu_X12 hown hK hP 0 rfl rfl 0 (by decide) (hts _ kw887) (fun _ h9 => h9) rfl dX12_cover_92 ?_
          refine lv_iconst (v := 2) hx hb dX12_cover_95 (by decide) ?_
          refine lv_dup2_11 hx hb dX12_cover_96 rfl rfl ?_
          obtain ⟨g_19, hf⟩ := gd_e hf
          refine va_iald (f := mo_18.2.1 0) hx hb hK hP 1 0 rfl rfl g_19 dX12_cover_97 ?_
          refine lv_iconst (v := 1) hx hb dX12_cover_98 (by decide) ?_
          refine lv_iadd hx hb dX12_cover_99 ?_
          obtain ⟨g_20, hf⟩ := gd_e hf
          obtain ⟨mo_21, emo_21, hf⟩ := bl_e hf
          refine va_iast hx hb hK hP hD hS 1 0 rfl rfl g_20 dX12_cover_100 (fun H locs hP hD hS => ?_)
          have hP : va_P G classes (wl [lfM ct a mo_21]) H := by rw [← emo_21]; exact hP
          have hD : va_D A (wl [lfM ct a mo_21]) := by rw [← emo_21]; exact hD
          refine lv_aload_n hx hb dX12_cover_101 rfl (lv_at hl 1 rfl) ?_
          refine va_get (D := G) (C := RX12) (T := TX12) (N := 21) (v := .ref (a 1)) hx hb hts iu_X12 hown hK hP 0 rfl rfl 0 (by decide) (hts _ kw887) (fun _ h9 => h9) rfl dX12_cover_102 ?_
          refine lv_iconst (v := 2) hx hb dX12_cover_105 (by decide) ?_
          obtain ⟨g_22, hf⟩ := gd_e hf
          refine va_iald (f := mo_21.2.1 0) hx hb hK hP 1 0 rfl rfl g_22 dX12_cover_106 ?_
          obtain ⟨e1, e2⟩ := inj2 (Option.some.inj hf)
          exact end_i (w' := (wl [lfM ct a mo_21])) hx hb hr hlocks hK hP hD hS dX12_cover_107  ⟨by rw [← e1], by rw [← e2]⟩
        · replace hf := bc_t hf c_10
          refine lv_aload_n hx hb dX12_cover_45 rfl (lv_at hl 0 rfl) ?_
          obtain ⟨r_23, mo_24, hc24, hf⟩ := bd2_e hf
          refine call_V (As := []) (rest := []) hx hb hml hown hts hK hP hD hS hA hZ lkX12_84 (c_X12_full l G ct sk sv a n mo hc24) 0 rfl rfl ⟨Nat.le_of_ble_eq_true rfl, Nat.le_of_ble_eq_true rfl⟩ rfl hl.1 rfl (Nat.le_of_ble_eq_true rfl) dX12_cover_46 ⟨Nat.le_of_ble_eq_true rfl, Nat.le_of_ble_eq_true rfl⟩ (fun r9 w9 H locs hB hP hD hS => ?_)
          obtain ⟨rfl, rfl⟩ := hB
          refine WG_eq (g2 := F0 m 49 ls [.int r_23]) rfl ?_
          obtain ⟨e1, e2⟩ := inj2 (Option.some.inj hf)
          exact end_i (w' := (wl [lfM ct a mo_24])) hx hb hr hlocks hK hP hD hS dX12_cover_49  ⟨by rw [← e1], by rw [← e2]⟩
      · replace hf := bc_t hf c_8
        exact J27 mo _ _ _ hP hD hS (lv_sub hl [0] rfl) hf
noncomputable def f_X12_goDay_b2 (n : Nat) (z : Nat) (t : (Nat → Int32)) (v1 : Int32) : Option ((Int32 × (Nat → Int32)) ⊕ ((Nat → Int32))) :=
  bc (5 ≤ v1) (some (.inr t))
  (gd (vp_in (11 + v1) z) <|
  bl (upd t (ix (11 + v1)) 0) fun t_3 =>
  bl (v1 + 1) fun v1_4 =>
  some (.inl (v1_4, t_3)))
noncomputable def f_X12_goDay_l2 (fu : Nat) (n : Nat) (z : Nat) (t : (Nat → Int32)) (v1 : Int32) : Option ((Nat → Int32)) :=
  lp (fun q => f_X12_goDay_b2 n z q.2 q.1) fu (v1, t)
noncomputable def f_X12_goDay_j45 (n : Nat) (z : Nat) (t : (Nat → Int32)) (s0 : Int32) (s1 : Int32) : Option ((Nat → Int32)) :=
  gd (vp_in s1 z) <|
  bl (upd t (ix s1) s0) fun t_6 =>
  some t_6
noncomputable def f_X12_goDay (n : Nat) (z : Nat) (t : (Nat → Int32)) : Option ((Nat → Int32)) :=
  bd (f_X12_goDay_l2 n n z t 0) fun t_7 =>
  gd (vp_in 23 z) <|
  bc (999 ≤ (t_7 (ix 23))) (f_X12_goDay_j45 n z t_7 999 23)
  (gd (vp_in 23 z) <|
  f_X12_goDay_j45 n z t_7 ((t_7 (ix 23)) + 1) 23)
set_option maxHeartbeats 4000000 in
set_option maxRecDepth 100000 in
theorem c_X12_goDay (l : Launch) (G : va_G) (ct : Nat → ClassId) (sk sv : Nat → Nat) (a : Nat → Nat) (n : Nat) (z : Nat) (t : (Nat → Int32)) {t' : (Nat → Int32)} (hf : f_X12_goDay n z t = some t') : Ctr (l, G, ct, sk, sv) mX12_goDay 0 0 [.ref (a 0)] (wl [lfA ct a z t]) (wl [lfA ct a z t']) (none) := by
  refine ctr_intro (by decide) (Nat.le_of_ble_eq_true rfl) ?_
  intro p e s m args below meth c A C hP hD hS hA ls hl
  obtain ⟨hx, hb, hml, hown, hts, hr, hlocks, hK, hnm, hZ⟩ := C
  have hb : c.code = cX12_goDay := hb
  have hml : c.maxLocals = 2 := hml
  have hown : s.vm.findClass "SignedOutsideModel" = some m.cls := hown
  have hr : meth.sig.returnType = none := hr
  have hP : va_P G classes (wl [lfA ct a z t]) s.heap := hP
  have hD : va_D A (wl [lfA ct a z t]) := hD
  have hK : va_K G classes (TYS ct) s := hK
  have hl : lv_has ls 2 [(0, .ref (a 0))] := hl
  have L2 : ∀ (fu : Nat) (t : (Nat → Int32)) (v1 : Int32) (ex : (Nat → Int32)) (H : Heap) (locs : List Loc) (ls : Array Slot), va_P G classes (wl [lfA ct a z t]) H → va_D A (wl [lfA ct a z t]) → va_S A s.heap H locs → lv_has ls 2 [(1, .int v1), (0, .ref (a 0))] → f_X12_goDay_l2 fu n z t v1 = some ex → (∀ (x : (Nat → Int32)), ex = x → ∀ (H : Heap) (locs : List Loc) (ls : Array Slot), va_P G classes (wl [lfA ct a z x]) H → va_D A (wl [lfA ct a z x]) → va_S A s.heap H locs → lv_has ls 2 [(0, .ref (a 0))] → WG l G ct sk sv p e (RM 0 0 0 0) s m args below meth c A (Eq2 (none) (wl [lfA ct a z t'])) H locs (F0 m 20 ls [])) → WG l G ct sk sv p e (RM 0 0 0 0) s m args below meth c A (Eq2 (none) (wl [lfA ct a z t'])) H locs (F0 m 2 ls []) := by
    intro fu
    induction fu with
    | zero =>
      intro t v1 ex H locs ls hP hD hS hl hf
      exact absurd hf (by unfold f_X12_goDay_l2 lp; exact fun h => by cases h)
    | succ fu ih =>
      intro t v1 ex H locs ls hP hD hS hl hf hE
      unfold f_X12_goDay_l2 at hf
      obtain ⟨q, hf, hor⟩ := lp_e hf
      replace hf : f_X12_goDay_b2 n z t v1 = some q := hf
      unfold f_X12_goDay_b2 at hf
      refine lv_iload_n hx hb dX12_goDay_2 rfl (lv_at hl 0 rfl) ?_
      refine lv_iconst (v := 5) hx hb dX12_goDay_3 (by decide) ?_
      refine lv_icmp_ge (tgt := 20) hx hb dX12_goDay_4 (by decide) (fun c_1 => ?_) (fun c_1 => ?_)
      · replace hf := bc_t hf c_1
        exact hE t (lp_inr hor hf).symm _ _ _ hP hD hS (lv_sub hl [1] rfl)
      · replace hf := bc_f hf c_1
        refine lv_aload_n hx hb dX12_goDay_7 rfl (lv_at hl 1 rfl) ?_
        refine lv_bipush (v := 11) hx hb dX12_goDay_8 (by decide) ?_
        refine lv_iload_n hx hb dX12_goDay_10 rfl (lv_at hl 0 rfl) ?_
        refine lv_iadd hx hb dX12_goDay_11 ?_
        refine lv_iconst (v := 0) hx hb dX12_goDay_12 (by decide) ?_
        obtain ⟨g_2, hf⟩ := gd_e hf
        obtain ⟨t_3, et_3, hf⟩ := bl_e hf
        refine va_iast hx hb hK hP hD hS 0 0 rfl rfl g_2 dX12_goDay_13 (fun H locs hP hD hS => ?_)
        have hP : va_P G classes (wl [lfA ct a z t_3]) H := by rw [← et_3]; exact hP
        have hD : va_D A (wl [lfA ct a z t_3]) := by rw [← et_3]; exact hD
        obtain ⟨v1_4, ev1_4, hf⟩ := bl_e hf
        refine lv_iinc (v := v1_4) (lv' := [(1, .int v1_4), (0, .ref (a 0))]) hx hb dX12_goDay_14 hl (k := 0) rfl ev1_4 (by decide) rfl (fun ls hl => ?_)
        refine lv_goto (tgt := 2) hx hb dX12_goDay_17 (by decide) ?_
        exact ih t_3 v1_4 ex _ _ _ hP hD hS hl (lp_inl hor hf) hE
  have J45 : ∀ (t : (Nat → Int32)) (s0 : Int32) (s1 : Int32) (H : Heap) (locs : List Loc) (ls : Array Slot), va_P G classes (wl [lfA ct a z t]) H → va_D A (wl [lfA ct a z t]) → va_S A s.heap H locs → lv_has ls 2 [] → f_X12_goDay_j45 n z t s0 s1 = some t' → WG l G ct sk sv p e (RM 0 0 0 0) s m args below meth c A (Eq2 (none) (wl [lfA ct a z t'])) H locs (F0 m 45 ls [.int s0, .int s1, .ref (a 0)]) := by
    intro t s0 s1 H locs ls hP hD hS hl hf
    unfold f_X12_goDay_j45 at hf
    obtain ⟨g_5, hf⟩ := gd_e hf
    obtain ⟨t_6, et_6, hf⟩ := bl_e hf
    refine va_iast hx hb hK hP hD hS 0 0 rfl rfl g_5 dX12_goDay_45 (fun H locs hP hD hS => ?_)
    have hP : va_P G classes (wl [lfA ct a z t_6]) H := by rw [← et_6]; exact hP
    have hD : va_D A (wl [lfA ct a z t_6]) := by rw [← et_6]; exact hD
    have e1 := Option.some.inj hf
    exact end_v (w' := (wl [lfA ct a z t_6])) hx hb hr hlocks hK hP hD hS dX12_goDay_46  ⟨rfl, by rw [← e1]⟩
  unfold f_X12_goDay at hf
  show WG l G ct sk sv p e (RM 0 0 0 0) s m args below meth c A (Eq2 (none) (wl [lfA ct a z t'])) s.heap [] (F0 m 0 ls [])
  refine lv_iconst (v := 0) hx hb dX12_goDay_0 (by decide) ?_
  refine lv_istore_n (lv' := [(1, .int 0), (0, .ref (a 0))]) hx hb dX12_goDay_1 rfl hl (by decide) rfl (fun ls hl => ?_)
  obtain ⟨t_7, hx_8, hf⟩ := bd_e hf
  refine L2 n t 0 t_7 _ _ _ hP hD hS hl hx_8 ?_
  intro x9 e9 H locs ls hP hD hS hl
  subst e9
  have hP : va_P G classes (wl [lfA ct a z t_7]) H := hP
  have hD : va_D A (wl [lfA ct a z t_7]) := hD
  have hl : lv_has ls 2 [(0, .ref (a 0))] := hl
  refine lv_aload_n hx hb dX12_goDay_20 rfl (lv_at hl 0 rfl) ?_
  refine lv_bipush (v := 23) hx hb dX12_goDay_21 (by decide) ?_
  refine lv_aload_n hx hb dX12_goDay_23 rfl (lv_at hl 0 rfl) ?_
  refine lv_bipush (v := 23) hx hb dX12_goDay_24 (by decide) ?_
  obtain ⟨g_9, hf⟩ := gd_e hf
  refine va_iald (f := t_7) hx hb hK hP 0 0 rfl rfl g_9 dX12_goDay_26 ?_
  refine lv_sipush (v := 999) hx hb dX12_goDay_27 (by decide) ?_
  refine lv_icmp_ge (tgt := 42) hx hb dX12_goDay_30 (by decide) (fun c_10 => ?_) (fun c_10 => ?_)
  · replace hf := bc_t hf c_10
    refine lv_sipush (v := 999) hx hb dX12_goDay_42 (by decide) ?_
    exact J45 t_7 999 23 _ _ _ hP hD hS (lv_sub hl [] rfl) hf
  · replace hf := bc_f hf c_10
    refine lv_aload_n hx hb dX12_goDay_33 rfl (lv_at hl 0 rfl) ?_
    refine lv_bipush (v := 23) hx hb dX12_goDay_34 (by decide) ?_
    obtain ⟨g_11, hf⟩ := gd_e hf
    refine va_iald (f := t_7) hx hb hK hP 0 0 rfl rfl g_11 dX12_goDay_36 ?_
    refine lv_iconst (v := 1) hx hb dX12_goDay_37 (by decide) ?_
    refine lv_iadd hx hb dX12_goDay_38 ?_
    refine lv_goto (tgt := 45) hx hb dX12_goDay_39 (by decide) ?_
    exact J45 t_7 ((t_7 (ix 23)) + 1) 23 _ _ _ hP hD hS (lv_sub hl [] rfl) hf
noncomputable def f_X12_keep_b13 (n : Nat) (mo : MV) (v1 : Int32) : Option ((Int32 × MV) ⊕ (MV)) :=
  bc (133 ≤ v1) (some (.inr mo))
  (gd (vp_in (102 + v1) 235) <|
  gd (vp_in (83 + v1) 235) <|
  bl (setA mo 0 (upd (mo.2.1 0) (ix (83 + v1)) (mo.2.1 0 (ix (102 + v1))))) fun mo_4 =>
  bl (v1 + 1) fun v1_5 =>
  some (.inl (v1_5, mo_4)))
noncomputable def f_X12_keep_l13 (fu : Nat) (n : Nat) (mo : MV) (v1 : Int32) : Option (MV) :=
  lp (fun q => f_X12_keep_b13 n q.2 q.1) fu (v1, mo)
noncomputable def f_X12_keep_b54 (n : Nat) (mo : MV) (v1 : Int32) : Option ((Int32 × MV) ⊕ (MV)) :=
  bc (19 ≤ v1) (some (.inr mo))
  (gd (vp_in 4 235) <|
  gd (vp_in (5 + v1) 235) <|
  gd (vp_in ((83 + (19 * (mo.2.1 0 (ix 4)))) + v1) 235) <|
  bl (setA mo 0 (upd (mo.2.1 0) (ix ((83 + (19 * (mo.2.1 0 (ix 4)))) + v1)) (mo.2.1 0 (ix (5 + v1))))) fun mo_10 =>
  bl (v1 + 1) fun v1_11 =>
  some (.inl (v1_11, mo_10)))
noncomputable def f_X12_keep_l54 (fu : Nat) (n : Nat) (mo : MV) (v1 : Int32) : Option (MV) :=
  lp (fun q => f_X12_keep_b54 n q.2 q.1) fu (v1, mo)
noncomputable def f_X12_keep_j52 (n : Nat) (mo : MV) : Option (MV) :=
  bd (f_X12_keep_l54 n n mo 0) fun mo_12 =>
  gd (vp_in 4 235) <|
  gd (vp_in 4 235) <|
  bl (setA mo_12 0 (upd (mo_12.2.1 0) (ix 4) ((mo_12.2.1 0 (ix 4)) + 1))) fun mo_16 =>
  some mo_16
noncomputable def f_X12_keep (n : Nat) (mo : MV) : Option (MV) :=
  gd (vp_in 4 235) <|
  bc ((mo.2.1 0 (ix 4)) = 8) (bd (f_X12_keep_l13 n n mo 0) fun mo_19 =>
  gd (vp_in 4 235) <|
  bl (setA mo_19 0 (upd (mo_19.2.1 0) (ix 4) 7)) fun mo_22 =>
  f_X12_keep_j52 n mo_22)
  (f_X12_keep_j52 n mo)
set_option maxHeartbeats 4000000 in
set_option maxRecDepth 100000 in
theorem c_X12_keep (l : Launch) (G : va_G) (ct : Nat → ClassId) (sk sv : Nat → Nat) (a : Nat → Nat) (n : Nat) (mo : MV) {mo' : MV} (hf : f_X12_keep n mo = some mo') : Ctr (l, G, ct, sk, sv) mX12_keep 0 0 [.ref (a 0)] (wl [lfM ct a mo]) (wl [lfM ct a mo']) (none) := by
  refine ctr_intro (by decide) (Nat.le_of_ble_eq_true rfl) ?_
  intro p e s m args below meth c A C hP hD hS hA ls hl
  obtain ⟨hx, hb, hml, hown, hts, hr, hlocks, hK, hnm, hZ⟩ := C
  have hb : c.code = cX12_keep := hb
  have hml : c.maxLocals = 2 := hml
  have hown : s.vm.findClass "SignedOutsideModel" = some m.cls := hown
  have hr : meth.sig.returnType = none := hr
  have hP : va_P G classes (wl [lfM ct a mo]) s.heap := hP
  have hD : va_D A (wl [lfM ct a mo]) := hD
  have hK : va_K G classes (TYS ct) s := hK
  have hl : lv_has ls 2 [(0, .ref (a 0))] := hl
  have L13 : ∀ (fu : Nat) (mo : MV) (v1 : Int32) (ex : MV) (H : Heap) (locs : List Loc) (ls : Array Slot), va_P G classes (wl [lfM ct a mo]) H → va_D A (wl [lfM ct a mo]) → va_S A s.heap H locs → lv_has ls 2 [(1, .int v1), (0, .ref (a 0))] → f_X12_keep_l13 fu n mo v1 = some ex → (∀ (x : MV), ex = x → ∀ (H : Heap) (locs : List Loc) (ls : Array Slot), va_P G classes (wl [lfM ct a x]) H → va_D A (wl [lfM ct a x]) → va_S A s.heap H locs → lv_has ls 2 [(0, .ref (a 0))] → WG l G ct sk sv p e (RM 0 0 0 0) s m args below meth c A (Eq2 (none) (wl [lfM ct a mo'])) H locs (F0 m 44 ls [])) → WG l G ct sk sv p e (RM 0 0 0 0) s m args below meth c A (Eq2 (none) (wl [lfM ct a mo'])) H locs (F0 m 13 ls []) := by
    intro fu
    induction fu with
    | zero =>
      intro mo v1 ex H locs ls hP hD hS hl hf
      exact absurd hf (by unfold f_X12_keep_l13 lp; exact fun h => by cases h)
    | succ fu ih =>
      intro mo v1 ex H locs ls hP hD hS hl hf hE
      unfold f_X12_keep_l13 at hf
      obtain ⟨q, hf, hor⟩ := lp_e hf
      replace hf : f_X12_keep_b13 n mo v1 = some q := hf
      unfold f_X12_keep_b13 at hf
      refine lv_iload_n hx hb dX12_keep_13 rfl (lv_at hl 0 rfl) ?_
      refine lv_sipush (v := 133) hx hb dX12_keep_14 (by decide) ?_
      refine lv_icmp_ge (tgt := 44) hx hb dX12_keep_17 (by decide) (fun c_1 => ?_) (fun c_1 => ?_)
      · replace hf := bc_t hf c_1
        exact hE mo (lp_inr hor hf).symm _ _ _ hP hD hS (lv_sub hl [1] rfl)
      · replace hf := bc_f hf c_1
        refine lv_aload_n hx hb dX12_keep_20 rfl (lv_at hl 1 rfl) ?_
        refine va_get (D := G) (C := RX12) (T := TX12) (N := 21) (v := .ref (a 1)) hx hb hts iu_X12 hown hK hP 0 rfl rfl 0 (by decide) (hts _ kw887) (fun _ h9 => h9) rfl dX12_keep_21 ?_
        refine lv_bipush (v := 83) hx hb dX12_keep_24 (by decide) ?_
        refine lv_iload_n hx hb dX12_keep_26 rfl (lv_at hl 0 rfl) ?_
        refine lv_iadd hx hb dX12_keep_27 ?_
        refine lv_aload_n hx hb dX12_keep_28 rfl (lv_at hl 1 rfl) ?_
        refine va_get (D := G) (C := RX12) (T := TX12) (N := 21) (v := .ref (a 1)) hx hb hts iu_X12 hown hK hP 0 rfl rfl 0 (by decide) (hts _ kw887) (fun _ h9 => h9) rfl dX12_keep_29 ?_
        refine lv_bipush (v := 102) hx hb dX12_keep_32 (by decide) ?_
        refine lv_iload_n hx hb dX12_keep_34 rfl (lv_at hl 0 rfl) ?_
        refine lv_iadd hx hb dX12_keep_35 ?_
        obtain ⟨g_2, hf⟩ := gd_e hf
        refine va_iald (f := mo.2.1 0) hx hb hK hP 1 0 rfl rfl g_2 dX12_keep_36 ?_
        obtain ⟨g_3, hf⟩ := gd_e hf
        obtain ⟨mo_4, emo_4, hf⟩ := bl_e hf
        refine va_iast hx hb hK hP hD hS 1 0 rfl rfl g_3 dX12_keep_37 (fun H locs hP hD hS => ?_)
        have hP : va_P G classes (wl [lfM ct a mo_4]) H := by rw [← emo_4]; exact hP
        have hD : va_D A (wl [lfM ct a mo_4]) := by rw [← emo_4]; exact hD
        obtain ⟨v1_5, ev1_5, hf⟩ := bl_e hf
        refine lv_iinc (v := v1_5) (lv' := [(1, .int v1_5), (0, .ref (a 0))]) hx hb dX12_keep_38 hl (k := 0) rfl ev1_5 (by decide) rfl (fun ls hl => ?_)
        refine lv_goto (tgt := 13) hx hb dX12_keep_41 (by decide) ?_
        exact ih mo_4 v1_5 ex _ _ _ hP hD hS hl (lp_inl hor hf) hE
  have L54 : ∀ (fu : Nat) (mo : MV) (v1 : Int32) (ex : MV) (H : Heap) (locs : List Loc) (ls : Array Slot), va_P G classes (wl [lfM ct a mo]) H → va_D A (wl [lfM ct a mo]) → va_S A s.heap H locs → lv_has ls 2 [(1, .int v1), (0, .ref (a 0))] → f_X12_keep_l54 fu n mo v1 = some ex → (∀ (x : MV), ex = x → ∀ (H : Heap) (locs : List Loc) (ls : Array Slot), va_P G classes (wl [lfM ct a x]) H → va_D A (wl [lfM ct a x]) → va_S A s.heap H locs → lv_has ls 2 [(0, .ref (a 0))] → WG l G ct sk sv p e (RM 0 0 0 0) s m args below meth c A (Eq2 (none) (wl [lfM ct a mo'])) H locs (F0 m 93 ls [])) → WG l G ct sk sv p e (RM 0 0 0 0) s m args below meth c A (Eq2 (none) (wl [lfM ct a mo'])) H locs (F0 m 54 ls []) := by
    intro fu
    induction fu with
    | zero =>
      intro mo v1 ex H locs ls hP hD hS hl hf
      exact absurd hf (by unfold f_X12_keep_l54 lp; exact fun h => by cases h)
    | succ fu ih =>
      intro mo v1 ex H locs ls hP hD hS hl hf hE
      unfold f_X12_keep_l54 at hf
      obtain ⟨q, hf, hor⟩ := lp_e hf
      replace hf : f_X12_keep_b54 n mo v1 = some q := hf
      unfold f_X12_keep_b54 at hf
      refine lv_iload_n hx hb dX12_keep_54 rfl (lv_at hl 0 rfl) ?_
      refine lv_bipush (v := 19) hx hb dX12_keep_55 (by decide) ?_
      refine lv_icmp_ge (tgt := 93) hx hb dX12_keep_57 (by decide) (fun c_6 => ?_) (fun c_6 => ?_)
      · replace hf := bc_t hf c_6
        exact hE mo (lp_inr hor hf).symm _ _ _ hP hD hS (lv_sub hl [1] rfl)
      · replace hf := bc_f hf c_6
        refine lv_aload_n hx hb dX12_keep_60 rfl (lv_at hl 1 rfl) ?_
        refine va_get (D := G) (C := RX12) (T := TX12) (N := 21) (v := .ref (a 1)) hx hb hts iu_X12 hown hK hP 0 rfl rfl 0 (by decide) (hts _ kw887) (fun _ h9 => h9) rfl dX12_keep_61 ?_
        refine lv_bipush (v := 83) hx hb dX12_keep_64 (by decide) ?_
        refine lv_bipush (v := 19) hx hb dX12_keep_66 (by decide) ?_
        refine lv_aload_n hx hb dX12_keep_68 rfl (lv_at hl 1 rfl) ?_
        refine va_get (D := G) (C := RX12) (T := TX12) (N := 21) (v := .ref (a 1)) hx hb hts iu_X12 hown hK hP 0 rfl rfl 0 (by decide) (hts _ kw887) (fun _ h9 => h9) rfl dX12_keep_69 ?_
        refine lv_iconst (v := 4) hx hb dX12_keep_72 (by decide) ?_
        obtain ⟨g_7, hf⟩ := gd_e hf
        refine va_iald (f := mo.2.1 0) hx hb hK hP 1 0 rfl rfl g_7 dX12_keep_73 ?_
        refine lv_imul hx hb dX12_keep_74 ?_
        refine lv_iadd hx hb dX12_keep_75 ?_
        refine lv_iload_n hx hb dX12_keep_76 rfl (lv_at hl 0 rfl) ?_
        refine lv_iadd hx hb dX12_keep_77 ?_
        refine lv_aload_n hx hb dX12_keep_78 rfl (lv_at hl 1 rfl) ?_
        refine va_get (D := G) (C := RX12) (T := TX12) (N := 21) (v := .ref (a 1)) hx hb hts iu_X12 hown hK hP 0 rfl rfl 0 (by decide) (hts _ kw887) (fun _ h9 => h9) rfl dX12_keep_79 ?_
        refine lv_iconst (v := 5) hx hb dX12_keep_82 (by decide) ?_
        refine lv_iload_n hx hb dX12_keep_83 rfl (lv_at hl 0 rfl) ?_
        refine lv_iadd hx hb dX12_keep_84 ?_
        obtain ⟨g_8, hf⟩ := gd_e hf
        refine va_iald (f := mo.2.1 0) hx hb hK hP 1 0 rfl rfl g_8 dX12_keep_85 ?_
        obtain ⟨g_9, hf⟩ := gd_e hf
        obtain ⟨mo_10, emo_10, hf⟩ := bl_e hf
        refine va_iast hx hb hK hP hD hS 1 0 rfl rfl g_9 dX12_keep_86 (fun H locs hP hD hS => ?_)
        have hP : va_P G classes (wl [lfM ct a mo_10]) H := by rw [← emo_10]; exact hP
        have hD : va_D A (wl [lfM ct a mo_10]) := by rw [← emo_10]; exact hD
        obtain ⟨v1_11, ev1_11, hf⟩ := bl_e hf
        refine lv_iinc (v := v1_11) (lv' := [(1, .int v1_11), (0, .ref (a 0))]) hx hb dX12_keep_87 hl (k := 0) rfl ev1_11 (by decide) rfl (fun ls hl => ?_)
        refine lv_goto (tgt := 54) hx hb dX12_keep_90 (by decide) ?_
        exact ih mo_10 v1_11 ex _ _ _ hP hD hS hl (lp_inl hor hf) hE
  have J52 : ∀ (mo : MV) (H : Heap) (locs : List Loc) (ls : Array Slot), va_P G classes (wl [lfM ct a mo]) H → va_D A (wl [lfM ct a mo]) → va_S A s.heap H locs → lv_has ls 2 [(0, .ref (a 0))] → f_X12_keep_j52 n mo = some mo' → WG l G ct sk sv p e (RM 0 0 0 0) s m args below meth c A (Eq2 (none) (wl [lfM ct a mo'])) H locs (F0 m 52 ls []) := by
    intro mo H locs ls hP hD hS hl hf
    unfold f_X12_keep_j52 at hf
    refine lv_iconst (v := 0) hx hb dX12_keep_52 (by decide) ?_
    refine lv_istore_n (lv' := [(1, .int 0), (0, .ref (a 0))]) hx hb dX12_keep_53 rfl hl (by decide) rfl (fun ls hl => ?_)
    obtain ⟨mo_12, hx_13, hf⟩ := bd_e hf
    refine L54 n mo 0 mo_12 _ _ _ hP hD hS hl hx_13 ?_
    intro x9 e9 H locs ls hP hD hS hl
    subst e9
    have hP : va_P G classes (wl [lfM ct a mo_12]) H := hP
    have hD : va_D A (wl [lfM ct a mo_12]) := hD
    have hl : lv_has ls 2 [(0, .ref (a 0))] := hl
    refine lv_aload_n hx hb dX12_keep_93 rfl (lv_at hl 0 rfl) ?_
    refine va_get (D := G) (C := RX12) (T := TX12) (N := 21) (v := .ref (a 1)) hx hb hts iu_X12 hown hK hP 0 rfl rfl 0 (by decide) (hts _ kw887) (fun _ h9 => h9) rfl dX12_keep_94 ?_
    refine lv_iconst (v := 4) hx hb dX12_keep_97 (by decide) ?_
    refine lv_dup2_11 hx hb dX12_keep_98 rfl rfl ?_
    obtain ⟨g_14, hf⟩ := gd_e hf
    refine va_iald (f := mo_12.2.1 0) hx hb hK hP 1 0 rfl rfl g_14 dX12_keep_99 ?_
    refine lv_iconst (v := 1) hx hb dX12_keep_100 (by decide) ?_
    refine lv_iadd hx hb dX12_keep_101 ?_
    obtain ⟨g_15, hf⟩ := gd_e hf
    obtain ⟨mo_16, emo_16, hf⟩ := bl_e hf
    refine va_iast hx hb hK hP hD hS 1 0 rfl rfl g_15 dX12_keep_102 (fun H locs hP hD hS => ?_)
    have hP : va_P G classes (wl [lfM ct a mo_16]) H := by rw [← emo_16]; exact hP
    have hD : va_D A (wl [lfM ct a mo_16]) := by rw [← emo_16]; exact hD
    have e1 := Option.some.inj hf
    exact end_v (w' := (wl [lfM ct a mo_16])) hx hb hr hlocks hK hP hD hS dX12_keep_103  ⟨rfl, by rw [← e1]⟩
  unfold f_X12_keep at hf
  show WG l G ct sk sv p e (RM 0 0 0 0) s m args below meth c A (Eq2 (none) (wl [lfM ct a mo'])) s.heap [] (F0 m 0 ls [])
  refine lv_aload_n hx hb dX12_keep_0 rfl (lv_at hl 0 rfl) ?_
  refine va_get (D := G) (C := RX12) (T := TX12) (N := 21) (v := .ref (a 1)) hx hb hts iu_X12 hown hK hP 0 rfl rfl 0 (by decide) (hts _ kw887) (fun _ h9 => h9) rfl dX12_keep_1 ?_
  refine lv_iconst (v := 4) hx hb dX12_keep_4 (by decide) ?_
  obtain ⟨g_17, hf⟩ := gd_e hf
  refine va_iald (f := mo.2.1 0) hx hb hK hP 1 0 rfl rfl g_17 dX12_keep_5 ?_
  refine lv_bipush (v := 8) hx hb dX12_keep_6 (by decide) ?_
  refine lv_icmp_ne (tgt := 52) hx hb dX12_keep_8 (by decide) (fun c_18 => ?_) (fun c_18 => ?_)
  · replace hf := bc_f hf c_18
    exact J52 mo _ _ _ hP hD hS hl hf
  · replace hf := bc_t hf c_18
    refine lv_iconst (v := 0) hx hb dX12_keep_11 (by decide) ?_
    refine lv_istore_n (lv' := [(1, .int 0), (0, .ref (a 0))]) hx hb dX12_keep_12 rfl hl (by decide) rfl (fun ls hl => ?_)
    obtain ⟨mo_19, hx_20, hf⟩ := bd_e hf
    refine L13 n mo 0 mo_19 _ _ _ hP hD hS hl hx_20 ?_
    intro x9 e9 H locs ls hP hD hS hl
    subst e9
    have hP : va_P G classes (wl [lfM ct a mo_19]) H := hP
    have hD : va_D A (wl [lfM ct a mo_19]) := hD
    have hl : lv_has ls 2 [(0, .ref (a 0))] := hl
    refine lv_aload_n hx hb dX12_keep_44 rfl (lv_at hl 0 rfl) ?_
    refine va_get (D := G) (C := RX12) (T := TX12) (N := 21) (v := .ref (a 1)) hx hb hts iu_X12 hown hK hP 0 rfl rfl 0 (by decide) (hts _ kw887) (fun _ h9 => h9) rfl dX12_keep_45 ?_
    refine lv_iconst (v := 4) hx hb dX12_keep_48 (by decide) ?_
    refine lv_bipush (v := 7) hx hb dX12_keep_49 (by decide) ?_
    obtain ⟨g_21, hf⟩ := gd_e hf
    obtain ⟨mo_22, emo_22, hf⟩ := bl_e hf
    refine va_iast hx hb hK hP hD hS 1 0 rfl rfl g_21 dX12_keep_51 (fun H locs hP hD hS => ?_)
    have hP : va_P G classes (wl [lfM ct a mo_22]) H := by rw [← emo_22]; exact hP
    have hD : va_D A (wl [lfM ct a mo_22]) := by rw [← emo_22]; exact hD
    exact J52 mo_22 _ _ _ hP hD hS hl hf
noncomputable def f_X12_day (n : Nat) (mo : MV) : Option (Int32 × MV) :=
  bd (f_X12_keep n mo) fun mo_1 =>
  bd (f_X12_goDay n 235 (mo_1.2.1 0)) fun t_2 =>
  bl (setA mo_1 0 t_2) fun mo_3 =>
  gd (vp_in 23 235) <|
  some (mo_3.2.1 0 (ix 23), mo_3)
set_option maxHeartbeats 4000000 in
set_option maxRecDepth 100000 in
theorem c_X12_day (l : Launch) (G : va_G) (ct : Nat → ClassId) (sk sv : Nat → Nat) (a : Nat → Nat) (n : Nat) (mo : MV) {r : Int32} {mo' : MV} (hf : f_X12_day n mo = some (r, mo')) : Ctr (l, G, ct, sk, sv) mX12_day 1 21 [.ref (a 0)] (wl [lfM ct a mo]) (wl [lfM ct a mo']) (some (.int r)) := by
  refine ctr_intro (by decide) (Nat.le_of_ble_eq_true rfl) ?_
  intro p e s m args below meth c A C hP hD hS hA ls hl
  obtain ⟨hx, hb, hml, hown, hts, hr, hlocks, hK, hnm, hZ⟩ := C
  have hb : c.code = cX12_day := hb
  have hml : c.maxLocals = 1 := hml
  have hown : s.vm.findClass "SignedOutsideModel" = some m.cls := hown
  have hr : meth.sig.returnType = some .int := hr
  have hP : va_P G classes (wl [lfM ct a mo]) s.heap := hP
  have hD : va_D A (wl [lfM ct a mo]) := hD
  have hK : va_K G classes (TYS ct) s := hK
  have hl : lv_has ls 1 [(0, .ref (a 0))] := hl
  unfold f_X12_day at hf
  show WG l G ct sk sv p e (RM 1 21 0 0) s m args below meth c A (Eq2 (some (.int r)) (wl [lfM ct a mo'])) s.heap [] (F0 m 0 ls [])
  refine lv_aload_n hx hb dX12_day_0 rfl (lv_at hl 0 rfl) ?_
  obtain ⟨mo_1, hc1, hf⟩ := bd_e hf
  refine call_V (As := []) (rest := []) hx hb hml hown hts hK hP hD hS hA hZ lkX12_127 (c_X12_keep l G ct sk sv a n mo hc1) 0 rfl rfl ⟨Nat.le_of_ble_eq_true rfl, Nat.le_of_ble_eq_true rfl⟩ rfl hl.1 rfl (Nat.le_of_ble_eq_true rfl) dX12_day_1 ⟨Nat.le_of_ble_eq_true rfl, Nat.le_of_ble_eq_true rfl⟩ (fun r9 w9 H locs hB hP hD hS => ?_)
  obtain ⟨rfl, rfl⟩ := hB
  refine WG_eq (g2 := F0 m 4 ls []) rfl ?_
  refine lv_aload_n hx hb dX12_day_4 rfl (lv_at hl 0 rfl) ?_
  refine va_get (D := G) (C := RX12) (T := TX12) (N := 21) (v := .ref (a 1)) hx hb hts iu_X12 hown hK hP 0 rfl rfl 0 (by decide) (hts _ kw887) (fun _ h9 => h9) rfl dX12_day_5 ?_
  obtain ⟨t_2, hc3, hf⟩ := bd_e hf
  obtain ⟨mo_3, emo_3, hf⟩ := bl_e hf
  refine call_S (As := [.ref (a 1)]) (rest := []) hx hb hml hown hts hK hP hD hS hA hZ lkX12_140 (Ctr.up (W := (wl [lfM ct a mo_1])) (W' := (wl [lfM ct a (setA mo_1 0 t_2)])) (c_X12_goDay l G ct sk sv (fun _ => a 1) n 235 (mo_1.2.1 0) hc3) [1] [0, 2, 3, 4, 5, 6, 7, 8, 9, 10, 11, 12, 13, 14] [0, 14, 1, 2, 3, 4, 5, 6, 7, 8, 9, 10, 11, 12, 13] rfl rfl rfl rfl (by decide) rfl rfl) ⟨Nat.le_of_ble_eq_true rfl, Nat.le_of_ble_eq_true rfl⟩ rfl hl.1 rfl (Nat.le_of_ble_eq_true rfl) dX12_day_8 ⟨Nat.le_of_ble_eq_true rfl, Nat.le_of_ble_eq_true rfl⟩ (fun r9 w9 H locs hB hP hD hS => ?_)
  obtain ⟨rfl, rfl⟩ := hB
  have hP : va_P G classes (wl [lfM ct a mo_3]) H := by rw [← emo_3]; exact hP
  have hD : va_D A (wl [lfM ct a mo_3]) := by rw [← emo_3]; exact hD
  refine WG_eq (g2 := F0 m 11 ls []) rfl ?_
  refine lv_aload_n hx hb dX12_day_11 rfl (lv_at hl 0 rfl) ?_
  refine va_get (D := G) (C := RX12) (T := TX12) (N := 21) (v := .ref (a 1)) hx hb hts iu_X12 hown hK hP 0 rfl rfl 0 (by decide) (hts _ kw887) (fun _ h9 => h9) rfl dX12_day_12 ?_
  refine lv_bipush (v := 23) hx hb dX12_day_15 (by decide) ?_
  obtain ⟨g_4, hf⟩ := gd_e hf
  refine va_iald (f := mo_3.2.1 0) hx hb hK hP 1 0 rfl rfl g_4 dX12_day_17 ?_
  obtain ⟨e1, e2⟩ := inj2 (Option.some.inj hf)
  exact end_i (w' := (wl [lfM ct a mo_3])) hx hb hr hlocks hK hP hD hS dX12_day_18  ⟨by rw [← e1], by rw [← e2]⟩
noncomputable def f_X12_sums_b6 (n : Nat) (mo : MV) (v7 : Int32) (v5 : Int64) (v3 : Int32) (v4 : Int32) : Option ((Int32 × Int64) ⊕ (Int64)) :=
  bc (v4 ≤ v7) (some (.inr v5))
  (gd (vp_in (v3 + v7) 235) <|
  bl ((31 * v5) + ((mo.2.1 0 (ix (v3 + v7)) : Int32).toInt64)) fun v5_3 =>
  bl (v7 + 1) fun v7_4 =>
  some (.inl (v7_4, v5_3)))
noncomputable def f_X12_sums_l6 (fu : Nat) (n : Nat) (mo : MV) (v3 : Int32) (v4 : Int32) (v7 : Int32) (v5 : Int64) : Option (Int64) :=
  lp (fun q => f_X12_sums_b6 n mo q.1 q.2 v3 v4) fu (v7, v5)
noncomputable def f_X12_sums (n : Nat) (mo : MV) (v1 : Int64) (v3 : Int32) (v4 : Int32) : Option (Int64) :=
  bd (f_X12_sums_l6 n n mo v3 v4 0 v1) fun v5_5 =>
  some v5_5
set_option maxHeartbeats 4000000 in
set_option maxRecDepth 100000 in
theorem c_X12_sums (l : Launch) (G : va_G) (ct : Nat → ClassId) (sk sv : Nat → Nat) (a : Nat → Nat) (n : Nat) (mo : MV) (v1 : Int64) (v3 : Int32) (v4 : Int32) {r : Int64} (hf : f_X12_sums n mo v1 v3 v4 = some r) : Ctr (l, G, ct, sk, sv) mX12_sums 0 0 [.ref (a 0), .long v1, .int v3, .int v4] (wl [lfM ct a mo]) (wl [lfM ct a mo]) (some (.long r)) := by
  refine ctr_intro (by decide) (Nat.le_of_ble_eq_true rfl) ?_
  intro p e s m args below meth c A C hP hD hS hA ls hl
  obtain ⟨hx, hb, hml, hown, hts, hr, hlocks, hK, hnm, hZ⟩ := C
  have hb : c.code = cX12_sums := hb
  have hml : c.maxLocals = 8 := hml
  have hown : s.vm.findClass "SignedOutsideModel" = some m.cls := hown
  have hr : meth.sig.returnType = some .long := hr
  have hP : va_P G classes (wl [lfM ct a mo]) s.heap := hP
  have hD : va_D A (wl [lfM ct a mo]) := hD
  have hK : va_K G classes (TYS ct) s := hK
  have hl : lv_has ls 8 [(0, .ref (a 0)), (1, .long v1), (3, .int v3), (4, .int v4)] := hl
  have L6 : ∀ (fu : Nat) (v3 : Int32) (v4 : Int32) (v7 : Int32) (v5 : Int64) (ex : Int64) (H : Heap) (locs : List Loc) (ls : Array Slot), va_P G classes (wl [lfM ct a mo]) H → va_D A (wl [lfM ct a mo]) → va_S A s.heap H locs → lv_has ls 8 [(7, .int v7), (5, .long v5), (0, .ref (a 0)), (3, .int v3), (4, .int v4)] → f_X12_sums_l6 fu n mo v3 v4 v7 v5 = some ex → (∀ (x : Int64), ex = x → ∀ (H : Heap) (locs : List Loc) (ls : Array Slot), va_P G classes (wl [lfM ct a mo]) H → va_D A (wl [lfM ct a mo]) → va_S A s.heap H locs → lv_has ls 8 [(5, .long x)] → WG l G ct sk sv p e (RM 0 0 0 0) s m args below meth c A (Eq2 (some (.long r)) (wl [lfM ct a mo])) H locs (F0 m 38 ls [])) → WG l G ct sk sv p e (RM 0 0 0 0) s m args below meth c A (Eq2 (some (.long r)) (wl [lfM ct a mo])) H locs (F0 m 6 ls []) := by
    intro fu
    induction fu with
    | zero =>
      intro v3 v4 v7 v5 ex H locs ls hP hD hS hl hf
      exact absurd hf (by unfold f_X12_sums_l6 lp; exact fun h => by cases h)
    | succ fu ih =>
      intro v3 v4 v7 v5 ex H locs ls hP hD hS hl hf hE
      unfold f_X12_sums_l6 at hf
      obtain ⟨q, hf, hor⟩ := lp_e hf
      replace hf : f_X12_sums_b6 n mo v7 v5 v3 v4 = some q := hf
      unfold f_X12_sums_b6 at hf
      refine lv_iload hx hb dX12_sums_6 (lv_at hl 0 rfl) ?_
      refine lv_iload hx hb dX12_sums_8 (lv_at hl 4 rfl) ?_
      refine lv_icmp_ge (tgt := 38) hx hb dX12_sums_10 (by decide) (fun c_1 => ?_) (fun c_1 => ?_)
      · replace hf := bc_t hf c_1
        exact hE v5 (lp_inr hor hf).symm _ _ _ hP hD hS (lv_sub hl [1] rfl)
      · replace hf := bc_f hf c_1
        refine lv_ldc2 (v := 31) hx hb hown (hts _ kw1283) dX12_sums_13 ?_
        refine lv_lload hx hb dX12_sums_16 (lv_at hl 1 rfl) ?_
        refine lv_lmul hx hb dX12_sums_18 ?_
        refine lv_aload_n hx hb dX12_sums_19 rfl (lv_at hl 2 rfl) ?_
        refine va_get (D := G) (C := RX12) (T := TX12) (N := 21) (v := .ref (a 1)) hx hb hts iu_X12 hown hK hP 0 rfl rfl 0 (by decide) (hts _ kw887) (fun _ h9 => h9) rfl dX12_sums_20 ?_
        refine lv_iload_n hx hb dX12_sums_23 rfl (lv_at hl 3 rfl) ?_
        refine lv_iload hx hb dX12_sums_24 (lv_at hl 0 rfl) ?_
        refine lv_iadd hx hb dX12_sums_26 ?_
        obtain ⟨g_2, hf⟩ := gd_e hf
        refine va_iald (f := mo.2.1 0) hx hb hK hP 1 0 rfl rfl g_2 dX12_sums_27 ?_
        refine lv_i2l (v := (mo.2.1 0 (ix (v3 + v7)) : Int32).toInt64) hx hb dX12_sums_28 rfl ?_
        refine lv_ladd hx hb dX12_sums_29 ?_
        refine lv_topl (fun v5_3 ev5_3 => ?_)
        replace hf := bl_i hf ev5_3
        refine lv_lstore (lv' := [(5, .long v5_3), (7, .int v7), (0, .ref (a 0)), (3, .int v3), (4, .int v4)]) hx hb dX12_sums_30 hl (by decide) rfl (fun ls hl => ?_)
        obtain ⟨v7_4, ev7_4, hf⟩ := bl_e hf
        refine lv_iinc (v := v7_4) (lv' := [(7, .int v7_4), (5, .long v5_3), (0, .ref (a 0)), (3, .int v3), (4, .int v4)]) hx hb dX12_sums_32 hl (k := 1) rfl ev7_4 (by decide) rfl (fun ls hl => ?_)
        refine lv_goto (tgt := 6) hx hb dX12_sums_35 (by decide) ?_
        exact ih v3 v4 v7_4 v5_3 ex _ _ _ hP hD hS hl (lp_inl hor hf) hE
  unfold f_X12_sums at hf
  show WG l G ct sk sv p e (RM 0 0 0 0) s m args below meth c A (Eq2 (some (.long r)) (wl [lfM ct a mo])) s.heap [] (F0 m 0 ls [])
  refine lv_lload_n hx hb dX12_sums_0 rfl (lv_at hl 1 rfl) ?_
  refine lv_lstore (lv' := [(5, .long v1), (0, .ref (a 0)), (1, .long v1), (3, .int v3), (4, .int v4)]) hx hb dX12_sums_1 hl (by decide) rfl (fun ls hl => ?_)
  refine lv_iconst (v := 0) hx hb dX12_sums_3 (by decide) ?_
  refine lv_istore (lv' := [(7, .int 0), (5, .long v1), (0, .ref (a 0)), (1, .long v1), (3, .int v3), (4, .int v4)]) hx hb dX12_sums_4 hl (by decide) rfl (fun ls hl => ?_)
  obtain ⟨v5_5, hx_6, hf⟩ := bd_e hf
  refine L6 n v3 v4 0 v1 v5_5 _ _ _ hP hD hS (lv_sub hl [0, 1, 2, 4, 5] rfl) hx_6 ?_
  intro x9 e9 H locs ls hP hD hS hl
  subst e9
  have hP : va_P G classes (wl [lfM ct a mo]) H := hP
  have hD : va_D A (wl [lfM ct a mo]) := hD
  have hl : lv_has ls 8 [(5, .long v5_5)] := hl
  refine lv_lload hx hb dX12_sums_38 (lv_at hl 0 rfl) ?_
  have e1 := Option.some.inj hf
  exact end_l (w' := (wl [lfM ct a mo])) hx hb hr hlocks hK hP hD hS dX12_sums_40  ⟨by rw [← e1], rfl⟩
noncomputable def f_X12_digest_b6 (n : Nat) (mo : MV) (v3 : Int32) (v1 : Int64) : Option ((Int32 × Int64) ⊕ (Int64)) :=
  bc (8 ≤ v3) (some (.inr v1))
  (bd (f_X12_counted n mo v3) fun r_2 =>
  bl ((31 * v1) + ((r_2 : Int32).toInt64)) fun v1_3 =>
  bl (v3 + 1) fun v3_4 =>
  some (.inl (v3_4, v1_3)))
noncomputable def f_X12_digest_l6 (fu : Nat) (n : Nat) (mo : MV) (v3 : Int32) (v1 : Int64) : Option (Int64) :=
  lp (fun q => f_X12_digest_b6 n mo q.1 q.2) fu (v3, v1)
noncomputable def f_X12_digest_b42 (n : Nat) (mo : MV) (v3 : Int32) (v1 : Int64) : Option ((Int32 × Int64) ⊕ (Int64)) :=
  bd (f_X12_members n mo) fun r_5 =>
  bc (r_5 ≤ v3) (some (.inr v1))
  (gd (vp_in (24 + v3) 235) <|
  gd (vp_in (16 + v3) 235) <|
  gd (vp_in (11 + v3) 235) <|
  bl ((31 * ((31 * ((31 * v1) + ((mo.2.1 0 (ix (24 + v3)) : Int32).toInt64))) + ((mo.2.1 0 (ix (16 + v3)) : Int32).toInt64))) + ((mo.2.1 0 (ix (11 + v3)) : Int32).toInt64)) fun v1_10 =>
  bl (v3 + 1) fun v3_11 =>
  some (.inl (v3_11, v1_10)))
noncomputable def f_X12_digest_l42 (fu : Nat) (n : Nat) (mo : MV) (v3 : Int32) (v1 : Int64) : Option (Int64) :=
  lp (fun q => f_X12_digest_b42 n mo q.1 q.2) fu (v3, v1)
noncomputable def f_X12_digest_b105 (n : Nat) (mo : MV) (v3 : Int32) (v1 : Int64) : Option ((Int32 × Int64) ⊕ (Int64)) :=
  bd (f_X12_letters n mo) fun r_12 =>
  bc (r_12 ≤ v3) (some (.inr v1))
  (bd (f_X12_sums n mo v1 (29 + (3 * v3)) 3) fun r_14 =>
  gd (vp_in (5 + v3) 235) <|
  bl ((31 * r_14) + ((mo.2.1 0 (ix (5 + v3)) : Int32).toInt64)) fun v1_16 =>
  bl (v3 + 1) fun v3_17 =>
  some (.inl (v3_17, v1_16)))
noncomputable def f_X12_digest_l105 (fu : Nat) (n : Nat) (mo : MV) (v3 : Int32) (v1 : Int64) : Option (Int64) :=
  lp (fun q => f_X12_digest_b105 n mo q.1 q.2) fu (v3, v1)
noncomputable def f_X12_digest (n : Nat) (mo : MV) : Option (Int64) :=
  bd (f_X12_digest_l6 n n mo 0 1289) fun v1_18 =>
  bd (f_X12_sums n mo v1_18 21 2) fun r_20 =>
  bd (f_X12_digest_l42 n n mo 0 r_20) fun v1_21 =>
  bd (f_X12_digest_l105 n n mo 0 v1_21) fun v1_23 =>
  gd (vp_in 2 235) <|
  bd (f_X12_sums n mo v1_23 47 (3 * (mo.2.1 0 (ix 2)))) fun r_26 =>
  gd (vp_in 3 235) <|
  bd (f_X12_sums n mo r_26 65 (3 * (mo.2.1 0 (ix 3)))) fun r_28 =>
  some ((31 * ((31 * r_28) + (mo.2.2 0))) + (mo.2.2 1))
set_option maxHeartbeats 4000000 in
set_option maxRecDepth 100000 in
theorem c_X12_digest (l : Launch) (G : va_G) (ct : Nat → ClassId) (sk sv : Nat → Nat) (a : Nat → Nat) (n : Nat) (mo : MV) {r : Int64} (hf : f_X12_digest n mo = some r) : Ctr (l, G, ct, sk, sv) mX12_digest 3 64 [.ref (a 0)] (wl [lfM ct a mo]) (wl [lfM ct a mo]) (some (.long r)) := by
  refine ctr_intro (by decide) (Nat.le_of_ble_eq_true rfl) ?_
  intro p e s m args below meth c A C hP hD hS hA ls hl
  obtain ⟨hx, hb, hml, hown, hts, hr, hlocks, hK, hnm, hZ⟩ := C
  have hb : c.code = cX12_digest := hb
  have hml : c.maxLocals = 4 := hml
  have hown : s.vm.findClass "SignedOutsideModel" = some m.cls := hown
  have hr : meth.sig.returnType = some .long := hr
  have hP : va_P G classes (wl [lfM ct a mo]) s.heap := hP
  have hD : va_D A (wl [lfM ct a mo]) := hD
  have hK : va_K G classes (TYS ct) s := hK
  have hl : lv_has ls 4 [(0, .ref (a 0))] := hl
  have L6 : ∀ (fu : Nat) (v3 : Int32) (v1 : Int64) (ex : Int64) (H : Heap) (locs : List Loc) (ls : Array Slot), va_P G classes (wl [lfM ct a mo]) H → va_D A (wl [lfM ct a mo]) → va_S A s.heap H locs → lv_has ls 4 [(3, .int v3), (1, .long v1), (0, .ref (a 0))] → f_X12_digest_l6 fu n mo v3 v1 = some ex → (∀ (x : Int64), ex = x → ∀ (H : Heap) (locs : List Loc) (ls : Array Slot), va_P G classes (wl [lfM ct a mo]) H → va_D A (wl [lfM ct a mo]) → va_S A s.heap H locs → lv_has ls 4 [(1, .long x), (0, .ref (a 0))] → WG l G ct sk sv p e (RM 3 64 0 0) s m args below meth c A (Eq2 (some (.long r)) (wl [lfM ct a mo])) H locs (F0 m 31 ls [])) → WG l G ct sk sv p e (RM 3 64 0 0) s m args below meth c A (Eq2 (some (.long r)) (wl [lfM ct a mo])) H locs (F0 m 6 ls []) := by
    intro fu
    induction fu with
    | zero =>
      intro v3 v1 ex H locs ls hP hD hS hl hf
      exact absurd hf (by unfold f_X12_digest_l6 lp; exact fun h => by cases h)
    | succ fu ih =>
      intro v3 v1 ex H locs ls hP hD hS hl hf hE
      unfold f_X12_digest_l6 at hf
      obtain ⟨q, hf, hor⟩ := lp_e hf
      replace hf : f_X12_digest_b6 n mo v3 v1 = some q := hf
      unfold f_X12_digest_b6 at hf
      refine lv_iload_n hx hb dX12_digest_6 rfl (lv_at hl 0 rfl) ?_
      refine lv_bipush (v := 8) hx hb dX12_digest_7 (by decide) ?_
      refine lv_icmp_ge (tgt := 31) hx hb dX12_digest_9 (by decide) (fun c_1 => ?_) (fun c_1 => ?_)
      · replace hf := bc_t hf c_1
        exact hE v1 (lp_inr hor hf).symm _ _ _ hP hD hS (lv_sub hl [1, 2] rfl)
      · replace hf := bc_f hf c_1
        refine lv_ldc2 (v := 31) hx hb hown (hts _ kw1283) dX12_digest_12 ?_
        refine lv_lload_n hx hb dX12_digest_15 rfl (lv_at hl 1 rfl) ?_
        refine lv_lmul hx hb dX12_digest_16 ?_
        refine lv_aload_n hx hb dX12_digest_17 rfl (lv_at hl 2 rfl) ?_
        refine lv_iload_n hx hb dX12_digest_18 rfl (lv_at hl 0 rfl) ?_
        obtain ⟨r_2, hc2, hf⟩ := bd_e hf
        refine call_V (As := [.int v3]) (rest := [.long (31 * v1)]) hx hb hml hown hts hK hP hD hS hA hZ lkX12_277 (c_X12_counted l G ct sk sv a n mo v3 hc2) 0 rfl rfl ⟨Nat.le_of_ble_eq_true rfl, Nat.le_of_ble_eq_true rfl⟩ rfl hl.1 rfl (Nat.le_of_ble_eq_true rfl) dX12_digest_19 ⟨Nat.le_of_ble_eq_true rfl, Nat.le_of_ble_eq_true rfl⟩ (fun r9 w9 H locs hB hP hD hS => ?_)
        obtain ⟨rfl, rfl⟩ := hB
        refine WG_eq (g2 := F0 m 22 ls [.int r_2, .long (31 * v1)]) rfl ?_
        refine lv_i2l (v := (r_2 : Int32).toInt64) hx hb dX12_digest_22 rfl ?_
        refine lv_ladd hx hb dX12_digest_23 ?_
        refine lv_topl (fun v1_3 ev1_3 => ?_)
        replace hf := bl_i hf ev1_3
        refine lv_lstore_n (lv' := [(1, .long v1_3), (3, .int v3), (0, .ref (a 0))]) hx hb dX12_digest_24 rfl hl (by decide) rfl (fun ls hl => ?_)
        obtain ⟨v3_4, ev3_4, hf⟩ := bl_e hf
        refine lv_iinc (v := v3_4) (lv' := [(3, .int v3_4), (1, .long v1_3), (0, .ref (a 0))]) hx hb dX12_digest_25 hl (k := 1) rfl ev3_4 (by decide) rfl (fun ls hl => ?_)
        refine lv_goto (tgt := 6) hx hb dX12_digest_28 (by decide) ?_
        exact ih v3_4 v1_3 ex _ _ _ hP hD hS hl (lp_inl hor hf) hE
  have L42 : ∀ (fu : Nat) (v3 : Int32) (v1 : Int64) (ex : Int64) (H : Heap) (locs : List Loc) (ls : Array Slot), va_P G classes (wl [lfM ct a mo]) H → va_D A (wl [lfM ct a mo]) → va_S A s.heap H locs → lv_has ls 4 [(3, .int v3), (1, .long v1), (0, .ref (a 0))] → f_X12_digest_l42 fu n mo v3 v1 = some ex → (∀ (x : Int64), ex = x → ∀ (H : Heap) (locs : List Loc) (ls : Array Slot), va_P G classes (wl [lfM ct a mo]) H → va_D A (wl [lfM ct a mo]) → va_S A s.heap H locs → lv_has ls 4 [(1, .long x), (0, .ref (a 0))] → WG l G ct sk sv p e (RM 3 64 0 0) s m args below meth c A (Eq2 (some (.long r)) (wl [lfM ct a mo])) H locs (F0 m 103 ls [])) → WG l G ct sk sv p e (RM 3 64 0 0) s m args below meth c A (Eq2 (some (.long r)) (wl [lfM ct a mo])) H locs (F0 m 42 ls []) := by
    intro fu
    induction fu with
    | zero =>
      intro v3 v1 ex H locs ls hP hD hS hl hf
      exact absurd hf (by unfold f_X12_digest_l42 lp; exact fun h => by cases h)
    | succ fu ih =>
      intro v3 v1 ex H locs ls hP hD hS hl hf hE
      unfold f_X12_digest_l42 at hf
      obtain ⟨q, hf, hor⟩ := lp_e hf
      replace hf : f_X12_digest_b42 n mo v3 v1 = some q := hf
      unfold f_X12_digest_b42 at hf
      refine lv_iload_n hx hb dX12_digest_42 rfl (lv_at hl 0 rfl) ?_
      refine lv_aload_n hx hb dX12_digest_43 rfl (lv_at hl 2 rfl) ?_
      obtain ⟨r_5, hc5, hf⟩ := bd_e hf
      refine call_V (As := []) (rest := [.int v3]) hx hb hml hown hts hK hP hD hS hA hZ lkX12_61 (c_X12_members l G ct sk sv a n mo hc5) 0 rfl rfl ⟨Nat.le_of_ble_eq_true rfl, Nat.le_of_ble_eq_true rfl⟩ rfl hl.1 rfl (Nat.le_of_ble_eq_true rfl) dX12_digest_44 ⟨Nat.le_of_ble_eq_true rfl, Nat.le_of_ble_eq_true rfl⟩ (fun r9 w9 H locs hB hP hD hS => ?_)
      obtain ⟨rfl, rfl⟩ := hB
      refine WG_eq (g2 := F0 m 47 ls [.int r_5, .int v3]) rfl ?_
      refine lv_icmp_ge (tgt := 103) hx hb dX12_digest_47 (by decide) (fun c_6 => ?_) (fun c_6 => ?_)
      · replace hf := bc_t hf c_6
        exact hE v1 (lp_inr hor hf).symm _ _ _ hP hD hS (lv_sub hl [1, 2] rfl)
      · replace hf := bc_f hf c_6
        refine lv_ldc2 (v := 31) hx hb hown (hts _ kw1283) dX12_digest_50 ?_
        refine lv_ldc2 (v := 31) hx hb hown (hts _ kw1283) dX12_digest_53 ?_
        refine lv_ldc2 (v := 31) hx hb hown (hts _ kw1283) dX12_digest_56 ?_
        refine lv_lload_n hx hb dX12_digest_59 rfl (lv_at hl 1 rfl) ?_
        refine lv_lmul hx hb dX12_digest_60 ?_
        refine lv_aload_n hx hb dX12_digest_61 rfl (lv_at hl 2 rfl) ?_
        refine va_get (D := G) (C := RX12) (T := TX12) (N := 21) (v := .ref (a 1)) hx hb hts iu_X12 hown hK hP 0 rfl rfl 0 (by decide) (hts _ kw887) (fun _ h9 => h9) rfl dX12_digest_62 ?_
        refine lv_bipush (v := 24) hx hb dX12_digest_65 (by decide) ?_
        refine lv_iload_n hx hb dX12_digest_67 rfl (lv_at hl 0 rfl) ?_
        refine lv_iadd hx hb dX12_digest_68 ?_
        obtain ⟨g_7, hf⟩ := gd_e hf
        refine va_iald (f := mo.2.1 0) hx hb hK hP 1 0 rfl rfl g_7 dX12_digest_69 ?_
        refine lv_i2l (v := (mo.2.1 0 (ix (24 + v3)) : Int32).toInt64) hx hb dX12_digest_70 rfl ?_
        refine lv_ladd hx hb dX12_digest_71 ?_
        refine lv_lmul hx hb dX12_digest_72 ?_
        refine lv_aload_n hx hb dX12_digest_73 rfl (lv_at hl 2 rfl) ?_
        refine va_get (D := G) (C := RX12) (T := TX12) (N := 21) (v := .ref (a 1)) hx hb hts iu_X12 hown hK hP 0 rfl rfl 0 (by decide) (hts _ kw887) (fun _ h9 => h9) rfl dX12_digest_74 ?_
        refine lv_bipush (v := 16) hx hb dX12_digest_77 (by decide) ?_
        refine lv_iload_n hx hb dX12_digest_79 rfl (lv_at hl 0 rfl) ?_
        refine lv_iadd hx hb dX12_digest_80 ?_
        obtain ⟨g_8, hf⟩ := gd_e hf
        refine va_iald (f := mo.2.1 0) hx hb hK hP 1 0 rfl rfl g_8 dX12_digest_81 ?_
        refine lv_i2l (v := (mo.2.1 0 (ix (16 + v3)) : Int32).toInt64) hx hb dX12_digest_82 rfl ?_
        refine lv_ladd hx hb dX12_digest_83 ?_
        refine lv_lmul hx hb dX12_digest_84 ?_
        refine lv_aload_n hx hb dX12_digest_85 rfl (lv_at hl 2 rfl) ?_
        refine va_get (D := G) (C := RX12) (T := TX12) (N := 21) (v := .ref (a 1)) hx hb hts iu_X12 hown hK hP 0 rfl rfl 0 (by decide) (hts _ kw887) (fun _ h9 => h9) rfl dX12_digest_86 ?_
        refine lv_bipush (v := 11) hx hb dX12_digest_89 (by decide) ?_
        refine lv_iload_n hx hb dX12_digest_91 rfl (lv_at hl 0 rfl) ?_
        refine lv_iadd hx hb dX12_digest_92 ?_
        obtain ⟨g_9, hf⟩ := gd_e hf
        refine va_iald (f := mo.2.1 0) hx hb hK hP 1 0 rfl rfl g_9 dX12_digest_93 ?_
        refine lv_i2l (v := (mo.2.1 0 (ix (11 + v3)) : Int32).toInt64) hx hb dX12_digest_94 rfl ?_
        refine lv_ladd hx hb dX12_digest_95 ?_
        refine lv_topl (fun v1_10 ev1_10 => ?_)
        replace hf := bl_i hf ev1_10
        refine lv_lstore_n (lv' := [(1, .long v1_10), (3, .int v3), (0, .ref (a 0))]) hx hb dX12_digest_96 rfl hl (by decide) rfl (fun ls hl => ?_)
        obtain ⟨v3_11, ev3_11, hf⟩ := bl_e hf
        refine lv_iinc (v := v3_11) (lv' := [(3, .int v3_11), (1, .long v1_10), (0, .ref (a 0))]) hx hb dX12_digest_97 hl (k := 1) rfl ev3_11 (by decide) rfl (fun ls hl => ?_)
        refine lv_goto (tgt := 42) hx hb dX12_digest_100 (by decide) ?_
        exact ih v3_11 v1_10 ex _ _ _ hP hD hS hl (lp_inl hor hf) hE
  have L105 : ∀ (fu : Nat) (v3 : Int32) (v1 : Int64) (ex : Int64) (H : Heap) (locs : List Loc) (ls : Array Slot), va_P G classes (wl [lfM ct a mo]) H → va_D A (wl [lfM ct a mo]) → va_S A s.heap H locs → lv_has ls 4 [(3, .int v3), (1, .long v1), (0, .ref (a 0))] → f_X12_digest_l105 fu n mo v3 v1 = some ex → (∀ (x : Int64), ex = x → ∀ (H : Heap) (locs : List Loc) (ls : Array Slot), va_P G classes (wl [lfM ct a mo]) H → va_D A (wl [lfM ct a mo]) → va_S A s.heap H locs → lv_has ls 4 [(1, .long x), (0, .ref (a 0))] → WG l G ct sk sv p e (RM 3 64 0 0) s m args below meth c A (Eq2 (some (.long r)) (wl [lfM ct a mo])) H locs (F0 m 146 ls [])) → WG l G ct sk sv p e (RM 3 64 0 0) s m args below meth c A (Eq2 (some (.long r)) (wl [lfM ct a mo])) H locs (F0 m 105 ls []) := by
    intro fu
    induction fu with
    | zero =>
      intro v3 v1 ex H locs ls hP hD hS hl hf
      exact absurd hf (by unfold f_X12_digest_l105 lp; exact fun h => by cases h)
    | succ fu ih =>
      intro v3 v1 ex H locs ls hP hD hS hl hf hE
      unfold f_X12_digest_l105 at hf
      obtain ⟨q, hf, hor⟩ := lp_e hf
      replace hf : f_X12_digest_b105 n mo v3 v1 = some q := hf
      unfold f_X12_digest_b105 at hf
      refine lv_iload_n hx hb dX12_digest_105 rfl (lv_at hl 0 rfl) ?_
      refine lv_aload_n hx hb dX12_digest_106 rfl (lv_at hl 2 rfl) ?_
      obtain ⟨r_12, hc12, hf⟩ := bd_e hf
      refine call_V (As := []) (rest := [.int v3]) hx hb hml hown hts hK hP hD hS hA hZ lkX12_69 (c_X12_letters l G ct sk sv a n mo hc12) 0 rfl rfl ⟨Nat.le_of_ble_eq_true rfl, Nat.le_of_ble_eq_true rfl⟩ rfl hl.1 rfl (Nat.le_of_ble_eq_true rfl) dX12_digest_107 ⟨Nat.le_of_ble_eq_true rfl, Nat.le_of_ble_eq_true rfl⟩ (fun r9 w9 H locs hB hP hD hS => ?_)
      obtain ⟨rfl, rfl⟩ := hB
      refine WG_eq (g2 := F0 m 110 ls [.int r_12, .int v3]) rfl ?_
      refine lv_icmp_ge (tgt := 146) hx hb dX12_digest_110 (by decide) (fun c_13 => ?_) (fun c_13 => ?_)
      · replace hf := bc_t hf c_13
        exact hE v1 (lp_inr hor hf).symm _ _ _ hP hD hS (lv_sub hl [1, 2] rfl)
      · replace hf := bc_f hf c_13
        refine lv_ldc2 (v := 31) hx hb hown (hts _ kw1283) dX12_digest_113 ?_
        refine lv_aload_n hx hb dX12_digest_116 rfl (lv_at hl 2 rfl) ?_
        refine lv_lload_n hx hb dX12_digest_117 rfl (lv_at hl 1 rfl) ?_
        refine lv_bipush (v := 29) hx hb dX12_digest_118 (by decide) ?_
        refine lv_iconst (v := 3) hx hb dX12_digest_120 (by decide) ?_
        refine lv_iload_n hx hb dX12_digest_121 rfl (lv_at hl 0 rfl) ?_
        refine lv_imul hx hb dX12_digest_122 ?_
        refine lv_iadd hx hb dX12_digest_123 ?_
        refine lv_iconst (v := 3) hx hb dX12_digest_124 (by decide) ?_
        obtain ⟨r_14, hc14, hf⟩ := bd_e hf
        refine call_V (As := [.long v1, .int (29 + (3 * v3)), .int 3]) (rest := [.long 31]) hx hb hml hown hts hK hP hD hS hA hZ lkX12_284 (c_X12_sums l G ct sk sv a n mo v1 (29 + (3 * v3)) 3 hc14) 0 rfl rfl ⟨Nat.le_of_ble_eq_true rfl, Nat.le_of_ble_eq_true rfl⟩ rfl hl.1 rfl (Nat.le_of_ble_eq_true rfl) dX12_digest_125 ⟨Nat.le_of_ble_eq_true rfl, Nat.le_of_ble_eq_true rfl⟩ (fun r9 w9 H locs hB hP hD hS => ?_)
        obtain ⟨rfl, rfl⟩ := hB
        refine WG_eq (g2 := F0 m 128 ls [.long r_14, .long 31]) rfl ?_
        refine lv_lmul hx hb dX12_digest_128 ?_
        refine lv_aload_n hx hb dX12_digest_129 rfl (lv_at hl 2 rfl) ?_
        refine va_get (D := G) (C := RX12) (T := TX12) (N := 21) (v := .ref (a 1)) hx hb hts iu_X12 hown hK hP 0 rfl rfl 0 (by decide) (hts _ kw887) (fun _ h9 => h9) rfl dX12_digest_130 ?_
        refine lv_iconst (v := 5) hx hb dX12_digest_133 (by decide) ?_
        refine lv_iload_n hx hb dX12_digest_134 rfl (lv_at hl 0 rfl) ?_
        refine lv_iadd hx hb dX12_digest_135 ?_
        obtain ⟨g_15, hf⟩ := gd_e hf
        refine va_iald (f := mo.2.1 0) hx hb hK hP 1 0 rfl rfl g_15 dX12_digest_136 ?_
        refine lv_i2l (v := (mo.2.1 0 (ix (5 + v3)) : Int32).toInt64) hx hb dX12_digest_137 rfl ?_
        refine lv_ladd hx hb dX12_digest_138 ?_
        refine lv_topl (fun v1_16 ev1_16 => ?_)
        replace hf := bl_i hf ev1_16
        refine lv_lstore_n (lv' := [(1, .long v1_16), (3, .int v3), (0, .ref (a 0))]) hx hb dX12_digest_139 rfl hl (by decide) rfl (fun ls hl => ?_)
        obtain ⟨v3_17, ev3_17, hf⟩ := bl_e hf
        refine lv_iinc (v := v3_17) (lv' := [(3, .int v3_17), (1, .long v1_16), (0, .ref (a 0))]) hx hb dX12_digest_140 hl (k := 1) rfl ev3_17 (by decide) rfl (fun ls hl => ?_)
        refine lv_goto (tgt := 105) hx hb dX12_digest_143 (by decide) ?_
        exact ih v3_17 v1_16 ex _ _ _ hP hD hS hl (lp_inl hor hf) hE
  unfold f_X12_digest at hf
  show WG l G ct sk sv p e (RM 3 64 0 0) s m args below meth c A (Eq2 (some (.long r)) (wl [lfM ct a mo])) s.heap [] (F0 m 0 ls [])
  refine lv_ldc2 (v := 1289) hx hb hown (hts _ kw1282) dX12_digest_0 ?_
  refine lv_lstore_n (lv' := [(1, .long 1289), (0, .ref (a 0))]) hx hb dX12_digest_3 rfl hl (by decide) rfl (fun ls hl => ?_)
  refine lv_iconst (v := 0) hx hb dX12_digest_4 (by decide) ?_
  refine lv_istore_n (lv' := [(3, .int 0), (1, .long 1289), (0, .ref (a 0))]) hx hb dX12_digest_5 rfl hl (by decide) rfl (fun ls hl => ?_)
  obtain ⟨v1_18, hx_19, hf⟩ := bd_e hf
  refine L6 n 0 1289 v1_18 _ _ _ hP hD hS hl hx_19 ?_
  intro x9 e9 H locs ls hP hD hS hl
  subst e9
  have hP : va_P G classes (wl [lfM ct a mo]) H := hP
  have hD : va_D A (wl [lfM ct a mo]) := hD
  have hl : lv_has ls 4 [(1, .long v1_18), (0, .ref (a 0))] := hl
  refine lv_aload_n hx hb dX12_digest_31 rfl (lv_at hl 1 rfl) ?_
  refine lv_lload_n hx hb dX12_digest_32 rfl (lv_at hl 0 rfl) ?_
  refine lv_bipush (v := 21) hx hb dX12_digest_33 (by decide) ?_
  refine lv_iconst (v := 2) hx hb dX12_digest_35 (by decide) ?_
  obtain ⟨r_20, hc20, hf⟩ := bd_e hf
  refine call_V (As := [.long v1_18, .int 21, .int 2]) (rest := []) hx hb hml hown hts hK hP hD hS hA hZ lkX12_284 (c_X12_sums l G ct sk sv a n mo v1_18 21 2 hc20) 0 rfl rfl ⟨Nat.le_of_ble_eq_true rfl, Nat.le_of_ble_eq_true rfl⟩ rfl hl.1 rfl (Nat.le_of_ble_eq_true rfl) dX12_digest_36 ⟨Nat.le_of_ble_eq_true rfl, Nat.le_of_ble_eq_true rfl⟩ (fun r9 w9 H locs hB hP hD hS => ?_)
  obtain ⟨rfl, rfl⟩ := hB
  refine WG_eq (g2 := F0 m 39 ls [.long r_20]) rfl ?_
  refine lv_lstore_n (lv' := [(1, .long r_20), (0, .ref (a 0))]) hx hb dX12_digest_39 rfl hl (by decide) rfl (fun ls hl => ?_)
  refine lv_iconst (v := 0) hx hb dX12_digest_40 (by decide) ?_
  refine lv_istore_n (lv' := [(3, .int 0), (1, .long r_20), (0, .ref (a 0))]) hx hb dX12_digest_41 rfl hl (by decide) rfl (fun ls hl => ?_)
  obtain ⟨v1_21, hx_22, hf⟩ := bd_e hf
  refine L42 n 0 r_20 v1_21 _ _ _ hP hD hS hl hx_22 ?_
  intro x9 e9 H locs ls hP hD hS hl
  subst e9
  have hP : va_P G classes (wl [lfM ct a mo]) H := hP
  have hD : va_D A (wl [lfM ct a mo]) := hD
  have hl : lv_has ls 4 [(1, .long v1_21), (0, .ref (a 0))] := hl
  refine lv_iconst (v := 0) hx hb dX12_digest_103 (by decide) ?_
  refine lv_istore_n (lv' := [(3, .int 0), (1, .long v1_21), (0, .ref (a 0))]) hx hb dX12_digest_104 rfl hl (by decide) rfl (fun ls hl => ?_)
  obtain ⟨v1_23, hx_24, hf⟩ := bd_e hf
  refine L105 n 0 v1_21 v1_23 _ _ _ hP hD hS hl hx_24 ?_
  intro x9 e9 H locs ls hP hD hS hl
  subst e9
  have hP : va_P G classes (wl [lfM ct a mo]) H := hP
  have hD : va_D A (wl [lfM ct a mo]) := hD
  have hl : lv_has ls 4 [(1, .long v1_23), (0, .ref (a 0))] := hl
  refine lv_aload_n hx hb dX12_digest_146 rfl (lv_at hl 1 rfl) ?_
  refine lv_lload_n hx hb dX12_digest_147 rfl (lv_at hl 0 rfl) ?_
  refine lv_bipush (v := 47) hx hb dX12_digest_148 (by decide) ?_
  refine lv_iconst (v := 3) hx hb dX12_digest_150 (by decide) ?_
  refine lv_aload_n hx hb dX12_digest_151 rfl (lv_at hl 1 rfl) ?_
  refine va_get (D := G) (C := RX12) (T := TX12) (N := 21) (v := .ref (a 1)) hx hb hts iu_X12 hown hK hP 0 rfl rfl 0 (by decide) (hts _ kw887) (fun _ h9 => h9) rfl dX12_digest_152 ?_
  refine lv_iconst (v := 2) hx hb dX12_digest_155 (by decide) ?_
  obtain ⟨g_25, hf⟩ := gd_e hf
  refine va_iald (f := mo.2.1 0) hx hb hK hP 1 0 rfl rfl g_25 dX12_digest_156 ?_
  refine lv_imul hx hb dX12_digest_157 ?_
  obtain ⟨r_26, hc26, hf⟩ := bd_e hf
  refine call_V (As := [.long v1_23, .int 47, .int (3 * (mo.2.1 0 (ix 2)))]) (rest := []) hx hb hml hown hts hK hP hD hS hA hZ lkX12_284 (c_X12_sums l G ct sk sv a n mo v1_23 47 (3 * (mo.2.1 0 (ix 2))) hc26) 0 rfl rfl ⟨Nat.le_of_ble_eq_true rfl, Nat.le_of_ble_eq_true rfl⟩ rfl hl.1 rfl (Nat.le_of_ble_eq_true rfl) dX12_digest_158 ⟨Nat.le_of_ble_eq_true rfl, Nat.le_of_ble_eq_true rfl⟩ (fun r9 w9 H locs hB hP hD hS => ?_)
  obtain ⟨rfl, rfl⟩ := hB
  refine WG_eq (g2 := F0 m 161 ls [.long r_26]) rfl ?_
  refine lv_lstore_n (lv' := [(1, .long r_26), (0, .ref (a 0))]) hx hb dX12_digest_161 rfl hl (by decide) rfl (fun ls hl => ?_)
  refine lv_aload_n hx hb dX12_digest_162 rfl (lv_at hl 1 rfl) ?_
  refine lv_lload_n hx hb dX12_digest_163 rfl (lv_at hl 0 rfl) ?_
  refine lv_bipush (v := 65) hx hb dX12_digest_164 (by decide) ?_
  refine lv_iconst (v := 3) hx hb dX12_digest_166 (by decide) ?_
  refine lv_aload_n hx hb dX12_digest_167 rfl (lv_at hl 1 rfl) ?_
  refine va_get (D := G) (C := RX12) (T := TX12) (N := 21) (v := .ref (a 1)) hx hb hts iu_X12 hown hK hP 0 rfl rfl 0 (by decide) (hts _ kw887) (fun _ h9 => h9) rfl dX12_digest_168 ?_
  refine lv_iconst (v := 3) hx hb dX12_digest_171 (by decide) ?_
  obtain ⟨g_27, hf⟩ := gd_e hf
  refine va_iald (f := mo.2.1 0) hx hb hK hP 1 0 rfl rfl g_27 dX12_digest_172 ?_
  refine lv_imul hx hb dX12_digest_173 ?_
  obtain ⟨r_28, hc28, hf⟩ := bd_e hf
  refine call_V (As := [.long r_26, .int 65, .int (3 * (mo.2.1 0 (ix 3)))]) (rest := []) hx hb hml hown hts hK hP hD hS hA hZ lkX12_284 (c_X12_sums l G ct sk sv a n mo r_26 65 (3 * (mo.2.1 0 (ix 3))) hc28) 0 rfl rfl ⟨Nat.le_of_ble_eq_true rfl, Nat.le_of_ble_eq_true rfl⟩ rfl hl.1 rfl (Nat.le_of_ble_eq_true rfl) dX12_digest_174 ⟨Nat.le_of_ble_eq_true rfl, Nat.le_of_ble_eq_true rfl⟩ (fun r9 w9 H locs hB hP hD hS => ?_)
  obtain ⟨rfl, rfl⟩ := hB
  refine WG_eq (g2 := F0 m 177 ls [.long r_28]) rfl ?_
  refine lv_lstore_n (lv' := [(1, .long r_28), (0, .ref (a 0))]) hx hb dX12_digest_177 rfl hl (by decide) rfl (fun ls hl => ?_)
  refine lv_ldc2 (v := 31) hx hb hown (hts _ kw1283) dX12_digest_178 ?_
  refine lv_ldc2 (v := 31) hx hb hown (hts _ kw1283) dX12_digest_181 ?_
  refine lv_lload_n hx hb dX12_digest_184 rfl (lv_at hl 0 rfl) ?_
  refine lv_lmul hx hb dX12_digest_185 ?_
  refine lv_aload_n hx hb dX12_digest_186 rfl (lv_at hl 1 rfl) ?_
  refine va_get (D := G) (C := RX12) (T := TX12) (N := 21) (v := .long (mo.2.2 0)) hx hb hts iu_X12 hown hK hP 0 rfl rfl 4 (by decide) (hts _ kw891) (fun _ h9 => h9) rfl dX12_digest_187 ?_
  refine lv_ladd hx hb dX12_digest_190 ?_
  refine lv_lmul hx hb dX12_digest_191 ?_
  refine lv_aload_n hx hb dX12_digest_192 rfl (lv_at hl 1 rfl) ?_
  refine va_get (D := G) (C := RX12) (T := TX12) (N := 21) (v := .long (mo.2.2 1)) hx hb hts iu_X12 hown hK hP 0 rfl rfl 5 (by decide) (hts _ kw892) (fun _ h9 => h9) rfl dX12_digest_193 ?_
  refine lv_ladd hx hb dX12_digest_196 ?_
  have e1 := Option.some.inj hf
  exact end_l (w' := (wl [lfM ct a mo])) hx hb hr hlocks hK hP hD hS dX12_digest_197  ⟨by rw [← e1], rfl⟩
