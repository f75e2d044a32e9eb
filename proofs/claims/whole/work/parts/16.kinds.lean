noncomputable def f_X5_signs (n : Nat) (v1 : Int32) : Option (Int32) :=
  some 10
set_option maxHeartbeats 4000000 in
set_option maxRecDepth 100000 in
theorem c_X5_signs (l : Launch) (G : va_G) (ct : Nat → ClassId) (sk sv : Nat → Nat)  (b ci : Nat) {qq : vw_C} (hci : classes[ci]? = some qq) (n : Nat) (v1 : Int32) {r : Int32} (hf : f_X5_signs n v1 = some r) : Ctr (l, G, ct, sk, sv) mX5_signs 0 0 [.ref (b), .int v1] (wl [lfO b ci]) (wl [lfO b ci]) (some (.int r)) := by
  refine ctr_intro (by decide) (Nat.le_of_ble_eq_true rfl) ?_
  intro p e s m args below meth c A C hP hD hS hA ls hl
  obtain ⟨hx, hb, hml, hown, hts, hr, hlocks, hK, hnm, hZ⟩ := C
  have hb : c.code = cX5_signs := hb
  have hml : c.maxLocals = 2 := hml
  have hown : s.vm.findClass "SignedOutside$Plain" = some m.cls := hown
  have hr : meth.sig.returnType = some .int := hr
  have hP : va_P G classes (wl [lfO b ci]) s.heap := hP
  have hD : va_D A (wl [lfO b ci]) := hD
  have hK : va_K G classes (TYS ct) s := hK
  have hl : lv_has ls 2 [(0, .ref (b)), (1, .int v1)] := hl
  unfold f_X5_signs at hf
  show WG l G ct sk sv p e (RM 0 0 0 0) s m args below meth c A (Eq2 (some (.int r)) (wl [lfO b ci])) s.heap [] (F0 m 0 ls [])
  refine lv_bipush (v := 10) hx hb dX5_signs_0 (by decide) ?_
  have e1 := Option.some.inj hf
  exact end_i (w' := (wl [lfO b ci])) hx hb hr hlocks hK hP hD hS dX5_signs_2  ⟨by rw [← e1], rfl⟩
noncomputable def f_X5_reach (n : Nat) : Option (Int32) :=
  some 20
set_option maxHeartbeats 4000000 in
set_option maxRecDepth 100000 in
theorem c_X5_reach (l : Launch) (G : va_G) (ct : Nat → ClassId) (sk sv : Nat → Nat)  (b ci : Nat) {qq : vw_C} (hci : classes[ci]? = some qq) (n : Nat) {r : Int32} (hf : f_X5_reach n = some r) : Ctr (l, G, ct, sk, sv) mX5_reach 0 0 [.ref (b)] (wl [lfO b ci]) (wl [lfO b ci]) (some (.int r)) := by
  refine ctr_intro (by decide) (Nat.le_of_ble_eq_true rfl) ?_
  intro p e s m args below meth c A C hP hD hS hA ls hl
  obtain ⟨hx, hb, hml, hown, hts, hr, hlocks, hK, hnm, hZ⟩ := C
  have hb : c.code = cX5_reach := hb
  have hml : c.maxLocals = 1 := hml
  have hown : s.vm.findClass "SignedOutside$Plain" = some m.cls := hown
  have hr : meth.sig.returnType = some .int := hr
  have hP : va_P G classes (wl [lfO b ci]) s.heap := hP
  have hD : va_D A (wl [lfO b ci]) := hD
  have hK : va_K G classes (TYS ct) s := hK
  have hl : lv_has ls 1 [(0, .ref (b))] := hl
  unfold f_X5_reach at hf
  show WG l G ct sk sv p e (RM 0 0 0 0) s m args below meth c A (Eq2 (some (.int r)) (wl [lfO b ci])) s.heap [] (F0 m 0 ls [])
  refine lv_bipush (v := 20) hx hb dX5_reach_0 (by decide) ?_
  have e1 := Option.some.inj hf
  exact end_i (w' := (wl [lfO b ci])) hx hb hr hlocks hK hP hD hS dX5_reach_2  ⟨by rw [← e1], rfl⟩
noncomputable def f_X5_bears (n : Nat) : Option (Int32) :=
  some 2
set_option maxHeartbeats 4000000 in
set_option maxRecDepth 100000 in
theorem c_X5_bears (l : Launch) (G : va_G) (ct : Nat → ClassId) (sk sv : Nat → Nat)  (b ci : Nat) {qq : vw_C} (hci : classes[ci]? = some qq) (n : Nat) {r : Int32} (hf : f_X5_bears n = some r) : Ctr (l, G, ct, sk, sv) mX5_bears 0 0 [.ref (b)] (wl [lfO b ci]) (wl [lfO b ci]) (some (.int r)) := by
  refine ctr_intro (by decide) (Nat.le_of_ble_eq_true rfl) ?_
  intro p e s m args below meth c A C hP hD hS hA ls hl
  obtain ⟨hx, hb, hml, hown, hts, hr, hlocks, hK, hnm, hZ⟩ := C
  have hb : c.code = cX5_bears := hb
  have hml : c.maxLocals = 1 := hml
  have hown : s.vm.findClass "SignedOutside$Plain" = some m.cls := hown
  have hr : meth.sig.returnType = some .int := hr
  have hP : va_P G classes (wl [lfO b ci]) s.heap := hP
  have hD : va_D A (wl [lfO b ci]) := hD
  have hK : va_K G classes (TYS ct) s := hK
  have hl : lv_has ls 1 [(0, .ref (b))] := hl
  unfold f_X5_bears at hf
  show WG l G ct sk sv p e (RM 0 0 0 0) s m args below meth c A (Eq2 (some (.int r)) (wl [lfO b ci])) s.heap [] (F0 m 0 ls [])
  refine lv_iconst (v := 2) hx hb dX5_bears_0 (by decide) ?_
  have e1 := Option.some.inj hf
  exact end_i (w' := (wl [lfO b ci])) hx hb hr hlocks hK hP hD hS dX5_bears_1  ⟨by rw [← e1], rfl⟩
noncomputable def f_X2_bears (n : Nat) : Option (Int32) :=
  bd (f_X5_bears n ) fun r_1 =>
  some (r_1 + 3)
set_option maxHeartbeats 4000000 in
set_option maxRecDepth 100000 in
theorem c_X2_bears (l : Launch) (G : va_G) (ct : Nat → ClassId) (sk sv : Nat → Nat)  (b ci : Nat) {qq : vw_C} (hci : classes[ci]? = some qq) (n : Nat) {r : Int32} (hf : f_X2_bears n = some r) : Ctr (l, G, ct, sk, sv) mX2_bears 1 20 [.ref (b)] (wl [lfO b ci]) (wl [lfO b ci]) (some (.int r)) := by
  refine ctr_intro (by decide) (Nat.le_of_ble_eq_true rfl) ?_
  intro p e s m args below meth c A C hP hD hS hA ls hl
  obtain ⟨hx, hb, hml, hown, hts, hr, hlocks, hK, hnm, hZ⟩ := C
  have hb : c.code = cX2_bears := hb
  have hml : c.maxLocals = 1 := hml
  have hown : s.vm.findClass "SignedOutside$Lord" = some m.cls := hown
  have hr : meth.sig.returnType = some .int := hr
  have hP : va_P G classes (wl [lfO b ci]) s.heap := hP
  have hD : va_D A (wl [lfO b ci]) := hD
  have hK : va_K G classes (TYS ct) s := hK
  have hl : lv_has ls 1 [(0, .ref (b))] := hl
  unfold f_X2_bears at hf
  show WG l G ct sk sv p e (RM 1 20 0 0) s m args below meth c A (Eq2 (some (.int r)) (wl [lfO b ci])) s.heap [] (F0 m 0 ls [])
  refine lv_aload_n hx hb dX2_bears_0 rfl (lv_at hl 0 rfl) ?_
  obtain ⟨r_1, hc1, hf⟩ := bd_e hf
  refine call_SU (n := 0) (As := []) (rest := []) hx hb hml hown hts hK hP hD hS hA hZ (M := mX5_bears) kw526 kw521 kw44 kw519 kw2 kw530 (by decide +kernel) (c_X5_bears l G ct sk sv b ci hci n  hc1) 0 rfl hci ⟨Nat.le_of_ble_eq_true rfl, Nat.le_of_ble_eq_true rfl⟩ rfl hl.1 rfl (Nat.le_of_ble_eq_true rfl) dX2_bears_1 ⟨Nat.le_of_ble_eq_true rfl, Nat.le_of_ble_eq_true rfl⟩ (fun r9 w9 H locs hB hP hD hS => ?_)
  obtain ⟨rfl, rfl⟩ := hB
  refine WG_eq (g2 := F0 m 4 ls [.int r_1]) rfl ?_
  refine lv_iconst (v := 3) hx hb dX2_bears_4 (by decide) ?_
  refine lv_iadd hx hb dX2_bears_5 ?_
  have e1 := Option.some.inj hf
  exact end_i (w' := (wl [lfO b ci])) hx hb hr hlocks hK hP hD hS dX2_bears_6  ⟨by rw [← e1], rfl⟩
noncomputable def f_X7_signs_j21 (n : Nat) (s0 : Int32) : Option (Int32) :=
  some s0
noncomputable def f_X7_signs (n : Nat) (v1 : Int32) : Option (Int32) :=
  bc ((v1 - v1 / 2 * 2) = 0) (bd (f_X5_signs n v1) fun r_3 =>
  f_X7_signs_j21 n (r_3 / 2))
  (bd (f_X5_signs n v1) fun r_2 =>
  f_X7_signs_j21 n r_2)
set_option maxHeartbeats 4000000 in
set_option maxRecDepth 100000 in
theorem c_X7_signs (l : Launch) (G : va_G) (ct : Nat → ClassId) (sk sv : Nat → Nat)  (b ci : Nat) {qq : vw_C} (hci : classes[ci]? = some qq) (n : Nat) (v1 : Int32) {r : Int32} (hf : f_X7_signs n v1 = some r) : Ctr (l, G, ct, sk, sv) mX7_signs 1 21 [.ref (b), .int v1] (wl [lfO b ci]) (wl [lfO b ci]) (some (.int r)) := by
  refine ctr_intro (by decide) (Nat.le_of_ble_eq_true rfl) ?_
  intro p e s m args below meth c A C hP hD hS hA ls hl
  obtain ⟨hx, hb, hml, hown, hts, hr, hlocks, hK, hnm, hZ⟩ := C
  have hb : c.code = cX7_signs := hb
  have hml : c.maxLocals = 2 := hml
  have hown : s.vm.findClass "SignedOutside$Sick" = some m.cls := hown
  have hr : meth.sig.returnType = some .int := hr
  have hP : va_P G classes (wl [lfO b ci]) s.heap := hP
  have hD : va_D A (wl [lfO b ci]) := hD
  have hK : va_K G classes (TYS ct) s := hK
  have hl : lv_has ls 2 [(0, .ref (b)), (1, .int v1)] := hl
  have J21 : ∀ (s0 : Int32) (H : Heap) (locs : List Loc) (ls : Array Slot), va_P G classes (wl [lfO b ci]) H → va_D A (wl [lfO b ci]) → va_S A s.heap H locs → lv_has ls 2 [] → f_X7_signs_j21 n s0 = some r → WG l G ct sk sv p e (RM 1 21 0 0) s m args below meth c A (Eq2 (some (.int r)) (wl [lfO b ci])) H locs (F0 m 21 ls [.int s0]) := by
    intro s0 H locs ls hP hD hS hl hf
    unfold f_X7_signs_j21 at hf
    have e1 := Option.some.inj hf
    exact end_i (w' := (wl [lfO b ci])) hx hb hr hlocks hK hP hD hS dX7_signs_21  ⟨by rw [← e1], rfl⟩
  unfold f_X7_signs at hf
  show WG l G ct sk sv p e (RM 1 21 0 0) s m args below meth c A (Eq2 (some (.int r)) (wl [lfO b ci])) s.heap [] (F0 m 0 ls [])
  refine lv_iload_n hx hb dX7_signs_0 rfl (lv_at hl 1 rfl) ?_
  refine lv_iconst (v := 2) hx hb dX7_signs_1 (by decide) ?_
  refine lv_irem hx hb dX7_signs_2 (by decide) ?_
  refine lv_if_ne (tgt := 16) hx hb dX7_signs_3 (by decide) (fun c_1 => ?_) (fun c_1 => ?_)
  · replace hf := bc_f hf c_1
    refine lv_aload_n hx hb dX7_signs_16 rfl (lv_at hl 0 rfl) ?_
    refine lv_iload_n hx hb dX7_signs_17 rfl (lv_at hl 1 rfl) ?_
    obtain ⟨r_2, hc2, hf⟩ := bd_e hf
    refine call_SU (n := 1) (As := [.int v1]) (rest := []) hx hb hml hown hts hK hP hD hS hA hZ (M := mX5_signs) kw480 kw473 kw51 kw471 kw2 kw490 (by decide +kernel) (c_X5_signs l G ct sk sv b ci hci n v1 hc2) 0 rfl hci ⟨Nat.le_of_ble_eq_true rfl, Nat.le_of_ble_eq_true rfl⟩ rfl hl.1 rfl (Nat.le_of_ble_eq_true rfl) dX7_signs_18 ⟨Nat.le_of_ble_eq_true rfl, Nat.le_of_ble_eq_true rfl⟩ (fun r9 w9 H locs hB hP hD hS => ?_)
    obtain ⟨rfl, rfl⟩ := hB
    refine WG_eq (g2 := F0 m 21 ls [.int r_2]) rfl ?_
    exact J21 r_2 _ _ _ hP hD hS (lv_sub hl [] rfl) hf
  · replace hf := bc_t hf c_1
    refine lv_aload_n hx hb dX7_signs_6 rfl (lv_at hl 0 rfl) ?_
    refine lv_iload_n hx hb dX7_signs_7 rfl (lv_at hl 1 rfl) ?_
    obtain ⟨r_3, hc3, hf⟩ := bd_e hf
    refine call_SU (n := 1) (As := [.int v1]) (rest := []) hx hb hml hown hts hK hP hD hS hA hZ (M := mX5_signs) kw480 kw473 kw51 kw471 kw2 kw490 (by decide +kernel) (c_X5_signs l G ct sk sv b ci hci n v1 hc3) 0 rfl hci ⟨Nat.le_of_ble_eq_true rfl, Nat.le_of_ble_eq_true rfl⟩ rfl hl.1 rfl (Nat.le_of_ble_eq_true rfl) dX7_signs_8 ⟨Nat.le_of_ble_eq_true rfl, Nat.le_of_ble_eq_true rfl⟩ (fun r9 w9 H locs hB hP hD hS => ?_)
    obtain ⟨rfl, rfl⟩ := hB
    refine WG_eq (g2 := F0 m 11 ls [.int r_3]) rfl ?_
    refine lv_iconst (v := 2) hx hb dX7_signs_11 (by decide) ?_
    refine lv_idiv hx hb dX7_signs_12 (by decide) ?_
    refine lv_goto (tgt := 21) hx hb dX7_signs_13 (by decide) ?_
    exact J21 (r_3 / 2) _ _ _ hP hD hS (lv_sub hl [] rfl) hf
noncomputable def f_X10_reach (n : Nat) : Option (Int32) :=
  bd (f_X5_reach n ) fun r_1 =>
  some (2 * r_1)
set_option maxHeartbeats 4000000 in
set_option maxRecDepth 100000 in
theorem c_X10_reach (l : Launch) (G : va_G) (ct : Nat → ClassId) (sk sv : Nat → Nat)  (b ci : Nat) {qq : vw_C} (hci : classes[ci]? = some qq) (n : Nat) {r : Int32} (hf : f_X10_reach n = some r) : Ctr (l, G, ct, sk, sv) mX10_reach 1 20 [.ref (b)] (wl [lfO b ci]) (wl [lfO b ci]) (some (.int r)) := by
  refine ctr_intro (by decide) (Nat.le_of_ble_eq_true rfl) ?_
  intro p e s m args below meth c A C hP hD hS hA ls hl
  obtain ⟨hx, hb, hml, hown, hts, hr, hlocks, hK, hnm, hZ⟩ := C
  have hb : c.code = cX10_reach := hb
  have hml : c.maxLocals = 1 := hml
  have hown : s.vm.findClass "SignedOutside$Travels" = some m.cls := hown
  have hr : meth.sig.returnType = some .int := hr
  have hP : va_P G classes (wl [lfO b ci]) s.heap := hP
  have hD : va_D A (wl [lfO b ci]) := hD
  have hK : va_K G classes (TYS ct) s := hK
  have hl : lv_has ls 1 [(0, .ref (b))] := hl
  unfold f_X10_reach at hf
  show WG l G ct sk sv p e (RM 1 20 0 0) s m args below meth c A (Eq2 (some (.int r)) (wl [lfO b ci])) s.heap [] (F0 m 0 ls [])
  refine lv_iconst (v := 2) hx hb dX10_reach_0 (by decide) ?_
  refine lv_aload_n hx hb dX10_reach_1 rfl (lv_at hl 0 rfl) ?_
  obtain ⟨r_1, hc1, hf⟩ := bd_e hf
  refine call_SU (n := 0) (As := []) (rest := [.int 2]) hx hb hml hown hts hK hP hD hS hA hZ (M := mX5_reach) kw516 kw501 kw58 kw499 kw2 kw517 (by decide +kernel) (c_X5_reach l G ct sk sv b ci hci n  hc1) 0 rfl hci ⟨Nat.le_of_ble_eq_true rfl, Nat.le_of_ble_eq_true rfl⟩ rfl hl.1 rfl (Nat.le_of_ble_eq_true rfl) dX10_reach_2 ⟨Nat.le_of_ble_eq_true rfl, Nat.le_of_ble_eq_true rfl⟩ (fun r9 w9 H locs hB hP hD hS => ?_)
  obtain ⟨rfl, rfl⟩ := hB
  refine WG_eq (g2 := F0 m 5 ls [.int r_1, .int 2]) rfl ?_
  refine lv_imul hx hb dX10_reach_5 ?_
  have e1 := Option.some.inj hf
  exact end_i (w' := (wl [lfO b ci])) hx hb hr hlocks hK hP hD hS dX10_reach_6  ⟨by rw [← e1], rfl⟩
noncomputable def f_X0_signs_j15 (n : Nat) (s0 : Int32) : Option (Int32) :=
  some s0
noncomputable def f_X0_signs (n : Nat) (v1 : Int32) : Option (Int32) :=
  bc (v1 < 7) (bd (f_X7_signs n v1) fun r_2 =>
  f_X0_signs_j15 n r_2)
  (f_X0_signs_j15 n 0)
set_option maxHeartbeats 4000000 in
set_option maxRecDepth 100000 in
theorem c_X0_signs (l : Launch) (G : va_G) (ct : Nat → ClassId) (sk sv : Nat → Nat)  (b ci : Nat) {qq : vw_C} (hci : classes[ci]? = some qq) (n : Nat) (v1 : Int32) {r : Int32} (hf : f_X0_signs n v1 = some r) : Ctr (l, G, ct, sk, sv) mX0_signs 2 42 [.ref (b), .int v1] (wl [lfO b ci]) (wl [lfO b ci]) (some (.int r)) := by
  refine ctr_intro (by decide) (Nat.le_of_ble_eq_true rfl) ?_
  intro p e s m args below meth c A C hP hD hS hA ls hl
  obtain ⟨hx, hb, hml, hown, hts, hr, hlocks, hK, hnm, hZ⟩ := C
  have hb : c.code = cX0_signs := hb
  have hml : c.maxLocals = 2 := hml
  have hown : s.vm.findClass "SignedOutside$Dead" = some m.cls := hown
  have hr : meth.sig.returnType = some .int := hr
  have hP : va_P G classes (wl [lfO b ci]) s.heap := hP
  have hD : va_D A (wl [lfO b ci]) := hD
  have hK : va_K G classes (TYS ct) s := hK
  have hl : lv_has ls 2 [(0, .ref (b)), (1, .int v1)] := hl
  have J15 : ∀ (s0 : Int32) (H : Heap) (locs : List Loc) (ls : Array Slot), va_P G classes (wl [lfO b ci]) H → va_D A (wl [lfO b ci]) → va_S A s.heap H locs → lv_has ls 2 [] → f_X0_signs_j15 n s0 = some r → WG l G ct sk sv p e (RM 2 42 0 0) s m args below meth c A (Eq2 (some (.int r)) (wl [lfO b ci])) H locs (F0 m 15 ls [.int s0]) := by
    intro s0 H locs ls hP hD hS hl hf
    unfold f_X0_signs_j15 at hf
    have e1 := Option.some.inj hf
    exact end_i (w' := (wl [lfO b ci])) hx hb hr hlocks hK hP hD hS dX0_signs_15  ⟨by rw [← e1], rfl⟩
  unfold f_X0_signs at hf
  show WG l G ct sk sv p e (RM 2 42 0 0) s m args below meth c A (Eq2 (some (.int r)) (wl [lfO b ci])) s.heap [] (F0 m 0 ls [])
  refine lv_iload_n hx hb dX0_signs_0 rfl (lv_at hl 1 rfl) ?_
  refine lv_bipush (v := 7) hx hb dX0_signs_1 (by decide) ?_
  refine lv_icmp_lt (tgt := 10) hx hb dX0_signs_3 (by decide) (fun c_1 => ?_) (fun c_1 => ?_)
  · replace hf := bc_t hf c_1
    refine lv_aload_n hx hb dX0_signs_10 rfl (lv_at hl 0 rfl) ?_
    refine lv_iload_n hx hb dX0_signs_11 rfl (lv_at hl 1 rfl) ?_
    obtain ⟨r_2, hc2, hf⟩ := bd_e hf
    refine call_SU (n := 1) (As := [.int v1]) (rest := []) hx hb hml hown hts hK hP hD hS hA hZ (M := mX7_signs) kw477 kw1288 kw65 kw478 kw4 kw479 (by decide +kernel) (c_X7_signs l G ct sk sv b ci hci n v1 hc2) 0 rfl hci ⟨Nat.le_of_ble_eq_true rfl, Nat.le_of_ble_eq_true rfl⟩ rfl hl.1 rfl (Nat.le_of_ble_eq_true rfl) dX0_signs_12 ⟨Nat.le_of_ble_eq_true rfl, Nat.le_of_ble_eq_true rfl⟩ (fun r9 w9 H locs hB hP hD hS => ?_)
    obtain ⟨rfl, rfl⟩ := hB
    refine WG_eq (g2 := F0 m 15 ls [.int r_2]) rfl ?_
    exact J15 r_2 _ _ _ hP hD hS (lv_sub hl [] rfl) hf
  · replace hf := bc_f hf c_1
    refine lv_iconst (v := 0) hx hb dX0_signs_6 (by decide) ?_
    refine lv_goto (tgt := 15) hx hb dX0_signs_7 (by decide) ?_
    exact J15 0 _ _ _ hP hD hS (lv_sub hl [] rfl) hf
noncomputable def f_X0_reach (n : Nat) : Option (Int32) :=
  some 0
set_option maxHeartbeats 4000000 in
set_option maxRecDepth 100000 in
theorem c_X0_reach (l : Launch) (G : va_G) (ct : Nat → ClassId) (sk sv : Nat → Nat)  (b ci : Nat) {qq : vw_C} (hci : classes[ci]? = some qq) (n : Nat) {r : Int32} (hf : f_X0_reach n = some r) : Ctr (l, G, ct, sk, sv) mX0_reach 0 0 [.ref (b)] (wl [lfO b ci]) (wl [lfO b ci]) (some (.int r)) := by
  refine ctr_intro (by decide) (Nat.le_of_ble_eq_true rfl) ?_
  intro p e s m args below meth c A C hP hD hS hA ls hl
  obtain ⟨hx, hb, hml, hown, hts, hr, hlocks, hK, hnm, hZ⟩ := C
  have hb : c.code = cX0_reach := hb
  have hml : c.maxLocals = 1 := hml
  have hown : s.vm.findClass "SignedOutside$Dead" = some m.cls := hown
  have hr : meth.sig.returnType = some .int := hr
  have hP : va_P G classes (wl [lfO b ci]) s.heap := hP
  have hD : va_D A (wl [lfO b ci]) := hD
  have hK : va_K G classes (TYS ct) s := hK
  have hl : lv_has ls 1 [(0, .ref (b))] := hl
  unfold f_X0_reach at hf
  show WG l G ct sk sv p e (RM 0 0 0 0) s m args below meth c A (Eq2 (some (.int r)) (wl [lfO b ci])) s.heap [] (F0 m 0 ls [])
  refine lv_iconst (v := 0) hx hb dX0_reach_0 (by decide) ?_
  have e1 := Option.some.inj hf
  exact end_i (w' := (wl [lfO b ci])) hx hb hr hlocks hK hP hD hS dX0_reach_1  ⟨by rw [← e1], rfl⟩
noncomputable def f_X9_signs (n : Nat) (v1 : Int32) : Option (Int32) :=
  bd (f_X5_signs n v1) fun r_1 =>
  some (r_1 + 3)
set_option maxHeartbeats 4000000 in
set_option maxRecDepth 100000 in
theorem c_X9_signs (l : Launch) (G : va_G) (ct : Nat → ClassId) (sk sv : Nat → Nat)  (b ci : Nat) {qq : vw_C} (hci : classes[ci]? = some qq) (n : Nat) (v1 : Int32) {r : Int32} (hf : f_X9_signs n v1 = some r) : Ctr (l, G, ct, sk, sv) mX9_signs 1 21 [.ref (b), .int v1] (wl [lfO b ci]) (wl [lfO b ci]) (some (.int r)) := by
  refine ctr_intro (by decide) (Nat.le_of_ble_eq_true rfl) ?_
  intro p e s m args below meth c A C hP hD hS hA ls hl
  obtain ⟨hx, hb, hml, hown, hts, hr, hlocks, hK, hnm, hZ⟩ := C
  have hb : c.code = cX9_signs := hb
  have hml : c.maxLocals = 2 := hml
  have hown : s.vm.findClass "SignedOutside$Steward" = some m.cls := hown
  have hr : meth.sig.returnType = some .int := hr
  have hP : va_P G classes (wl [lfO b ci]) s.heap := hP
  have hD : va_D A (wl [lfO b ci]) := hD
  have hK : va_K G classes (TYS ct) s := hK
  have hl : lv_has ls 2 [(0, .ref (b)), (1, .int v1)] := hl
  unfold f_X9_signs at hf
  show WG l G ct sk sv p e (RM 1 21 0 0) s m args below meth c A (Eq2 (some (.int r)) (wl [lfO b ci])) s.heap [] (F0 m 0 ls [])
  refine lv_aload_n hx hb dX9_signs_0 rfl (lv_at hl 0 rfl) ?_
  refine lv_iload_n hx hb dX9_signs_1 rfl (lv_at hl 1 rfl) ?_
  obtain ⟨r_1, hc1, hf⟩ := bd_e hf
  refine call_SU2 (n := 1) (As := [.int v1]) (rest := []) hx hb hml hown hts hK hP hD hS hA hZ (M := mX5_signs) kw486 kw487 kw72 kw44 kw471 kw2 kw490 rfl (by decide) (by decide +kernel) (c_X5_signs l G ct sk sv b ci hci n v1 hc1) 0 rfl hci ⟨Nat.le_of_ble_eq_true rfl, Nat.le_of_ble_eq_true rfl⟩ rfl hl.1 rfl (Nat.le_of_ble_eq_true rfl) dX9_signs_2 ⟨Nat.le_of_ble_eq_true rfl, Nat.le_of_ble_eq_true rfl⟩ (fun r9 w9 H locs hB hP hD hS => ?_)
  obtain ⟨rfl, rfl⟩ := hB
  refine WG_eq (g2 := F0 m 5 ls [.int r_1]) rfl ?_
  refine lv_iconst (v := 3) hx hb dX9_signs_5 (by decide) ?_
  refine lv_iadd hx hb dX9_signs_6 ?_
  have e1 := Option.some.inj hf
  exact end_i (w' := (wl [lfO b ci])) hx hb hr hlocks hK hP hD hS dX9_signs_7  ⟨by rw [← e1], rfl⟩
noncomputable def f_X9_reach (n : Nat) : Option (Int32) :=
  bd (f_X5_reach n ) fun r_1 =>
  some (r_1 / 2)
set_option maxHeartbeats 4000000 in
set_option maxRecDepth 100000 in
theorem c_X9_reach (l : Launch) (G : va_G) (ct : Nat → ClassId) (sk sv : Nat → Nat)  (b ci : Nat) {qq : vw_C} (hci : classes[ci]? = some qq) (n : Nat) {r : Int32} (hf : f_X9_reach n = some r) : Ctr (l, G, ct, sk, sv) mX9_reach 1 20 [.ref (b)] (wl [lfO b ci]) (wl [lfO b ci]) (some (.int r)) := by
  refine ctr_intro (by decide) (Nat.le_of_ble_eq_true rfl) ?_
  intro p e s m args below meth c A C hP hD hS hA ls hl
  obtain ⟨hx, hb, hml, hown, hts, hr, hlocks, hK, hnm, hZ⟩ := C
  have hb : c.code = cX9_reach := hb
  have hml : c.maxLocals = 1 := hml
  have hown : s.vm.findClass "SignedOutside$Steward" = some m.cls := hown
  have hr : meth.sig.returnType = some .int := hr
  have hP : va_P G classes (wl [lfO b ci]) s.heap := hP
  have hD : va_D A (wl [lfO b ci]) := hD
  have hK : va_K G classes (TYS ct) s := hK
  have hl : lv_has ls 1 [(0, .ref (b))] := hl
  unfold f_X9_reach at hf
  show WG l G ct sk sv p e (RM 1 20 0 0) s m args below meth c A (Eq2 (some (.int r)) (wl [lfO b ci])) s.heap [] (F0 m 0 ls [])
  refine lv_aload_n hx hb dX9_reach_0 rfl (lv_at hl 0 rfl) ?_
  obtain ⟨r_1, hc1, hf⟩ := bd_e hf
  refine call_SU2 (n := 0) (As := []) (rest := []) hx hb hml hown hts hK hP hD hS hA hZ (M := mX5_reach) kw510 kw511 kw72 kw44 kw499 kw2 kw517 rfl (by decide) (by decide +kernel) (c_X5_reach l G ct sk sv b ci hci n  hc1) 0 rfl hci ⟨Nat.le_of_ble_eq_true rfl, Nat.le_of_ble_eq_true rfl⟩ rfl hl.1 rfl (Nat.le_of_ble_eq_true rfl) dX9_reach_1 ⟨Nat.le_of_ble_eq_true rfl, Nat.le_of_ble_eq_true rfl⟩ (fun r9 w9 H locs hB hP hD hS => ?_)
  obtain ⟨rfl, rfl⟩ := hB
  refine WG_eq (g2 := F0 m 4 ls [.int r_1]) rfl ?_
  refine lv_iconst (v := 2) hx hb dX9_reach_4 (by decide) ?_
  refine lv_idiv hx hb dX9_reach_5 (by decide) ?_
  have e1 := Option.some.inj hf
  exact end_i (w' := (wl [lfO b ci])) hx hb hr hlocks hK hP hD hS dX9_reach_6  ⟨by rw [← e1], rfl⟩
noncomputable def f_K_signs (n : Nat) (i : Nat) (v1 : Int32) : Option Int32 :=
  bc (i = 0) (f_X5_signs n v1) <|
  bc (i = 1) (f_X5_signs n v1) <|
  bc (i = 2) (f_X7_signs n v1) <|
  bc (i = 3) (f_X5_signs n v1) <|
  bc (i = 4) (f_X0_signs n v1) <|
  bc (i = 5) (f_X9_signs n v1) <|
  none
noncomputable def f_K_reach (n : Nat) (i : Nat)  : Option Int32 :=
  bc (i = 0) (f_X5_reach n) <|
  bc (i = 1) (f_X5_reach n) <|
  bc (i = 2) (f_X5_reach n) <|
  bc (i = 3) (f_X10_reach n) <|
  bc (i = 4) (f_X0_reach n) <|
  bc (i = 5) (f_X9_reach n) <|
  none
noncomputable def f_K_bears (n : Nat) (i : Nat)  : Option Int32 :=
  bc (i = 0) (f_X5_bears n) <|
  bc (i = 1) (f_X2_bears n) <|
  bc (i = 2) (f_X5_bears n) <|
  bc (i = 3) (f_X5_bears n) <|
  bc (i = 4) (f_X5_bears n) <|
  bc (i = 5) (f_X2_bears n) <|
  none
theorem lkUX11_180_0 : lkU "SignedOutside" 180 "SignedOutside$Plain" ({ cls := "SignedOutside$Plain", name := "signs", desc := "(I)I" } : MethodName) mX5_signs 1 := lkU_mk kw616 kw473 kw471 kw472 kw471 kw2 kw490 kw490 (by decide +kernel)
theorem lkUX11_180_1 : lkU "SignedOutside" 180 "SignedOutside$Lord" ({ cls := "SignedOutside$Plain", name := "signs", desc := "(I)I" } : MethodName) mX5_signs 1 := lkU_mk kw616 kw473 kw471 kw481 kw471 kw2 kw490 kw490 (by decide +kernel)
theorem lkUX11_180_2 : lkU "SignedOutside" 180 "SignedOutside$Sick" ({ cls := "SignedOutside$Plain", name := "signs", desc := "(I)I" } : MethodName) mX7_signs 1 := lkU_mk kw616 kw473 kw471 kw482 kw478 kw4 kw479 kw490 (by decide +kernel)
theorem lkUX11_180_3 : lkU "SignedOutside" 180 "SignedOutside$Travels" ({ cls := "SignedOutside$Plain", name := "signs", desc := "(I)I" } : MethodName) mX5_signs 1 := lkU_mk kw616 kw473 kw471 kw489 kw471 kw2 kw490 kw490 (by decide +kernel)
theorem lkUX11_180_4 : lkU "SignedOutside" 180 "SignedOutside$Dead" ({ cls := "SignedOutside$Plain", name := "signs", desc := "(I)I" } : MethodName) mX0_signs 1 := lkU_mk kw616 kw473 kw471 kw474 kw475 kw6 kw476 kw490 (by decide +kernel)
theorem lkUX11_180_5 : lkU "SignedOutside" 180 "SignedOutside$Steward" ({ cls := "SignedOutside$Plain", name := "signs", desc := "(I)I" } : MethodName) mX9_signs 1 := lkU_mk kw616 kw473 kw471 kw483 kw484 kw7 kw485 kw490 (by decide +kernel)
theorem disp_X11_180 {p : Program} {l : Launch} {e : Env} {R : Room} {s : State} {m : MethodId} {args : Array Value} {below : List Frame} {meth : Method} {c : Code} {H : Heap} {locs : List Loc} {cells slots : Nat} {Q : State → Prop} {pc : Nat} {ls : Array Slot} {rest : List Value} {A : Nat → Prop} {G : va_G} {ct : Nat → ClassId} {sk sv : Nat → Nat} {cc : ByteArray} {w : va_W} {nL : Nat} {k : Nat → Nat} (n i : Nat) (hx : p.tables.exec = Jvm.exec) (hb : c.code = cc) (hml : c.maxLocals = nL) (hown : s.vm.findClass "SignedOutside" = some m.cls) (hts : ∀ w ∈ WALL, w.before args s = true) (hK : va_K G classes (TYS ct) s) (hP : va_P G classes w H) (hD : va_D A w) (hS : va_S A s.heap H locs) (hA : ∀ q, s.heap.size ≤ q → A q) (hZ : ENV (l, G, ct, sk, sv) A s) {v1 : Int32} {r : Int32} (hc : f_K_signs n i v1 = some r) (q0 : Nat) (e0 : w[q0 + 0]? = some (k 1, .inr (5, []))) (e1 : w[q0 + 1]? = some (k 2, .inr (2, []))) (e2 : w[q0 + 2]? = some (k 3, .inr (7, []))) (e3 : w[q0 + 3]? = some (k 4, .inr (10, []))) (e4 : w[q0 + 4]? = some (k 5, .inr (0, []))) (e5 : w[q0 + 5]? = some (k 6, .inr (9, []))) (hfr : 4 ≤ R.frames) (hlo : 160 ≤ R.locals) (hl : ls.size = nL) (hW : (rest.map fun v => v.category).sum ≤ 8) (hdg : decode cc pc = .ok (.invokevirtual 180, 3)) (hf : cells + 0 ≤ R.cells ∧ slots + 0 ≤ R.slots) (kk : ∀ (H1 : Heap) (locs1 : List Loc), va_P G classes w H1 → va_D A w → va_S A s.heap H1 locs1 → W p l e R s m args below meth c H1 locs1 (cells + 0) (slots + 0) Q (F0 m (pc + 3) ls (.int r :: rest))) : W p l e R s m args below meth c H locs cells slots Q (F0 m pc ls (.int v1 :: .ref (k (1 + i)) :: rest)) := by
  unfold f_K_signs at hc
  rcases Classical.em (i = 0) with c1 | c1
  · replace hc := bc_t hc c1
    subst c1
    refine call_U (As := [.int v1]) (rest := rest) hx hb hml hown hts hK hP hD hS hA hZ lkUX11_180_0 (Ctr.any (cl := (k 1, .inr (5, []))) (c_X5_signs l G ct sk sv (k 1) 5 rfl n v1 hc) (q0 + 0) e0) (q0 + 0) e0 rfl ⟨by have := hfr; show 0 + 1 ≤ R.frames; omega, by have := hlo; show 8 + (2 + 11) + 0 ≤ R.locals; omega⟩ rfl hl rfl hW hdg hf (fun r9 w9 H locs hB hP hD hS => ?_)
    obtain ⟨h91, h92⟩ := hB
    rw [h92] at hP hD
    rw [h91]
    exact kk _ _ hP hD hS
  replace hc := bc_f hc c1
  rcases Classical.em (i = 1) with c1 | c1
  · replace hc := bc_t hc c1
    subst c1
    refine call_U (As := [.int v1]) (rest := rest) hx hb hml hown hts hK hP hD hS hA hZ lkUX11_180_1 (Ctr.any (cl := (k 2, .inr (2, []))) (c_X5_signs l G ct sk sv (k 2) 2 rfl n v1 hc) (q0 + 1) e1) (q0 + 1) e1 rfl ⟨by have := hfr; show 0 + 1 ≤ R.frames; omega, by have := hlo; show 8 + (2 + 11) + 0 ≤ R.locals; omega⟩ rfl hl rfl hW hdg hf (fun r9 w9 H locs hB hP hD hS => ?_)
    obtain ⟨h91, h92⟩ := hB
    rw [h92] at hP hD
    rw [h91]
    exact kk _ _ hP hD hS
  replace hc := bc_f hc c1
  rcases Classical.em (i = 2) with c1 | c1
  · replace hc := bc_t hc c1
    subst c1
    refine call_U (As := [.int v1]) (rest := rest) hx hb hml hown hts hK hP hD hS hA hZ lkUX11_180_2 (Ctr.any (cl := (k 3, .inr (7, []))) (c_X7_signs l G ct sk sv (k 3) 7 rfl n v1 hc) (q0 + 2) e2) (q0 + 2) e2 rfl ⟨by have := hfr; show 1 + 1 ≤ R.frames; omega, by have := hlo; show 8 + (2 + 11) + 21 ≤ R.locals; omega⟩ rfl hl rfl hW hdg hf (fun r9 w9 H locs hB hP hD hS => ?_)
    obtain ⟨h91, h92⟩ := hB
    rw [h92] at hP hD
    rw [h91]
    exact kk _ _ hP hD hS
  replace hc := bc_f hc c1
  rcases Classical.em (i = 3) with c1 | c1
  · replace hc := bc_t hc c1
    subst c1
    refine call_U (As := [.int v1]) (rest := rest) hx hb hml hown hts hK hP hD hS hA hZ lkUX11_180_3 (Ctr.any (cl := (k 4, .inr (10, []))) (c_X5_signs l G ct sk sv (k 4) 10 rfl n v1 hc) (q0 + 3) e3) (q0 + 3) e3 rfl ⟨by have := hfr; show 0 + 1 ≤ R.frames; omega, by have := hlo; show 8 + (2 + 11) + 0 ≤ R.locals; omega⟩ rfl hl rfl hW hdg hf (fun r9 w9 H locs hB hP hD hS => ?_)
    obtain ⟨h91, h92⟩ := hB
    rw [h92] at hP hD
    rw [h91]
    exact kk _ _ hP hD hS
  replace hc := bc_f hc c1
  rcases Classical.em (i = 4) with c1 | c1
  · replace hc := bc_t hc c1
    subst c1
    refine call_U (As := [.int v1]) (rest := rest) hx hb hml hown hts hK hP hD hS hA hZ lkUX11_180_4 (Ctr.any (cl := (k 5, .inr (0, []))) (c_X0_signs l G ct sk sv (k 5) 0 rfl n v1 hc) (q0 + 4) e4) (q0 + 4) e4 rfl ⟨by have := hfr; show 2 + 1 ≤ R.frames; omega, by have := hlo; show 8 + (2 + 11) + 42 ≤ R.locals; omega⟩ rfl hl rfl hW hdg hf (fun r9 w9 H locs hB hP hD hS => ?_)
    obtain ⟨h91, h92⟩ := hB
    rw [h92] at hP hD
    rw [h91]
    exact kk _ _ hP hD hS
  replace hc := bc_f hc c1
  rcases Classical.em (i = 5) with c1 | c1
  · replace hc := bc_t hc c1
    subst c1
    refine call_U (As := [.int v1]) (rest := rest) hx hb hml hown hts hK hP hD hS hA hZ lkUX11_180_5 (Ctr.any (cl := (k 6, .inr (9, []))) (c_X9_signs l G ct sk sv (k 6) 9 rfl n v1 hc) (q0 + 5) e5) (q0 + 5) e5 rfl ⟨by have := hfr; show 1 + 1 ≤ R.frames; omega, by have := hlo; show 8 + (2 + 11) + 21 ≤ R.locals; omega⟩ rfl hl rfl hW hdg hf (fun r9 w9 H locs hB hP hD hS => ?_)
    obtain ⟨h91, h92⟩ := hB
    rw [h92] at hP hD
    rw [h91]
    exact kk _ _ hP hD hS
  replace hc := bc_f hc c1
  cases hc
theorem lkUX11_183_0 : lkU "SignedOutside" 183 "SignedOutside$Plain" ({ cls := "SignedOutside$Plain", name := "reach", desc := "()I" } : MethodName) mX5_reach 0 := lkU_mk kw617 kw501 kw499 kw500 kw499 kw2 kw517 kw517 (by decide +kernel)
theorem lkUX11_183_1 : lkU "SignedOutside" 183 "SignedOutside$Lord" ({ cls := "SignedOutside$Plain", name := "reach", desc := "()I" } : MethodName) mX5_reach 0 := lkU_mk kw617 kw501 kw499 kw505 kw499 kw2 kw517 kw517 (by decide +kernel)
theorem lkUX11_183_2 : lkU "SignedOutside" 183 "SignedOutside$Sick" ({ cls := "SignedOutside$Plain", name := "reach", desc := "()I" } : MethodName) mX5_reach 0 := lkU_mk kw617 kw501 kw499 kw506 kw499 kw2 kw517 kw517 (by decide +kernel)
theorem lkUX11_183_3 : lkU "SignedOutside" 183 "SignedOutside$Travels" ({ cls := "SignedOutside$Plain", name := "reach", desc := "()I" } : MethodName) mX10_reach 0 := lkU_mk kw617 kw501 kw499 kw513 kw514 kw5 kw515 kw517 (by decide +kernel)
theorem lkUX11_183_4 : lkU "SignedOutside" 183 "SignedOutside$Dead" ({ cls := "SignedOutside$Plain", name := "reach", desc := "()I" } : MethodName) mX0_reach 0 := lkU_mk kw617 kw501 kw499 kw502 kw503 kw6 kw504 kw517 (by decide +kernel)
theorem lkUX11_183_5 : lkU "SignedOutside" 183 "SignedOutside$Steward" ({ cls := "SignedOutside$Plain", name := "reach", desc := "()I" } : MethodName) mX9_reach 0 := lkU_mk kw617 kw501 kw499 kw507 kw508 kw7 kw509 kw517 (by decide +kernel)
theorem disp_X11_183 {p : Program} {l : Launch} {e : Env} {R : Room} {s : State} {m : MethodId} {args : Array Value} {below : List Frame} {meth : Method} {c : Code} {H : Heap} {locs : List Loc} {cells slots : Nat} {Q : State → Prop} {pc : Nat} {ls : Array Slot} {rest : List Value} {A : Nat → Prop} {G : va_G} {ct : Nat → ClassId} {sk sv : Nat → Nat} {cc : ByteArray} {w : va_W} {nL : Nat} {k : Nat → Nat} (n i : Nat) (hx : p.tables.exec = Jvm.exec) (hb : c.code = cc) (hml : c.maxLocals = nL) (hown : s.vm.findClass "SignedOutside" = some m.cls) (hts : ∀ w ∈ WALL, w.before args s = true) (hK : va_K G classes (TYS ct) s) (hP : va_P G classes w H) (hD : va_D A w) (hS : va_S A s.heap H locs) (hA : ∀ q, s.heap.size ≤ q → A q) (hZ : ENV (l, G, ct, sk, sv) A s) {r : Int32} (hc : f_K_reach n i = some r) (q0 : Nat) (e0 : w[q0 + 0]? = some (k 1, .inr (5, []))) (e1 : w[q0 + 1]? = some (k 2, .inr (2, []))) (e2 : w[q0 + 2]? = some (k 3, .inr (7, []))) (e3 : w[q0 + 3]? = some (k 4, .inr (10, []))) (e4 : w[q0 + 4]? = some (k 5, .inr (0, []))) (e5 : w[q0 + 5]? = some (k 6, .inr (9, []))) (hfr : 4 ≤ R.frames) (hlo : 160 ≤ R.locals) (hl : ls.size = nL) (hW : (rest.map fun v => v.category).sum ≤ 8) (hdg : decode cc pc = .ok (.invokevirtual 183, 3)) (hf : cells + 0 ≤ R.cells ∧ slots + 0 ≤ R.slots) (kk : ∀ (H1 : Heap) (locs1 : List Loc), va_P G classes w H1 → va_D A w → va_S A s.heap H1 locs1 → W p l e R s m args below meth c H1 locs1 (cells + 0) (slots + 0) Q (F0 m (pc + 3) ls (.int r :: rest))) : W p l e R s m args below meth c H locs cells slots Q (F0 m pc ls (.ref (k (1 + i)) :: rest)) := by
  unfold f_K_reach at hc
  rcases Classical.em (i = 0) with c1 | c1
  · replace hc := bc_t hc c1
    subst c1
    refine call_U (As := []) (rest := rest) hx hb hml hown hts hK hP hD hS hA hZ lkUX11_183_0 (Ctr.any (cl := (k 1, .inr (5, []))) (c_X5_reach l G ct sk sv (k 1) 5 rfl n hc) (q0 + 0) e0) (q0 + 0) e0 rfl ⟨by have := hfr; show 0 + 1 ≤ R.frames; omega, by have := hlo; show 8 + (1 + 11) + 0 ≤ R.locals; omega⟩ rfl hl rfl hW hdg hf (fun r9 w9 H locs hB hP hD hS => ?_)
    obtain ⟨h91, h92⟩ := hB
    rw [h92] at hP hD
    rw [h91]
    exact kk _ _ hP hD hS
  replace hc := bc_f hc c1
  rcases Classical.em (i = 1) with c1 | c1
  · replace hc := bc_t hc c1
    subst c1
    refine call_U (As := []) (rest := rest) hx hb hml hown hts hK hP hD hS hA hZ lkUX11_183_1 (Ctr.any (cl := (k 2, .inr (2, []))) (c_X5_reach l G ct sk sv (k 2) 2 rfl n hc) (q0 + 1) e1) (q0 + 1) e1 rfl ⟨by have := hfr; show 0 + 1 ≤ R.frames; omega, by have := hlo; show 8 + (1 + 11) + 0 ≤ R.locals; omega⟩ rfl hl rfl hW hdg hf (fun r9 w9 H locs hB hP hD hS => ?_)
    obtain ⟨h91, h92⟩ := hB
    rw [h92] at hP hD
    rw [h91]
    exact kk _ _ hP hD hS
  replace hc := bc_f hc c1
  rcases Classical.em (i = 2) with c1 | c1
  · replace hc := bc_t hc c1
    subst c1
    refine call_U (As := []) (rest := rest) hx hb hml hown hts hK hP hD hS hA hZ lkUX11_183_2 (Ctr.any (cl := (k 3, .inr (7, []))) (c_X5_reach l G ct sk sv (k 3) 7 rfl n hc) (q0 + 2) e2) (q0 + 2) e2 rfl ⟨by have := hfr; show 0 + 1 ≤ R.frames; omega, by have := hlo; show 8 + (1 + 11) + 0 ≤ R.locals; omega⟩ rfl hl rfl hW hdg hf (fun r9 w9 H locs hB hP hD hS => ?_)
    obtain ⟨h91, h92⟩ := hB
    rw [h92] at hP hD
    rw [h91]
    exact kk _ _ hP hD hS
  replace hc := bc_f hc c1
  rcases Classical.em (i = 3) with c1 | c1
  · replace hc := bc_t hc c1
    subst c1
    refine call_U (As := []) (rest := rest) hx hb hml hown hts hK hP hD hS hA hZ lkUX11_183_3 (Ctr.any (cl := (k 4, .inr (10, []))) (c_X10_reach l G ct sk sv (k 4) 10 rfl n hc) (q0 + 3) e3) (q0 + 3) e3 rfl ⟨by have := hfr; show 1 + 1 ≤ R.frames; omega, by have := hlo; show 8 + (1 + 11) + 20 ≤ R.locals; omega⟩ rfl hl rfl hW hdg hf (fun r9 w9 H locs hB hP hD hS => ?_)
    obtain ⟨h91, h92⟩ := hB
    rw [h92] at hP hD
    rw [h91]
    exact kk _ _ hP hD hS
  replace hc := bc_f hc c1
  rcases Classical.em (i = 4) with c1 | c1
  · replace hc := bc_t hc c1
    subst c1
    refine call_U (As := []) (rest := rest) hx hb hml hown hts hK hP hD hS hA hZ lkUX11_183_4 (Ctr.any (cl := (k 5, .inr (0, []))) (c_X0_reach l G ct sk sv (k 5) 0 rfl n hc) (q0 + 4) e4) (q0 + 4) e4 rfl ⟨by have := hfr; show 0 + 1 ≤ R.frames; omega, by have := hlo; show 8 + (1 + 11) + 0 ≤ R.locals; omega⟩ rfl hl rfl hW hdg hf (fun r9 w9 H locs hB hP hD hS => ?_)
    obtain ⟨h91, h92⟩ := hB
    rw [h92] at hP hD
    rw [h91]
    exact kk _ _ hP hD hS
  replace hc := bc_f hc c1
  rcases Classical.em (i = 5) with c1 | c1
  · replace hc := bc_t hc c1
    subst c1
    refine call_U (As := []) (rest := rest) hx hb hml hown hts hK hP hD hS hA hZ lkUX11_183_5 (Ctr.any (cl := (k 6, .inr (9, []))) (c_X9_reach l G ct sk sv (k 6) 9 rfl n hc) (q0 + 5) e5) (q0 + 5) e5 rfl ⟨by have := hfr; show 1 + 1 ≤ R.frames; omega, by have := hlo; show 8 + (1 + 11) + 20 ≤ R.locals; omega⟩ rfl hl rfl hW hdg hf (fun r9 w9 H locs hB hP hD hS => ?_)
    obtain ⟨h91, h92⟩ := hB
    rw [h92] at hP hD
    rw [h91]
    exact kk _ _ hP hD hS
  replace hc := bc_f hc c1
  cases hc
theorem lkUX11_186_0 : lkU "SignedOutside" 186 "SignedOutside$Plain" ({ cls := "SignedOutside$Plain", name := "bears", desc := "()I" } : MethodName) mX5_bears 0 := lkU_mk kw618 kw521 kw519 kw520 kw519 kw2 kw530 kw530 (by decide +kernel)
theorem lkUX11_186_1 : lkU "SignedOutside" 186 "SignedOutside$Lord" ({ cls := "SignedOutside$Plain", name := "bears", desc := "()I" } : MethodName) mX2_bears 0 := lkU_mk kw618 kw521 kw519 kw523 kw524 kw3 kw525 kw530 (by decide +kernel)
theorem lkUX11_186_2 : lkU "SignedOutside" 186 "SignedOutside$Sick" ({ cls := "SignedOutside$Plain", name := "bears", desc := "()I" } : MethodName) mX5_bears 0 := lkU_mk kw618 kw521 kw519 kw527 kw519 kw2 kw530 kw530 (by decide +kernel)
theorem lkUX11_186_3 : lkU "SignedOutside" 186 "SignedOutside$Travels" ({ cls := "SignedOutside$Plain", name := "bears", desc := "()I" } : MethodName) mX5_bears 0 := lkU_mk kw618 kw521 kw519 kw529 kw519 kw2 kw530 kw530 (by decide +kernel)
theorem lkUX11_186_4 : lkU "SignedOutside" 186 "SignedOutside$Dead" ({ cls := "SignedOutside$Plain", name := "bears", desc := "()I" } : MethodName) mX5_bears 0 := lkU_mk kw618 kw521 kw519 kw522 kw519 kw2 kw530 kw530 (by decide +kernel)
theorem lkUX11_186_5 : lkU "SignedOutside" 186 "SignedOutside$Steward" ({ cls := "SignedOutside$Plain", name := "bears", desc := "()I" } : MethodName) mX2_bears 0 := lkU_mk kw618 kw521 kw519 kw528 kw524 kw3 kw525 kw530 (by decide +kernel)
theorem disp_X11_186 {p : Program} {l : Launch} {e : Env} {R : Room} {s : State} {m : MethodId} {args : Array Value} {below : List Frame} {meth : Method} {c : Code} {H : Heap} {locs : List Loc} {cells slots : Nat} {Q : State → Prop} {pc : Nat} {ls : Array Slot} {rest : List Value} {A : Nat → Prop} {G : va_G} {ct : Nat → ClassId} {sk sv : Nat → Nat} {cc : ByteArray} {w : va_W} {nL : Nat} {k : Nat → Nat} (n i : Nat) (hx : p.tables.exec = Jvm.exec) (hb : c.code = cc) (hml : c.maxLocals = nL) (hown : s.vm.findClass "SignedOutside" = some m.cls) (hts : ∀ w ∈ WALL, w.before args s = true) (hK : va_K G classes (TYS ct) s) (hP : va_P G classes w H) (hD : va_D A w) (hS : va_S A s.heap H locs) (hA : ∀ q, s.heap.size ≤ q → A q) (hZ : ENV (l, G, ct, sk, sv) A s) {r : Int32} (hc : f_K_bears n i = some r) (q0 : Nat) (e0 : w[q0 + 0]? = some (k 1, .inr (5, []))) (e1 : w[q0 + 1]? = some (k 2, .inr (2, []))) (e2 : w[q0 + 2]? = some (k 3, .inr (7, []))) (e3 : w[q0 + 3]? = some (k 4, .inr (10, []))) (e4 : w[q0 + 4]? = some (k 5, .inr (0, []))) (e5 : w[q0 + 5]? = some (k 6, .inr (9, []))) (hfr : 4 ≤ R.frames) (hlo : 160 ≤ R.locals) (hl : ls.size = nL) (hW : (rest.map fun v => v.category).sum ≤ 8) (hdg : decode cc pc = .ok (.invokevirtual 186, 3)) (hf : cells + 0 ≤ R.cells ∧ slots + 0 ≤ R.slots) (kk : ∀ (H1 : Heap) (locs1 : List Loc), va_P G classes w H1 → va_D A w → va_S A s.heap H1 locs1 → W p l e R s m args below meth c H1 locs1 (cells + 0) (slots + 0) Q (F0 m (pc + 3) ls (.int r :: rest))) : W p l e R s m args below meth c H locs cells slots Q (F0 m pc ls (.ref (k (1 + i)) :: rest)) := by
  unfold f_K_bears at hc
  rcases Classical.em (i = 0) with c1 | c1
  · replace hc := bc_t hc c1
    subst c1
    refine call_U (As := []) (rest := rest) hx hb hml hown hts hK hP hD hS hA hZ lkUX11_186_0 (Ctr.any (cl := (k 1, .inr (5, []))) (c_X5_bears l G ct sk sv (k 1) 5 rfl n hc) (q0 + 0) e0) (q0 + 0) e0 rfl ⟨by have := hfr; show 0 + 1 ≤ R.frames; omega, by have := hlo; show 8 + (1 + 11) + 0 ≤ R.locals; omega⟩ rfl hl rfl hW hdg hf (fun r9 w9 H locs hB hP hD hS => ?_)
    obtain ⟨h91, h92⟩ := hB
    rw [h92] at hP hD
    rw [h91]
    exact kk _ _ hP hD hS
  replace hc := bc_f hc c1
  rcases Classical.em (i = 1) with c1 | c1
  · replace hc := bc_t hc c1
    subst c1
    refine call_U (As := []) (rest := rest) hx hb hml hown hts hK hP hD hS hA hZ lkUX11_186_1 (Ctr.any (cl := (k 2, .inr (2, []))) (c_X2_bears l G ct sk sv (k 2) 2 rfl n hc) (q0 + 1) e1) (q0 + 1) e1 rfl ⟨by have := hfr; show 1 + 1 ≤ R.frames; omega, by have := hlo; show 8 + (1 + 11) + 20 ≤ R.locals; omega⟩ rfl hl rfl hW hdg hf (fun r9 w9 H locs hB hP hD hS => ?_)
    obtain ⟨h91, h92⟩ := hB
    rw [h92] at hP hD
    rw [h91]
    exact kk _ _ hP hD hS
  replace hc := bc_f hc c1
  rcases Classical.em (i = 2) with c1 | c1
  · replace hc := bc_t hc c1
    subst c1
    refine call_U (As := []) (rest := rest) hx hb hml hown hts hK hP hD hS hA hZ lkUX11_186_2 (Ctr.any (cl := (k 3, .inr (7, []))) (c_X5_bears l G ct sk sv (k 3) 7 rfl n hc) (q0 + 2) e2) (q0 + 2) e2 rfl ⟨by have := hfr; show 0 + 1 ≤ R.frames; omega, by have := hlo; show 8 + (1 + 11) + 0 ≤ R.locals; omega⟩ rfl hl rfl hW hdg hf (fun r9 w9 H locs hB hP hD hS => ?_)
    obtain ⟨h91, h92⟩ := hB
    rw [h92] at hP hD
    rw [h91]
    exact kk _ _ hP hD hS
  replace hc := bc_f hc c1
  rcases Classical.em (i = 3) with c1 | c1
  · replace hc := bc_t hc c1
    subst c1
    refine call_U (As := []) (rest := rest) hx hb hml hown hts hK hP hD hS hA hZ lkUX11_186_3 (Ctr.any (cl := (k 4, .inr (10, []))) (c_X5_bears l G ct sk sv (k 4) 10 rfl n hc) (q0 + 3) e3) (q0 + 3) e3 rfl ⟨by have := hfr; show 0 + 1 ≤ R.frames; omega, by have := hlo; show 8 + (1 + 11) + 0 ≤ R.locals; omega⟩ rfl hl rfl hW hdg hf (fun r9 w9 H locs hB hP hD hS => ?_)
    obtain ⟨h91, h92⟩ := hB
    rw [h92] at hP hD
    rw [h91]
    exact kk _ _ hP hD hS
  replace hc := bc_f hc c1
  rcases Classical.em (i = 4) with c1 | c1
  · replace hc := bc_t hc c1
    subst c1
    refine call_U (As := []) (rest := rest) hx hb hml hown hts hK hP hD hS hA hZ lkUX11_186_4 (Ctr.any (cl := (k 5, .inr (0, []))) (c_X5_bears l G ct sk sv (k 5) 0 rfl n hc) (q0 + 4) e4) (q0 + 4) e4 rfl ⟨by have := hfr; show 0 + 1 ≤ R.frames; omega, by have := hlo; show 8 + (1 + 11) + 0 ≤ R.locals; omega⟩ rfl hl rfl hW hdg hf (fun r9 w9 H locs hB hP hD hS => ?_)
    obtain ⟨h91, h92⟩ := hB
    rw [h92] at hP hD
    rw [h91]
    exact kk _ _ hP hD hS
  replace hc := bc_f hc c1
  rcases Classical.em (i = 5) with c1 | c1
  · replace hc := bc_t hc c1
    subst c1
    refine call_U (As := []) (rest := rest) hx hb hml hown hts hK hP hD hS hA hZ lkUX11_186_5 (Ctr.any (cl := (k 6, .inr (9, []))) (c_X2_bears l G ct sk sv (k 6) 9 rfl n hc) (q0 + 5) e5) (q0 + 5) e5 rfl ⟨by have := hfr; show 1 + 1 ≤ R.frames; omega, by have := hlo; show 8 + (1 + 11) + 20 ≤ R.locals; omega⟩ rfl hl rfl hW hdg hf (fun r9 w9 H locs hB hP hD hS => ?_)
    obtain ⟨h91, h92⟩ := hB
    rw [h92] at hP hD
    rw [h91]
    exact kk _ _ hP hD hS
  replace hc := bc_f hc c1
  cases hc
theorem lkUX1_99_0 : lkU "SignedOutside$House" 99 "SignedOutside$Plain" ({ cls := "SignedOutside$Plain", name := "signs", desc := "(I)I" } : MethodName) mX5_signs 1 := lkU_mk kw470 kw473 kw471 kw472 kw471 kw2 kw490 kw490 (by decide +kernel)
theorem lkUX1_99_1 : lkU "SignedOutside$House" 99 "SignedOutside$Lord" ({ cls := "SignedOutside$Plain", name := "signs", desc := "(I)I" } : MethodName) mX5_signs 1 := lkU_mk kw470 kw473 kw471 kw481 kw471 kw2 kw490 kw490 (by decide +kernel)
theorem lkUX1_99_2 : lkU "SignedOutside$House" 99 "SignedOutside$Sick" ({ cls := "SignedOutside$Plain", name := "signs", desc := "(I)I" } : MethodName) mX7_signs 1 := lkU_mk kw470 kw473 kw471 kw482 kw478 kw4 kw479 kw490 (by decide +kernel)
theorem lkUX1_99_3 : lkU "SignedOutside$House" 99 "SignedOutside$Travels" ({ cls := "SignedOutside$Plain", name := "signs", desc := "(I)I" } : MethodName) mX5_signs 1 := lkU_mk kw470 kw473 kw471 kw489 kw471 kw2 kw490 kw490 (by decide +kernel)
theorem lkUX1_99_4 : lkU "SignedOutside$House" 99 "SignedOutside$Dead" ({ cls := "SignedOutside$Plain", name := "signs", desc := "(I)I" } : MethodName) mX0_signs 1 := lkU_mk kw470 kw473 kw471 kw474 kw475 kw6 kw476 kw490 (by decide +kernel)
theorem lkUX1_99_5 : lkU "SignedOutside$House" 99 "SignedOutside$Steward" ({ cls := "SignedOutside$Plain", name := "signs", desc := "(I)I" } : MethodName) mX9_signs 1 := lkU_mk kw470 kw473 kw471 kw483 kw484 kw7 kw485 kw490 (by decide +kernel)
theorem disp_X1_99 {p : Program} {l : Launch} {e : Env} {R : Room} {s : State} {m : MethodId} {args : Array Value} {below : List Frame} {meth : Method} {c : Code} {H : Heap} {locs : List Loc} {cells slots : Nat} {Q : State → Prop} {pc : Nat} {ls : Array Slot} {rest : List Value} {A : Nat → Prop} {G : va_G} {ct : Nat → ClassId} {sk sv : Nat → Nat} {cc : ByteArray} {w : va_W} {nL : Nat} {k : Nat → Nat} (n i : Nat) (hx : p.tables.exec = Jvm.exec) (hb : c.code = cc) (hml : c.maxLocals = nL) (hown : s.vm.findClass "SignedOutside$House" = some m.cls) (hts : ∀ w ∈ WALL, w.before args s = true) (hK : va_K G classes (TYS ct) s) (hP : va_P G classes w H) (hD : va_D A w) (hS : va_S A s.heap H locs) (hA : ∀ q, s.heap.size ≤ q → A q) (hZ : ENV (l, G, ct, sk, sv) A s) {v1 : Int32} {r : Int32} (hc : f_K_signs n i v1 = some r) (q0 : Nat) (e0 : w[q0 + 0]? = some (k 1, .inr (5, []))) (e1 : w[q0 + 1]? = some (k 2, .inr (2, []))) (e2 : w[q0 + 2]? = some (k 3, .inr (7, []))) (e3 : w[q0 + 3]? = some (k 4, .inr (10, []))) (e4 : w[q0 + 4]? = some (k 5, .inr (0, []))) (e5 : w[q0 + 5]? = some (k 6, .inr (9, []))) (hfr : 4 ≤ R.frames) (hlo : 160 ≤ R.locals) (hl : ls.size = nL) (hW : (rest.map fun v => v.category).sum ≤ 8) (hdg : decode cc pc = .ok (.invokevirtual 99, 3)) (hf : cells + 0 ≤ R.cells ∧ slots + 0 ≤ R.slots) (kk : ∀ (H1 : Heap) (locs1 : List Loc), va_P G classes w H1 → va_D A w → va_S A s.heap H1 locs1 → W p l e R s m args below meth c H1 locs1 (cells + 0) (slots + 0) Q (F0 m (pc + 3) ls (.int r :: rest))) : W p l e R s m args below meth c H locs cells slots Q (F0 m pc ls (.int v1 :: .ref (k (1 + i)) :: rest)) := by
  unfold f_K_signs at hc
  rcases Classical.em (i = 0) with c1 | c1
  · replace hc := bc_t hc c1
    subst c1
    refine call_U (As := [.int v1]) (rest := rest) hx hb hml hown hts hK hP hD hS hA hZ lkUX1_99_0 (Ctr.any (cl := (k 1, .inr (5, []))) (c_X5_signs l G ct sk sv (k 1) 5 rfl n v1 hc) (q0 + 0) e0) (q0 + 0) e0 rfl ⟨by have := hfr; show 0 + 1 ≤ R.frames; omega, by have := hlo; show 8 + (2 + 11) + 0 ≤ R.locals; omega⟩ rfl hl rfl hW hdg hf (fun r9 w9 H locs hB hP hD hS => ?_)
    obtain ⟨h91, h92⟩ := hB
    rw [h92] at hP hD
    rw [h91]
    exact kk _ _ hP hD hS
  replace hc := bc_f hc c1
  rcases Classical.em (i = 1) with c1 | c1
  · replace hc := bc_t hc c1
    subst c1
    refine call_U (As := [.int v1]) (rest := rest) hx hb hml hown hts hK hP hD hS hA hZ lkUX1_99_1 (Ctr.any (cl := (k 2, .inr (2, []))) (c_X5_signs l G ct sk sv (k 2) 2 rfl n v1 hc) (q0 + 1) e1) (q0 + 1) e1 rfl ⟨by have := hfr; show 0 + 1 ≤ R.frames; omega, by have := hlo; show 8 + (2 + 11) + 0 ≤ R.locals; omega⟩ rfl hl rfl hW hdg hf (fun r9 w9 H locs hB hP hD hS => ?_)
    obtain ⟨h91, h92⟩ := hB
    rw [h92] at hP hD
    rw [h91]
    exact kk _ _ hP hD hS
  replace hc := bc_f hc c1
  rcases Classical.em (i = 2) with c1 | c1
  · replace hc := bc_t hc c1
    subst c1
    refine call_U (As := [.int v1]) (rest := rest) hx hb hml hown hts hK hP hD hS hA hZ lkUX1_99_2 (Ctr.any (cl := (k 3, .inr (7, []))) (c_X7_signs l G ct sk sv (k 3) 7 rfl n v1 hc) (q0 + 2) e2) (q0 + 2) e2 rfl ⟨by have := hfr; show 1 + 1 ≤ R.frames; omega, by have := hlo; show 8 + (2 + 11) + 21 ≤ R.locals; omega⟩ rfl hl rfl hW hdg hf (fun r9 w9 H locs hB hP hD hS => ?_)
    obtain ⟨h91, h92⟩ := hB
    rw [h92] at hP hD
    rw [h91]
    exact kk _ _ hP hD hS
  replace hc := bc_f hc c1
  rcases Classical.em (i = 3) with c1 | c1
  · replace hc := bc_t hc c1
    subst c1
    refine call_U (As := [.int v1]) (rest := rest) hx hb hml hown hts hK hP hD hS hA hZ lkUX1_99_3 (Ctr.any (cl := (k 4, .inr (10, []))) (c_X5_signs l G ct sk sv (k 4) 10 rfl n v1 hc) (q0 + 3) e3) (q0 + 3) e3 rfl ⟨by have := hfr; show 0 + 1 ≤ R.frames; omega, by have := hlo; show 8 + (2 + 11) + 0 ≤ R.locals; omega⟩ rfl hl rfl hW hdg hf (fun r9 w9 H locs hB hP hD hS => ?_)
    obtain ⟨h91, h92⟩ := hB
    rw [h92] at hP hD
    rw [h91]
    exact kk _ _ hP hD hS
  replace hc := bc_f hc c1
  rcases Classical.em (i = 4) with c1 | c1
  · replace hc := bc_t hc c1
    subst c1
    refine call_U (As := [.int v1]) (rest := rest) hx hb hml hown hts hK hP hD hS hA hZ lkUX1_99_4 (Ctr.any (cl := (k 5, .inr (0, []))) (c_X0_signs l G ct sk sv (k 5) 0 rfl n v1 hc) (q0 + 4) e4) (q0 + 4) e4 rfl ⟨by have := hfr; show 2 + 1 ≤ R.frames; omega, by have := hlo; show 8 + (2 + 11) + 42 ≤ R.locals; omega⟩ rfl hl rfl hW hdg hf (fun r9 w9 H locs hB hP hD hS => ?_)
    obtain ⟨h91, h92⟩ := hB
    rw [h92] at hP hD
    rw [h91]
    exact kk _ _ hP hD hS
  replace hc := bc_f hc c1
  rcases Classical.em (i = 5) with c1 | c1
  · replace hc := bc_t hc c1
    subst c1
    refine call_U (As := [.int v1]) (rest := rest) hx hb hml hown hts hK hP hD hS hA hZ lkUX1_99_5 (Ctr.any (cl := (k 6, .inr (9, []))) (c_X9_signs l G ct sk sv (k 6) 9 rfl n v1 hc) (q0 + 5) e5) (q0 + 5) e5 rfl ⟨by have := hfr; show 1 + 1 ≤ R.frames; omega, by have := hlo; show 8 + (2 + 11) + 21 ≤ R.locals; omega⟩ rfl hl rfl hW hdg hf (fun r9 w9 H locs hB hP hD hS => ?_)
    obtain ⟨h91, h92⟩ := hB
    rw [h92] at hP hD
    rw [h91]
    exact kk _ _ hP hD hS
  replace hc := bc_f hc c1
  cases hc
theorem lkUX1_108_0 : lkU "SignedOutside$House" 108 "SignedOutside$Plain" ({ cls := "SignedOutside$Plain", name := "reach", desc := "()I" } : MethodName) mX5_reach 0 := lkU_mk kw498 kw501 kw499 kw500 kw499 kw2 kw517 kw517 (by decide +kernel)
theorem lkUX1_108_1 : lkU "SignedOutside$House" 108 "SignedOutside$Lord" ({ cls := "SignedOutside$Plain", name := "reach", desc := "()I" } : MethodName) mX5_reach 0 := lkU_mk kw498 kw501 kw499 kw505 kw499 kw2 kw517 kw517 (by decide +kernel)
theorem lkUX1_108_2 : lkU "SignedOutside$House" 108 "SignedOutside$Sick" ({ cls := "SignedOutside$Plain", name := "reach", desc := "()I" } : MethodName) mX5_reach 0 := lkU_mk kw498 kw501 kw499 kw506 kw499 kw2 kw517 kw517 (by decide +kernel)
theorem lkUX1_108_3 : lkU "SignedOutside$House" 108 "SignedOutside$Travels" ({ cls := "SignedOutside$Plain", name := "reach", desc := "()I" } : MethodName) mX10_reach 0 := lkU_mk kw498 kw501 kw499 kw513 kw514 kw5 kw515 kw517 (by decide +kernel)
theorem lkUX1_108_4 : lkU "SignedOutside$House" 108 "SignedOutside$Dead" ({ cls := "SignedOutside$Plain", name := "reach", desc := "()I" } : MethodName) mX0_reach 0 := lkU_mk kw498 kw501 kw499 kw502 kw503 kw6 kw504 kw517 (by decide +kernel)
theorem lkUX1_108_5 : lkU "SignedOutside$House" 108 "SignedOutside$Steward" ({ cls := "SignedOutside$Plain", name := "reach", desc := "()I" } : MethodName) mX9_reach 0 := lkU_mk kw498 kw501 kw499 kw507 kw508 kw7 kw509 kw517 (by decide +kernel)
theorem disp_X1_108 {p : Program} {l : Launch} {e : Env} {R : Room} {s : State} {m : MethodId} {args : Array Value} {below : List Frame} {meth : Method} {c : Code} {H : Heap} {locs : List Loc} {cells slots : Nat} {Q : State → Prop} {pc : Nat} {ls : Array Slot} {rest : List Value} {A : Nat → Prop} {G : va_G} {ct : Nat → ClassId} {sk sv : Nat → Nat} {cc : ByteArray} {w : va_W} {nL : Nat} {k : Nat → Nat} (n i : Nat) (hx : p.tables.exec = Jvm.exec) (hb : c.code = cc) (hml : c.maxLocals = nL) (hown : s.vm.findClass "SignedOutside$House" = some m.cls) (hts : ∀ w ∈ WALL, w.before args s = true) (hK : va_K G classes (TYS ct) s) (hP : va_P G classes w H) (hD : va_D A w) (hS : va_S A s.heap H locs) (hA : ∀ q, s.heap.size ≤ q → A q) (hZ : ENV (l, G, ct, sk, sv) A s) {r : Int32} (hc : f_K_reach n i = some r) (q0 : Nat) (e0 : w[q0 + 0]? = some (k 1, .inr (5, []))) (e1 : w[q0 + 1]? = some (k 2, .inr (2, []))) (e2 : w[q0 + 2]? = some (k 3, .inr (7, []))) (e3 : w[q0 + 3]? = some (k 4, .inr (10, []))) (e4 : w[q0 + 4]? = some (k 5, .inr (0, []))) (e5 : w[q0 + 5]? = some (k 6, .inr (9, []))) (hfr : 4 ≤ R.frames) (hlo : 160 ≤ R.locals) (hl : ls.size = nL) (hW : (rest.map fun v => v.category).sum ≤ 8) (hdg : decode cc pc = .ok (.invokevirtual 108, 3)) (hf : cells + 0 ≤ R.cells ∧ slots + 0 ≤ R.slots) (kk : ∀ (H1 : Heap) (locs1 : List Loc), va_P G classes w H1 → va_D A w → va_S A s.heap H1 locs1 → W p l e R s m args below meth c H1 locs1 (cells + 0) (slots + 0) Q (F0 m (pc + 3) ls (.int r :: rest))) : W p l e R s m args below meth c H locs cells slots Q (F0 m pc ls (.ref (k (1 + i)) :: rest)) := by
  unfold f_K_reach at hc
  rcases Classical.em (i = 0) with c1 | c1
  · replace hc := bc_t hc c1
    subst c1
    refine call_U (As := []) (rest := rest) hx hb hml hown hts hK hP hD hS hA hZ lkUX1_108_0 (Ctr.any (cl := (k 1, .inr (5, []))) (c_X5_reach l G ct sk sv (k 1) 5 rfl n hc) (q0 + 0) e0) (q0 + 0) e0 rfl ⟨by have := hfr; show 0 + 1 ≤ R.frames; omega, by have := hlo; show 8 + (1 + 11) + 0 ≤ R.locals; omega⟩ rfl hl rfl hW hdg hf (fun r9 w9 H locs hB hP hD hS => ?_)
    obtain ⟨h91, h92⟩ := hB
    rw [h92] at hP hD
    rw [h91]
    exact kk _ _ hP hD hS
  replace hc := bc_f hc c1
  rcases Classical.em (i = 1) with c1 | c1
  · replace hc := bc_t hc c1
    subst c1
    refine call_U (As := []) (rest := rest) hx hb hml hown hts hK hP hD hS hA hZ lkUX1_108_1 (Ctr.any (cl := (k 2, .inr (2, []))) (c_X5_reach l G ct sk sv (k 2) 2 rfl n hc) (q0 + 1) e1) (q0 + 1) e1 rfl ⟨by have := hfr; show 0 + 1 ≤ R.frames; omega, by have := hlo; show 8 + (1 + 11) + 0 ≤ R.locals; omega⟩ rfl hl rfl hW hdg hf (fun r9 w9 H locs hB hP hD hS => ?_)
    obtain ⟨h91, h92⟩ := hB
    rw [h92] at hP hD
    rw [h91]
    exact kk _ _ hP hD hS
  replace hc := bc_f hc c1
  rcases Classical.em (i = 2) with c1 | c1
  · replace hc := bc_t hc c1
    subst c1
    refine call_U (As := []) (rest := rest) hx hb hml hown hts hK hP hD hS hA hZ lkUX1_108_2 (Ctr.any (cl := (k 3, .inr (7, []))) (c_X5_reach l G ct sk sv (k 3) 7 rfl n hc) (q0 + 2) e2) (q0 + 2) e2 rfl ⟨by have := hfr; show 0 + 1 ≤ R.frames; omega, by have := hlo; show 8 + (1 + 11) + 0 ≤ R.locals; omega⟩ rfl hl rfl hW hdg hf (fun r9 w9 H locs hB hP hD hS => ?_)
    obtain ⟨h91, h92⟩ := hB
    rw [h92] at hP hD
    rw [h91]
    exact kk _ _ hP hD hS
  replace hc := bc_f hc c1
  rcases Classical.em (i = 3) with c1 | c1
  · replace hc := bc_t hc c1
    subst c1
    refine call_U (As := []) (rest := rest) hx hb hml hown hts hK hP hD hS hA hZ lkUX1_108_3 (Ctr.any (cl := (k 4, .inr (10, []))) (c_X10_reach l G ct sk sv (k 4) 10 rfl n hc) (q0 + 3) e3) (q0 + 3) e3 rfl ⟨by have := hfr; show 1 + 1 ≤ R.frames; omega, by have := hlo; show 8 + (1 + 11) + 20 ≤ R.locals; omega⟩ rfl hl rfl hW hdg hf (fun r9 w9 H locs hB hP hD hS => ?_)
    obtain ⟨h91, h92⟩ := hB
    rw [h92] at hP hD
    rw [h91]
    exact kk _ _ hP hD hS
  replace hc := bc_f hc c1
  rcases Classical.em (i = 4) with c1 | c1
  · replace hc := bc_t hc c1
    subst c1
    refine call_U (As := []) (rest := rest) hx hb hml hown hts hK hP hD hS hA hZ lkUX1_108_4 (Ctr.any (cl := (k 5, .inr (0, []))) (c_X0_reach l G ct sk sv (k 5) 0 rfl n hc) (q0 + 4) e4) (q0 + 4) e4 rfl ⟨by have := hfr; show 0 + 1 ≤ R.frames; omega, by have := hlo; show 8 + (1 + 11) + 0 ≤ R.locals; omega⟩ rfl hl rfl hW hdg hf (fun r9 w9 H locs hB hP hD hS => ?_)
    obtain ⟨h91, h92⟩ := hB
    rw [h92] at hP hD
    rw [h91]
    exact kk _ _ hP hD hS
  replace hc := bc_f hc c1
  rcases Classical.em (i = 5) with c1 | c1
  · replace hc := bc_t hc c1
    subst c1
    refine call_U (As := []) (rest := rest) hx hb hml hown hts hK hP hD hS hA hZ lkUX1_108_5 (Ctr.any (cl := (k 6, .inr (9, []))) (c_X9_reach l G ct sk sv (k 6) 9 rfl n hc) (q0 + 5) e5) (q0 + 5) e5 rfl ⟨by have := hfr; show 1 + 1 ≤ R.frames; omega, by have := hlo; show 8 + (1 + 11) + 20 ≤ R.locals; omega⟩ rfl hl rfl hW hdg hf (fun r9 w9 H locs hB hP hD hS => ?_)
    obtain ⟨h91, h92⟩ := hB
    rw [h92] at hP hD
    rw [h91]
    exact kk _ _ hP hD hS
  replace hc := bc_f hc c1
  cases hc
theorem lkUX1_112_0 : lkU "SignedOutside$House" 112 "SignedOutside$Plain" ({ cls := "SignedOutside$Plain", name := "bears", desc := "()I" } : MethodName) mX5_bears 0 := lkU_mk kw518 kw521 kw519 kw520 kw519 kw2 kw530 kw530 (by decide +kernel)
theorem lkUX1_112_1 : lkU "SignedOutside$House" 112 "SignedOutside$Lord" ({ cls := "SignedOutside$Plain", name := "bears", desc := "()I" } : MethodName) mX2_bears 0 := lkU_mk kw518 kw521 kw519 kw523 kw524 kw3 kw525 kw530 (by decide +kernel)
theorem lkUX1_112_2 : lkU "SignedOutside$House" 112 "SignedOutside$Sick" ({ cls := "SignedOutside$Plain", name := "bears", desc := "()I" } : MethodName) mX5_bears 0 := lkU_mk kw518 kw521 kw519 kw527 kw519 kw2 kw530 kw530 (by decide +kernel)
theorem lkUX1_112_3 : lkU "SignedOutside$House" 112 "SignedOutside$Travels" ({ cls := "SignedOutside$Plain", name := "bears", desc := "()I" } : MethodName) mX5_bears 0 := lkU_mk kw518 kw521 kw519 kw529 kw519 kw2 kw530 kw530 (by decide +kernel)
theorem lkUX1_112_4 : lkU "SignedOutside$House" 112 "SignedOutside$Dead" ({ cls := "SignedOutside$Plain", name := "bears", desc := "()I" } : MethodName) mX5_bears 0 := lkU_mk kw518 kw521 kw519 kw522 kw519 kw2 kw530 kw530 (by decide +kernel)
theorem lkUX1_112_5 : lkU "SignedOutside$House" 112 "SignedOutside$Steward" ({ cls := "SignedOutside$Plain", name := "bears", desc := "()I" } : MethodName) mX2_bears 0 := lkU_mk kw518 kw521 kw519 kw528 kw524 kw3 kw525 kw530 (by decide +kernel)
theorem disp_X1_112 {p : Program} {l : Launch} {e : Env} {R : Room} {s : State} {m : MethodId} {args : Array Value} {below : List Frame} {meth : Method} {c : Code} {H : Heap} {locs : List Loc} {cells slots : Nat} {Q : State → Prop} {pc : Nat} {ls : Array Slot} {rest : List Value} {A : Nat → Prop} {G : va_G} {ct : Nat → ClassId} {sk sv : Nat → Nat} {cc : ByteArray} {w : va_W} {nL : Nat} {k : Nat → Nat} (n i : Nat) (hx : p.tables.exec = Jvm.exec) (hb : c.code = cc) (hml : c.maxLocals = nL) (hown : s.vm.findClass "SignedOutside$House" = some m.cls) (hts : ∀ w ∈ WALL, w.before args s = true) (hK : va_K G classes (TYS ct) s) (hP : va_P G classes w H) (hD : va_D A w) (hS : va_S A s.heap H locs) (hA : ∀ q, s.heap.size ≤ q → A q) (hZ : ENV (l, G, ct, sk, sv) A s) {r : Int32} (hc : f_K_bears n i = some r) (q0 : Nat) (e0 : w[q0 + 0]? = some (k 1, .inr (5, []))) (e1 : w[q0 + 1]? = some (k 2, .inr (2, []))) (e2 : w[q0 + 2]? = some (k 3, .inr (7, []))) (e3 : w[q0 + 3]? = some (k 4, .inr (10, []))) (e4 : w[q0 + 4]? = some (k 5, .inr (0, []))) (e5 : w[q0 + 5]? = some (k 6, .inr (9, []))) (hfr : 4 ≤ R.frames) (hlo : 160 ≤ R.locals) (hl : ls.size = nL) (hW : (rest.map fun v => v.category).sum ≤ 8) (hdg : decode cc pc = .ok (.invokevirtual 112, 3)) (hf : cells + 0 ≤ R.cells ∧ slots + 0 ≤ R.slots) (kk : ∀ (H1 : Heap) (locs1 : List Loc), va_P G classes w H1 → va_D A w → va_S A s.heap H1 locs1 → W p l e R s m args below meth c H1 locs1 (cells + 0) (slots + 0) Q (F0 m (pc + 3) ls (.int r :: rest))) : W p l e R s m args below meth c H locs cells slots Q (F0 m pc ls (.ref (k (1 + i)) :: rest)) := by
  unfold f_K_bears at hc
  rcases Classical.em (i = 0) with c1 | c1
  · replace hc := bc_t hc c1
    subst c1
    refine call_U (As := []) (rest := rest) hx hb hml hown hts hK hP hD hS hA hZ lkUX1_112_0 (Ctr.any (cl := (k 1, .inr (5, []))) (c_X5_bears l G ct sk sv (k 1) 5 rfl n hc) (q0 + 0) e0) (q0 + 0) e0 rfl ⟨by have := hfr; show 0 + 1 ≤ R.frames; omega, by have := hlo; show 8 + (1 + 11) + 0 ≤ R.locals; omega⟩ rfl hl rfl hW hdg hf (fun r9 w9 H locs hB hP hD hS => ?_)
    obtain ⟨h91, h92⟩ := hB
    rw [h92] at hP hD
    rw [h91]
    exact kk _ _ hP hD hS
  replace hc := bc_f hc c1
  rcases Classical.em (i = 1) with c1 | c1
  · replace hc := bc_t hc c1
    subst c1
    refine call_U (As := []) (rest := rest) hx hb hml hown hts hK hP hD hS hA hZ lkUX1_112_1 (Ctr.any (cl := (k 2, .inr (2, []))) (c_X2_bears l G ct sk sv (k 2) 2 rfl n hc) (q0 + 1) e1) (q0 + 1) e1 rfl ⟨by have := hfr; show 1 + 1 ≤ R.frames; omega, by have := hlo; show 8 + (1 + 11) + 20 ≤ R.locals; omega⟩ rfl hl rfl hW hdg hf (fun r9 w9 H locs hB hP hD hS => ?_)
    obtain ⟨h91, h92⟩ := hB
    rw [h92] at hP hD
    rw [h91]
    exact kk _ _ hP hD hS
  replace hc := bc_f hc c1
  rcases Classical.em (i = 2) with c1 | c1
  · replace hc := bc_t hc c1
    subst c1
    refine call_U (As := []) (rest := rest) hx hb hml hown hts hK hP hD hS hA hZ lkUX1_112_2 (Ctr.any (cl := (k 3, .inr (7, []))) (c_X5_bears l G ct sk sv (k 3) 7 rfl n hc) (q0 + 2) e2) (q0 + 2) e2 rfl ⟨by have := hfr; show 0 + 1 ≤ R.frames; omega, by have := hlo; show 8 + (1 + 11) + 0 ≤ R.locals; omega⟩ rfl hl rfl hW hdg hf (fun r9 w9 H locs hB hP hD hS => ?_)
    obtain ⟨h91, h92⟩ := hB
    rw [h92] at hP hD
    rw [h91]
    exact kk _ _ hP hD hS
  replace hc := bc_f hc c1
  rcases Classical.em (i = 3) with c1 | c1
  · replace hc := bc_t hc c1
    subst c1
    refine call_U (As := []) (rest := rest) hx hb hml hown hts hK hP hD hS hA hZ lkUX1_112_3 (Ctr.any (cl := (k 4, .inr (10, []))) (c_X5_bears l G ct sk sv (k 4) 10 rfl n hc) (q0 + 3) e3) (q0 + 3) e3 rfl ⟨by have := hfr; show 0 + 1 ≤ R.frames; omega, by have := hlo; show 8 + (1 + 11) + 0 ≤ R.locals; omega⟩ rfl hl rfl hW hdg hf (fun r9 w9 H locs hB hP hD hS => ?_)
    obtain ⟨h91, h92⟩ := hB
    rw [h92] at hP hD
    rw [h91]
    exact kk _ _ hP hD hS
  replace hc := bc_f hc c1
  rcases Classical.em (i = 4) with c1 | c1
  · replace hc := bc_t hc c1
    subst c1
    refine call_U (As := []) (rest := rest) hx hb hml hown hts hK hP hD hS hA hZ lkUX1_112_4 (Ctr.any (cl := (k 5, .inr (0, []))) (c_X5_bears l G ct sk sv (k 5) 0 rfl n hc) (q0 + 4) e4) (q0 + 4) e4 rfl ⟨by have := hfr; show 0 + 1 ≤ R.frames; omega, by have := hlo; show 8 + (1 + 11) + 0 ≤ R.locals; omega⟩ rfl hl rfl hW hdg hf (fun r9 w9 H locs hB hP hD hS => ?_)
    obtain ⟨h91, h92⟩ := hB
    rw [h92] at hP hD
    rw [h91]
    exact kk _ _ hP hD hS
  replace hc := bc_f hc c1
  rcases Classical.em (i = 5) with c1 | c1
  · replace hc := bc_t hc c1
    subst c1
    refine call_U (As := []) (rest := rest) hx hb hml hown hts hK hP hD hS hA hZ lkUX1_112_5 (Ctr.any (cl := (k 6, .inr (9, []))) (c_X2_bears l G ct sk sv (k 6) 9 rfl n hc) (q0 + 5) e5) (q0 + 5) e5 rfl ⟨by have := hfr; show 1 + 1 ≤ R.frames; omega, by have := hlo; show 8 + (1 + 11) + 20 ≤ R.locals; omega⟩ rfl hl rfl hW hdg hf (fun r9 w9 H locs hB hP hD hS => ?_)
    obtain ⟨h91, h92⟩ := hB
    rw [h92] at hP hD
    rw [h91]
    exact kk _ _ hP hD hS
  replace hc := bc_f hc c1
  cases hc
theorem lkUX8_65_0 : lkU "SignedOutside$Slips" 65 "SignedOutside$Plain" ({ cls := "SignedOutside$Plain", name := "signs", desc := "(I)I" } : MethodName) mX5_signs 1 := lkU_mk kw788 kw473 kw471 kw472 kw471 kw2 kw490 kw490 (by decide +kernel)
theorem lkUX8_65_1 : lkU "SignedOutside$Slips" 65 "SignedOutside$Lord" ({ cls := "SignedOutside$Plain", name := "signs", desc := "(I)I" } : MethodName) mX5_signs 1 := lkU_mk kw788 kw473 kw471 kw481 kw471 kw2 kw490 kw490 (by decide +kernel)
theorem lkUX8_65_2 : lkU "SignedOutside$Slips" 65 "SignedOutside$Sick" ({ cls := "SignedOutside$Plain", name := "signs", desc := "(I)I" } : MethodName) mX7_signs 1 := lkU_mk kw788 kw473 kw471 kw482 kw478 kw4 kw479 kw490 (by decide +kernel)
theorem lkUX8_65_3 : lkU "SignedOutside$Slips" 65 "SignedOutside$Travels" ({ cls := "SignedOutside$Plain", name := "signs", desc := "(I)I" } : MethodName) mX5_signs 1 := lkU_mk kw788 kw473 kw471 kw489 kw471 kw2 kw490 kw490 (by decide +kernel)
theorem lkUX8_65_4 : lkU "SignedOutside$Slips" 65 "SignedOutside$Dead" ({ cls := "SignedOutside$Plain", name := "signs", desc := "(I)I" } : MethodName) mX0_signs 1 := lkU_mk kw788 kw473 kw471 kw474 kw475 kw6 kw476 kw490 (by decide +kernel)
theorem lkUX8_65_5 : lkU "SignedOutside$Slips" 65 "SignedOutside$Steward" ({ cls := "SignedOutside$Plain", name := "signs", desc := "(I)I" } : MethodName) mX9_signs 1 := lkU_mk kw788 kw473 kw471 kw483 kw484 kw7 kw485 kw490 (by decide +kernel)
theorem disp_X8_65 {p : Program} {l : Launch} {e : Env} {R : Room} {s : State} {m : MethodId} {args : Array Value} {below : List Frame} {meth : Method} {c : Code} {H : Heap} {locs : List Loc} {cells slots : Nat} {Q : State → Prop} {pc : Nat} {ls : Array Slot} {rest : List Value} {A : Nat → Prop} {G : va_G} {ct : Nat → ClassId} {sk sv : Nat → Nat} {cc : ByteArray} {w : va_W} {nL : Nat} {k : Nat → Nat} (n i : Nat) (hx : p.tables.exec = Jvm.exec) (hb : c.code = cc) (hml : c.maxLocals = nL) (hown : s.vm.findClass "SignedOutside$Slips" = some m.cls) (hts : ∀ w ∈ WALL, w.before args s = true) (hK : va_K G classes (TYS ct) s) (hP : va_P G classes w H) (hD : va_D A w) (hS : va_S A s.heap H locs) (hA : ∀ q, s.heap.size ≤ q → A q) (hZ : ENV (l, G, ct, sk, sv) A s) {v1 : Int32} {r : Int32} (hc : f_K_signs n i v1 = some r) (q0 : Nat) (e0 : w[q0 + 0]? = some (k 1, .inr (5, []))) (e1 : w[q0 + 1]? = some (k 2, .inr (2, []))) (e2 : w[q0 + 2]? = some (k 3, .inr (7, []))) (e3 : w[q0 + 3]? = some (k 4, .inr (10, []))) (e4 : w[q0 + 4]? = some (k 5, .inr (0, []))) (e5 : w[q0 + 5]? = some (k 6, .inr (9, []))) (hfr : 4 ≤ R.frames) (hlo : 160 ≤ R.locals) (hl : ls.size = nL) (hW : (rest.map fun v => v.category).sum ≤ 8) (hdg : decode cc pc = .ok (.invokevirtual 65, 3)) (hf : cells + 0 ≤ R.cells ∧ slots + 0 ≤ R.slots) (kk : ∀ (H1 : Heap) (locs1 : List Loc), va_P G classes w H1 → va_D A w → va_S A s.heap H1 locs1 → W p l e R s m args below meth c H1 locs1 (cells + 0) (slots + 0) Q (F0 m (pc + 3) ls (.int r :: rest))) : W p l e R s m args below meth c H locs cells slots Q (F0 m pc ls (.int v1 :: .ref (k (1 + i)) :: rest)) := by
  unfold f_K_signs at hc
  rcases Classical.em (i = 0) with c1 | c1
  · replace hc := bc_t hc c1
    subst c1
    refine call_U (As := [.int v1]) (rest := rest) hx hb hml hown hts hK hP hD hS hA hZ lkUX8_65_0 (Ctr.any (cl := (k 1, .inr (5, []))) (c_X5_signs l G ct sk sv (k 1) 5 rfl n v1 hc) (q0 + 0) e0) (q0 + 0) e0 rfl ⟨by have := hfr; show 0 + 1 ≤ R.frames; omega, by have := hlo; show 8 + (2 + 11) + 0 ≤ R.locals; omega⟩ rfl hl rfl hW hdg hf (fun r9 w9 H locs hB hP hD hS => ?_)
    obtain ⟨h91, h92⟩ := hB
    rw [h92] at hP hD
    rw [h91]
    exact kk _ _ hP hD hS
  replace hc := bc_f hc c1
  rcases Classical.em (i = 1) with c1 | c1
  · replace hc := bc_t hc c1
    subst c1
    refine call_U (As := [.int v1]) (rest := rest) hx hb hml hown hts hK hP hD hS hA hZ lkUX8_65_1 (Ctr.any (cl := (k 2, .inr (2, []))) (c_X5_signs l G ct sk sv (k 2) 2 rfl n v1 hc) (q0 + 1) e1) (q0 + 1) e1 rfl ⟨by have := hfr; show 0 + 1 ≤ R.frames; omega, by have := hlo; show 8 + (2 + 11) + 0 ≤ R.locals; omega⟩ rfl hl rfl hW hdg hf (fun r9 w9 H locs hB hP hD hS => ?_)
    obtain ⟨h91, h92⟩ := hB
    rw [h92] at hP hD
    rw [h91]
    exact kk _ _ hP hD hS
  replace hc := bc_f hc c1
  rcases Classical.em (i = 2) with c1 | c1
  · replace hc := bc_t hc c1
    subst c1
    refine call_U (As := [.int v1]) (rest := rest) hx hb hml hown hts hK hP hD hS hA hZ lkUX8_65_2 (Ctr.any (cl := (k 3, .inr (7, []))) (c_X7_signs l G ct sk sv (k 3) 7 rfl n v1 hc) (q0 + 2) e2) (q0 + 2) e2 rfl ⟨by have := hfr; show 1 + 1 ≤ R.frames; omega, by have := hlo; show 8 + (2 + 11) + 21 ≤ R.locals; omega⟩ rfl hl rfl hW hdg hf (fun r9 w9 H locs hB hP hD hS => ?_)
    obtain ⟨h91, h92⟩ := hB
    rw [h92] at hP hD
    rw [h91]
    exact kk _ _ hP hD hS
  replace hc := bc_f hc c1
  rcases Classical.em (i = 3) with c1 | c1
  · replace hc := bc_t hc c1
    subst c1
    refine call_U (As := [.int v1]) (rest := rest) hx hb hml hown hts hK hP hD hS hA hZ lkUX8_65_3 (Ctr.any (cl := (k 4, .inr (10, []))) (c_X5_signs l G ct sk sv (k 4) 10 rfl n v1 hc) (q0 + 3) e3) (q0 + 3) e3 rfl ⟨by have := hfr; show 0 + 1 ≤ R.frames; omega, by have := hlo; show 8 + (2 + 11) + 0 ≤ R.locals; omega⟩ rfl hl rfl hW hdg hf (fun r9 w9 H locs hB hP hD hS => ?_)
    obtain ⟨h91, h92⟩ := hB
    rw [h92] at hP hD
    rw [h91]
    exact kk _ _ hP hD hS
  replace hc := bc_f hc c1
  rcases Classical.em (i = 4) with c1 | c1
  · replace hc := bc_t hc c1
    subst c1
    refine call_U (As := [.int v1]) (rest := rest) hx hb hml hown hts hK hP hD hS hA hZ lkUX8_65_4 (Ctr.any (cl := (k 5, .inr (0, []))) (c_X0_signs l G ct sk sv (k 5) 0 rfl n v1 hc) (q0 + 4) e4) (q0 + 4) e4 rfl ⟨by have := hfr; show 2 + 1 ≤ R.frames; omega, by have := hlo; show 8 + (2 + 11) + 42 ≤ R.locals; omega⟩ rfl hl rfl hW hdg hf (fun r9 w9 H locs hB hP hD hS => ?_)
    obtain ⟨h91, h92⟩ := hB
    rw [h92] at hP hD
    rw [h91]
    exact kk _ _ hP hD hS
  replace hc := bc_f hc c1
  rcases Classical.em (i = 5) with c1 | c1
  · replace hc := bc_t hc c1
    subst c1
    refine call_U (As := [.int v1]) (rest := rest) hx hb hml hown hts hK hP hD hS hA hZ lkUX8_65_5 (Ctr.any (cl := (k 6, .inr (9, []))) (c_X9_signs l G ct sk sv (k 6) 9 rfl n v1 hc) (q0 + 5) e5) (q0 + 5) e5 rfl ⟨by have := hfr; show 1 + 1 ≤ R.frames; omega, by have := hlo; show 8 + (2 + 11) + 21 ≤ R.locals; omega⟩ rfl hl rfl hW hdg hf (fun r9 w9 H locs hB hP hD hS => ?_)
    obtain ⟨h91, h92⟩ := hB
    rw [h92] at hP hD
    rw [h91]
    exact kk _ _ hP hD hS
  replace hc := bc_f hc c1
  cases hc
theorem lkUX8_70_0 : lkU "SignedOutside$Slips" 70 "SignedOutside$Plain" ({ cls := "SignedOutside$Plain", name := "reach", desc := "()I" } : MethodName) mX5_reach 0 := lkU_mk kw789 kw501 kw499 kw500 kw499 kw2 kw517 kw517 (by decide +kernel)
theorem lkUX8_70_1 : lkU "SignedOutside$Slips" 70 "SignedOutside$Lord" ({ cls := "SignedOutside$Plain", name := "reach", desc := "()I" } : MethodName) mX5_reach 0 := lkU_mk kw789 kw501 kw499 kw505 kw499 kw2 kw517 kw517 (by decide +kernel)
theorem lkUX8_70_2 : lkU "SignedOutside$Slips" 70 "SignedOutside$Sick" ({ cls := "SignedOutside$Plain", name := "reach", desc := "()I" } : MethodName) mX5_reach 0 := lkU_mk kw789 kw501 kw499 kw506 kw499 kw2 kw517 kw517 (by decide +kernel)
theorem lkUX8_70_3 : lkU "SignedOutside$Slips" 70 "SignedOutside$Travels" ({ cls := "SignedOutside$Plain", name := "reach", desc := "()I" } : MethodName) mX10_reach 0 := lkU_mk kw789 kw501 kw499 kw513 kw514 kw5 kw515 kw517 (by decide +kernel)
theorem lkUX8_70_4 : lkU "SignedOutside$Slips" 70 "SignedOutside$Dead" ({ cls := "SignedOutside$Plain", name := "reach", desc := "()I" } : MethodName) mX0_reach 0 := lkU_mk kw789 kw501 kw499 kw502 kw503 kw6 kw504 kw517 (by decide +kernel)
theorem lkUX8_70_5 : lkU "SignedOutside$Slips" 70 "SignedOutside$Steward" ({ cls := "SignedOutside$Plain", name := "reach", desc := "()I" } : MethodName) mX9_reach 0 := lkU_mk kw789 kw501 kw499 kw507 kw508 kw7 kw509 kw517 (by decide +kernel)
theorem disp_X8_70 {p : Program} {l : Launch} {e : Env} {R : Room} {s : State} {m : MethodId} {args : Array Value} {below : List Frame} {meth : Method} {c : Code} {H : Heap} {locs : List Loc} {cells slots : Nat} {Q : State → Prop} {pc : Nat} {ls : Array Slot} {rest : List Value} {A : Nat → Prop} {G : va_G} {ct : Nat → ClassId} {sk sv : Nat → Nat} {cc : ByteArray} {w : va_W} {nL : Nat} {k : Nat → Nat} (n i : Nat) (hx : p.tables.exec = Jvm.exec) (hb : c.code = cc) (hml : c.maxLocals = nL) (hown : s.vm.findClass "SignedOutside$Slips" = some m.cls) (hts : ∀ w ∈ WALL, w.before args s = true) (hK : va_K G classes (TYS ct) s) (hP : va_P G classes w H) (hD : va_D A w) (hS : va_S A s.heap H locs) (hA : ∀ q, s.heap.size ≤ q → A q) (hZ : ENV (l, G, ct, sk, sv) A s) {r : Int32} (hc : f_K_reach n i = some r) (q0 : Nat) (e0 : w[q0 + 0]? = some (k 1, .inr (5, []))) (e1 : w[q0 + 1]? = some (k 2, .inr (2, []))) (e2 : w[q0 + 2]? = some (k 3, .inr (7, []))) (e3 : w[q0 + 3]? = some (k 4, .inr (10, []))) (e4 : w[q0 + 4]? = some (k 5, .inr (0, []))) (e5 : w[q0 + 5]? = some (k 6, .inr (9, []))) (hfr : 4 ≤ R.frames) (hlo : 160 ≤ R.locals) (hl : ls.size = nL) (hW : (rest.map fun v => v.category).sum ≤ 8) (hdg : decode cc pc = .ok (.invokevirtual 70, 3)) (hf : cells + 0 ≤ R.cells ∧ slots + 0 ≤ R.slots) (kk : ∀ (H1 : Heap) (locs1 : List Loc), va_P G classes w H1 → va_D A w → va_S A s.heap H1 locs1 → W p l e R s m args below meth c H1 locs1 (cells + 0) (slots + 0) Q (F0 m (pc + 3) ls (.int r :: rest))) : W p l e R s m args below meth c H locs cells slots Q (F0 m pc ls (.ref (k (1 + i)) :: rest)) := by
  unfold f_K_reach at hc
  rcases Classical.em (i = 0) with c1 | c1
  · replace hc := bc_t hc c1
    subst c1
    refine call_U (As := []) (rest := rest) hx hb hml hown hts hK hP hD hS hA hZ lkUX8_70_0 (Ctr.any (cl := (k 1, .inr (5, []))) (c_X5_reach l G ct sk sv (k 1) 5 rfl n hc) (q0 + 0) e0) (q0 + 0) e0 rfl ⟨by have := hfr; show 0 + 1 ≤ R.frames; omega, by have := hlo; show 8 + (1 + 11) + 0 ≤ R.locals; omega⟩ rfl hl rfl hW hdg hf (fun r9 w9 H locs hB hP hD hS => ?_)
    obtain ⟨h91, h92⟩ := hB
    rw [h92] at hP hD
    rw [h91]
    exact kk _ _ hP hD hS
  replace hc := bc_f hc c1
  rcases Classical.em (i = 1) with c1 | c1
  · replace hc := bc_t hc c1
    subst c1
    refine call_U (As := []) (rest := rest) hx hb hml hown hts hK hP hD hS hA hZ lkUX8_70_1 (Ctr.any (cl := (k 2, .inr (2, []))) (c_X5_reach l G ct sk sv (k 2) 2 rfl n hc) (q0 + 1) e1) (q0 + 1) e1 rfl ⟨by have := hfr; show 0 + 1 ≤ R.frames; omega, by have := hlo; show 8 + (1 + 11) + 0 ≤ R.locals; omega⟩ rfl hl rfl hW hdg hf (fun r9 w9 H locs hB hP hD hS => ?_)
    obtain ⟨h91, h92⟩ := hB
    rw [h92] at hP hD
    rw [h91]
    exact kk _ _ hP hD hS
  replace hc := bc_f hc c1
  rcases Classical.em (i = 2) with c1 | c1
  · replace hc := bc_t hc c1
    subst c1
    refine call_U (As := []) (rest := rest) hx hb hml hown hts hK hP hD hS hA hZ lkUX8_70_2 (Ctr.any (cl := (k 3, .inr (7, []))) (c_X5_reach l G ct sk sv (k 3) 7 rfl n hc) (q0 + 2) e2) (q0 + 2) e2 rfl ⟨by have := hfr; show 0 + 1 ≤ R.frames; omega, by have := hlo; show 8 + (1 + 11) + 0 ≤ R.locals; omega⟩ rfl hl rfl hW hdg hf (fun r9 w9 H locs hB hP hD hS => ?_)
    obtain ⟨h91, h92⟩ := hB
    rw [h92] at hP hD
    rw [h91]
    exact kk _ _ hP hD hS
  replace hc := bc_f hc c1
  rcases Classical.em (i = 3) with c1 | c1
  · replace hc := bc_t hc c1
    subst c1
    refine call_U (As := []) (rest := rest) hx hb hml hown hts hK hP hD hS hA hZ lkUX8_70_3 (Ctr.any (cl := (k 4, .inr (10, []))) (c_X10_reach l G ct sk sv (k 4) 10 rfl n hc) (q0 + 3) e3) (q0 + 3) e3 rfl ⟨by have := hfr; show 1 + 1 ≤ R.frames; omega, by have := hlo; show 8 + (1 + 11) + 20 ≤ R.locals; omega⟩ rfl hl rfl hW hdg hf (fun r9 w9 H locs hB hP hD hS => ?_)
    obtain ⟨h91, h92⟩ := hB
    rw [h92] at hP hD
    rw [h91]
    exact kk _ _ hP hD hS
  replace hc := bc_f hc c1
  rcases Classical.em (i = 4) with c1 | c1
  · replace hc := bc_t hc c1
    subst c1
    refine call_U (As := []) (rest := rest) hx hb hml hown hts hK hP hD hS hA hZ lkUX8_70_4 (Ctr.any (cl := (k 5, .inr (0, []))) (c_X0_reach l G ct sk sv (k 5) 0 rfl n hc) (q0 + 4) e4) (q0 + 4) e4 rfl ⟨by have := hfr; show 0 + 1 ≤ R.frames; omega, by have := hlo; show 8 + (1 + 11) + 0 ≤ R.locals; omega⟩ rfl hl rfl hW hdg hf (fun r9 w9 H locs hB hP hD hS => ?_)
    obtain ⟨h91, h92⟩ := hB
    rw [h92] at hP hD
    rw [h91]
    exact kk _ _ hP hD hS
  replace hc := bc_f hc c1
  rcases Classical.em (i = 5) with c1 | c1
  · replace hc := bc_t hc c1
    subst c1
    refine call_U (As := []) (rest := rest) hx hb hml hown hts hK hP hD hS hA hZ lkUX8_70_5 (Ctr.any (cl := (k 6, .inr (9, []))) (c_X9_reach l G ct sk sv (k 6) 9 rfl n hc) (q0 + 5) e5) (q0 + 5) e5 rfl ⟨by have := hfr; show 1 + 1 ≤ R.frames; omega, by have := hlo; show 8 + (1 + 11) + 20 ≤ R.locals; omega⟩ rfl hl rfl hW hdg hf (fun r9 w9 H locs hB hP hD hS => ?_)
    obtain ⟨h91, h92⟩ := hB
    rw [h92] at hP hD
    rw [h91]
    exact kk _ _ hP hD hS
  replace hc := bc_f hc c1
  cases hc
