def lnS (i : Nat) : Int32 := Int32.ofNat (lenJ.getD i 0)
def chS (i : Nat) (j : Int32) : Int32 := ((((bytJ.getD i []).getD (ix j) 0) &&& 255).toUInt32 % 65536).toInt32
theorem lkJ0_335 : lkV "java/lang/String" 335 mJ0_coder_7d493 0 := lkV_mk kw388 kw389 kw390 kw14 kw391 (by decide +kernel)
theorem lkJ0_492 : lkV "java/lang/String" 492 mJ0_isLatin1_aae02 0 := lkV_mk kw398 kw399 kw400 kw14 kw401 (by decide +kernel)
theorem lkJ0_495 : lkS "java/lang/String" 495 mJ1_charAt_3b067 2 := ⟨kw402, kw403, kw15, kw404, by decide +kernel⟩
theorem lkJ1_9 : lkS "java/lang/StringLatin1" 9 mJ0_checkIndex_df160 2 := ⟨kw405, kw406, kw14, kw407, by decide +kernel⟩
theorem lkJ0_1059 : lkS "java/lang/String" 1059 mJ3_checkIndex_8e157 3 := ⟨kw410, kw411, kw16, kw412, by decide +kernel⟩
set_option maxHeartbeats 4000000 in
set_option maxRecDepth 100000 in
theorem c_J3_check (l : Launch) (G : va_G) (ct : Nat → ClassId) (sk sv : Nat → Nat) (v0 v1 : Int32) (q : Value) (hq : q = .null ∨ ∃ t, q = .ref t) (h0 : ¬ v0 < 0) (h1 : v0 < v1) : Ctr (l, G, ct, sk, sv) mJ3_checkIndex_8e157 0 0 [.int v0, .int v1, q] (wl []) (wl []) (some (.int v0)) := by
  rcases hq with rfl | ⟨t, rfl⟩
  all_goals
    refine ctr_intro (by decide) (Nat.le_of_ble_eq_true rfl) ?_
    intro p e s m args below meth c A C hP hD hS hA ls hl
    obtain ⟨hx, hb, hml, hown, hts, hr, hlocks, hK, hnm, hZ⟩ := C
    have hb : c.code = cJ3_checkIndex_8e157 := hb
    have hml : c.maxLocals = 3 := hml
    have hown : s.vm.findClass "jdk/internal/util/Preconditions" = some m.cls := hown
    have hP : va_P G classes (wl []) s.heap := hP
    have hD : va_D A (wl []) := hD
    have hK : va_K G classes (TYS ct) s := hK
    have hE : vk_S 4 lenJ bytJ sk sv A s s.heap := hZ.2.1
    have hr : meth.sig.returnType = some .int := hr
    have hl : lv_has ls 3 [(0, .int v0), (1, .int v1), (2, _)] := hl
    refine lv_iload_n hx hb dJ3_checkIndex_8e157_0 rfl (lv_at hl 0 rfl) ?_
    refine lv_if_lt (tgt := 9) hx hb dJ3_checkIndex_8e157_1 (by decide) (fun c1 => absurd c1 h0) (fun c1 => ?_)
    refine lv_iload_n hx hb dJ3_checkIndex_8e157_4 rfl (lv_at hl 0 rfl) ?_
    refine lv_iload_n hx hb dJ3_checkIndex_8e157_5 rfl (lv_at hl 1 rfl) ?_
    refine lv_icmp_lt (tgt := 16) hx hb dJ3_checkIndex_8e157_6 (by decide) (fun c2 => ?_) (fun c2 => absurd h1 c2)
    refine lv_iload_n hx hb dJ3_checkIndex_8e157_16 rfl (lv_at hl 0 rfl) ?_
    exact end_i (w' := wl []) hx hb hr hlocks hK hP hD hS dJ3_checkIndex_8e157_17 ⟨rfl, rfl⟩
set_option maxHeartbeats 4000000 in
set_option maxRecDepth 100000 in
theorem c_J0_check (l : Launch) (G : va_G) (ct : Nat → ClassId) (sk sv : Nat → Nat) (v0 v1 : Int32) (h0 : ¬ v0 < 0) (h1 : v0 < v1) : Ctr (l, G, ct, sk, sv) mJ0_checkIndex_df160 1 22 [.int v0, .int v1] (wl []) (wl []) none := by
  refine ctr_intro (by decide) (Nat.le_of_ble_eq_true rfl) ?_
  intro p e s m args below meth c A C hP hD hS hA ls hl
  obtain ⟨hx, hb, hml, hown, hts, hr, hlocks, hK, hnm, hZ⟩ := C
  have hb : c.code = cJ0_checkIndex_df160 := hb
  have hml : c.maxLocals = 2 := hml
  have hown : s.vm.findClass "java/lang/String" = some m.cls := hown
  have hP : va_P G classes (wl []) s.heap := hP
  have hD : va_D A (wl []) := hD
  have hK : va_K G classes (TYS ct) s := hK
  have hE : vk_S 4 lenJ bytJ sk sv A s s.heap := hZ.2.1
  have hr : meth.sig.returnType = none := hr
  have hl : lv_has ls 2 [(0, .int v0), (1, .int v1)] := hl
  refine lv_iload_n hx hb dJ0_checkIndex_df160_0 rfl (lv_at hl 0 rfl) ?_
  refine lv_iload_n hx hb dJ0_checkIndex_df160_1 rfl (lv_at hl 1 rfl) ?_
  have go : ∀ q : Value, (q = .null ∨ ∃ t, q = .ref t) → WG l G ct sk sv p e (RM 1 22 0 0) s m args below meth c A (Eq2 none (wl [])) s.heap [] (F0 m 5 ls [q, .int v1, .int v0]) := by
    intro q hq
    refine call_S (As := [.int v0, .int v1, q]) (rest := []) hx hb hml hown hts hK hP hD hS hA hZ lkJ0_1059 (c_J3_check l G ct sk sv v0 v1 q hq h0 h1) ⟨Nat.le_of_ble_eq_true rfl, Nat.le_of_ble_eq_true rfl⟩ rfl hl.1 rfl (Nat.le_of_ble_eq_true rfl) dJ0_checkIndex_df160_5 ⟨Nat.le_of_ble_eq_true rfl, Nat.le_of_ble_eq_true rfl⟩ (fun r9 w9 H locs hB hP hD hS => ?_)
    obtain ⟨rfl, rfl⟩ := hB
    refine WG_eq (g2 := F0 m 8 ls [.int v0]) rfl ?_
    refine lv_pop hx hb dJ0_checkIndex_df160_8 rfl ?_
    exact end_v (w' := wl []) hx hb hr hlocks hK hP hD hS dJ0_checkIndex_df160_9 ⟨rfl, rfl⟩
  rcases hZ.2.2.2.2.1 with hq | ⟨t, hq⟩
  · exact va_gets hx hb hq hS hown (hts _ kw408) (fun _ h9 => h9) dJ0_checkIndex_df160_2 (go _ (Or.inl rfl))
  · exact va_gets hx hb hq hS hown (hts _ kw408) (fun _ h9 => h9) dJ0_checkIndex_df160_2 (go _ (Or.inr ⟨t, rfl⟩))
set_option maxHeartbeats 4000000 in
set_option maxRecDepth 100000 in
theorem c_J1_charAt (l : Launch) (G : va_G) (ct : Nat → ClassId) (sk sv : Nat → Nat) (i : Nat) (v1 : Int32) (hi : i < 4) (hj : vp_in v1 (lenJ.getD i 0)) : Ctr (l, G, ct, sk, sv) mJ1_charAt_3b067 2 43 [.ref (sv i), .int v1] (wl []) (wl []) (some (.int (chS i v1))) := by
  have hlen : lenJ.getD i 0 < 2 ^ 31 := by
    have : i = 0 ∨ i = 1 ∨ i = 2 ∨ i = 3 := by omega
    rcases this with rfl | rfl | rfl | rfl <;> decide
  obtain ⟨j, hj1, rfl⟩ := vp_in_of hj hlen
  refine ctr_intro (by decide) (Nat.le_of_ble_eq_true rfl) ?_
  intro p e s m args below meth c A C hP hD hS hA ls hl
  obtain ⟨hx, hb, hml, hown, hts, hr, hlocks, hK, hnm, hZ⟩ := C
  have hb : c.code = cJ1_charAt_3b067 := hb
  have hml : c.maxLocals = 2 := hml
  have hown : s.vm.findClass "java/lang/StringLatin1" = some m.cls := hown
  have hP : va_P G classes (wl []) s.heap := hP
  have hD : va_D A (wl []) := hD
  have hK : va_K G classes (TYS ct) s := hK
  have hE : vk_S 4 lenJ bytJ sk sv A s s.heap := hZ.2.1
  have hr : meth.sig.returnType = some .char := hr
  have hl : lv_has ls 2 [(0, .ref (sv i)), (1, .int (nI j))] := hl
  refine lv_iload_n hx hb dJ1_charAt_3b067_0 rfl (lv_at hl 1 rfl) ?_
  refine lv_aload_n hx hb dJ1_charAt_3b067_1 rfl (lv_at hl 0 rfl) ?_
  refine va_tlen (v := nI (lenJ.getD i 0)) hx hb (hE.1 i hi).2.2.2 hS rfl dJ1_charAt_3b067_2 ?_
  refine call_S (As := [.int (nI j), .int (nI (lenJ.getD i 0))]) (rest := []) hx hb hml hown hts hK hP hD hS hA hZ lkJ1_9 (c_J0_check l G ct sk sv (nI j) (nI (lenJ.getD i 0)) (nI_pos (by omega)) (nI_lt hj1 hlen)) ⟨Nat.le_of_ble_eq_true rfl, Nat.le_of_ble_eq_true rfl⟩ rfl hl.1 rfl (Nat.le_of_ble_eq_true rfl) dJ1_charAt_3b067_3 ⟨Nat.le_of_ble_eq_true rfl, Nat.le_of_ble_eq_true rfl⟩ (fun r9 w9 H locs hB hP hD hS => ?_)
  obtain ⟨rfl, rfl⟩ := hB
  refine WG_eq (g2 := F0 m 6 ls []) rfl ?_
  refine lv_aload_n hx hb dJ1_charAt_3b067_6 rfl (lv_at hl 0 rfl) ?_
  refine lv_iload_n hx hb dJ1_charAt_3b067_7 rfl (lv_at hl 1 rfl) ?_
  refine va_tb (v := .int ((bytJ.getD i []).getD (ix (nI j)) 0)) hx hb (hE.1 i hi).2.2.2 hS hj rfl dJ1_charAt_3b067_8 ?_
  refine lv_sipush (v := 255) hx hb dJ1_charAt_3b067_9 (by decide) ?_
  refine lv_iand hx hb dJ1_charAt_3b067_12 ?_
  refine lv_i2c (v := chS i (nI j)) hx hb dJ1_charAt_3b067_13 rfl ?_
  exact end_n (w' := wl []) hx hb hr hlocks hK hP hD hS dJ1_charAt_3b067_14 (pk_nc _) ⟨rfl, rfl⟩
set_option maxHeartbeats 4000000 in
set_option maxRecDepth 100000 in
theorem c_J0_coder (l : Launch) (G : va_G) (ct : Nat → ClassId) (sk sv : Nat → Nat) (i : Nat) (hi : i < 4) : Ctr (l, G, ct, sk, sv) mJ0_coder_7d493 0 0 [.ref (sk i)] (wl []) (wl []) (some (.int 0)) := by
  refine ctr_intro (by decide) (Nat.le_of_ble_eq_true rfl) ?_
  intro p e s m args below meth c A C hP hD hS hA ls hl
  obtain ⟨hx, hb, hml, hown, hts, hr, hlocks, hK, hnm, hZ⟩ := C
  have hb : c.code = cJ0_coder_7d493 := hb
  have hml : c.maxLocals = 1 := hml
  have hown : s.vm.findClass "java/lang/String" = some m.cls := hown
  have hP : va_P G classes (wl []) s.heap := hP
  have hD : va_D A (wl []) := hD
  have hK : va_K G classes (TYS ct) s := hK
  have hE : vk_S 4 lenJ bytJ sk sv A s s.heap := hZ.2.1
  have hr : meth.sig.returnType = some .byte := hr
  have hl : lv_has ls 1 [(0, .ref (sk i))] := hl
  refine va_gets hx hb hZ.2.2.2.1 hS hown (hts _ kw392) (fun _ h9 => h9) dJ0_coder_7d493_0 ?_
  refine lv_if_eq (tgt := 13) hx hb dJ0_coder_7d493_3 (by decide) (fun c1 => absurd c1 (by decide)) (fun c1 => ?_)
  refine lv_aload_n hx hb dJ0_coder_7d493_6 rfl (lv_at hl 0 rfl) ?_
  refine vk_getf hx hb (hE.1 i hi).2.1 hS hown (hts _ kw1295) (fun _ h9 => h9) dJ0_coder_7d493_7 ?_
  refine lv_goto (tgt := 14) hx hb dJ0_coder_7d493_10 (by decide) ?_
  exact end_n (w' := wl []) hx hb hr hlocks hK hP hD hS dJ0_coder_7d493_14 rfl ⟨rfl, rfl⟩
set_option maxHeartbeats 4000000 in
set_option maxRecDepth 100000 in
theorem c_J0_isLatin1 (l : Launch) (G : va_G) (ct : Nat → ClassId) (sk sv : Nat → Nat) (i : Nat) (hi : i < 4) : Ctr (l, G, ct, sk, sv) mJ0_isLatin1_aae02 0 0 [.ref (sk i)] (wl []) (wl []) (some (.int 1)) := by
  refine ctr_intro (by decide) (Nat.le_of_ble_eq_true rfl) ?_
  intro p e s m args below meth c A C hP hD hS hA ls hl
  obtain ⟨hx, hb, hml, hown, hts, hr, hlocks, hK, hnm, hZ⟩ := C
  have hb : c.code = cJ0_isLatin1_aae02 := hb
  have hml : c.maxLocals = 1 := hml
  have hown : s.vm.findClass "java/lang/String" = some m.cls := hown
  have hP : va_P G classes (wl []) s.heap := hP
  have hD : va_D A (wl []) := hD
  have hK : va_K G classes (TYS ct) s := hK
  have hE : vk_S 4 lenJ bytJ sk sv A s s.heap := hZ.2.1
  have hr : meth.sig.returnType = some .boolean := hr
  have hl : lv_has ls 1 [(0, .ref (sk i))] := hl
  refine va_gets hx hb hZ.2.2.2.1 hS hown (hts _ kw392) (fun _ h9 => h9) dJ0_isLatin1_aae02_0 ?_
  refine lv_if_eq (tgt := 17) hx hb dJ0_isLatin1_aae02_3 (by decide) (fun c1 => absurd c1 (by decide)) (fun c1 => ?_)
  refine lv_aload_n hx hb dJ0_isLatin1_aae02_6 rfl (lv_at hl 0 rfl) ?_
  refine vk_getf hx hb (hE.1 i hi).2.1 hS hown (hts _ kw1295) (fun _ h9 => h9) dJ0_isLatin1_aae02_7 ?_
  refine lv_if_ne (tgt := 17) hx hb dJ0_isLatin1_aae02_10 (by decide) (fun c2 => absurd rfl c2) (fun c2 => ?_)
  refine lv_iconst (v := 1) hx hb dJ0_isLatin1_aae02_13 (by decide) ?_
  refine lv_goto (tgt := 18) hx hb dJ0_isLatin1_aae02_14 (by decide) ?_
  exact end_z (w' := wl []) hx hb hr hlocks hK hP hD hS dJ0_isLatin1_aae02_18 (by decide) ⟨rfl, rfl⟩
set_option maxHeartbeats 4000000 in
set_option maxRecDepth 100000 in
theorem c_J0_length (l : Launch) (G : va_G) (ct : Nat → ClassId) (sk sv : Nat → Nat) (i : Nat) (hi : i < 4) : Ctr (l, G, ct, sk, sv) mJ0_length_8abf5 1 20 [.ref (sk i)] (wl []) (wl []) (some (.int (lnS i))) := by
  refine ctr_intro (by decide) (Nat.le_of_ble_eq_true rfl) ?_
  intro p e s m args below meth c A C hP hD hS hA ls hl
  obtain ⟨hx, hb, hml, hown, hts, hr, hlocks, hK, hnm, hZ⟩ := C
  have hb : c.code = cJ0_length_8abf5 := hb
  have hml : c.maxLocals = 1 := hml
  have hown : s.vm.findClass "java/lang/String" = some m.cls := hown
  have hP : va_P G classes (wl []) s.heap := hP
  have hD : va_D A (wl []) := hD
  have hK : va_K G classes (TYS ct) s := hK
  have hE : vk_S 4 lenJ bytJ sk sv A s s.heap := hZ.2.1
  have hr : meth.sig.returnType = some .int := hr
  have hl : lv_has ls 1 [(0, .ref (sk i))] := hl
  refine lv_aload_n hx hb dJ0_length_8abf5_0 rfl (lv_at hl 0 rfl) ?_
  refine vk_getf hx hb (hE.1 i hi).2.2.1 hS hown (hts _ kw1294) (fun _ h9 => h9) dJ0_length_8abf5_1 ?_
  refine va_tlen (v := lnS i) hx hb (hE.1 i hi).2.2.2 hS rfl dJ0_length_8abf5_4 ?_
  refine lv_aload_n hx hb dJ0_length_8abf5_5 rfl (lv_at hl 0 rfl) ?_
  refine call_Vr (As := []) (rest := [.int (lnS i)]) hx hb hml hown hts hK hP hD hS hA hZ lkJ0_335 (c_J0_coder l G ct sk sv i hi) (vk_recv hE hi hS) ⟨Nat.le_of_ble_eq_true rfl, Nat.le_of_ble_eq_true rfl⟩ rfl hl.1 rfl (Nat.le_of_ble_eq_true rfl) dJ0_length_8abf5_6 ⟨Nat.le_of_ble_eq_true rfl, Nat.le_of_ble_eq_true rfl⟩ (fun r9 w9 H locs hB hP hD hS => ?_)
  obtain ⟨rfl, rfl⟩ := hB
  refine WG_eq (g2 := F0 m 9 ls [.int 0, .int (lnS i)]) rfl ?_
  refine lv_ishr hx hb dJ0_length_8abf5_9 ?_
  rw [sb_shr0]
  exact end_i (w' := wl []) hx hb hr hlocks hK hP hD hS dJ0_length_8abf5_10 ⟨rfl, rfl⟩
set_option maxHeartbeats 4000000 in
set_option maxRecDepth 100000 in
theorem c_J0_charAt (l : Launch) (G : va_G) (ct : Nat → ClassId) (sk sv : Nat → Nat) (i : Nat) (v1 : Int32) (hi : i < 4) (hj : vp_in v1 (lenJ.getD i 0)) : Ctr (l, G, ct, sk, sv) mJ0_charAt_5068e 3 64 [.ref (sk i), .int v1] (wl []) (wl []) (some (.int (chS i v1))) := by
  refine ctr_intro (by decide) (Nat.le_of_ble_eq_true rfl) ?_
  intro p e s m args below meth c A C hP hD hS hA ls hl
  obtain ⟨hx, hb, hml, hown, hts, hr, hlocks, hK, hnm, hZ⟩ := C
  have hb : c.code = cJ0_charAt_5068e := hb
  have hml : c.maxLocals = 2 := hml
  have hown : s.vm.findClass "java/lang/String" = some m.cls := hown
  have hP : va_P G classes (wl []) s.heap := hP
  have hD : va_D A (wl []) := hD
  have hK : va_K G classes (TYS ct) s := hK
  have hE : vk_S 4 lenJ bytJ sk sv A s s.heap := hZ.2.1
  have hr : meth.sig.returnType = some .char := hr
  have hl : lv_has ls 2 [(0, .ref (sk i)), (1, .int v1)] := hl
  refine lv_aload_n hx hb dJ0_charAt_5068e_0 rfl (lv_at hl 0 rfl) ?_
  refine call_Vr (As := []) (rest := []) hx hb hml hown hts hK hP hD hS hA hZ lkJ0_492 (c_J0_isLatin1 l G ct sk sv i hi) (vk_recv hE hi hS) ⟨Nat.le_of_ble_eq_true rfl, Nat.le_of_ble_eq_true rfl⟩ rfl hl.1 rfl (Nat.le_of_ble_eq_true rfl) dJ0_charAt_5068e_1 ⟨Nat.le_of_ble_eq_true rfl, Nat.le_of_ble_eq_true rfl⟩ (fun r9 w9 H locs hB hP hD hS => ?_)
  obtain ⟨rfl, rfl⟩ := hB
  refine WG_eq (g2 := F0 m 4 ls [.int 1]) rfl ?_
  refine lv_if_eq (tgt := 16) hx hb dJ0_charAt_5068e_4 (by decide) (fun c1 => absurd c1 (by decide)) (fun c1 => ?_)
  refine lv_aload_n hx hb dJ0_charAt_5068e_7 rfl (lv_at hl 0 rfl) ?_
  refine vk_getf hx hb (hE.1 i hi).2.2.1 hS hown (hts _ kw1294) (fun _ h9 => h9) dJ0_charAt_5068e_8 ?_
  refine lv_iload_n hx hb dJ0_charAt_5068e_11 rfl (lv_at hl 1 rfl) ?_
  refine call_S (As := [.ref (sv i), .int v1]) (rest := []) hx hb hml hown hts hK hP hD hS hA hZ lkJ0_495 (c_J1_charAt l G ct sk sv i v1 hi hj) ⟨Nat.le_of_ble_eq_true rfl, Nat.le_of_ble_eq_true rfl⟩ rfl hl.1 rfl (Nat.le_of_ble_eq_true rfl) dJ0_charAt_5068e_12 ⟨Nat.le_of_ble_eq_true rfl, Nat.le_of_ble_eq_true rfl⟩ (fun r9 w9 H locs hB hP hD hS => ?_)
  obtain ⟨rfl, rfl⟩ := hB
  refine WG_eq (g2 := F0 m 15 ls [.int (chS i v1)]) rfl ?_
  exact end_n (w' := wl []) hx hb hr hlocks hK hP hD hS dJ0_charAt_5068e_15 (pk_nc _) ⟨rfl, rfl⟩
