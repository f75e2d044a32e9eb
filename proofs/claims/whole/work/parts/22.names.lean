theorem lkX3_61 : lkV "SignedOutside$Names" 61 mX3_place 3 := lkV_mk kw666 kw668 kp18 kw11 kw669 (by decide +kernel)
theorem lkX3_41 : lkV "SignedOutside$Names" 41 mX1_lies 1 := lkV_mk kw656 kw463 kw464 kw8 kw465 (by decide +kernel)
theorem lkX3_45 : lkV "SignedOutside$Names" 45 mX1_whoMayFrank 1 := lkV_mk kw657 kw640 kw641 kw8 kw642 (by decide +kernel)
theorem lkX3_49 : lkV "SignedOutside$Names" 49 mX1_postage 1 := lkV_mk kw658 kw536 kw537 kw8 kw538 (by decide +kernel)
theorem lkX3_55 : lkV "SignedOutside$Names" 55 mX1_coversLeft 1 := lkV_mk kw659 kw660 kw661 kw8 kw662 (by decide +kernel)
theorem lkX3_79 : lkV "SignedOutside$Names" 79 mX1_suits 3 := lkV_mk kw697 kw492 kw493 kw8 kw494 (by decide +kernel)
theorem lkX3_75 : lkV "SignedOutside$Names" 75 mX3_worthAt 4 := lkV_mk kw693 kw695 kp20 kw11 kw696 (by decide +kernel)
theorem lkX3_71 : lkV "SignedOutside$Names" 71 mX3_sortByPostage 1 := lkV_mk kw689 kw691 kp19 kw11 kw692 (by decide +kernel)
theorem lkX3_83 : lkS "SignedOutside$Names" 83 mX3_gain 3 := ⟨kw810, kw811, kw11, kw812, by decide +kernel⟩
noncomputable def f_X3_place_j154 (n : Nat) (rec : MV → Int32 → Int32 → Int32 → Option MV) (nv : MV) (v4 : Int32) (v1 : Int32) (v2 : Int32) (v3 : Int32) : Option ((Int32 × MV) ⊕ (MV)) :=
  bl (v4 + 1) fun v4_1 =>
  some (.inl (v4_1, nv))
noncomputable def f_X3_place_b70 (n : Nat) (rec : MV → Int32 → Int32 → Int32 → Option MV) (nv : MV) (v4 : Int32) (v1 : Int32) (v2 : Int32) (v3 : Int32) : Option ((Int32 × MV) ⊕ (MV)) :=
  bc (5 ≤ v4) (some (.inr nv))
  (gd (vp_in v1 6) <|
  bc ((((nv.2.1 0 (ix v1)) >>> (v4 &&& 31)) &&& 1) = 1) (gd (vp_in v4 5) <|
  bc ((nv.2.1 3 (ix v4)) ≤ 0) (f_X3_place_j154 n rec nv v4 v1 v2 v3)
  (gd (vp_in v4 5) <|
  gd (vp_in v4 5) <|
  bl (setA nv 3 (upd (nv.2.1 3) (ix v4) ((nv.2.1 3 (ix v4)) - 1))) fun nv_9 =>
  gd (vp_in v1 6) <|
  bl (setA nv_9 4 (upd (nv_9.2.1 4) (ix v1) v4)) fun nv_11 =>
  gd (vp_in v1 6) <|
  gd (vp_in v1 6) <|
  bd (rec nv_11 (v1 + 1) (v2 + (nv_11.2.1 1 (ix v1))) (v3 - (nv_11.2.1 1 (ix v1)))) fun nv_14 =>
  gd (vp_in v4 5) <|
  gd (vp_in v4 5) <|
  bl (setA nv_14 3 (upd (nv_14.2.1 3) (ix v4) ((nv_14.2.1 3 (ix v4)) + 1))) fun nv_17 =>
  f_X3_place_j154 n rec nv_17 v4 v1 v2 v3))
  (f_X3_place_j154 n rec nv v4 v1 v2 v3))
noncomputable def f_X3_place_l70 (fu : Nat) (n : Nat) (rec : MV → Int32 → Int32 → Int32 → Option MV) (nv : MV) (v1 : Int32) (v2 : Int32) (v3 : Int32) (v4 : Int32) : Option (MV) :=
  lp (fun q => f_X3_place_b70 n rec q.2 q.1 v1 v2 v3) fu (v4, nv)
noncomputable def f_X3_place_step (n : Nat) (rec : MV → Int32 → Int32 → Int32 → Option MV) (nv : MV) (v1 : Int32) (v2 : Int32) (v3 : Int32) : Option (MV) :=
  bc ((nv.1 1) < (v2 + v3)) (bc (v1 < (nv.1 0)) (gd (vp_in v1 6) <|
  bc ((nv.2.1 2 (ix v1)) = 0) (gd (vp_in v1 6) <|
  bl (setA nv 4 (upd (nv.2.1 4) (ix v1) 6)) fun nv_29 =>
  bd (rec nv_29 (v1 + 1) v2 v3) fun nv_30 =>
  some nv_30)
  (bd (f_X3_place_l70 n n rec nv v1 v2 v3 0) fun nv_22 =>
  gd (vp_in v1 6) <|
  bl (setA nv_22 4 (upd (nv_22.2.1 4) (ix v1) 5)) fun nv_25 =>
  gd (vp_in v1 6) <|
  bd (rec nv_25 (v1 + 1) v2 (v3 - (nv_25.2.1 1 (ix v1)))) fun nv_27 =>
  some nv_27))
  (bl (setS nv 1 v2) fun nv_31 =>
  gd (cpOK 0 0 6 6 6) <|
  bl (setA nv_31 5 (va_cpy (nv_31.2.1 4) (nv_31.2.1 5) (ix 0) (ix 0) (ix 6))) fun nv_33 =>
  some nv_33))
  (some nv)
noncomputable def f_X3_place : Nat → Nat → MV → Int32 → Int32 → Int32 → Option MV
  | 0, _, _, _, _, _ => none
  | d + 1, n, nv, v1, v2, v3 => f_X3_place_step n (f_X3_place d n) nv v1 v2 v3
theorem c_X3_place_0 (l : Launch) (G : va_G) (ct : Nat → ClassId) (sk sv : Nat → Nat) (nm : Nat → Nat) (n : Nat) (nv : MV) (v1 : Int32) (v2 : Int32) (v3 : Int32) {nv' : MV} (hf : f_X3_place 0 n nv v1 v2 v3 = some nv') : Ctr (l, G, ct, sk, sv) mX3_place 1 64 [.ref (nm 0), .int v1, .int v2, .int v3] (lfN ct nm nv) (lfN ct nm nv') (none) := by
  cases hf
set_option maxHeartbeats 4000000 in
set_option maxRecDepth 100000 in
theorem c_X3_place_1 (l : Launch) (G : va_G) (ct : Nat → ClassId) (sk sv : Nat → Nat) (nm : Nat → Nat) (n : Nat) (nv : MV) (v1 : Int32) (v2 : Int32) (v3 : Int32) {nv' : MV} (hf : f_X3_place 1 n nv v1 v2 v3 = some nv') : Ctr (l, G, ct, sk, sv) mX3_place 2 88 [.ref (nm 0), .int v1, .int v2, .int v3] (wl [lfN ct nm nv]) (wl [lfN ct nm nv']) (none) := by
  refine ctr_intro (by decide) (Nat.le_of_ble_eq_true rfl) ?_
  intro p e s m args below meth c A C hP hD hS hA ls hl
  obtain ⟨hx, hb, hml, hown, hts, hr, hlocks, hK, hnm, hZ⟩ := C
  have hb : c.code = cX3_place := hb
  have hml : c.maxLocals = 5 := hml
  have hown : s.vm.findClass "SignedOutside$Names" = some m.cls := hown
  have hr : meth.sig.returnType = none := hr
  have hP : va_P G classes (wl [lfN ct nm nv]) s.heap := hP
  have hD : va_D A (wl [lfN ct nm nv]) := hD
  have hK : va_K G classes (TYS ct) s := hK
  have hl : lv_has ls 5 [(0, .ref (nm 0)), (1, .int v1), (2, .int v2), (3, .int v3)] := hl
  have L70 : ∀ (fu : Nat) (nv : MV) (v1 : Int32) (v2 : Int32) (v3 : Int32) (v4 : Int32) (ex : MV) (H : Heap) (locs : List Loc) (ls : Array Slot), va_P G classes (wl [lfN ct nm nv]) H → va_D A (wl [lfN ct nm nv]) → va_S A s.heap H locs → lv_has ls 5 [(4, .int v4), (0, .ref (nm 0)), (1, .int v1), (2, .int v2), (3, .int v3)] → f_X3_place_l70 fu n (f_X3_place 0 n) nv v1 v2 v3 v4 = some ex → (∀ (x : MV), ex = x → ∀ (H : Heap) (locs : List Loc) (ls : Array Slot), va_P G classes (wl [lfN ct nm x]) H → va_D A (wl [lfN ct nm x]) → va_S A s.heap H locs → lv_has ls 5 [(0, .ref (nm 0)), (1, .int v1), (2, .int v2), (3, .int v3)] → WG l G ct sk sv p e (RM 2 88 0 0) s m args below meth c A (Eq2 (none) (wl [lfN ct nm nv'])) H locs (F0 m 160 ls [])) → WG l G ct sk sv p e (RM 2 88 0 0) s m args below meth c A (Eq2 (none) (wl [lfN ct nm nv'])) H locs (F0 m 70 ls []) := by
    intro fu
    induction fu with
    | zero =>
      intro nv v1 v2 v3 v4 ex H locs ls hP hD hS hl hf
      exact absurd hf (by unfold f_X3_place_l70 lp; exact fun h => by cases h)
    | succ fu ih =>
      intro nv v1 v2 v3 v4 ex H locs ls hP hD hS hl hf hE
      unfold f_X3_place_l70 at hf
      obtain ⟨q, hf, hor⟩ := lp_e hf
      have J154 : ∀ (nv : MV) (v4 : Int32) (H : Heap) (locs : List Loc) (ls : Array Slot), va_P G classes (wl [lfN ct nm nv]) H → va_D A (wl [lfN ct nm nv]) → va_S A s.heap H locs → lv_has ls 5 [(4, .int v4), (0, .ref (nm 0)), (1, .int v1), (2, .int v2), (3, .int v3)] → f_X3_place_j154 n (f_X3_place 0 n) nv v4 v1 v2 v3 = some q → WG l G ct sk sv p e (RM 2 88 0 0) s m args below meth c A (Eq2 (none) (wl [lfN ct nm nv'])) H locs (F0 m 154 ls []) := by
        intro nv v4 H locs ls hP hD hS hl hf
        unfold f_X3_place_j154 at hf
        obtain ⟨v4_1, ev4_1, hf⟩ := bl_e hf
        refine lv_iinc (v := v4_1) (lv' := [(4, .int v4_1), (0, .ref (nm 0)), (1, .int v1), (2, .int v2), (3, .int v3)]) hx hb dX3_place_154 hl (k := 0) rfl ev4_1 (by decide) rfl (fun ls hl => ?_)
        refine lv_goto (tgt := 70) hx hb dX3_place_157 (by decide) ?_
        exact ih nv v1 v2 v3 v4_1 ex _ _ _ hP hD hS hl (lp_inl hor hf) hE
      replace hf : f_X3_place_b70 n (f_X3_place 0 n) nv v4 v1 v2 v3 = some q := hf
      unfold f_X3_place_b70 at hf
      refine lv_iload hx hb dX3_place_70 (lv_at hl 0 rfl) ?_
      refine lv_iconst (v := 5) hx hb dX3_place_72 (by decide) ?_
      refine lv_icmp_ge (tgt := 160) hx hb dX3_place_73 (by decide) (fun c_2 => ?_) (fun c_2 => ?_)
      · replace hf := bc_t hf c_2
        exact hE nv (lp_inr hor hf).symm _ _ _ hP hD hS (lv_sub hl [1, 2, 3, 4] rfl)
      · replace hf := bc_f hf c_2
        refine lv_aload_n hx hb dX3_place_76 rfl (lv_at hl 1 rfl) ?_
        refine va_get (D := G) (C := RX3) (T := TX3) (N := 9) (v := .ref (nm 1)) hx hb hts iu_X3 hown hK hP 0 rfl rfl 1 (by decide) (hts _ kw204) (fun _ h9 => h9) rfl dX3_place_77 ?_
        refine lv_iload_n hx hb dX3_place_80 rfl (lv_at hl 2 rfl) ?_
        obtain ⟨g_3, hf⟩ := gd_e hf
        refine va_iald (f := nv.2.1 0) hx hb hK hP 1 0 rfl rfl g_3 dX3_place_81 ?_
        refine lv_iload hx hb dX3_place_82 (lv_at hl 0 rfl) ?_
        refine lv_ishr hx hb dX3_place_84 ?_
        refine lv_iconst (v := 1) hx hb dX3_place_85 (by decide) ?_
        refine lv_iand hx hb dX3_place_86 ?_
        refine lv_iconst (v := 1) hx hb dX3_place_87 (by decide) ?_
        refine lv_icmp_ne (tgt := 154) hx hb dX3_place_88 (by decide) (fun c_4 => ?_) (fun c_4 => ?_)
        · replace hf := bc_f hf c_4
          exact J154 nv v4 _ _ _ hP hD hS hl hf
        · replace hf := bc_t hf c_4
          refine lv_aload_n hx hb dX3_place_91 rfl (lv_at hl 1 rfl) ?_
          refine va_get (D := G) (C := RX3) (T := TX3) (N := 9) (v := .ref (nm 4)) hx hb hts iu_X3 hown hK hP 0 rfl rfl 4 (by decide) (hts _ kw207) (fun _ h9 => h9) rfl dX3_place_92 ?_
          refine lv_iload hx hb dX3_place_95 (lv_at hl 0 rfl) ?_
          obtain ⟨g_5, hf⟩ := gd_e hf
          refine va_iald (f := nv.2.1 3) hx hb hK hP 4 0 rfl rfl g_5 dX3_place_97 ?_
          refine lv_if_le (tgt := 154) hx hb dX3_place_98 (by decide) (fun c_6 => ?_) (fun c_6 => ?_)
          · replace hf := bc_t hf c_6
            exact J154 nv v4 _ _ _ hP hD hS hl hf
          · replace hf := bc_f hf c_6
            refine lv_aload_n hx hb dX3_place_101 rfl (lv_at hl 1 rfl) ?_
            refine va_get (D := G) (C := RX3) (T := TX3) (N := 9) (v := .ref (nm 4)) hx hb hts iu_X3 hown hK hP 0 rfl rfl 4 (by decide) (hts _ kw207) (fun _ h9 => h9) rfl dX3_place_102 ?_
            refine lv_iload hx hb dX3_place_105 (lv_at hl 0 rfl) ?_
            refine lv_dup2_11 hx hb dX3_place_107 rfl rfl ?_
            obtain ⟨g_7, hf⟩ := gd_e hf
            refine va_iald (f := nv.2.1 3) hx hb hK hP 4 0 rfl rfl g_7 dX3_place_108 ?_
            refine lv_iconst (v := 1) hx hb dX3_place_109 (by decide) ?_
            refine lv_isub hx hb dX3_place_110 ?_
            obtain ⟨g_8, hf⟩ := gd_e hf
            obtain ⟨nv_9, env_9, hf⟩ := bl_e hf
            refine va_iast hx hb hK hP hD hS 4 0 rfl rfl g_8 dX3_place_111 (fun H locs hP hD hS => ?_)
            have hP : va_P G classes (wl [lfN ct nm nv_9]) H := by rw [← env_9]; exact hP
            have hD : va_D A (wl [lfN ct nm nv_9]) := by rw [← env_9]; exact hD
            refine lv_aload_n hx hb dX3_place_112 rfl (lv_at hl 1 rfl) ?_
            refine va_get (D := G) (C := RX3) (T := TX3) (N := 9) (v := .ref (nm 5)) hx hb hts iu_X3 hown hK hP 0 rfl rfl 5 (by decide) (hts _ kw208) (fun _ h9 => h9) rfl dX3_place_113 ?_
            refine lv_iload_n hx hb dX3_place_116 rfl (lv_at hl 2 rfl) ?_
            refine lv_iload hx hb dX3_place_117 (lv_at hl 0 rfl) ?_
            obtain ⟨g_10, hf⟩ := gd_e hf
            obtain ⟨nv_11, env_11, hf⟩ := bl_e hf
            refine va_iast hx hb hK hP hD hS 5 0 rfl rfl g_10 dX3_place_119 (fun H locs hP hD hS => ?_)
            have hP : va_P G classes (wl [lfN ct nm nv_11]) H := by rw [← env_11]; exact hP
            have hD : va_D A (wl [lfN ct nm nv_11]) := by rw [← env_11]; exact hD
            refine lv_aload_n hx hb dX3_place_120 rfl (lv_at hl 1 rfl) ?_
            refine lv_iload_n hx hb dX3_place_121 rfl (lv_at hl 2 rfl) ?_
            refine lv_iconst (v := 1) hx hb dX3_place_122 (by decide) ?_
            refine lv_iadd hx hb dX3_place_123 ?_
            refine lv_iload_n hx hb dX3_place_124 rfl (lv_at hl 3 rfl) ?_
            refine lv_aload_n hx hb dX3_place_125 rfl (lv_at hl 1 rfl) ?_
            refine va_get (D := G) (C := RX3) (T := TX3) (N := 9) (v := .ref (nm 2)) hx hb hts iu_X3 hown hK hP 0 rfl rfl 2 (by decide) (hts _ kw205) (fun _ h9 => h9) rfl dX3_place_126 ?_
            refine lv_iload_n hx hb dX3_place_129 rfl (lv_at hl 2 rfl) ?_
            obtain ⟨g_12, hf⟩ := gd_e hf
            refine va_iald (f := nv_11.2.1 1) hx hb hK hP 2 0 rfl rfl g_12 dX3_place_130 ?_
            refine lv_iadd hx hb dX3_place_131 ?_
            refine lv_iload_n hx hb dX3_place_132 rfl (lv_at hl 4 rfl) ?_
            refine lv_aload_n hx hb dX3_place_133 rfl (lv_at hl 1 rfl) ?_
            refine va_get (D := G) (C := RX3) (T := TX3) (N := 9) (v := .ref (nm 2)) hx hb hts iu_X3 hown hK hP 0 rfl rfl 2 (by decide) (hts _ kw205) (fun _ h9 => h9) rfl dX3_place_134 ?_
            refine lv_iload_n hx hb dX3_place_137 rfl (lv_at hl 2 rfl) ?_
            obtain ⟨g_13, hf⟩ := gd_e hf
            refine va_iald (f := nv_11.2.1 1) hx hb hK hP 2 0 rfl rfl g_13 dX3_place_138 ?_
            refine lv_isub hx hb dX3_place_139 ?_
            obtain ⟨nv_14, hc14, hf⟩ := bd_e hf
            refine call_V (As := [.int (v1 + 1), .int (v2 + (nv_11.2.1 1 (ix v1))), .int (v3 - (nv_11.2.1 1 (ix v1)))]) (rest := []) hx hb hml hown hts hK hP hD hS hA hZ lkX3_61 (c_X3_place_0 l G ct sk sv nm n nv_11 (v1 + 1) (v2 + (nv_11.2.1 1 (ix v1))) (v3 - (nv_11.2.1 1 (ix v1))) hc14) 0 rfl rfl ⟨Nat.le_of_ble_eq_true rfl, Nat.le_of_ble_eq_true rfl⟩ rfl hl.1 rfl (Nat.le_of_ble_eq_true rfl) dX3_place_140 ⟨Nat.le_of_ble_eq_true rfl, Nat.le_of_ble_eq_true rfl⟩ (fun r9 w9 H locs hB hP hD hS => ?_)
            obtain ⟨rfl, rfl⟩ := hB
            refine WG_eq (g2 := F0 m 143 ls []) rfl ?_
            refine lv_aload_n hx hb dX3_place_143 rfl (lv_at hl 1 rfl) ?_
            refine va_get (D := G) (C := RX3) (T := TX3) (N := 9) (v := .ref (nm 4)) hx hb hts iu_X3 hown hK hP 0 rfl rfl 4 (by decide) (hts _ kw207) (fun _ h9 => h9) rfl dX3_place_144 ?_
            refine lv_iload hx hb dX3_place_147 (lv_at hl 0 rfl) ?_
            refine lv_dup2_11 hx hb dX3_place_149 rfl rfl ?_
            obtain ⟨g_15, hf⟩ := gd_e hf
            refine va_iald (f := nv_14.2.1 3) hx hb hK hP 4 0 rfl rfl g_15 dX3_place_150 ?_
            refine lv_iconst (v := 1) hx hb dX3_place_151 (by decide) ?_
            refine lv_iadd hx hb dX3_place_152 ?_
            obtain ⟨g_16, hf⟩ := gd_e hf
            obtain ⟨nv_17, env_17, hf⟩ := bl_e hf
            refine va_iast hx hb hK hP hD hS 4 0 rfl rfl g_16 dX3_place_153 (fun H locs hP hD hS => ?_)
            have hP : va_P G classes (wl [lfN ct nm nv_17]) H := by rw [← env_17]; exact hP
            have hD : va_D A (wl [lfN ct nm nv_17]) := by rw [← env_17]; exact hD
            exact J154 nv_17 v4 _ _ _ hP hD hS hl hf
  replace hf : f_X3_place_step n (f_X3_place 0 n) nv v1 v2 v3 = some nv' := hf
  unfold f_X3_place_step at hf
  show WG l G ct sk sv p e (RM 2 88 0 0) s m args below meth c A (Eq2 (none) (wl [lfN ct nm nv'])) s.heap [] (F0 m 0 ls [])
  refine lv_iload_n hx hb dX3_place_0 rfl (lv_at hl 2 rfl) ?_
  refine lv_iload_n hx hb dX3_place_1 rfl (lv_at hl 3 rfl) ?_
  refine lv_iadd hx hb dX3_place_2 ?_
  refine lv_aload_n hx hb dX3_place_3 rfl (lv_at hl 0 rfl) ?_
  refine va_get (D := G) (C := RX3) (T := TX3) (N := 9) (v := .int (nv.1 1)) hx hb hts iu_X3 hown hK hP 0 rfl rfl 8 (by decide) (hts _ kw212) (fun _ h9 => h9) rfl dX3_place_4 ?_
  refine lv_icmp_gt (tgt := 11) hx hb dX3_place_7 (by decide) (fun c_18 => ?_) (fun c_18 => ?_)
  · replace hf := bc_t hf c_18
    refine lv_iload_n hx hb dX3_place_11 rfl (lv_at hl 1 rfl) ?_
    refine lv_aload_n hx hb dX3_place_12 rfl (lv_at hl 0 rfl) ?_
    refine va_get (D := G) (C := RX3) (T := TX3) (N := 9) (v := .int (nv.1 0)) hx hb hts iu_X3 hown hK hP 0 rfl rfl 0 (by decide) (hts _ kw203) (fun _ h9 => h9) rfl dX3_place_13 ?_
    refine lv_icmp_lt (tgt := 40) hx hb dX3_place_16 (by decide) (fun c_19 => ?_) (fun c_19 => ?_)
    · replace hf := bc_t hf c_19
      refine lv_aload_n hx hb dX3_place_40 rfl (lv_at hl 0 rfl) ?_
      refine va_get (D := G) (C := RX3) (T := TX3) (N := 9) (v := .ref (nm 3)) hx hb hts iu_X3 hown hK hP 0 rfl rfl 3 (by decide) (hts _ kw206) (fun _ h9 => h9) rfl dX3_place_41 ?_
      refine lv_iload_n hx hb dX3_place_44 rfl (lv_at hl 1 rfl) ?_
      obtain ⟨g_20, hf⟩ := gd_e hf
      refine va_zald (f := nv.2.1 2) hx hb hK hP 3 1 rfl rfl g_20 dX3_place_45 ?_
      refine lv_if_ne (tgt := 67) hx hb dX3_place_46 (by decide) (fun c_21 => ?_) (fun c_21 => ?_)
      · replace hf := bc_f hf c_21
        refine lv_iconst (v := 0) hx hb dX3_place_67 (by decide) ?_
        refine lv_istore (lv' := [(4, .int 0), (0, .ref (nm 0)), (1, .int v1), (2, .int v2), (3, .int v3)]) hx hb dX3_place_68 hl (by decide) rfl (fun ls hl => ?_)
        obtain ⟨nv_22, hx_23, hf⟩ := bd_e hf
        refine L70 n nv v1 v2 v3 0 nv_22 _ _ _ hP hD hS hl hx_23 ?_
        intro x9 e9 H locs ls hP hD hS hl
        subst e9
        have hP : va_P G classes (wl [lfN ct nm nv_22]) H := hP
        have hD : va_D A (wl [lfN ct nm nv_22]) := hD
        have hl : lv_has ls 5 [(0, .ref (nm 0)), (1, .int v1), (2, .int v2), (3, .int v3)] := hl
        refine lv_aload_n hx hb dX3_place_160 rfl (lv_at hl 0 rfl) ?_
        refine va_get (D := G) (C := RX3) (T := TX3) (N := 9) (v := .ref (nm 5)) hx hb hts iu_X3 hown hK hP 0 rfl rfl 5 (by decide) (hts _ kw208) (fun _ h9 => h9) rfl dX3_place_161 ?_
        refine lv_iload_n hx hb dX3_place_164 rfl (lv_at hl 1 rfl) ?_
        refine lv_iconst (v := 5) hx hb dX3_place_165 (by decide) ?_
        obtain ⟨g_24, hf⟩ := gd_e hf
        obtain ⟨nv_25, env_25, hf⟩ := bl_e hf
        refine va_iast hx hb hK hP hD hS 5 0 rfl rfl g_24 dX3_place_166 (fun H locs hP hD hS => ?_)
        have hP : va_P G classes (wl [lfN ct nm nv_25]) H := by rw [← env_25]; exact hP
        have hD : va_D A (wl [lfN ct nm nv_25]) := by rw [← env_25]; exact hD
        refine lv_aload_n hx hb dX3_place_167 rfl (lv_at hl 0 rfl) ?_
        refine lv_iload_n hx hb dX3_place_168 rfl (lv_at hl 1 rfl) ?_
        refine lv_iconst (v := 1) hx hb dX3_place_169 (by decide) ?_
        refine lv_iadd hx hb dX3_place_170 ?_
        refine lv_iload_n hx hb dX3_place_171 rfl (lv_at hl 2 rfl) ?_
        refine lv_iload_n hx hb dX3_place_172 rfl (lv_at hl 3 rfl) ?_
        refine lv_aload_n hx hb dX3_place_173 rfl (lv_at hl 0 rfl) ?_
        refine va_get (D := G) (C := RX3) (T := TX3) (N := 9) (v := .ref (nm 2)) hx hb hts iu_X3 hown hK hP 0 rfl rfl 2 (by decide) (hts _ kw205) (fun _ h9 => h9) rfl dX3_place_174 ?_
        refine lv_iload_n hx hb dX3_place_177 rfl (lv_at hl 1 rfl) ?_
        obtain ⟨g_26, hf⟩ := gd_e hf
        refine va_iald (f := nv_25.2.1 1) hx hb hK hP 2 0 rfl rfl g_26 dX3_place_178 ?_
        refine lv_isub hx hb dX3_place_179 ?_
        obtain ⟨nv_27, hc27, hf⟩ := bd_e hf
        refine call_V (As := [.int (v1 + 1), .int v2, .int (v3 - (nv_25.2.1 1 (ix v1)))]) (rest := []) hx hb hml hown hts hK hP hD hS hA hZ lkX3_61 (c_X3_place_0 l G ct sk sv nm n nv_25 (v1 + 1) v2 (v3 - (nv_25.2.1 1 (ix v1))) hc27) 0 rfl rfl ⟨Nat.le_of_ble_eq_true rfl, Nat.le_of_ble_eq_true rfl⟩ rfl hl.1 rfl (Nat.le_of_ble_eq_true rfl) dX3_place_180 ⟨Nat.le_of_ble_eq_true rfl, Nat.le_of_ble_eq_true rfl⟩ (fun r9 w9 H locs hB hP hD hS => ?_)
        obtain ⟨rfl, rfl⟩ := hB
        refine WG_eq (g2 := F0 m 183 ls []) rfl ?_
        have e1 := Option.some.inj hf
        exact end_v (w' := (wl [lfN ct nm nv_27])) hx hb hr hlocks hK hP hD hS dX3_place_183  ⟨rfl, by rw [← e1]⟩
      · replace hf := bc_t hf c_21
        refine lv_aload_n hx hb dX3_place_49 rfl (lv_at hl 0 rfl) ?_
        refine va_get (D := G) (C := RX3) (T := TX3) (N := 9) (v := .ref (nm 5)) hx hb hts iu_X3 hown hK hP 0 rfl rfl 5 (by decide) (hts _ kw208) (fun _ h9 => h9) rfl dX3_place_50 ?_
        refine lv_iload_n hx hb dX3_place_53 rfl (lv_at hl 1 rfl) ?_
        refine lv_bipush (v := 6) hx hb dX3_place_54 (by decide) ?_
        obtain ⟨g_28, hf⟩ := gd_e hf
        obtain ⟨nv_29, env_29, hf⟩ := bl_e hf
        refine va_iast hx hb hK hP hD hS 5 0 rfl rfl g_28 dX3_place_56 (fun H locs hP hD hS => ?_)
        have hP : va_P G classes (wl [lfN ct nm nv_29]) H := by rw [← env_29]; exact hP
        have hD : va_D A (wl [lfN ct nm nv_29]) := by rw [← env_29]; exact hD
        refine lv_aload_n hx hb dX3_place_57 rfl (lv_at hl 0 rfl) ?_
        refine lv_iload_n hx hb dX3_place_58 rfl (lv_at hl 1 rfl) ?_
        refine lv_iconst (v := 1) hx hb dX3_place_59 (by decide) ?_
        refine lv_iadd hx hb dX3_place_60 ?_
        refine lv_iload_n hx hb dX3_place_61 rfl (lv_at hl 2 rfl) ?_
        refine lv_iload_n hx hb dX3_place_62 rfl (lv_at hl 3 rfl) ?_
        obtain ⟨nv_30, hc30, hf⟩ := bd_e hf
        refine call_V (As := [.int (v1 + 1), .int v2, .int v3]) (rest := []) hx hb hml hown hts hK hP hD hS hA hZ lkX3_61 (c_X3_place_0 l G ct sk sv nm n nv_29 (v1 + 1) v2 v3 hc30) 0 rfl rfl ⟨Nat.le_of_ble_eq_true rfl, Nat.le_of_ble_eq_true rfl⟩ rfl hl.1 rfl (Nat.le_of_ble_eq_true rfl) dX3_place_63 ⟨Nat.le_of_ble_eq_true rfl, Nat.le_of_ble_eq_true rfl⟩ (fun r9 w9 H locs hB hP hD hS => ?_)
        obtain ⟨rfl, rfl⟩ := hB
        refine WG_eq (g2 := F0 m 66 ls []) rfl ?_
        have e1 := Option.some.inj hf
        exact end_v (w' := (wl [lfN ct nm nv_30])) hx hb hr hlocks hK hP hD hS dX3_place_66  ⟨rfl, by rw [← e1]⟩
    · replace hf := bc_f hf c_19
      refine lv_aload_n hx hb dX3_place_19 rfl (lv_at hl 0 rfl) ?_
      refine lv_iload_n hx hb dX3_place_20 rfl (lv_at hl 2 rfl) ?_
      obtain ⟨nv_31, env_31, hf⟩ := bl_e hf
      refine va_put (D := G) (C := RX3) (T := TX3) (N := 9) (ty := .int) hx hb hts iu_X3 tyX3 tyX3_ok nmX3 hown hK hP hD hS 0 rfl rfl 8 (by decide) (hts _ kw212) (fun _ h9 => h9) rfl (by decide +kernel) rfl rfl (Nat.le_of_ble_eq_true rfl) dX3_place_21 (fun H locs hP hD hS => ?_)
      have hP : va_P G classes (wl [lfN ct nm nv_31]) H := by rw [← env_31]; exact hP
      have hD : va_D A (wl [lfN ct nm nv_31]) := by rw [← env_31]; exact hD
      refine lv_aload_n hx hb dX3_place_24 rfl (lv_at hl 0 rfl) ?_
      refine va_get (D := G) (C := RX3) (T := TX3) (N := 9) (v := .ref (nm 5)) hx hb hts iu_X3 hown hK hP 0 rfl rfl 5 (by decide) (hts _ kw208) (fun _ h9 => h9) rfl dX3_place_25 ?_
      refine lv_iconst (v := 0) hx hb dX3_place_28 (by decide) ?_
      refine lv_aload_n hx hb dX3_place_29 rfl (lv_at hl 0 rfl) ?_
      refine va_get (D := G) (C := RX3) (T := TX3) (N := 9) (v := .ref (nm 6)) hx hb hts iu_X3 hown hK hP 0 rfl rfl 6 (by decide) (hts _ kw209) (fun _ h9 => h9) rfl dX3_place_30 ?_
      refine lv_iconst (v := 0) hx hb dX3_place_33 (by decide) ?_
      refine lv_bipush (v := 6) hx hb dX3_place_34 (by decide) ?_
      obtain ⟨g_32, hf⟩ := gd_e hf
      obtain ⟨nv_33, env_33, hf⟩ := bl_e hf
      refine va_copyi (f := nv_31.2.1 4) (g := nv_31.2.1 5) hx hb (hml.trans hl.1.symm) hown (hts _ kw670) (hts _ kw545) (hts _ kw544) (hts _ kw19) hK hP hD hS 5 6 0 0 rfl rfl rfl rfl rfl g_32.1 g_32.2.1 g_32.2.2.1 g_32.2.2.2.1 g_32.2.2.2.2 (fun _ _ => rfl) (Nat.le_of_ble_eq_true rfl) (by decide) dX3_place_36 (fun H locs hP hD hS => ?_)
      have hP : va_P G classes (wl [lfN ct nm nv_33]) H := by rw [← env_33]; exact hP
      have hD : va_D A (wl [lfN ct nm nv_33]) := by rw [← env_33]; exact hD
      have e1 := Option.some.inj hf
      exact end_v (w' := (wl [lfN ct nm nv_33])) hx hb hr hlocks hK hP hD hS dX3_place_39  ⟨rfl, by rw [← e1]⟩
  · replace hf := bc_f hf c_18
    have e1 := Option.some.inj hf
    exact end_v (w' := (wl [lfN ct nm nv])) hx hb hr hlocks hK hP hD hS dX3_place_10  ⟨rfl, by rw [← e1]⟩
set_option maxHeartbeats 4000000 in
set_option maxRecDepth 100000 in
theorem c_X3_place_2 (l : Launch) (G : va_G) (ct : Nat → ClassId) (sk sv : Nat → Nat) (nm : Nat → Nat) (n : Nat) (nv : MV) (v1 : Int32) (v2 : Int32) (v3 : Int32) {nv' : MV} (hf : f_X3_place 2 n nv v1 v2 v3 = some nv') : Ctr (l, G, ct, sk, sv) mX3_place 3 112 [.ref (nm 0), .int v1, .int v2, .int v3] (wl [lfN ct nm nv]) (wl [lfN ct nm nv']) (none) := by
  refine ctr_intro (by decide) (Nat.le_of_ble_eq_true rfl) ?_
  intro p e s m args below meth c A C hP hD hS hA ls hl
  obtain ⟨hx, hb, hml, hown, hts, hr, hlocks, hK, hnm, hZ⟩ := C
  have hb : c.code = cX3_place := hb
  have hml : c.maxLocals = 5 := hml
  have hown : s.vm.findClass "SignedOutside$Names" = some m.cls := hown
  have hr : meth.sig.returnType = none := hr
  have hP : va_P G classes (wl [lfN ct nm nv]) s.heap := hP
  have hD : va_D A (wl [lfN ct nm nv]) := hD
  have hK : va_K G classes (TYS ct) s := hK
  have hl : lv_has ls 5 [(0, .ref (nm 0)), (1, .int v1), (2, .int v2), (3, .int v3)] := hl
  have L70 : ∀ (fu : Nat) (nv : MV) (v1 : Int32) (v2 : Int32) (v3 : Int32) (v4 : Int32) (ex : MV) (H : Heap) (locs : List Loc) (ls : Array Slot), va_P G classes (wl [lfN ct nm nv]) H → va_D A (wl [lfN ct nm nv]) → va_S A s.heap H locs → lv_has ls 5 [(4, .int v4), (0, .ref (nm 0)), (1, .int v1), (2, .int v2), (3, .int v3)] → f_X3_place_l70 fu n (f_X3_place 1 n) nv v1 v2 v3 v4 = some ex → (∀ (x : MV), ex = x → ∀ (H : Heap) (locs : List Loc) (ls : Array Slot), va_P G classes (wl [lfN ct nm x]) H → va_D A (wl [lfN ct nm x]) → va_S A s.heap H locs → lv_has ls 5 [(0, .ref (nm 0)), (1, .int v1), (2, .int v2), (3, .int v3)] → WG l G ct sk sv p e (RM 3 112 0 0) s m args below meth c A (Eq2 (none) (wl [lfN ct nm nv'])) H locs (F0 m 160 ls [])) → WG l G ct sk sv p e (RM 3 112 0 0) s m args below meth c A (Eq2 (none) (wl [lfN ct nm nv'])) H locs (F0 m 70 ls []) := by
    intro fu
    induction fu with
    | zero =>
      intro nv v1 v2 v3 v4 ex H locs ls hP hD hS hl hf
      exact absurd hf (by unfold f_X3_place_l70 lp; exact fun h => by cases h)
    | succ fu ih =>
      intro nv v1 v2 v3 v4 ex H locs ls hP hD hS hl hf hE
      unfold f_X3_place_l70 at hf
      obtain ⟨q, hf, hor⟩ := lp_e hf
      have J154 : ∀ (nv : MV) (v4 : Int32) (H : Heap) (locs : List Loc) (ls : Array Slot), va_P G classes (wl [lfN ct nm nv]) H → va_D A (wl [lfN ct nm nv]) → va_S A s.heap H locs → lv_has ls 5 [(4, .int v4), (0, .ref (nm 0)), (1, .int v1), (2, .int v2), (3, .int v3)] → f_X3_place_j154 n (f_X3_place 1 n) nv v4 v1 v2 v3 = some q → WG l G ct sk sv p e (RM 3 112 0 0) s m args below meth c A (Eq2 (none) (wl [lfN ct nm nv'])) H locs (F0 m 154 ls []) := by
        intro nv v4 H locs ls hP hD hS hl hf
        unfold f_X3_place_j154 at hf
        obtain ⟨v4_1, ev4_1, hf⟩ := bl_e hf
        refine lv_iinc (v := v4_1) (lv' := [(4, .int v4_1), (0, .ref (nm 0)), (1, .int v1), (2, .int v2), (3, .int v3)]) hx hb dX3_place_154 hl (k := 0) rfl ev4_1 (by decide) rfl (fun ls hl => ?_)
        refine lv_goto (tgt := 70) hx hb dX3_place_157 (by decide) ?_
        exact ih nv v1 v2 v3 v4_1 ex _ _ _ hP hD hS hl (lp_inl hor hf) hE
      replace hf : f_X3_place_b70 n (f_X3_place 1 n) nv v4 v1 v2 v3 = some q := hf
      unfold f_X3_place_b70 at hf
      refine lv_iload hx hb dX3_place_70 (lv_at hl 0 rfl) ?_
      refine lv_iconst (v := 5) hx hb dX3_place_72 (by decide) ?_
      refine lv_icmp_ge (tgt := 160) hx hb dX3_place_73 (by decide) (fun c_2 => ?_) (fun c_2 => ?_)
      · replace hf := bc_t hf c_2
        exact hE nv (lp_inr hor hf).symm _ _ _ hP hD hS (lv_sub hl [1, 2, 3, 4] rfl)
      · replace hf := bc_f hf c_2
        refine lv_aload_n hx hb dX3_place_76 rfl (lv_at hl 1 rfl) ?_
        refine va_get (D := G) (C := RX3) (T := TX3) (N := 9) (v := .ref (nm 1)) hx hb hts iu_X3 hown hK hP 0 rfl rfl 1 (by decide) (hts _ kw204) (fun _ h9 => h9) rfl dX3_place_77 ?_
        refine lv_iload_n hx hb dX3_place_80 rfl (lv_at hl 2 rfl) ?_
        obtain ⟨g_3, hf⟩ := gd_e hf
        refine va_iald (f := nv.2.1 0) hx hb hK hP 1 0 rfl rfl g_3 dX3_place_81 ?_
        refine lv_iload hx hb dX3_place_82 (lv_at hl 0 rfl) ?_
        refine lv_ishr hx hb dX3_place_84 ?_
        refine lv_iconst (v := 1) hx hb dX3_place_85 (by decide) ?_
        refine lv_iand hx hb dX3_place_86 ?_
        refine lv_iconst (v := 1) hx hb dX3_place_87 (by decide) ?_
        refine lv_icmp_ne (tgt := 154) hx hb dX3_place_88 (by decide) (fun c_4 => ?_) (fun c_4 => ?_)
        · replace hf := bc_f hf c_4
          exact J154 nv v4 _ _ _ hP hD hS hl hf
        · replace hf := bc_t hf c_4
          refine lv_aload_n hx hb dX3_place_91 rfl (lv_at hl 1 rfl) ?_
          refine va_get (D := G) (C := RX3) (T := TX3) (N := 9) (v := .ref (nm 4)) hx hb hts iu_X3 hown hK hP 0 rfl rfl 4 (by decide) (hts _ kw207) (fun _ h9 => h9) rfl dX3_place_92 ?_
          refine lv_iload hx hb dX3_place_95 (lv_at hl 0 rfl) ?_
          obtain ⟨g_5, hf⟩ := gd_e hf
          refine va_iald (f := nv.2.1 3) hx hb hK hP 4 0 rfl rfl g_5 dX3_place_97 ?_
          refine lv_if_le (tgt := 154) hx hb dX3_place_98 (by decide) (fun c_6 => ?_) (fun c_6 => ?_)
          · replace hf := bc_t hf c_6
            exact J154 nv v4 _ _ _ hP hD hS hl hf
          · replace hf := bc_f hf c_6
            refine lv_aload_n hx hb dX3_place_101 rfl (lv_at hl 1 rfl) ?_
            refine va_get (D := G) (C := RX3) (T := TX3) (N := 9) (v := .ref (nm 4)) hx hb hts iu_X3 hown hK hP 0 rfl rfl 4 (by decide) (hts _ kw207) (fun _ h9 => h9) rfl dX3_place_102 ?_
            refine lv_iload hx hb dX3_place_105 (lv_at hl 0 rfl) ?_
            refine lv_dup2_11 hx hb dX3_place_107 rfl rfl ?_
            obtain ⟨g_7, hf⟩ := gd_e hf
            refine va_iald (f := nv.2.1 3) hx hb hK hP 4 0 rfl rfl g_7 dX3_place_108 ?_
            refine lv_iconst (v := 1) hx hb dX3_place_109 (by decide) ?_
            refine lv_isub hx hb dX3_place_110 ?_
            obtain ⟨g_8, hf⟩ := gd_e hf
            obtain ⟨nv_9, env_9, hf⟩ := bl_e hf
            refine va_iast hx hb hK hP hD hS 4 0 rfl rfl g_8 dX3_place_111 (fun H locs hP hD hS => ?_)
            have hP : va_P G classes (wl [lfN ct nm nv_9]) H := by rw [← env_9]; exact hP
            have hD : va_D A (wl [lfN ct nm nv_9]) := by rw [← env_9]; exact hD
            refine lv_aload_n hx hb dX3_place_112 rfl (lv_at hl 1 rfl) ?_
            refine va_get (D := G) (C := RX3) (T := TX3) (N := 9) (v := .ref (nm 5)) hx hb hts iu_X3 hown hK hP 0 rfl rfl 5 (by decide) (hts _ kw208) (fun _ h9 => h9) rfl dX3_place_113 ?_
            refine lv_iload_n hx hb dX3_place_116 rfl (lv_at hl 2 rfl) ?_
            refine lv_iload hx hb dX3_place_117 (lv_at hl 0 rfl) ?_
            obtain ⟨g_10, hf⟩ := gd_e hf
            obtain ⟨nv_11, env_11, hf⟩ := bl_e hf
            refine va_iast hx hb hK hP hD hS 5 0 rfl rfl g_10 dX3_place_119 (fun H locs hP hD hS => ?_)
            have hP : va_P G classes (wl [lfN ct nm nv_11]) H := by rw [← env_11]; exact hP
            have hD : va_D A (wl [lfN ct nm nv_11]) := by rw [← env_11]; exact hD
            refine lv_aload_n hx hb dX3_place_120 rfl (lv_at hl 1 rfl) ?_
            refine lv_iload_n hx hb dX3_place_121 rfl (lv_at hl 2 rfl) ?_
            refine lv_iconst (v := 1) hx hb dX3_place_122 (by decide) ?_
            refine lv_iadd hx hb dX3_place_123 ?_
            refine lv_iload_n hx hb dX3_place_124 rfl (lv_at hl 3 rfl) ?_
            refine lv_aload_n hx hb dX3_place_125 rfl (lv_at hl 1 rfl) ?_
            refine va_get (D := G) (C := RX3) (T := TX3) (N := 9) (v := .ref (nm 2)) hx hb hts iu_X3 hown hK hP 0 rfl rfl 2 (by decide) (hts _ kw205) (fun _ h9 => h9) rfl dX3_place_126 ?_
            refine lv_iload_n hx hb dX3_place_129 rfl (lv_at hl 2 rfl) ?_
            obtain ⟨g_12, hf⟩ := gd_e hf
            refine va_iald (f := nv_11.2.1 1) hx hb hK hP 2 0 rfl rfl g_12 dX3_place_130 ?_
            refine lv_iadd hx hb dX3_place_131 ?_
            refine lv_iload_n hx hb dX3_place_132 rfl (lv_at hl 4 rfl) ?_
            refine lv_aload_n hx hb dX3_place_133 rfl (lv_at hl 1 rfl) ?_
            refine va_get (D := G) (C := RX3) (T := TX3) (N := 9) (v := .ref (nm 2)) hx hb hts iu_X3 hown hK hP 0 rfl rfl 2 (by decide) (hts _ kw205) (fun _ h9 => h9) rfl dX3_place_134 ?_
            refine lv_iload_n hx hb dX3_place_137 rfl (lv_at hl 2 rfl) ?_
            obtain ⟨g_13, hf⟩ := gd_e hf
            refine va_iald (f := nv_11.2.1 1) hx hb hK hP 2 0 rfl rfl g_13 dX3_place_138 ?_
            refine lv_isub hx hb dX3_place_139 ?_
            obtain ⟨nv_14, hc14, hf⟩ := bd_e hf
            refine call_V (As := [.int (v1 + 1), .int (v2 + (nv_11.2.1 1 (ix v1))), .int (v3 - (nv_11.2.1 1 (ix v1)))]) (rest := []) hx hb hml hown hts hK hP hD hS hA hZ lkX3_61 (c_X3_place_1 l G ct sk sv nm n nv_11 (v1 + 1) (v2 + (nv_11.2.1 1 (ix v1))) (v3 - (nv_11.2.1 1 (ix v1))) hc14) 0 rfl rfl ⟨Nat.le_of_ble_eq_true rfl, Nat.le_of_ble_eq_true rfl⟩ rfl hl.1 rfl (Nat.le_of_ble_eq_true rfl) dX3_place_140 ⟨Nat.le_of_ble_eq_true rfl, Nat.le_of_ble_eq_true rfl⟩ (fun r9 w9 H locs hB hP hD hS => ?_)
            obtain ⟨rfl, rfl⟩ := hB
            refine WG_eq (g2 := F0 m 143 ls []) rfl ?_
            refine lv_aload_n hx hb dX3_place_143 rfl (lv_at hl 1 rfl) ?_
            refine va_get (D := G) (C := RX3) (T := TX3) (N := 9) (v := .ref (nm 4)) hx hb hts iu_X3 hown hK hP 0 rfl rfl 4 (by decide) (hts _ kw207) (fun _ h9 => h9) rfl dX3_place_144 ?_
            refine lv_iload hx hb dX3_place_147 (lv_at hl 0 rfl) ?_
            refine lv_dup2_11 hx hb dX3_place_149 rfl rfl ?_
            obtain ⟨g_15, hf⟩ := gd_e hf
            refine va_iald (f := nv_14.2.1 3) hx hb hK hP 4 0 rfl rfl g_15 dX3_place_150 ?_
            refine lv_iconst (v := 1) hx hb dX3_place_151 (by decide) ?_
            refine lv_iadd hx hb dX3_place_152 ?_
            obtain ⟨g_16, hf⟩ := gd_e hf
            obtain ⟨nv_17, env_17, hf⟩ := bl_e hf
            refine va_iast hx hb hK hP hD hS 4 0 rfl rfl g_16 dX3_place_153 (fun H locs hP hD hS => ?_)
            have hP : va_P G classes (wl [lfN ct nm nv_17]) H := by rw [← env_17]; exact hP
            have hD : va_D A (wl [lfN ct nm nv_17]) := by rw [← env_17]; exact hD
            exact J154 nv_17 v4 _ _ _ hP hD hS hl hf
  replace hf : f_X3_place_step n (f_X3_place 1 n) nv v1 v2 v3 = some nv' := hf
  unfold f_X3_place_step at hf
  show WG l G ct sk sv p e (RM 3 112 0 0) s m args below meth c A (Eq2 (none) (wl [lfN ct nm nv'])) s.heap [] (F0 m 0 ls [])
  refine lv_iload_n hx hb dX3_place_0 rfl (lv_at hl 2 rfl) ?_
  refine lv_iload_n hx hb dX3_place_1 rfl (lv_at hl 3 rfl) ?_
  refine lv_iadd hx hb dX3_place_2 ?_
  refine lv_aload_n hx hb dX3_place_3 rfl (lv_at hl 0 rfl) ?_
  refine va_get (D := G) (C := RX3) (T := TX3) (N := 9) (v := .int (nv.1 1)) hx hb hts iu_X3 hown hK hP 0 rfl rfl 8 (by decide) (hts _ kw212) (fun _ h9 => h9) rfl dX3_place_4 ?_
  refine lv_icmp_gt (tgt := 11) hx hb dX3_place_7 (by decide) (fun c_18 => ?_) (fun c_18 => ?_)
  · replace hf := bc_t hf c_18
    refine lv_iload_n hx hb dX3_place_11 rfl (lv_at hl 1 rfl) ?_
    refine lv_aload_n hx hb dX3_place_12 rfl (lv_at hl 0 rfl) ?_
    refine va_get (D := G) (C := RX3) (T := TX3) (N := 9) (v := .int (nv.1 0)) hx hb hts iu_X3 hown hK hP 0 rfl rfl 0 (by decide) (hts _ kw203) (fun _ h9 => h9) rfl dX3_place_13 ?_
    refine lv_icmp_lt (tgt := 40) hx hb dX3_place_16 (by decide) (fun c_19 => ?_) (fun c_19 => ?_)
    · replace hf := bc_t hf c_19
      refine lv_aload_n hx hb dX3_place_40 rfl (lv_at hl 0 rfl) ?_
      refine va_get (D := G) (C := RX3) (T := TX3) (N := 9) (v := .ref (nm 3)) hx hb hts iu_X3 hown hK hP 0 rfl rfl 3 (by decide) (hts _ kw206) (fun _ h9 => h9) rfl dX3_place_41 ?_
      refine lv_iload_n hx hb dX3_place_44 rfl (lv_at hl 1 rfl) ?_
      obtain ⟨g_20, hf⟩ := gd_e hf
      refine va_zald (f := nv.2.1 2) hx hb hK hP 3 1 rfl rfl g_20 dX3_place_45 ?_
      refine lv_if_ne (tgt := 67) hx hb dX3_place_46 (by decide) (fun c_21 => ?_) (fun c_21 => ?_)
      · replace hf := bc_f hf c_21
        refine lv_iconst (v := 0) hx hb dX3_place_67 (by decide) ?_
        refine lv_istore (lv' := [(4, .int 0), (0, .ref (nm 0)), (1, .int v1), (2, .int v2), (3, .int v3)]) hx hb dX3_place_68 hl (by decide) rfl (fun ls hl => ?_)
        obtain ⟨nv_22, hx_23, hf⟩ := bd_e hf
        refine L70 n nv v1 v2 v3 0 nv_22 _ _ _ hP hD hS hl hx_23 ?_
        intro x9 e9 H locs ls hP hD hS hl
        subst e9
        have hP : va_P G classes (wl [lfN ct nm nv_22]) H := hP
        have hD : va_D A (wl [lfN ct nm nv_22]) := hD
        have hl : lv_has ls 5 [(0, .ref (nm 0)), (1, .int v1), (2, .int v2), (3, .int v3)] := hl
        refine lv_aload_n hx hb dX3_place_160 rfl (lv_at hl 0 rfl) ?_
        refine va_get (D := G) (C := RX3) (T := TX3) (N := 9) (v := .ref (nm 5)) hx hb hts iu_X3 hown hK hP 0 rfl rfl 5 (by decide) (hts _ kw208) (fun _ h9 => h9) rfl dX3_place_161 ?_
        refine lv_iload_n hx hb dX3_place_164 rfl (lv_at hl 1 rfl) ?_
        refine lv_iconst (v := 5) hx hb dX3_place_165 (by decide) ?_
        obtain ⟨g_24, hf⟩ := gd_e hf
        obtain ⟨nv_25, env_25, hf⟩ := bl_e hf
        refine va_iast hx hb hK hP hD hS 5 0 rfl rfl g_24 dX3_place_166 (fun H locs hP hD hS => ?_)
        have hP : va_P G classes (wl [lfN ct nm nv_25]) H := by rw [← env_25]; exact hP
        have hD : va_D A (wl [lfN ct nm nv_25]) := by rw [← env_25]; exact hD
        refine lv_aload_n hx hb dX3_place_167 rfl (lv_at hl 0 rfl) ?_
        refine lv_iload_n hx hb dX3_place_168 rfl (lv_at hl 1 rfl) ?_
        refine lv_iconst (v := 1) hx hb dX3_place_169 (by decide) ?_
        refine lv_iadd hx hb dX3_place_170 ?_
        refine lv_iload_n hx hb dX3_place_171 rfl (lv_at hl 2 rfl) ?_
        refine lv_iload_n hx hb dX3_place_172 rfl (lv_at hl 3 rfl) ?_
        refine lv_aload_n hx hb dX3_place_173 rfl (lv_at hl 0 rfl) ?_
        refine va_get (D := G) (C := RX3) (T := TX3) (N := 9) (v := .ref (nm 2)) hx hb hts iu_X3 hown hK hP 0 rfl rfl 2 (by decide) (hts _ kw205) (fun _ h9 => h9) rfl dX3_place_174 ?_
        refine lv_iload_n hx hb dX3_place_177 rfl (lv_at hl 1 rfl) ?_
        obtain ⟨g_26, hf⟩ := gd_e hf
        refine va_iald (f := nv_25.2.1 1) hx hb hK hP 2 0 rfl rfl g_26 dX3_place_178 ?_
        refine lv_isub hx hb dX3_place_179 ?_
        obtain ⟨nv_27, hc27, hf⟩ := bd_e hf
        refine call_V (As := [.int (v1 + 1), .int v2, .int (v3 - (nv_25.2.1 1 (ix v1)))]) (rest := []) hx hb hml hown hts hK hP hD hS hA hZ lkX3_61 (c_X3_place_1 l G ct sk sv nm n nv_25 (v1 + 1) v2 (v3 - (nv_25.2.1 1 (ix v1))) hc27) 0 rfl rfl ⟨Nat.le_of_ble_eq_true rfl, Nat.le_of_ble_eq_true rfl⟩ rfl hl.1 rfl (Nat.le_of_ble_eq_true rfl) dX3_place_180 ⟨Nat.le_of_ble_eq_true rfl, Nat.le_of_ble_eq_true rfl⟩ (fun r9 w9 H locs hB hP hD hS => ?_)
        obtain ⟨rfl, rfl⟩ := hB
        refine WG_eq (g2 := F0 m 183 ls []) rfl ?_
        have e1 := Option.some.inj hf
        exact end_v (w' := (wl [lfN ct nm nv_27])) hx hb hr hlocks hK hP hD hS dX3_place_183  ⟨rfl, by rw [← e1]⟩
      · replace hf := bc_t hf c_21
        refine lv_aload_n hx hb dX3_place_49 rfl (lv_at hl 0 rfl) ?_
        refine va_get (D := G) (C := RX3) (T := TX3) (N := 9) (v := .ref (nm 5)) hx hb hts iu_X3 hown hK hP 0 rfl rfl 5 (by decide) (hts _ kw208) (fun _ h9 => h9) rfl dX3_place_50 ?_
        refine lv_iload_n hx hb dX3_place_53 rfl (lv_at hl 1 rfl) ?_
        refine lv_bipush (v := 6) hx hb dX3_place_54 (by decide) ?_
        obtain ⟨g_28, hf⟩ := gd_e hf
        obtain ⟨nv_29, env_29, hf⟩ := bl_e hf
        refine va_iast hx hb hK hP hD hS 5 0 rfl rfl g_28 dX3_place_56 (fun H locs hP hD hS => ?_)
        have hP : va_P G classes (wl [lfN ct nm nv_29]) H := by rw [← env_29]; exact hP
        have hD : va_D A (wl [lfN ct nm nv_29]) := by rw [← env_29]; exact hD
        refine lv_aload_n hx hb dX3_place_57 rfl (lv_at hl 0 rfl) ?_
        refine lv_iload_n hx hb dX3_place_58 rfl (lv_at hl 1 rfl) ?_
        refine lv_iconst (v := 1) hx hb dX3_place_59 (by decide) ?_
        refine lv_iadd hx hb dX3_place_60 ?_
        refine lv_iload_n hx hb dX3_place_61 rfl (lv_at hl 2 rfl) ?_
        refine lv_iload_n hx hb dX3_place_62 rfl (lv_at hl 3 rfl) ?_
        obtain ⟨nv_30, hc30, hf⟩ := bd_e hf
        refine call_V (As := [.int (v1 + 1), .int v2, .int v3]) (rest := []) hx hb hml hown hts hK hP hD hS hA hZ lkX3_61 (c_X3_place_1 l G ct sk sv nm n nv_29 (v1 + 1) v2 v3 hc30) 0 rfl rfl ⟨Nat.le_of_ble_eq_true rfl, Nat.le_of_ble_eq_true rfl⟩ rfl hl.1 rfl (Nat.le_of_ble_eq_true rfl) dX3_place_63 ⟨Nat.le_of_ble_eq_true rfl, Nat.le_of_ble_eq_true rfl⟩ (fun r9 w9 H locs hB hP hD hS => ?_)
        obtain ⟨rfl, rfl⟩ := hB
        refine WG_eq (g2 := F0 m 66 ls []) rfl ?_
        have e1 := Option.some.inj hf
        exact end_v (w' := (wl [lfN ct nm nv_30])) hx hb hr hlocks hK hP hD hS dX3_place_66  ⟨rfl, by rw [← e1]⟩
    · replace hf := bc_f hf c_19
      refine lv_aload_n hx hb dX3_place_19 rfl (lv_at hl 0 rfl) ?_
      refine lv_iload_n hx hb dX3_place_20 rfl (lv_at hl 2 rfl) ?_
      obtain ⟨nv_31, env_31, hf⟩ := bl_e hf
      refine va_put (D := G) (C := RX3) (T := TX3) (N := 9) (ty := .int) hx hb hts iu_X3 tyX3 tyX3_ok nmX3 hown hK hP hD hS 0 rfl rfl 8 (by decide) (hts _ kw212) (fun _ h9 => h9) rfl (by decide +kernel) rfl rfl (Nat.le_of_ble_eq_true rfl) dX3_place_21 (fun H locs hP hD hS => ?_)
      have hP : va_P G classes (wl [lfN ct nm nv_31]) H := by rw [← env_31]; exact hP
      have hD : va_D A (wl [lfN ct nm nv_31]) := by rw [← env_31]; exact hD
      refine lv_aload_n hx hb dX3_place_24 rfl (lv_at hl 0 rfl) ?_
      refine va_get (D := G) (C := RX3) (T := TX3) (N := 9) (v := .ref (nm 5)) hx hb hts iu_X3 hown hK hP 0 rfl rfl 5 (by decide) (hts _ kw208) (fun _ h9 => h9) rfl dX3_place_25 ?_
      refine lv_iconst (v := 0) hx hb dX3_place_28 (by decide) ?_
      refine lv_aload_n hx hb dX3_place_29 rfl (lv_at hl 0 rfl) ?_
      refine va_get (D := G) (C := RX3) (T := TX3) (N := 9) (v := .ref (nm 6)) hx hb hts iu_X3 hown hK hP 0 rfl rfl 6 (by decide) (hts _ kw209) (fun _ h9 => h9) rfl dX3_place_30 ?_
      refine lv_iconst (v := 0) hx hb dX3_place_33 (by decide) ?_
      refine lv_bipush (v := 6) hx hb dX3_place_34 (by decide) ?_
      obtain ⟨g_32, hf⟩ := gd_e hf
      obtain ⟨nv_33, env_33, hf⟩ := bl_e hf
      refine va_copyi (f := nv_31.2.1 4) (g := nv_31.2.1 5) hx hb (hml.trans hl.1.symm) hown (hts _ kw670) (hts _ kw545) (hts _ kw544) (hts _ kw19) hK hP hD hS 5 6 0 0 rfl rfl rfl rfl rfl g_32.1 g_32.2.1 g_32.2.2.1 g_32.2.2.2.1 g_32.2.2.2.2 (fun _ _ => rfl) (Nat.le_of_ble_eq_true rfl) (by decide) dX3_place_36 (fun H locs hP hD hS => ?_)
      have hP : va_P G classes (wl [lfN ct nm nv_33]) H := by rw [← env_33]; exact hP
      have hD : va_D A (wl [lfN ct nm nv_33]) := by rw [← env_33]; exact hD
      have e1 := Option.some.inj hf
      exact end_v (w' := (wl [lfN ct nm nv_33])) hx hb hr hlocks hK hP hD hS dX3_place_39  ⟨rfl, by rw [← e1]⟩
  · replace hf := bc_f hf c_18
    have e1 := Option.some.inj hf
    exact end_v (w' := (wl [lfN ct nm nv])) hx hb hr hlocks hK hP hD hS dX3_place_10  ⟨rfl, by rw [← e1]⟩
set_option maxHeartbeats 4000000 in
set_option maxRecDepth 100000 in
theorem c_X3_place_3 (l : Launch) (G : va_G) (ct : Nat → ClassId) (sk sv : Nat → Nat) (nm : Nat → Nat) (n : Nat) (nv : MV) (v1 : Int32) (v2 : Int32) (v3 : Int32) {nv' : MV} (hf : f_X3_place 3 n nv v1 v2 v3 = some nv') : Ctr (l, G, ct, sk, sv) mX3_place 4 136 [.ref (nm 0), .int v1, .int v2, .int v3] (wl [lfN ct nm nv]) (wl [lfN ct nm nv']) (none) := by
  refine ctr_intro (by decide) (Nat.le_of_ble_eq_true rfl) ?_
  intro p e s m args below meth c A C hP hD hS hA ls hl
  obtain ⟨hx, hb, hml, hown, hts, hr, hlocks, hK, hnm, hZ⟩ := C
  have hb : c.code = cX3_place := hb
  have hml : c.maxLocals = 5 := hml
  have hown : s.vm.findClass "SignedOutside$Names" = some m.cls := hown
  have hr : meth.sig.returnType = none := hr
  have hP : va_P G classes (wl [lfN ct nm nv]) s.heap := hP
  have hD : va_D A (wl [lfN ct nm nv]) := hD
  have hK : va_K G classes (TYS ct) s := hK
  have hl : lv_has ls 5 [(0, .ref (nm 0)), (1, .int v1), (2, .int v2), (3, .int v3)] := hl
  have L70 : ∀ (fu : Nat) (nv : MV) (v1 : Int32) (v2 : Int32) (v3 : Int32) (v4 : Int32) (ex : MV) (H : Heap) (locs : List Loc) (ls : Array Slot), va_P G classes (wl [lfN ct nm nv]) H → va_D A (wl [lfN ct nm nv]) → va_S A s.heap H locs → lv_has ls 5 [(4, .int v4), (0, .ref (nm 0)), (1, .int v1), (2, .int v2), (3, .int v3)] → f_X3_place_l70 fu n (f_X3_place 2 n) nv v1 v2 v3 v4 = some ex → (∀ (x : MV), ex = x → ∀ (H : Heap) (locs : List Loc) (ls : Array Slot), va_P G classes (wl [lfN ct nm x]) H → va_D A (wl [lfN ct nm x]) → va_S A s.heap H locs → lv_has ls 5 [(0, .ref (nm 0)), (1, .int v1), (2, .int v2), (3, .int v3)] → WG l G ct sk sv p e (RM 4 136 0 0) s m args below meth c A (Eq2 (none) (wl [lfN ct nm nv'])) H locs (F0 m 160 ls [])) → WG l G ct sk sv p e (RM 4 136 0 0) s m args below meth c A (Eq2 (none) (wl [lfN ct nm nv'])) H locs (F0 m 70 ls []) := by
    intro fu
    induction fu with
    | zero =>
      intro nv v1 v2 v3 v4 ex H locs ls hP hD hS hl hf
      exact absurd hf (by unfold f_X3_place_l70 lp; exact fun h => by cases h)
    | succ fu ih =>
      intro nv v1 v2 v3 v4 ex H locs ls hP hD hS hl hf hE
      unfold f_X3_place_l70 at hf
      obtain ⟨q, hf, hor⟩ := lp_e hf
      have J154 : ∀ (nv : MV) (v4 : Int32) (H : Heap) (locs : List Loc) (ls : Array Slot), va_P G classes (wl [lfN ct nm nv]) H → va_D A (wl [lfN ct nm nv]) → va_S A s.heap H locs → lv_has ls 5 [(4, .int v4), (0, .ref (nm 0)), (1, .int v1), (2, .int v2), (3, .int v3)] → f_X3_place_j154 n (f_X3_place 2 n) nv v4 v1 v2 v3 = some q → WG l G ct sk sv p e (RM 4 136 0 0) s m args below meth c A (Eq2 (none) (wl [lfN ct nm nv'])) H locs (F0 m 154 ls []) := by
        intro nv v4 H locs ls hP hD hS hl hf
        unfold f_X3_place_j154 at hf
        obtain ⟨v4_1, ev4_1, hf⟩ := bl_e hf
        refine lv_iinc (v := v4_1) (lv' := [(4, .int v4_1), (0, .ref (nm 0)), (1, .int v1), (2, .int v2), (3, .int v3)]) hx hb dX3_place_154 hl (k := 0) rfl ev4_1 (by decide) rfl (fun ls hl => ?_)
        refine lv_goto (tgt := 70) hx hb dX3_place_157 (by decide) ?_
        exact ih nv v1 v2 v3 v4_1 ex _ _ _ hP hD hS hl (lp_inl hor hf) hE
      replace hf : f_X3_place_b70 n (f_X3_place 2 n) nv v4 v1 v2 v3 = some q := hf
      unfold f_X3_place_b70 at hf
      refine lv_iload hx hb dX3_place_70 (lv_at hl 0 rfl) ?_
      refine lv_iconst (v := 5) hx hb dX3_place_72 (by decide) ?_
      refine lv_icmp_ge (tgt := 160) hx hb dX3_place_73 (by decide) (fun c_2 => ?_) (fun c_2 => ?_)
      · replace hf := bc_t hf c_2
        exact hE nv (lp_inr hor hf).symm _ _ _ hP hD hS (lv_sub hl [1, 2, 3, 4] rfl)
      · replace hf := bc_f hf c_2
        refine lv_aload_n hx hb dX3_place_76 rfl (lv_at hl 1 rfl) ?_
        refine va_get (D := G) (C := RX3) (T := TX3) (N := 9) (v := .ref (nm 1)) hx hb hts iu_X3 hown hK hP 0 rfl rfl 1 (by decide) (hts _ kw204) (fun _ h9 => h9) rfl dX3_place_77 ?_
        refine lv_iload_n hx hb dX3_place_80 rfl (lv_at hl 2 rfl) ?_
        obtain ⟨g_3, hf⟩ := gd_e hf
        refine va_iald (f := nv.2.1 0) hx hb hK hP 1 0 rfl rfl g_3 dX3_place_81 ?_
        refine lv_iload hx hb dX3_place_82 (lv_at hl 0 rfl) ?_
        refine lv_ishr hx hb dX3_place_84 ?_
        refine lv_iconst (v := 1) hx hb dX3_place_85 (by decide) ?_
        refine lv_iand hx hb dX3_place_86 ?_
        refine lv_iconst (v := 1) hx hb dX3_place_87 (by decide) ?_
        refine lv_icmp_ne (tgt := 154) hx hb dX3_place_88 (by decide) (fun c_4 => ?_) (fun c_4 => ?_)
        · replace hf := bc_f hf c_4
          exact J154 nv v4 _ _ _ hP hD hS hl hf
        · replace hf := bc_t hf c_4
          refine lv_aload_n hx hb dX3_place_91 rfl (lv_at hl 1 rfl) ?_
          refine va_get (D := G) (C := RX3) (T := TX3) (N := 9) (v := .ref (nm 4)) hx hb hts iu_X3 hown hK hP 0 rfl rfl 4 (by decide) (hts _ kw207) (fun _ h9 => h9) rfl dX3_place_92 ?_
          refine lv_iload hx hb dX3_place_95 (lv_at hl 0 rfl) ?_
          obtain ⟨g_5, hf⟩ := gd_e hf
          refine va_iald (f := nv.2.1 3) hx hb hK hP 4 0 rfl rfl g_5 dX3_place_97 ?_
          refine lv_if_le (tgt := 154) hx hb dX3_place_98 (by decide) (fun c_6 => ?_) (fun c_6 => ?_)
          · replace hf := bc_t hf c_6
            exact J154 nv v4 _ _ _ hP hD hS hl hf
          · replace hf := bc_f hf c_6
            refine lv_aload_n hx hb dX3_place_101 rfl (lv_at hl 1 rfl) ?_
            refine va_get (D := G) (C := RX3) (T := TX3) (N := 9) (v := .ref (nm 4)) hx hb hts iu_X3 hown hK hP 0 rfl rfl 4 (by decide) (hts _ kw207) (fun _ h9 => h9) rfl dX3_place_102 ?_
            refine lv_iload hx hb dX3_place_105 (lv_at hl 0 rfl) ?_
            refine lv_dup2_11 hx hb dX3_place_107 rfl rfl ?_
            obtain ⟨g_7, hf⟩ := gd_e hf
            refine va_iald (f := nv.2.1 3) hx hb hK hP 4 0 rfl rfl g_7 dX3_place_108 ?_
            refine lv_iconst (v := 1) hx hb dX3_place_109 (by decide) ?_
            refine lv_isub hx hb dX3_place_110 ?_
            obtain ⟨g_8, hf⟩ := gd_e hf
            obtain ⟨nv_9, env_9, hf⟩ := bl_e hf
            refine va_iast hx hb hK hP hD hS 4 0 rfl rfl g_8 dX3_place_111 (fun H locs hP hD hS => ?_)
            have hP : va_P G classes (wl [lfN ct nm nv_9]) H := by rw [← env_9]; exact hP
            have hD : va_D A (wl [lfN ct nm nv_9]) := by rw [← env_9]; exact hD
            refine lv_aload_n hx hb dX3_place_112 rfl (lv_at hl 1 rfl) ?_
            refine va_get (D := G) (C := RX3) (T := TX3) (N := 9) (v := .ref (nm 5)) hx hb hts iu_X3 hown hK hP 0 rfl rfl 5 (by decide) (hts _ kw208) (fun _ h9 => h9) rfl dX3_place_113 ?_
            refine lv_iload_n hx hb dX3_place_116 rfl (lv_at hl 2 rfl) ?_
            refine lv_iload hx hb dX3_place_117 (lv_at hl 0 rfl) ?_
            obtain ⟨g_10, hf⟩ := gd_e hf
            obtain ⟨nv_11, env_11, hf⟩ := bl_e hf
            refine va_iast hx hb hK hP hD hS 5 0 rfl rfl g_10 dX3_place_119 (fun H locs hP hD hS => ?_)
            have hP : va_P G classes (wl [lfN ct nm nv_11]) H := by rw [← env_11]; exact hP
            have hD : va_D A (wl [lfN ct nm nv_11]) := by rw [← env_11]; exact hD
            refine lv_aload_n hx hb dX3_place_120 rfl (lv_at hl 1 rfl) ?_
            refine lv_iload_n hx hb dX3_place_121 rfl (lv_at hl 2 rfl) ?_
            refine lv_iconst (v := 1) hx hb dX3_place_122 (by decide) ?_
            refine lv_iadd hx hb dX3_place_123 ?_
            refine lv_iload_n hx hb dX3_place_124 rfl (lv_at hl 3 rfl) ?_
            refine lv_aload_n hx hb dX3_place_125 rfl (lv_at hl 1 rfl) ?_
            refine va_get (D := G) (C := RX3) (T := TX3) (N := 9) (v := .ref (nm 2)) hx hb hts iu_X3 hown hK hP 0 rfl rfl 2 (by decide) (hts _ kw205) (fun _ h9 => h9) rfl dX3_place_126 ?_
            refine lv_iload_n hx hb dX3_place_129 rfl (lv_at hl 2 rfl) ?_
            obtain ⟨g_12, hf⟩ := gd_e hf
            refine va_iald (f := nv_11.2.1 1) hx hb hK hP 2 0 rfl rfl g_12 dX3_place_130 ?_
            refine lv_iadd hx hb dX3_place_131 ?_
            refine lv_iload_n hx hb dX3_place_132 rfl (lv_at hl 4 rfl) ?_
            refine lv_aload_n hx hb dX3_place_133 rfl (lv_at hl 1 rfl) ?_
            refine va_get (D := G) (C := RX3) (T := TX3) (N := 9) (v := .ref (nm 2)) hx hb hts iu_X3 hown hK hP 0 rfl rfl 2 (by decide) (hts _ kw205) (fun _ h9 => h9) rfl dX3_place_134 ?_
            refine lv_iload_n hx hb dX3_place_137 rfl (lv_at hl 2 rfl) ?_
            obtain ⟨g_13, hf⟩ := gd_e hf
            refine va_iald (f := nv_11.2.1 1) hx hb hK hP 2 0 rfl rfl g_13 dX3_place_138 ?_
            refine lv_isub hx hb dX3_place_139 ?_
            obtain ⟨nv_14, hc14, hf⟩ := bd_e hf
            refine call_V (As := [.int (v1 + 1), .int (v2 + (nv_11.2.1 1 (ix v1))), .int (v3 - (nv_11.2.1 1 (ix v1)))]) (rest := []) hx hb hml hown hts hK hP hD hS hA hZ lkX3_61 (c_X3_place_2 l G ct sk sv nm n nv_11 (v1 + 1) (v2 + (nv_11.2.1 1 (ix v1))) (v3 - (nv_11.2.1 1 (ix v1))) hc14) 0 rfl rfl ⟨Nat.le_of_ble_eq_true rfl, Nat.le_of_ble_eq_true rfl⟩ rfl hl.1 rfl (Nat.le_of_ble_eq_true rfl) dX3_place_140 ⟨Nat.le_of_ble_eq_true rfl, Nat.le_of_ble_eq_true rfl⟩ (fun r9 w9 H locs hB hP hD hS => ?_)
            obtain ⟨rfl, rfl⟩ := hB
            refine WG_eq (g2 := F0 m 143 ls []) rfl ?_
            refine lv_aload_n hx hb dX3_place_143 rfl (lv_at hl 1 rfl) ?_
            refine va_get (D := G) (C := RX3) (T := TX3) (N := 9) (v := .ref (nm 4)) hx hb hts iu_X3 hown hK hP 0 rfl rfl 4 (by decide) (hts _ kw207) (fun _ h9 => h9) rfl dX3_place_144 ?_
            refine lv_iload hx hb dX3_place_147 (lv_at hl 0 rfl) ?_
            refine lv_dup2_11 hx hb dX3_place_149 rfl rfl ?_
            obtain ⟨g_15, hf⟩ := gd_e hf
            refine va_iald (f := nv_14.2.1 3) hx hb hK hP 4 0 rfl rfl g_15 dX3_place_150 ?_
            refine lv_iconst (v := 1) hx hb dX3_place_151 (by decide) ?_
            refine lv_iadd hx hb dX3_place_152 ?_
            obtain ⟨g_16, hf⟩ := gd_e hf
            obtain ⟨nv_17, env_17, hf⟩ := bl_e hf
            refine va_iast hx hb hK hP hD hS 4 0 rfl rfl g_16 dX3_place_153 (fun H locs hP hD hS => ?_)
            have hP : va_P G classes (wl [lfN ct nm nv_17]) H := by rw [← env_17]; exact hP
            have hD : va_D A (wl [lfN ct nm nv_17]) := by rw [← env_17]; exact hD
            exact J154 nv_17 v4 _ _ _ hP hD hS hl hf
  replace hf : f_X3_place_step n (f_X3_place 2 n) nv v1 v2 v3 = some nv' := hf
  unfold f_X3_place_step at hf
  show WG l G ct sk sv p e (RM 4 136 0 0) s m args below meth c A (Eq2 (none) (wl [lfN ct nm nv'])) s.heap [] (F0 m 0 ls [])
  refine lv_iload_n hx hb dX3_place_0 rfl (lv_at hl 2 rfl) ?_
  refine lv_iload_n hx hb dX3_place_1 rfl (lv_at hl 3 rfl) ?_
  refine lv_iadd hx hb dX3_place_2 ?_
  refine lv_aload_n hx hb dX3_place_3 rfl (lv_at hl 0 rfl) ?_
  refine va_get (D := G) (C := RX3) (T := TX3) (N := 9) (v := .int (nv.1 1)) hx hb hts iu_X3 hown hK hP 0 rfl rfl 8 (by decide) (hts _ kw212) (fun _ h9 => h9) rfl dX3_place_4 ?_
  refine lv_icmp_gt (tgt := 11) hx hb dX3_place_7 (by decide) (fun c_18 => ?_) (fun c_18 => ?_)
  · replace hf := bc_t hf c_18
    refine lv_iload_n hx hb dX3_place_11 rfl (lv_at hl 1 rfl) ?_
    refine lv_aload_n hx hb dX3_place_12 rfl (lv_at hl 0 rfl) ?_
    refine va_get (D := G) (C := RX3) (T := TX3) (N := 9) (v := .int (nv.1 0)) hx hb hts iu_X3 hown hK hP 0 rfl rfl 0 (by decide) (hts _ kw203) (fun _ h9 => h9) rfl dX3_place_13 ?_
    refine lv_icmp_lt (tgt := 40) hx hb dX3_place_16 (by decide) (fun c_19 => ?_) (fun c_19 => ?_)
    · replace hf := bc_t hf c_19
      refine lv_aload_n hx hb dX3_place_40 rfl (lv_at hl 0 rfl) ?_
      refine va_get (D := G) (C := RX3) (T := TX3) (N := 9) (v := .ref (nm 3)) hx hb hts iu_X3 hown hK hP 0 rfl rfl 3 (by decide) (hts _ kw206) (fun _ h9 => h9) rfl dX3_place_41 ?_
      refine lv_iload_n hx hb dX3_place_44 rfl (lv_at hl 1 rfl) ?_
      obtain ⟨g_20, hf⟩ := gd_e hf
      refine va_zald (f := nv.2.1 2) hx hb hK hP 3 1 rfl rfl g_20 dX3_place_45 ?_
      refine lv_if_ne (tgt := 67) hx hb dX3_place_46 (by decide) (fun c_21 => ?_) (fun c_21 => ?_)
      · replace hf := bc_f hf c_21
        refine lv_iconst (v := 0) hx hb dX3_place_67 (by decide) ?_
        refine lv_istore (lv' := [(4, .int 0), (0, .ref (nm 0)), (1, .int v1), (2, .int v2), (3, .int v3)]) hx hb dX3_place_68 hl (by decide) rfl (fun ls hl => ?_)
        obtain ⟨nv_22, hx_23, hf⟩ := bd_e hf
        refine L70 n nv v1 v2 v3 0 nv_22 _ _ _ hP hD hS hl hx_23 ?_
        intro x9 e9 H locs ls hP hD hS hl
        subst e9
        have hP : va_P G classes (wl [lfN ct nm nv_22]) H := hP
        have hD : va_D A (wl [lfN ct nm nv_22]) := hD
        have hl : lv_has ls 5 [(0, .ref (nm 0)), (1, .int v1), (2, .int v2), (3, .int v3)] := hl
        refine lv_aload_n hx hb dX3_place_160 rfl (lv_at hl 0 rfl) ?_
        refine va_get (D := G) (C := RX3) (T := TX3) (N := 9) (v := .ref (nm 5)) hx hb hts iu_X3 hown hK hP 0 rfl rfl 5 (by decide) (hts _ kw208) (fun _ h9 => h9) rfl dX3_place_161 ?_
        refine lv_iload_n hx hb dX3_place_164 rfl (lv_at hl 1 rfl) ?_
        refine lv_iconst (v := 5) hx hb dX3_place_165 (by decide) ?_
        obtain ⟨g_24, hf⟩ := gd_e hf
        obtain ⟨nv_25, env_25, hf⟩ := bl_e hf
        refine va_iast hx hb hK hP hD hS 5 0 rfl rfl g_24 dX3_place_166 (fun H locs hP hD hS => ?_)
        have hP : va_P G classes (wl [lfN ct nm nv_25]) H := by rw [← env_25]; exact hP
        have hD : va_D A (wl [lfN ct nm nv_25]) := by rw [← env_25]; exact hD
        refine lv_aload_n hx hb dX3_place_167 rfl (lv_at hl 0 rfl) ?_
        refine lv_iload_n hx hb dX3_place_168 rfl (lv_at hl 1 rfl) ?_
        refine lv_iconst (v := 1) hx hb dX3_place_169 (by decide) ?_
        refine lv_iadd hx hb dX3_place_170 ?_
        refine lv_iload_n hx hb dX3_place_171 rfl (lv_at hl 2 rfl) ?_
        refine lv_iload_n hx hb dX3_place_172 rfl (lv_at hl 3 rfl) ?_
        refine lv_aload_n hx hb dX3_place_173 rfl (lv_at hl 0 rfl) ?_
        refine va_get (D := G) (C := RX3) (T := TX3) (N := 9) (v := .ref (nm 2)) hx hb hts iu_X3 hown hK hP 0 rfl rfl 2 (by decide) (hts _ kw205) (fun _ h9 => h9) rfl dX3_place_174 ?_
        refine lv_iload_n hx hb dX3_place_177 rfl (lv_at hl 1 rfl) ?_
        obtain ⟨g_26, hf⟩ := gd_e hf
        refine va_iald (f := nv_25.2.1 1) hx hb hK hP 2 0 rfl rfl g_26 dX3_place_178 ?_
        refine lv_isub hx hb dX3_place_179 ?_
        obtain ⟨nv_27, hc27, hf⟩ := bd_e hf
        refine call_V (As := [.int (v1 + 1), .int v2, .int (v3 - (nv_25.2.1 1 (ix v1)))]) (rest := []) hx hb hml hown hts hK hP hD hS hA hZ lkX3_61 (c_X3_place_2 l G ct sk sv nm n nv_25 (v1 + 1) v2 (v3 - (nv_25.2.1 1 (ix v1))) hc27) 0 rfl rfl ⟨Nat.le_of_ble_eq_true rfl, Nat.le_of_ble_eq_true rfl⟩ rfl hl.1 rfl (Nat.le_of_ble_eq_true rfl) dX3_place_180 ⟨Nat.le_of_ble_eq_true rfl, Nat.le_of_ble_eq_true rfl⟩ (fun r9 w9 H locs hB hP hD hS => ?_)
        obtain ⟨rfl, rfl⟩ := hB
        refine WG_eq (g2 := F0 m 183 ls []) rfl ?_
        have e1 := Option.some.inj hf
        exact end_v (w' := (wl [lfN ct nm nv_27])) hx hb hr hlocks hK hP hD hS dX3_place_183  ⟨rfl, by rw [← e1]⟩
      · replace hf := bc_t hf c_21
        refine lv_aload_n hx hb dX3_place_49 rfl (lv_at hl 0 rfl) ?_
        refine va_get (D := G) (C := RX3) (T := TX3) (N := 9) (v := .ref (nm 5)) hx hb hts iu_X3 hown hK hP 0 rfl rfl 5 (by decide) (hts _ kw208) (fun _ h9 => h9) rfl dX3_place_50 ?_
        refine lv_iload_n hx hb dX3_place_53 rfl (lv_at hl 1 rfl) ?_
        refine lv_bipush (v := 6) hx hb dX3_place_54 (by decide) ?_
        obtain ⟨g_28, hf⟩ := gd_e hf
        obtain ⟨nv_29, env_29, hf⟩ := bl_e hf
        refine va_iast hx hb hK hP hD hS 5 0 rfl rfl g_28 dX3_place_56 (fun H locs hP hD hS => ?_)
        have hP : va_P G classes (wl [lfN ct nm nv_29]) H := by rw [← env_29]; exact hP
        have hD : va_D A (wl [lfN ct nm nv_29]) := by rw [← env_29]; exact hD
        refine lv_aload_n hx hb dX3_place_57 rfl (lv_at hl 0 rfl) ?_
        refine lv_iload_n hx hb dX3_place_58 rfl (lv_at hl 1 rfl) ?_
        refine lv_iconst (v := 1) hx hb dX3_place_59 (by decide) ?_
        refine lv_iadd hx hb dX3_place_60 ?_
        refine lv_iload_n hx hb dX3_place_61 rfl (lv_at hl 2 rfl) ?_
        refine lv_iload_n hx hb dX3_place_62 rfl (lv_at hl 3 rfl) ?_
        obtain ⟨nv_30, hc30, hf⟩ := bd_e hf
        refine call_V (As := [.int (v1 + 1), .int v2, .int v3]) (rest := []) hx hb hml hown hts hK hP hD hS hA hZ lkX3_61 (c_X3_place_2 l G ct sk sv nm n nv_29 (v1 + 1) v2 v3 hc30) 0 rfl rfl ⟨Nat.le_of_ble_eq_true rfl, Nat.le_of_ble_eq_true rfl⟩ rfl hl.1 rfl (Nat.le_of_ble_eq_true rfl) dX3_place_63 ⟨Nat.le_of_ble_eq_true rfl, Nat.le_of_ble_eq_true rfl⟩ (fun r9 w9 H locs hB hP hD hS => ?_)
        obtain ⟨rfl, rfl⟩ := hB
        refine WG_eq (g2 := F0 m 66 ls []) rfl ?_
        have e1 := Option.some.inj hf
        exact end_v (w' := (wl [lfN ct nm nv_30])) hx hb hr hlocks hK hP hD hS dX3_place_66  ⟨rfl, by rw [← e1]⟩
    · replace hf := bc_f hf c_19
      refine lv_aload_n hx hb dX3_place_19 rfl (lv_at hl 0 rfl) ?_
      refine lv_iload_n hx hb dX3_place_20 rfl (lv_at hl 2 rfl) ?_
      obtain ⟨nv_31, env_31, hf⟩ := bl_e hf
      refine va_put (D := G) (C := RX3) (T := TX3) (N := 9) (ty := .int) hx hb hts iu_X3 tyX3 tyX3_ok nmX3 hown hK hP hD hS 0 rfl rfl 8 (by decide) (hts _ kw212) (fun _ h9 => h9) rfl (by decide +kernel) rfl rfl (Nat.le_of_ble_eq_true rfl) dX3_place_21 (fun H locs hP hD hS => ?_)
      have hP : va_P G classes (wl [lfN ct nm nv_31]) H := by rw [← env_31]; exact hP
      have hD : va_D A (wl [lfN ct nm nv_31]) := by rw [← env_31]; exact hD
      refine lv_aload_n hx hb dX3_place_24 rfl (lv_at hl 0 rfl) ?_
      refine va_get (D := G) (C := RX3) (T := TX3) (N := 9) (v := .ref (nm 5)) hx hb hts iu_X3 hown hK hP 0 rfl rfl 5 (by decide) (hts _ kw208) (fun _ h9 => h9) rfl dX3_place_25 ?_
      refine lv_iconst (v := 0) hx hb dX3_place_28 (by decide) ?_
      refine lv_aload_n hx hb dX3_place_29 rfl (lv_at hl 0 rfl) ?_
      refine va_get (D := G) (C := RX3) (T := TX3) (N := 9) (v := .ref (nm 6)) hx hb hts iu_X3 hown hK hP 0 rfl rfl 6 (by decide) (hts _ kw209) (fun _ h9 => h9) rfl dX3_place_30 ?_
      refine lv_iconst (v := 0) hx hb dX3_place_33 (by decide) ?_
      refine lv_bipush (v := 6) hx hb dX3_place_34 (by decide) ?_
      obtain ⟨g_32, hf⟩ := gd_e hf
      obtain ⟨nv_33, env_33, hf⟩ := bl_e hf
      refine va_copyi (f := nv_31.2.1 4) (g := nv_31.2.1 5) hx hb (hml.trans hl.1.symm) hown (hts _ kw670) (hts _ kw545) (hts _ kw544) (hts _ kw19) hK hP hD hS 5 6 0 0 rfl rfl rfl rfl rfl g_32.1 g_32.2.1 g_32.2.2.1 g_32.2.2.2.1 g_32.2.2.2.2 (fun _ _ => rfl) (Nat.le_of_ble_eq_true rfl) (by decide) dX3_place_36 (fun H locs hP hD hS => ?_)
      have hP : va_P G classes (wl [lfN ct nm nv_33]) H := by rw [← env_33]; exact hP
      have hD : va_D A (wl [lfN ct nm nv_33]) := by rw [← env_33]; exact hD
      have e1 := Option.some.inj hf
      exact end_v (w' := (wl [lfN ct nm nv_33])) hx hb hr hlocks hK hP hD hS dX3_place_39  ⟨rfl, by rw [← e1]⟩
  · replace hf := bc_f hf c_18
    have e1 := Option.some.inj hf
    exact end_v (w' := (wl [lfN ct nm nv])) hx hb hr hlocks hK hP hD hS dX3_place_10  ⟨rfl, by rw [← e1]⟩
set_option maxHeartbeats 4000000 in
set_option maxRecDepth 100000 in
theorem c_X3_place_4 (l : Launch) (G : va_G) (ct : Nat → ClassId) (sk sv : Nat → Nat) (nm : Nat → Nat) (n : Nat) (nv : MV) (v1 : Int32) (v2 : Int32) (v3 : Int32) {nv' : MV} (hf : f_X3_place 4 n nv v1 v2 v3 = some nv') : Ctr (l, G, ct, sk, sv) mX3_place 5 160 [.ref (nm 0), .int v1, .int v2, .int v3] (wl [lfN ct nm nv]) (wl [lfN ct nm nv']) (none) := by
  refine ctr_intro (by decide) (Nat.le_of_ble_eq_true rfl) ?_
  intro p e s m args below meth c A C hP hD hS hA ls hl
  obtain ⟨hx, hb, hml, hown, hts, hr, hlocks, hK, hnm, hZ⟩ := C
  have hb : c.code = cX3_place := hb
  have hml : c.maxLocals = 5 := hml
  have hown : s.vm.findClass "SignedOutside$Names" = some m.cls := hown
  have hr : meth.sig.returnType = none := hr
  have hP : va_P G classes (wl [lfN ct nm nv]) s.heap := hP
  have hD : va_D A (wl [lfN ct nm nv]) := hD
  have hK : va_K G classes (TYS ct) s := hK
  have hl : lv_has ls 5 [(0, .ref (nm 0)), (1, .int v1), (2, .int v2), (3, .int v3)] := hl
  have L70 : ∀ (fu : Nat) (nv : MV) (v1 : Int32) (v2 : Int32) (v3 : Int32) (v4 : Int32) (ex : MV) (H : Heap) (locs : List Loc) (ls : Array Slot), va_P G classes (wl [lfN ct nm nv]) H → va_D A (wl [lfN ct nm nv]) → va_S A s.heap H locs → lv_has ls 5 [(4, .int v4), (0, .ref (nm 0)), (1, .int v1), (2, .int v2), (3, .int v3)] → f_X3_place_l70 fu n (f_X3_place 3 n) nv v1 v2 v3 v4 = some ex → (∀ (x : MV), ex = x → ∀ (H : Heap) (locs : List Loc) (ls : Array Slot), va_P G classes (wl [lfN ct nm x]) H → va_D A (wl [lfN ct nm x]) → va_S A s.heap H locs → lv_has ls 5 [(0, .ref (nm 0)), (1, .int v1), (2, .int v2), (3, .int v3)] → WG l G ct sk sv p e (RM 5 160 0 0) s m args below meth c A (Eq2 (none) (wl [lfN ct nm nv'])) H locs (F0 m 160 ls [])) → WG l G ct sk sv p e (RM 5 160 0 0) s m args below meth c A (Eq2 (none) (wl [lfN ct nm nv'])) H locs (F0 m 70 ls []) := by
    intro fu
    induction fu with
    | zero =>
      intro nv v1 v2 v3 v4 ex H locs ls hP hD hS hl hf
      exact absurd hf (by unfold f_X3_place_l70 lp; exact fun h => by cases h)
    | succ fu ih =>
      intro nv v1 v2 v3 v4 ex H locs ls hP hD hS hl hf hE
      unfold f_X3_place_l70 at hf
      obtain ⟨q, hf, hor⟩ := lp_e hf
      have J154 : ∀ (nv : MV) (v4 : Int32) (H : Heap) (locs : List Loc) (ls : Array Slot), va_P G classes (wl [lfN ct nm nv]) H → va_D A (wl [lfN ct nm nv]) → va_S A s.heap H locs → lv_has ls 5 [(4, .int v4), (0, .ref (nm 0)), (1, .int v1), (2, .int v2), (3, .int v3)] → f_X3_place_j154 n (f_X3_place 3 n) nv v4 v1 v2 v3 = some q → WG l G ct sk sv p e (RM 5 160 0 0) s m args below meth c A (Eq2 (none) (wl [lfN ct nm nv'])) H locs (F0 m 154 ls []) := by
        intro nv v4 H locs ls hP hD hS hl hf
        unfold f_X3_place_j154 at hf
        obtain ⟨v4_1, ev4_1, hf⟩ := bl_e hf
        refine lv_iinc (v := v4_1) (lv' := [(4, .int v4_1), (0, .ref (nm 0)), (1, .int v1), (2, .int v2), (3, .int v3)]) hx hb dX3_place_154 hl (k := 0) rfl ev4_1 (by decide) rfl (fun ls hl => ?_)
        refine lv_goto (tgt := 70) hx hb dX3_place_157 (by decide) ?_
        exact ih nv v1 v2 v3 v4_1 ex _ _ _ hP hD hS hl (lp_inl hor hf) hE
      replace hf : f_X3_place_b70 n (f_X3_place 3 n) nv v4 v1 v2 v3 = some q := hf
      unfold f_X3_place_b70 at hf
      refine lv_iload hx hb dX3_place_70 (lv_at hl 0 rfl) ?_
      refine lv_iconst (v := 5) hx hb dX3_place_72 (by decide) ?_
      refine lv_icmp_ge (tgt := 160) hx hb dX3_place_73 (by decide) (fun c_2 => ?_) (fun c_2 => ?_)
      · replace hf := bc_t hf c_2
        exact hE nv (lp_inr hor hf).symm _ _ _ hP hD hS (lv_sub hl [1, 2, 3, 4] rfl)
      · replace hf := bc_f hf c_2
        refine lv_aload_n hx hb dX3_place_76 rfl (lv_at hl 1 rfl) ?_
        refine va_get (D := G) (C := RX3) (T := TX3) (N := 9) (v := .ref (nm 1)) hx hb hts iu_X3 hown hK hP 0 rfl rfl 1 (by decide) (hts _ kw204) (fun _ h9 => h9) rfl dX3_place_77 ?_
        refine lv_iload_n hx hb dX3_place_80 rfl (lv_at hl 2 rfl) ?_
        obtain ⟨g_3, hf⟩ := gd_e hf
        refine va_iald (f := nv.2.1 0) hx hb hK hP 1 0 rfl rfl g_3 dX3_place_81 ?_
        refine lv_iload hx hb dX3_place_82 (lv_at hl 0 rfl) ?_
        refine lv_ishr hx hb dX3_place_84 ?_
        refine lv_iconst (v := 1) hx hb dX3_place_85 (by decide) ?_
        refine lv_iand hx hb dX3_place_86 ?_
        refine lv_iconst (v := 1) hx hb dX3_place_87 (by decide) ?_
        refine lv_icmp_ne (tgt := 154) hx hb dX3_place_88 (by decide) (fun c_4 => ?_) (fun c_4 => ?_)
        · replace hf := bc_f hf c_4
          exact J154 nv v4 _ _ _ hP hD hS hl hf
        · replace hf := bc_t hf c_4
          refine lv_aload_n hx hb dX3_place_91 rfl (lv_at hl 1 rfl) ?_
          refine va_get (D := G) (C := RX3) (T := TX3) (N := 9) (v := .ref (nm 4)) hx hb hts iu_X3 hown hK hP 0 rfl rfl 4 (by decide) (hts _ kw207) (fun _ h9 => h9) rfl dX3_place_92 ?_
          refine lv_iload hx hb dX3_place_95 (lv_at hl 0 rfl) ?_
          obtain ⟨g_5, hf⟩ := gd_e hf
          refine va_iald (f := nv.2.1 3) hx hb hK hP 4 0 rfl rfl g_5 dX3_place_97 ?_
          refine lv_if_le (tgt := 154) hx hb dX3_place_98 (by decide) (fun c_6 => ?_) (fun c_6 => ?_)
          · replace hf := bc_t hf c_6
            exact J154 nv v4 _ _ _ hP hD hS hl hf
          · replace hf := bc_f hf c_6
            refine lv_aload_n hx hb dX3_place_101 rfl (lv_at hl 1 rfl) ?_
            refine va_get (D := G) (C := RX3) (T := TX3) (N := 9) (v := .ref (nm 4)) hx hb hts iu_X3 hown hK hP 0 rfl rfl 4 (by decide) (hts _ kw207) (fun _ h9 => h9) rfl dX3_place_102 ?_
            refine lv_iload hx hb dX3_place_105 (lv_at hl 0 rfl) ?_
            refine lv_dup2_11 hx hb dX3_place_107 rfl rfl ?_
            obtain ⟨g_7, hf⟩ := gd_e hf
            refine va_iald (f := nv.2.1 3) hx hb hK hP 4 0 rfl rfl g_7 dX3_place_108 ?_
            refine lv_iconst (v := 1) hx hb dX3_place_109 (by decide) ?_
            refine lv_isub hx hb dX3_place_110 ?_
            obtain ⟨g_8, hf⟩ := gd_e hf
            obtain ⟨nv_9, env_9, hf⟩ := bl_e hf
            refine va_iast hx hb hK hP hD hS 4 0 rfl rfl g_8 dX3_place_111 (fun H locs hP hD hS => ?_)
            have hP : va_P G classes (wl [lfN ct nm nv_9]) H := by rw [← env_9]; exact hP
            have hD : va_D A (wl [lfN ct nm nv_9]) := by rw [← env_9]; exact hD
            refine lv_aload_n hx hb dX3_place_112 rfl (lv_at hl 1 rfl) ?_
            refine va_get (D := G) (C := RX3) (T := TX3) (N := 9) (v := .ref (nm 5)) hx hb hts iu_X3 hown hK hP 0 rfl rfl 5 (by decide) (hts _ kw208) (fun _ h9 => h9) rfl dX3_place_113 ?_
            refine lv_iload_n hx hb dX3_place_116 rfl (lv_at hl 2 rfl) ?_
            refine lv_iload hx hb dX3_place_117 (lv_at hl 0 rfl) ?_
            obtain ⟨g_10, hf⟩ := gd_e hf
            obtain ⟨nv_11, env_11, hf⟩ := bl_e hf
            refine va_iast hx hb hK hP hD hS 5 0 rfl rfl g_10 dX3_place_119 (fun H locs hP hD hS => ?_)
            have hP : va_P G classes (wl [lfN ct nm nv_11]) H := by rw [← env_11]; exact hP
            have hD : va_D A (wl [lfN ct nm nv_11]) := by rw [← env_11]; exact hD
            refine lv_aload_n hx hb dX3_place_120 rfl (lv_at hl 1 rfl) ?_
            refine lv_iload_n hx hb dX3_place_121 rfl (lv_at hl 2 rfl) ?_
            refine lv_iconst (v := 1) hx hb dX3_place_122 (by decide) ?_
            refine lv_iadd hx hb dX3_place_123 ?_
            refine lv_iload_n hx hb dX3_place_124 rfl (lv_at hl 3 rfl) ?_
            refine lv_aload_n hx hb dX3_place_125 rfl (lv_at hl 1 rfl) ?_
            refine va_get (D := G) (C := RX3) (T := TX3) (N := 9) (v := .ref (nm 2)) hx hb hts iu_X3 hown hK hP 0 rfl rfl 2 (by decide) (hts _ kw205) (fun _ h9 => h9) rfl dX3_place_126 ?_
            refine lv_iload_n hx hb dX3_place_129 rfl (lv_at hl 2 rfl) ?_
            obtain ⟨g_12, hf⟩ := gd_e hf
            refine va_iald (f := nv_11.2.1 1) hx hb hK hP 2 0 rfl rfl g_12 dX3_place_130 ?_
            refine lv_iadd hx hb dX3_place_131 ?_
            refine lv_iload_n hx hb dX3_place_132 rfl (lv_at hl 4 rfl) ?_
            refine lv_aload_n hx hb dX3_place_133 rfl (lv_at hl 1 rfl) ?_
            refine va_get (D := G) (C := RX3) (T := TX3) (N := 9) (v := .ref (nm 2)) hx hb hts iu_X3 hown hK hP 0 rfl rfl 2 (by decide) (hts _ kw205) (fun _ h9 => h9) rfl dX3_place_134 ?_
            refine lv_iload_n hx hb dX3_place_137 rfl (lv_at hl 2 rfl) ?_
            obtain ⟨g_13, hf⟩ := gd_e hf
            refine va_iald (f := nv_11.2.1 1) hx hb hK hP 2 0 rfl rfl g_13 dX3_place_138 ?_
            refine lv_isub hx hb dX3_place_139 ?_
            obtain ⟨nv_14, hc14, hf⟩ := bd_e hf
            refine call_V (As := [.int (v1 + 1), .int (v2 + (nv_11.2.1 1 (ix v1))), .int (v3 - (nv_11.2.1 1 (ix v1)))]) (rest := []) hx hb hml hown hts hK hP hD hS hA hZ lkX3_61 (c_X3_place_3 l G ct sk sv nm n nv_11 (v1 + 1) (v2 + (nv_11.2.1 1 (ix v1))) (v3 - (nv_11.2.1 1 (ix v1))) hc14) 0 rfl rfl ⟨Nat.le_of_ble_eq_true rfl, Nat.le_of_ble_eq_true rfl⟩ rfl hl.1 rfl (Nat.le_of_ble_eq_true rfl) dX3_place_140 ⟨Nat.le_of_ble_eq_true rfl, Nat.le_of_ble_eq_true rfl⟩ (fun r9 w9 H locs hB hP hD hS => ?_)
            obtain ⟨rfl, rfl⟩ := hB
            refine WG_eq (g2 := F0 m 143 ls []) rfl ?_
            refine lv_aload_n hx hb dX3_place_143 rfl (lv_at hl 1 rfl) ?_
            refine va_get (D := G) (C := RX3) (T := TX3) (N := 9) (v := .ref (nm 4)) hx hb hts iu_X3 hown hK hP 0 rfl rfl 4 (by decide) (hts _ kw207) (fun _ h9 => h9) rfl dX3_place_144 ?_
            refine lv_iload hx hb dX3_place_147 (lv_at hl 0 rfl) ?_
            refine lv_dup2_11 hx hb dX3_place_149 rfl rfl ?_
            obtain ⟨g_15, hf⟩ := gd_e hf
            refine va_iald (f := nv_14.2.1 3) hx hb hK hP 4 0 rfl rfl g_15 dX3_place_150 ?_
            refine lv_iconst (v := 1) hx hb dX3_place_151 (by decide) ?_
            refine lv_iadd hx hb dX3_place_152 ?_
            obtain ⟨g_16, hf⟩ := gd_e hf
            obtain ⟨nv_17, env_17, hf⟩ := bl_e hf
            refine va_iast hx hb hK hP hD hS 4 0 rfl rfl g_16 dX3_place_153 (fun H locs hP hD hS => ?_)
            have hP : va_P G classes (wl [lfN ct nm nv_17]) H := by rw [← env_17]; exact hP
            have hD : va_D A (wl [lfN ct nm nv_17]) := by rw [← env_17]; exact hD
            exact J154 nv_17 v4 _ _ _ hP hD hS hl hf
  replace hf : f_X3_place_step n (f_X3_place 3 n) nv v1 v2 v3 = some nv' := hf
  unfold f_X3_place_step at hf
  show WG l G ct sk sv p e (RM 5 160 0 0) s m args below meth c A (Eq2 (none) (wl [lfN ct nm nv'])) s.heap [] (F0 m 0 ls [])
  refine lv_iload_n hx hb dX3_place_0 rfl (lv_at hl 2 rfl) ?_
  refine lv_iload_n hx hb dX3_place_1 rfl (lv_at hl 3 rfl) ?_
  refine lv_iadd hx hb dX3_place_2 ?_
  refine lv_aload_n hx hb dX3_place_3 rfl (lv_at hl 0 rfl) ?_
  refine va_get (D := G) (C := RX3) (T := TX3) (N := 9) (v := .int (nv.1 1)) hx hb hts iu_X3 hown hK hP 0 rfl rfl 8 (by decide) (hts _ kw212) (fun _ h9 => h9) rfl dX3_place_4 ?_
  refine lv_icmp_gt (tgt := 11) hx hb dX3_place_7 (by decide) (fun c_18 => ?_) (fun c_18 => ?_)
  · replace hf := bc_t hf c_18
    refine lv_iload_n hx hb dX3_place_11 rfl (lv_at hl 1 rfl) ?_
    refine lv_aload_n hx hb dX3_place_12 rfl (lv_at hl 0 rfl) ?_
    refine va_get (D := G) (C := RX3) (T := TX3) (N := 9) (v := .int (nv.1 0)) hx hb hts iu_X3 hown hK hP 0 rfl rfl 0 (by decide) (hts _ kw203) (fun _ h9 => h9) rfl dX3_place_13 ?_
    refine lv_icmp_lt (tgt := 40) hx hb dX3_place_16 (by decide) (fun c_19 => ?_) (fun c_19 => ?_)
    · replace hf := bc_t hf c_19
      refine lv_aload_n hx hb dX3_place_40 rfl (lv_at hl 0 rfl) ?_
      refine va_get (D := G) (C := RX3) (T := TX3) (N := 9) (v := .ref (nm 3)) hx hb hts iu_X3 hown hK hP 0 rfl rfl 3 (by decide) (hts _ kw206) (fun _ h9 => h9) rfl dX3_place_41 ?_
      refine lv_iload_n hx hb dX3_place_44 rfl (lv_at hl 1 rfl) ?_
      obtain ⟨g_20, hf⟩ := gd_e hf
      refine va_zald (f := nv.2.1 2) hx hb hK hP 3 1 rfl rfl g_20 dX3_place_45 ?_
      refine lv_if_ne (tgt := 67) hx hb dX3_place_46 (by decide) (fun c_21 => ?_) (fun c_21 => ?_)
      · replace hf := bc_f hf c_21
        refine lv_iconst (v := 0) hx hb dX3_place_67 (by decide) ?_
        refine lv_istore (lv' := [(4, .int 0), (0, .ref (nm 0)), (1, .int v1), (2, .int v2), (3, .int v3)]) hx hb dX3_place_68 hl (by decide) rfl (fun ls hl => ?_)
        obtain ⟨nv_22, hx_23, hf⟩ := bd_e hf
        refine L70 n nv v1 v2 v3 0 nv_22 _ _ _ hP hD hS hl hx_23 ?_
        intro x9 e9 H locs ls hP hD hS hl
        subst e9
        have hP : va_P G classes (wl [lfN ct nm nv_22]) H := hP
        have hD : va_D A (wl [lfN ct nm nv_22]) := hD
        have hl : lv_has ls 5 [(0, .ref (nm 0)), (1, .int v1), (2, .int v2), (3, .int v3)] := hl
        refine lv_aload_n hx hb dX3_place_160 rfl (lv_at hl 0 rfl) ?_
        refine va_get (D := G) (C := RX3) (T := TX3) (N := 9) (v := .ref (nm 5)) hx hb hts iu_X3 hown hK hP 0 rfl rfl 5 (by decide) (hts _ kw208) (fun _ h9 => h9) rfl dX3_place_161 ?_
        refine lv_iload_n hx hb dX3_place_164 rfl (lv_at hl 1 rfl) ?_
        refine lv_iconst (v := 5) hx hb dX3_place_165 (by decide) ?_
        obtain ⟨g_24, hf⟩ := gd_e hf
        obtain ⟨nv_25, env_25, hf⟩ := bl_e hf
        refine va_iast hx hb hK hP hD hS 5 0 rfl rfl g_24 dX3_place_166 (fun H locs hP hD hS => ?_)
        have hP : va_P G classes (wl [lfN ct nm nv_25]) H := by rw [← env_25]; exact hP
        have hD : va_D A (wl [lfN ct nm nv_25]) := by rw [← env_25]; exact hD
        refine lv_aload_n hx hb dX3_place_167 rfl (lv_at hl 0 rfl) ?_
        refine lv_iload_n hx hb dX3_place_168 rfl (lv_at hl 1 rfl) ?_
        refine lv_iconst (v := 1) hx hb dX3_place_169 (by decide) ?_
        refine lv_iadd hx hb dX3_place_170 ?_
        refine lv_iload_n hx hb dX3_place_171 rfl (lv_at hl 2 rfl) ?_
        refine lv_iload_n hx hb dX3_place_172 rfl (lv_at hl 3 rfl) ?_
        refine lv_aload_n hx hb dX3_place_173 rfl (lv_at hl 0 rfl) ?_
        refine va_get (D := G) (C := RX3) (T := TX3) (N := 9) (v := .ref (nm 2)) hx hb hts iu_X3 hown hK hP 0 rfl rfl 2 (by decide) (hts _ kw205) (fun _ h9 => h9) rfl dX3_place_174 ?_
        refine lv_iload_n hx hb dX3_place_177 rfl (lv_at hl 1 rfl) ?_
        obtain ⟨g_26, hf⟩ := gd_e hf
        refine va_iald (f := nv_25.2.1 1) hx hb hK hP 2 0 rfl rfl g_26 dX3_place_178 ?_
        refine lv_isub hx hb dX3_place_179 ?_
        obtain ⟨nv_27, hc27, hf⟩ := bd_e hf
        refine call_V (As := [.int (v1 + 1), .int v2, .int (v3 - (nv_25.2.1 1 (ix v1)))]) (rest := []) hx hb hml hown hts hK hP hD hS hA hZ lkX3_61 (c_X3_place_3 l G ct sk sv nm n nv_25 (v1 + 1) v2 (v3 - (nv_25.2.1 1 (ix v1))) hc27) 0 rfl rfl ⟨Nat.le_of_ble_eq_true rfl, Nat.le_of_ble_eq_true rfl⟩ rfl hl.1 rfl (Nat.le_of_ble_eq_true rfl) dX3_place_180 ⟨Nat.le_of_ble_eq_true rfl, Nat.le_of_ble_eq_true rfl⟩ (fun r9 w9 H locs hB hP hD hS => ?_)
        obtain ⟨rfl, rfl⟩ := hB
        refine WG_eq (g2 := F0 m 183 ls []) rfl ?_
        have e1 := Option.some.inj hf
        exact end_v (w' := (wl [lfN ct nm nv_27])) hx hb hr hlocks hK hP hD hS dX3_place_183  ⟨rfl, by rw [← e1]⟩
      · replace hf := bc_t hf c_21
        refine lv_aload_n hx hb dX3_place_49 rfl (lv_at hl 0 rfl) ?_
        refine va_get (D := G) (C := RX3) (T := TX3) (N := 9) (v := .ref (nm 5)) hx hb hts iu_X3 hown hK hP 0 rfl rfl 5 (by decide) (hts _ kw208) (fun _ h9 => h9) rfl dX3_place_50 ?_
        refine lv_iload_n hx hb dX3_place_53 rfl (lv_at hl 1 rfl) ?_
        refine lv_bipush (v := 6) hx hb dX3_place_54 (by decide) ?_
        obtain ⟨g_28, hf⟩ := gd_e hf
        obtain ⟨nv_29, env_29, hf⟩ := bl_e hf
        refine va_iast hx hb hK hP hD hS 5 0 rfl rfl g_28 dX3_place_56 (fun H locs hP hD hS => ?_)
        have hP : va_P G classes (wl [lfN ct nm nv_29]) H := by rw [← env_29]; exact hP
        have hD : va_D A (wl [lfN ct nm nv_29]) := by rw [← env_29]; exact hD
        refine lv_aload_n hx hb dX3_place_57 rfl (lv_at hl 0 rfl) ?_
        refine lv_iload_n hx hb dX3_place_58 rfl (lv_at hl 1 rfl) ?_
        refine lv_iconst (v := 1) hx hb dX3_place_59 (by decide) ?_
        refine lv_iadd hx hb dX3_place_60 ?_
        refine lv_iload_n hx hb dX3_place_61 rfl (lv_at hl 2 rfl) ?_
        refine lv_iload_n hx hb dX3_place_62 rfl (lv_at hl 3 rfl) ?_
        obtain ⟨nv_30, hc30, hf⟩ := bd_e hf
        refine call_V (As := [.int (v1 + 1), .int v2, .int v3]) (rest := []) hx hb hml hown hts hK hP hD hS hA hZ lkX3_61 (c_X3_place_3 l G ct sk sv nm n nv_29 (v1 + 1) v2 v3 hc30) 0 rfl rfl ⟨Nat.le_of_ble_eq_true rfl, Nat.le_of_ble_eq_true rfl⟩ rfl hl.1 rfl (Nat.le_of_ble_eq_true rfl) dX3_place_63 ⟨Nat.le_of_ble_eq_true rfl, Nat.le_of_ble_eq_true rfl⟩ (fun r9 w9 H locs hB hP hD hS => ?_)
        obtain ⟨rfl, rfl⟩ := hB
        refine WG_eq (g2 := F0 m 66 ls []) rfl ?_
        have e1 := Option.some.inj hf
        exact end_v (w' := (wl [lfN ct nm nv_30])) hx hb hr hlocks hK hP hD hS dX3_place_66  ⟨rfl, by rw [← e1]⟩
    · replace hf := bc_f hf c_19
      refine lv_aload_n hx hb dX3_place_19 rfl (lv_at hl 0 rfl) ?_
      refine lv_iload_n hx hb dX3_place_20 rfl (lv_at hl 2 rfl) ?_
      obtain ⟨nv_31, env_31, hf⟩ := bl_e hf
      refine va_put (D := G) (C := RX3) (T := TX3) (N := 9) (ty := .int) hx hb hts iu_X3 tyX3 tyX3_ok nmX3 hown hK hP hD hS 0 rfl rfl 8 (by decide) (hts _ kw212) (fun _ h9 => h9) rfl (by decide +kernel) rfl rfl (Nat.le_of_ble_eq_true rfl) dX3_place_21 (fun H locs hP hD hS => ?_)
      have hP : va_P G classes (wl [lfN ct nm nv_31]) H := by rw [← env_31]; exact hP
      have hD : va_D A (wl [lfN ct nm nv_31]) := by rw [← env_31]; exact hD
      refine lv_aload_n hx hb dX3_place_24 rfl (lv_at hl 0 rfl) ?_
      refine va_get (D := G) (C := RX3) (T := TX3) (N := 9) (v := .ref (nm 5)) hx hb hts iu_X3 hown hK hP 0 rfl rfl 5 (by decide) (hts _ kw208) (fun _ h9 => h9) rfl dX3_place_25 ?_
      refine lv_iconst (v := 0) hx hb dX3_place_28 (by decide) ?_
      refine lv_aload_n hx hb dX3_place_29 rfl (lv_at hl 0 rfl) ?_
      refine va_get (D := G) (C := RX3) (T := TX3) (N := 9) (v := .ref (nm 6)) hx hb hts iu_X3 hown hK hP 0 rfl rfl 6 (by decide) (hts _ kw209) (fun _ h9 => h9) rfl dX3_place_30 ?_
      refine lv_iconst (v := 0) hx hb dX3_place_33 (by decide) ?_
      refine lv_bipush (v := 6) hx hb dX3_place_34 (by decide) ?_
      obtain ⟨g_32, hf⟩ := gd_e hf
      obtain ⟨nv_33, env_33, hf⟩ := bl_e hf
      refine va_copyi (f := nv_31.2.1 4) (g := nv_31.2.1 5) hx hb (hml.trans hl.1.symm) hown (hts _ kw670) (hts _ kw545) (hts _ kw544) (hts _ kw19) hK hP hD hS 5 6 0 0 rfl rfl rfl rfl rfl g_32.1 g_32.2.1 g_32.2.2.1 g_32.2.2.2.1 g_32.2.2.2.2 (fun _ _ => rfl) (Nat.le_of_ble_eq_true rfl) (by decide) dX3_place_36 (fun H locs hP hD hS => ?_)
      have hP : va_P G classes (wl [lfN ct nm nv_33]) H := by rw [← env_33]; exact hP
      have hD : va_D A (wl [lfN ct nm nv_33]) := by rw [← env_33]; exact hD
      have e1 := Option.some.inj hf
      exact end_v (w' := (wl [lfN ct nm nv_33])) hx hb hr hlocks hK hP hD hS dX3_place_39  ⟨rfl, by rw [← e1]⟩
  · replace hf := bc_f hf c_18
    have e1 := Option.some.inj hf
    exact end_v (w' := (wl [lfN ct nm nv])) hx hb hr hlocks hK hP hD hS dX3_place_10  ⟨rfl, by rw [← e1]⟩
set_option maxHeartbeats 4000000 in
set_option maxRecDepth 100000 in
theorem c_X3_place_5 (l : Launch) (G : va_G) (ct : Nat → ClassId) (sk sv : Nat → Nat) (nm : Nat → Nat) (n : Nat) (nv : MV) (v1 : Int32) (v2 : Int32) (v3 : Int32) {nv' : MV} (hf : f_X3_place 5 n nv v1 v2 v3 = some nv') : Ctr (l, G, ct, sk, sv) mX3_place 6 184 [.ref (nm 0), .int v1, .int v2, .int v3] (wl [lfN ct nm nv]) (wl [lfN ct nm nv']) (none) := by
  refine ctr_intro (by decide) (Nat.le_of_ble_eq_true rfl) ?_
  intro p e s m args below meth c A C hP hD hS hA ls hl
  obtain ⟨hx, hb, hml, hown, hts, hr, hlocks, hK, hnm, hZ⟩ := C
  have hb : c.code = cX3_place := hb
  have hml : c.maxLocals = 5 := hml
  have hown : s.vm.findClass "SignedOutside$Names" = some m.cls := hown
  have hr : meth.sig.returnType = none := hr
  have hP : va_P G classes (wl [lfN ct nm nv]) s.heap := hP
  have hD : va_D A (wl [lfN ct nm nv]) := hD
  have hK : va_K G classes (TYS ct) s := hK
  have hl : lv_has ls 5 [(0, .ref (nm 0)), (1, .int v1), (2, .int v2), (3, .int v3)] := hl
  have L70 : ∀ (fu : Nat) (nv : MV) (v1 : Int32) (v2 : Int32) (v3 : Int32) (v4 : Int32) (ex : MV) (H : Heap) (locs : List Loc) (ls : Array Slot), va_P G classes (wl [lfN ct nm nv]) H → va_D A (wl [lfN ct nm nv]) → va_S A s.heap H locs → lv_has ls 5 [(4, .int v4), (0, .ref (nm 0)), (1, .int v1), (2, .int v2), (3, .int v3)] → f_X3_place_l70 fu n (f_X3_place 4 n) nv v1 v2 v3 v4 = some ex → (∀ (x : MV), ex = x → ∀ (H : Heap) (locs : List Loc) (ls : Array Slot), va_P G classes (wl [lfN ct nm x]) H → va_D A (wl [lfN ct nm x]) → va_S A s.heap H locs → lv_has ls 5 [(0, .ref (nm 0)), (1, .int v1), (2, .int v2), (3, .int v3)] → WG l G ct sk sv p e (RM 6 184 0 0) s m args below meth c A (Eq2 (none) (wl [lfN ct nm nv'])) H locs (F0 m 160 ls [])) → WG l G ct sk sv p e (RM 6 184 0 0) s m args below meth c A (Eq2 (none) (wl [lfN ct nm nv'])) H locs (F0 m 70 ls []) := by
    intro fu
    induction fu with
    | zero =>
      intro nv v1 v2 v3 v4 ex H locs ls hP hD hS hl hf
      exact absurd hf (by unfold f_X3_place_l70 lp; exact fun h => by cases h)
    | succ fu ih =>
      intro nv v1 v2 v3 v4 ex H locs ls hP hD hS hl hf hE
      unfold f_X3_place_l70 at hf
      obtain ⟨q, hf, hor⟩ := lp_e hf
      have J154 : ∀ (nv : MV) (v4 : Int32) (H : Heap) (locs : List Loc) (ls : Array Slot), va_P G classes (wl [lfN ct nm nv]) H → va_D A (wl [lfN ct nm nv]) → va_S A s.heap H locs → lv_has ls 5 [(4, .int v4), (0, .ref (nm 0)), (1, .int v1), (2, .int v2), (3, .int v3)] → f_X3_place_j154 n (f_X3_place 4 n) nv v4 v1 v2 v3 = some q → WG l G ct sk sv p e (RM 6 184 0 0) s m args below meth c A (Eq2 (none) (wl [lfN ct nm nv'])) H locs (F0 m 154 ls []) := by
        intro nv v4 H locs ls hP hD hS hl hf
        unfold f_X3_place_j154 at hf
        obtain ⟨v4_1, ev4_1, hf⟩ := bl_e hf
        refine lv_iinc (v := v4_1) (lv' := [(4, .int v4_1), (0, .ref (nm 0)), (1, .int v1), (2, .int v2), (3, .int v3)]) hx hb dX3_place_154 hl (k := 0) rfl ev4_1 (by decide) rfl (fun ls hl => ?_)
        refine lv_goto (tgt := 70) hx hb dX3_place_157 (by decide) ?_
        exact ih nv v1 v2 v3 v4_1 ex _ _ _ hP hD hS hl (lp_inl hor hf) hE
      replace hf : f_X3_place_b70 n (f_X3_place 4 n) nv v4 v1 v2 v3 = some q := hf
      unfold f_X3_place_b70 at hf
      refine lv_iload hx hb dX3_place_70 (lv_at hl 0 rfl) ?_
      refine lv_iconst (v := 5) hx hb dX3_place_72 (by decide) ?_
      refine lv_icmp_ge (tgt := 160) hx hb dX3_place_73 (by decide) (fun c_2 => ?_) (fun c_2 => ?_)
      · replace hf := bc_t hf c_2
        exact hE nv (lp_inr hor hf).symm _ _ _ hP hD hS (lv_sub hl [1, 2, 3, 4] rfl)
      · replace hf := bc_f hf c_2
        refine lv_aload_n hx hb dX3_place_76 rfl (lv_at hl 1 rfl) ?_
        refine va_get (D := G) (C := RX3) (T := TX3) (N := 9) (v := .ref (nm 1)) hx hb hts iu_X3 hown hK hP 0 rfl rfl 1 (by decide) (hts _ kw204) (fun _ h9 => h9) rfl dX3_place_77 ?_
        refine lv_iload_n hx hb dX3_place_80 rfl (lv_at hl 2 rfl) ?_
        obtain ⟨g_3, hf⟩ := gd_e hf
        refine va_iald (f := nv.2.1 0) hx hb hK hP 1 0 rfl rfl g_3 dX3_place_81 ?_
        refine lv_iload hx hb dX3_place_82 (lv_at hl 0 rfl) ?_
        refine lv_ishr hx hb dX3_place_84 ?_
        refine lv_iconst (v := 1) hx hb dX3_place_85 (by decide) ?_
        refine lv_iand hx hb dX3_place_86 ?_
        refine lv_iconst (v := 1) hx hb dX3_place_87 (by decide) ?_
        refine lv_icmp_ne (tgt := 154) hx hb dX3_place_88 (by decide) (fun c_4 => ?_) (fun c_4 => ?_)
        · replace hf := bc_f hf c_4
          exact J154 nv v4 _ _ _ hP hD hS hl hf
        · replace hf := bc_t hf c_4
          refine lv_aload_n hx hb dX3_place_91 rfl (lv_at hl 1 rfl) ?_
          refine va_get (D := G) (C := RX3) (T := TX3) (N := 9) (v := .ref (nm 4)) hx hb hts iu_X3 hown hK hP 0 rfl rfl 4 (by decide) (hts _ kw207) (fun _ h9 => h9) rfl dX3_place_92 ?_
          refine lv_iload hx hb dX3_place_95 (lv_at hl 0 rfl) ?_
          obtain ⟨g_5, hf⟩ := gd_e hf
          refine va_iald (f := nv.2.1 3) hx hb hK hP 4 0 rfl rfl g_5 dX3_place_97 ?_
          refine lv_if_le (tgt := 154) hx hb dX3_place_98 (by decide) (fun c_6 => ?_) (fun c_6 => ?_)
          · replace hf := bc_t hf c_6
            exact J154 nv v4 _ _ _ hP hD hS hl hf
          · replace hf := bc_f hf c_6
            refine lv_aload_n hx hb dX3_place_101 rfl (lv_at hl 1 rfl) ?_
            refine va_get (D := G) (C := RX3) (T := TX3) (N := 9) (v := .ref (nm 4)) hx hb hts iu_X3 hown hK hP 0 rfl rfl 4 (by decide) (hts _ kw207) (fun _ h9 => h9) rfl dX3_place_102 ?_
            refine lv_iload hx hb dX3_place_105 (lv_at hl 0 rfl) ?_
            refine lv_dup2_11 hx hb dX3_place_107 rfl rfl ?_
            obtain ⟨g_7, hf⟩ := gd_e hf
            refine va_iald (f := nv.2.1 3) hx hb hK hP 4 0 rfl rfl g_7 dX3_place_108 ?_
            refine lv_iconst (v := 1) hx hb dX3_place_109 (by decide) ?_
            refine lv_isub hx hb dX3_place_110 ?_
            obtain ⟨g_8, hf⟩ := gd_e hf
            obtain ⟨nv_9, env_9, hf⟩ := bl_e hf
            refine va_iast hx hb hK hP hD hS 4 0 rfl rfl g_8 dX3_place_111 (fun H locs hP hD hS => ?_)
            have hP : va_P G classes (wl [lfN ct nm nv_9]) H := by rw [← env_9]; exact hP
            have hD : va_D A (wl [lfN ct nm nv_9]) := by rw [← env_9]; exact hD
            refine lv_aload_n hx hb dX3_place_112 rfl (lv_at hl 1 rfl) ?_
            refine va_get (D := G) (C := RX3) (T := TX3) (N := 9) (v := .ref (nm 5)) hx hb hts iu_X3 hown hK hP 0 rfl rfl 5 (by decide) (hts _ kw208) (fun _ h9 => h9) rfl dX3_place_113 ?_
            refine lv_iload_n hx hb dX3_place_116 rfl (lv_at hl 2 rfl) ?_
            refine lv_iload hx hb dX3_place_117 (lv_at hl 0 rfl) ?_
            obtain ⟨g_10, hf⟩ := gd_e hf
            obtain ⟨nv_11, env_11, hf⟩ := bl_e hf
            refine va_iast hx hb hK hP hD hS 5 0 rfl rfl g_10 dX3_place_119 (fun H locs hP hD hS => ?_)
            have hP : va_P G classes (wl [lfN ct nm nv_11]) H := by rw [← env_11]; exact hP
            have hD : va_D A (wl [lfN ct nm nv_11]) := by rw [← env_11]; exact hD
            refine lv_aload_n hx hb dX3_place_120 rfl (lv_at hl 1 rfl) ?_
            refine lv_iload_n hx hb dX3_place_121 rfl (lv_at hl 2 rfl) ?_
            refine lv_iconst (v := 1) hx hb dX3_place_122 (by decide) ?_
            refine lv_iadd hx hb dX3_place_123 ?_
            refine lv_iload_n hx hb dX3_place_124 rfl (lv_at hl 3 rfl) ?_
            refine lv_aload_n hx hb dX3_place_125 rfl (lv_at hl 1 rfl) ?_
            refine va_get (D := G) (C := RX3) (T := TX3) (N := 9) (v := .ref (nm 2)) hx hb hts iu_X3 hown hK hP 0 rfl rfl 2 (by decide) (hts _ kw205) (fun _ h9 => h9) rfl dX3_place_126 ?_
            refine lv_iload_n hx hb dX3_place_129 rfl (lv_at hl 2 rfl) ?_
            obtain ⟨g_12, hf⟩ := gd_e hf
            refine va_iald (f := nv_11.2.1 1) hx hb hK hP 2 0 rfl rfl g_12 dX3_place_130 ?_
            refine lv_iadd hx hb dX3_place_131 ?_
            refine lv_iload_n hx hb dX3_place_132 rfl (lv_at hl 4 rfl) ?_
            refine lv_aload_n hx hb dX3_place_133 rfl (lv_at hl 1 rfl) ?_
            refine va_get (D := G) (C := RX3) (T := TX3) (N := 9) (v := .ref (nm 2)) hx hb hts iu_X3 hown hK hP 0 rfl rfl 2 (by decide) (hts _ kw205) (fun _ h9 => h9) rfl dX3_place_134 ?_
            refine lv_iload_n hx hb dX3_place_137 rfl (lv_at hl 2 rfl) ?_
            obtain ⟨g_13, hf⟩ := gd_e hf
            refine va_iald (f := nv_11.2.1 1) hx hb hK hP 2 0 rfl rfl g_13 dX3_place_138 ?_
            refine lv_isub hx hb dX3_place_139 ?_
            obtain ⟨nv_14, hc14, hf⟩ := bd_e hf
            refine call_V (As := [.int (v1 + 1), .int (v2 + (nv_11.2.1 1 (ix v1))), .int (v3 - (nv_11.2.1 1 (ix v1)))]) (rest := []) hx hb hml hown hts hK hP hD hS hA hZ lkX3_61 (c_X3_place_4 l G ct sk sv nm n nv_11 (v1 + 1) (v2 + (nv_11.2.1 1 (ix v1))) (v3 - (nv_11.2.1 1 (ix v1))) hc14) 0 rfl rfl ⟨Nat.le_of_ble_eq_true rfl, Nat.le_of_ble_eq_true rfl⟩ rfl hl.1 rfl (Nat.le_of_ble_eq_true rfl) dX3_place_140 ⟨Nat.le_of_ble_eq_true rfl, Nat.le_of_ble_eq_true rfl⟩ (fun r9 w9 H locs hB hP hD hS => ?_)
            obtain ⟨rfl, rfl⟩ := hB
            refine WG_eq (g2 := F0 m 143 ls []) rfl ?_
            refine lv_aload_n hx hb dX3_place_143 rfl (lv_at hl 1 rfl) ?_
            refine va_get (D := G) (C := RX3) (T := TX3) (N := 9) (v := .ref (nm 4)) hx hb hts iu_X3 hown hK hP 0 rfl rfl 4 (by decide) (hts _ kw207) (fun _ h9 => h9) rfl dX3_place_144 ?_
            refine lv_iload hx hb dX3_place_147 (lv_at hl 0 rfl) ?_
            refine lv_dup2_11 hx hb dX3_place_149 rfl rfl ?_
            obtain ⟨g_15, hf⟩ := gd_e hf
            refine va_iald (f := nv_14.2.1 3) hx hb hK hP 4 0 rfl rfl g_15 dX3_place_150 ?_
            refine lv_iconst (v := 1) hx hb dX3_place_151 (by decide) ?_
            refine lv_iadd hx hb dX3_place_152 ?_
            obtain ⟨g_16, hf⟩ := gd_e hf
            obtain ⟨nv_17, env_17, hf⟩ := bl_e hf
            refine va_iast hx hb hK hP hD hS 4 0 rfl rfl g_16 dX3_place_153 (fun H locs hP hD hS => ?_)
            have hP : va_P G classes (wl [lfN ct nm nv_17]) H := by rw [← env_17]; exact hP
            have hD : va_D A (wl [lfN ct nm nv_17]) := by rw [← env_17]; exact hD
            exact J154 nv_17 v4 _ _ _ hP hD hS hl hf
  replace hf : f_X3_place_step n (f_X3_place 4 n) nv v1 v2 v3 = some nv' := hf
  unfold f_X3_place_step at hf
  show WG l G ct sk sv p e (RM 6 184 0 0) s m args below meth c A (Eq2 (none) (wl [lfN ct nm nv'])) s.heap [] (F0 m 0 ls [])
  refine lv_iload_n hx hb dX3_place_0 rfl (lv_at hl 2 rfl) ?_
  refine lv_iload_n hx hb dX3_place_1 rfl (lv_at hl 3 rfl) ?_
  refine lv_iadd hx hb dX3_place_2 ?_
  refine lv_aload_n hx hb dX3_place_3 rfl (lv_at hl 0 rfl) ?_
  refine va_get (D := G) (C := RX3) (T := TX3) (N := 9) (v := .int (nv.1 1)) hx hb hts iu_X3 hown hK hP 0 rfl rfl 8 (by decide) (hts _ kw212) (fun _ h9 => h9) rfl dX3_place_4 ?_
  refine lv_icmp_gt (tgt := 11) hx hb dX3_place_7 (by decide) (fun c_18 => ?_) (fun c_18 => ?_)
  · replace hf := bc_t hf c_18
    refine lv_iload_n hx hb dX3_place_11 rfl (lv_at hl 1 rfl) ?_
    refine lv_aload_n hx hb dX3_place_12 rfl (lv_at hl 0 rfl) ?_
    refine va_get (D := G) (C := RX3) (T := TX3) (N := 9) (v := .int (nv.1 0)) hx hb hts iu_X3 hown hK hP 0 rfl rfl 0 (by decide) (hts _ kw203) (fun _ h9 => h9) rfl dX3_place_13 ?_
    refine lv_icmp_lt (tgt := 40) hx hb dX3_place_16 (by decide) (fun c_19 => ?_) (fun c_19 => ?_)
    · replace hf := bc_t hf c_19
      refine lv_aload_n hx hb dX3_place_40 rfl (lv_at hl 0 rfl) ?_
      refine va_get (D := G) (C := RX3) (T := TX3) (N := 9) (v := .ref (nm 3)) hx hb hts iu_X3 hown hK hP 0 rfl rfl 3 (by decide) (hts _ kw206) (fun _ h9 => h9) rfl dX3_place_41 ?_
      refine lv_iload_n hx hb dX3_place_44 rfl (lv_at hl 1 rfl) ?_
      obtain ⟨g_20, hf⟩ := gd_e hf
      refine va_zald (f := nv.2.1 2) hx hb hK hP 3 1 rfl rfl g_20 dX3_place_45 ?_
      refine lv_if_ne (tgt := 67) hx hb dX3_place_46 (by decide) (fun c_21 => ?_) (fun c_21 => ?_)
      · replace hf := bc_f hf c_21
        refine lv_iconst (v := 0) hx hb dX3_place_67 (by decide) ?_
        refine lv_istore (lv' := [(4, .int 0), (0, .ref (nm 0)), (1, .int v1), (2, .int v2), (3, .int v3)]) hx hb dX3_place_68 hl (by decide) rfl (fun ls hl => ?_)
        obtain ⟨nv_22, hx_23, hf⟩ := bd_e hf
        refine L70 n nv v1 v2 v3 0 nv_22 _ _ _ hP hD hS hl hx_23 ?_
        intro x9 e9 H locs ls hP hD hS hl
        subst e9
        have hP : va_P G classes (wl [lfN ct nm nv_22]) H := hP
        have hD : va_D A (wl [lfN ct nm nv_22]) := hD
        have hl : lv_has ls 5 [(0, .ref (nm 0)), (1, .int v1), (2, .int v2), (3, .int v3)] := hl
        refine lv_aload_n hx hb dX3_place_160 rfl (lv_at hl 0 rfl) ?_
        refine va_get (D := G) (C := RX3) (T := TX3) (N := 9) (v := .ref (nm 5)) hx hb hts iu_X3 hown hK hP 0 rfl rfl 5 (by decide) (hts _ kw208) (fun _ h9 => h9) rfl dX3_place_161 ?_
        refine lv_iload_n hx hb dX3_place_164 rfl (lv_at hl 1 rfl) ?_
        refine lv_iconst (v := 5) hx hb dX3_place_165 (by decide) ?_
        obtain ⟨g_24, hf⟩ := gd_e hf
        obtain ⟨nv_25, env_25, hf⟩ := bl_e hf
        refine va_iast hx hb hK hP hD hS 5 0 rfl rfl g_24 dX3_place_166 (fun H locs hP hD hS => ?_)
        have hP : va_P G classes (wl [lfN ct nm nv_25]) H := by rw [← env_25]; exact hP
        have hD : va_D A (wl [lfN ct nm nv_25]) := by rw [← env_25]; exact hD
        refine lv_aload_n hx hb dX3_place_167 rfl (lv_at hl 0 rfl) ?_
        refine lv_iload_n hx hb dX3_place_168 rfl (lv_at hl 1 rfl) ?_
        refine lv_iconst (v := 1) hx hb dX3_place_169 (by decide) ?_
        refine lv_iadd hx hb dX3_place_170 ?_
        refine lv_iload_n hx hb dX3_place_171 rfl (lv_at hl 2 rfl) ?_
        refine lv_iload_n hx hb dX3_place_172 rfl (lv_at hl 3 rfl) ?_
        refine lv_aload_n hx hb dX3_place_173 rfl (lv_at hl 0 rfl) ?_
        refine va_get (D := G) (C := RX3) (T := TX3) (N := 9) (v := .ref (nm 2)) hx hb hts iu_X3 hown hK hP 0 rfl rfl 2 (by decide) (hts _ kw205) (fun _ h9 => h9) rfl dX3_place_174 ?_
        refine lv_iload_n hx hb dX3_place_177 rfl (lv_at hl 1 rfl) ?_
        obtain ⟨g_26, hf⟩ := gd_e hf
        refine va_iald (f := nv_25.2.1 1) hx hb hK hP 2 0 rfl rfl g_26 dX3_place_178 ?_
        refine lv_isub hx hb dX3_place_179 ?_
        obtain ⟨nv_27, hc27, hf⟩ := bd_e hf
        refine call_V (As := [.int (v1 + 1), .int v2, .int (v3 - (nv_25.2.1 1 (ix v1)))]) (rest := []) hx hb hml hown hts hK hP hD hS hA hZ lkX3_61 (c_X3_place_4 l G ct sk sv nm n nv_25 (v1 + 1) v2 (v3 - (nv_25.2.1 1 (ix v1))) hc27) 0 rfl rfl ⟨Nat.le_of_ble_eq_true rfl, Nat.le_of_ble_eq_true rfl⟩ rfl hl.1 rfl (Nat.le_of_ble_eq_true rfl) dX3_place_180 ⟨Nat.le_of_ble_eq_true rfl, Nat.le_of_ble_eq_true rfl⟩ (fun r9 w9 H locs hB hP hD hS => ?_)
        obtain ⟨rfl, rfl⟩ := hB
        refine WG_eq (g2 := F0 m 183 ls []) rfl ?_
        have e1 := Option.some.inj hf
        exact end_v (w' := (wl [lfN ct nm nv_27])) hx hb hr hlocks hK hP hD hS dX3_place_183  ⟨rfl, by rw [← e1]⟩
      · replace hf := bc_t hf c_21
        refine lv_aload_n hx hb dX3_place_49 rfl (lv_at hl 0 rfl) ?_
        refine va_get (D := G) (C := RX3) (T := TX3) (N := 9) (v := .ref (nm 5)) hx hb hts iu_X3 hown hK hP 0 rfl rfl 5 (by decide) (hts _ kw208) (fun _ h9 => h9) rfl dX3_place_50 ?_
        refine lv_iload_n hx hb dX3_place_53 rfl (lv_at hl 1 rfl) ?_
        refine lv_bipush (v := 6) hx hb dX3_place_54 (by decide) ?_
        obtain ⟨g_28, hf⟩ := gd_e hf
        obtain ⟨nv_29, env_29, hf⟩ := bl_e hf
        refine va_iast hx hb hK hP hD hS 5 0 rfl rfl g_28 dX3_place_56 (fun H locs hP hD hS => ?_)
        have hP : va_P G classes (wl [lfN ct nm nv_29]) H := by rw [← env_29]; exact hP
        have hD : va_D A (wl [lfN ct nm nv_29]) := by rw [← env_29]; exact hD
        refine lv_aload_n hx hb dX3_place_57 rfl (lv_at hl 0 rfl) ?_
        refine lv_iload_n hx hb dX3_place_58 rfl (lv_at hl 1 rfl) ?_
        refine lv_iconst (v := 1) hx hb dX3_place_59 (by decide) ?_
        refine lv_iadd hx hb dX3_place_60 ?_
        refine lv_iload_n hx hb dX3_place_61 rfl (lv_at hl 2 rfl) ?_
        refine lv_iload_n hx hb dX3_place_62 rfl (lv_at hl 3 rfl) ?_
        obtain ⟨nv_30, hc30, hf⟩ := bd_e hf
        refine call_V (As := [.int (v1 + 1), .int v2, .int v3]) (rest := []) hx hb hml hown hts hK hP hD hS hA hZ lkX3_61 (c_X3_place_4 l G ct sk sv nm n nv_29 (v1 + 1) v2 v3 hc30) 0 rfl rfl ⟨Nat.le_of_ble_eq_true rfl, Nat.le_of_ble_eq_true rfl⟩ rfl hl.1 rfl (Nat.le_of_ble_eq_true rfl) dX3_place_63 ⟨Nat.le_of_ble_eq_true rfl, Nat.le_of_ble_eq_true rfl⟩ (fun r9 w9 H locs hB hP hD hS => ?_)
        obtain ⟨rfl, rfl⟩ := hB
        refine WG_eq (g2 := F0 m 66 ls []) rfl ?_
        have e1 := Option.some.inj hf
        exact end_v (w' := (wl [lfN ct nm nv_30])) hx hb hr hlocks hK hP hD hS dX3_place_66  ⟨rfl, by rw [← e1]⟩
    · replace hf := bc_f hf c_19
      refine lv_aload_n hx hb dX3_place_19 rfl (lv_at hl 0 rfl) ?_
      refine lv_iload_n hx hb dX3_place_20 rfl (lv_at hl 2 rfl) ?_
      obtain ⟨nv_31, env_31, hf⟩ := bl_e hf
      refine va_put (D := G) (C := RX3) (T := TX3) (N := 9) (ty := .int) hx hb hts iu_X3 tyX3 tyX3_ok nmX3 hown hK hP hD hS 0 rfl rfl 8 (by decide) (hts _ kw212) (fun _ h9 => h9) rfl (by decide +kernel) rfl rfl (Nat.le_of_ble_eq_true rfl) dX3_place_21 (fun H locs hP hD hS => ?_)
      have hP : va_P G classes (wl [lfN ct nm nv_31]) H := by rw [← env_31]; exact hP
      have hD : va_D A (wl [lfN ct nm nv_31]) := by rw [← env_31]; exact hD
      refine lv_aload_n hx hb dX3_place_24 rfl (lv_at hl 0 rfl) ?_
      refine va_get (D := G) (C := RX3) (T := TX3) (N := 9) (v := .ref (nm 5)) hx hb hts iu_X3 hown hK hP 0 rfl rfl 5 (by decide) (hts _ kw208) (fun _ h9 => h9) rfl dX3_place_25 ?_
      refine lv_iconst (v := 0) hx hb dX3_place_28 (by decide) ?_
      refine lv_aload_n hx hb dX3_place_29 rfl (lv_at hl 0 rfl) ?_
      refine va_get (D := G) (C := RX3) (T := TX3) (N := 9) (v := .ref (nm 6)) hx hb hts iu_X3 hown hK hP 0 rfl rfl 6 (by decide) (hts _ kw209) (fun _ h9 => h9) rfl dX3_place_30 ?_
      refine lv_iconst (v := 0) hx hb dX3_place_33 (by decide) ?_
      refine lv_bipush (v := 6) hx hb dX3_place_34 (by decide) ?_
      obtain ⟨g_32, hf⟩ := gd_e hf
      obtain ⟨nv_33, env_33, hf⟩ := bl_e hf
      refine va_copyi (f := nv_31.2.1 4) (g := nv_31.2.1 5) hx hb (hml.trans hl.1.symm) hown (hts _ kw670) (hts _ kw545) (hts _ kw544) (hts _ kw19) hK hP hD hS 5 6 0 0 rfl rfl rfl rfl rfl g_32.1 g_32.2.1 g_32.2.2.1 g_32.2.2.2.1 g_32.2.2.2.2 (fun _ _ => rfl) (Nat.le_of_ble_eq_true rfl) (by decide) dX3_place_36 (fun H locs hP hD hS => ?_)
      have hP : va_P G classes (wl [lfN ct nm nv_33]) H := by rw [← env_33]; exact hP
      have hD : va_D A (wl [lfN ct nm nv_33]) := by rw [← env_33]; exact hD
      have e1 := Option.some.inj hf
      exact end_v (w' := (wl [lfN ct nm nv_33])) hx hb hr hlocks hK hP hD hS dX3_place_39  ⟨rfl, by rw [← e1]⟩
  · replace hf := bc_f hf c_18
    have e1 := Option.some.inj hf
    exact end_v (w' := (wl [lfN ct nm nv])) hx hb hr hlocks hK hP hD hS dX3_place_10  ⟨rfl, by rw [← e1]⟩
set_option maxHeartbeats 4000000 in
set_option maxRecDepth 100000 in
theorem c_X3_place_6 (l : Launch) (G : va_G) (ct : Nat → ClassId) (sk sv : Nat → Nat) (nm : Nat → Nat) (n : Nat) (nv : MV) (v1 : Int32) (v2 : Int32) (v3 : Int32) {nv' : MV} (hf : f_X3_place 6 n nv v1 v2 v3 = some nv') : Ctr (l, G, ct, sk, sv) mX3_place 7 208 [.ref (nm 0), .int v1, .int v2, .int v3] (wl [lfN ct nm nv]) (wl [lfN ct nm nv']) (none) := by
  refine ctr_intro (by decide) (Nat.le_of_ble_eq_true rfl) ?_
  intro p e s m args below meth c A C hP hD hS hA ls hl
  obtain ⟨hx, hb, hml, hown, hts, hr, hlocks, hK, hnm, hZ⟩ := C
  have hb : c.code = cX3_place := hb
  have hml : c.maxLocals = 5 := hml
  have hown : s.vm.findClass "SignedOutside$Names" = some m.cls := hown
  have hr : meth.sig.returnType = none := hr
  have hP : va_P G classes (wl [lfN ct nm nv]) s.heap := hP
  have hD : va_D A (wl [lfN ct nm nv]) := hD
  have hK : va_K G classes (TYS ct) s := hK
  have hl : lv_has ls 5 [(0, .ref (nm 0)), (1, .int v1), (2, .int v2), (3, .int v3)] := hl
  have L70 : ∀ (fu : Nat) (nv : MV) (v1 : Int32) (v2 : Int32) (v3 : Int32) (v4 : Int32) (ex : MV) (H : Heap) (locs : List Loc) (ls : Array Slot), va_P G classes (wl [lfN ct nm nv]) H → va_D A (wl [lfN ct nm nv]) → va_S A s.heap H locs → lv_has ls 5 [(4, .int v4), (0, .ref (nm 0)), (1, .int v1), (2, .int v2), (3, .int v3)] → f_X3_place_l70 fu n (f_X3_place 5 n) nv v1 v2 v3 v4 = some ex → (∀ (x : MV), ex = x → ∀ (H : Heap) (locs : List Loc) (ls : Array Slot), va_P G classes (wl [lfN ct nm x]) H → va_D A (wl [lfN ct nm x]) → va_S A s.heap H locs → lv_has ls 5 [(0, .ref (nm 0)), (1, .int v1), (2, .int v2), (3, .int v3)] → WG l G ct sk sv p e (RM 7 208 0 0) s m args below meth c A (Eq2 (none) (wl [lfN ct nm nv'])) H locs (F0 m 160 ls [])) → WG l G ct sk sv p e (RM 7 208 0 0) s m args below meth c A (Eq2 (none) (wl [lfN ct nm nv'])) H locs (F0 m 70 ls []) := by
    intro fu
    induction fu with
    | zero =>
      intro nv v1 v2 v3 v4 ex H locs ls hP hD hS hl hf
      exact absurd hf (by unfold f_X3_place_l70 lp; exact fun h => by cases h)
    | succ fu ih =>
      intro nv v1 v2 v3 v4 ex H locs ls hP hD hS hl hf hE
      unfold f_X3_place_l70 at hf
      obtain ⟨q, hf, hor⟩ := lp_e hf
      have J154 : ∀ (nv : MV) (v4 : Int32) (H : Heap) (locs : List Loc) (ls : Array Slot), va_P G classes (wl [lfN ct nm nv]) H → va_D A (wl [lfN ct nm nv]) → va_S A s.heap H locs → lv_has ls 5 [(4, .int v4), (0, .ref (nm 0)), (1, .int v1), (2, .int v2), (3, .int v3)] → f_X3_place_j154 n (f_X3_place 5 n) nv v4 v1 v2 v3 = some q → WG l G ct sk sv p e (RM 7 208 0 0) s m args below meth c A (Eq2 (none) (wl [lfN ct nm nv'])) H locs (F0 m 154 ls []) := by
        intro nv v4 H locs ls hP hD hS hl hf
        unfold f_X3_place_j154 at hf
        obtain ⟨v4_1, ev4_1, hf⟩ := bl_e hf
        refine lv_iinc (v := v4_1) (lv' := [(4, .int v4_1), (0, .ref (nm 0)), (1, .int v1), (2, .int v2), (3, .int v3)]) hx hb dX3_place_154 hl (k := 0) rfl ev4_1 (by decide) rfl (fun ls hl => ?_)
        refine lv_goto (tgt := 70) hx hb dX3_place_157 (by decide) ?_
        exact ih nv v1 v2 v3 v4_1 ex _ _ _ hP hD hS hl (lp_inl hor hf) hE
      replace hf : f_X3_place_b70 n (f_X3_place 5 n) nv v4 v1 v2 v3 = some q := hf
      unfold f_X3_place_b70 at hf
      refine lv_iload hx hb dX3_place_70 (lv_at hl 0 rfl) ?_
      refine lv_iconst (v := 5) hx hb dX3_place_72 (by decide) ?_
      refine lv_icmp_ge (tgt := 160) hx hb dX3_place_73 (by decide) (fun c_2 => ?_) (fun c_2 => ?_)
      · replace hf := bc_t hf c_2
        exact hE nv (lp_inr hor hf).symm _ _ _ hP hD hS (lv_sub hl [1, 2, 3, 4] rfl)
      · replace hf := bc_f hf c_2
        refine lv_aload_n hx hb dX3_place_76 rfl (lv_at hl 1 rfl) ?_
        refine va_get (D := G) (C := RX3) (T := TX3) (N := 9) (v := .ref (nm 1)) hx hb hts iu_X3 hown hK hP 0 rfl rfl 1 (by decide) (hts _ kw204) (fun _ h9 => h9) rfl dX3_place_77 ?_
        refine lv_iload_n hx hb dX3_place_80 rfl (lv_at hl 2 rfl) ?_
        obtain ⟨g_3, hf⟩ := gd_e hf
        refine va_iald (f := nv.2.1 0) hx hb hK hP 1 0 rfl rfl g_3 dX3_place_81 ?_
        refine lv_iload hx hb dX3_place_82 (lv_at hl 0 rfl) ?_
        refine lv_ishr hx hb dX3_place_84 ?_
        refine lv_iconst (v := 1) hx hb dX3_place_85 (by decide) ?_
        refine lv_iand hx hb dX3_place_86 ?_
        refine lv_iconst (v := 1) hx hb dX3_place_87 (by decide) ?_
        refine lv_icmp_ne (tgt := 154) hx hb dX3_place_88 (by decide) (fun c_4 => ?_) (fun c_4 => ?_)
        · replace hf := bc_f hf c_4
          exact J154 nv v4 _ _ _ hP hD hS hl hf
        · replace hf := bc_t hf c_4
          refine lv_aload_n hx hb dX3_place_91 rfl (lv_at hl 1 rfl) ?_
          refine va_get (D := G) (C := RX3) (T := TX3) (N := 9) (v := .ref (nm 4)) hx hb hts iu_X3 hown hK hP 0 rfl rfl 4 (by decide) (hts _ kw207) (fun _ h9 => h9) rfl dX3_place_92 ?_
          refine lv_iload hx hb dX3_place_95 (lv_at hl 0 rfl) ?_
          obtain ⟨g_5, hf⟩ := gd_e hf
          refine va_iald (f := nv.2.1 3) hx hb hK hP 4 0 rfl rfl g_5 dX3_place_97 ?_
          refine lv_if_le (tgt := 154) hx hb dX3_place_98 (by decide) (fun c_6 => ?_) (fun c_6 => ?_)
          · replace hf := bc_t hf c_6
            exact J154 nv v4 _ _ _ hP hD hS hl hf
          · replace hf := bc_f hf c_6
            refine lv_aload_n hx hb dX3_place_101 rfl (lv_at hl 1 rfl) ?_
            refine va_get (D := G) (C := RX3) (T := TX3) (N := 9) (v := .ref (nm 4)) hx hb hts iu_X3 hown hK hP 0 rfl rfl 4 (by decide) (hts _ kw207) (fun _ h9 => h9) rfl dX3_place_102 ?_
            refine lv_iload hx hb dX3_place_105 (lv_at hl 0 rfl) ?_
            refine lv_dup2_11 hx hb dX3_place_107 rfl rfl ?_
            obtain ⟨g_7, hf⟩ := gd_e hf
            refine va_iald (f := nv.2.1 3) hx hb hK hP 4 0 rfl rfl g_7 dX3_place_108 ?_
            refine lv_iconst (v := 1) hx hb dX3_place_109 (by decide) ?_
            refine lv_isub hx hb dX3_place_110 ?_
            obtain ⟨g_8, hf⟩ := gd_e hf
            obtain ⟨nv_9, env_9, hf⟩ := bl_e hf
            refine va_iast hx hb hK hP hD hS 4 0 rfl rfl g_8 dX3_place_111 (fun H locs hP hD hS => ?_)
            have hP : va_P G classes (wl [lfN ct nm nv_9]) H := by rw [← env_9]; exact hP
            have hD : va_D A (wl [lfN ct nm nv_9]) := by rw [← env_9]; exact hD
            refine lv_aload_n hx hb dX3_place_112 rfl (lv_at hl 1 rfl) ?_
            refine va_get (D := G) (C := RX3) (T := TX3) (N := 9) (v := .ref (nm 5)) hx hb hts iu_X3 hown hK hP 0 rfl rfl 5 (by decide) (hts _ kw208) (fun _ h9 => h9) rfl dX3_place_113 ?_
            refine lv_iload_n hx hb dX3_place_116 rfl (lv_at hl 2 rfl) ?_
            refine lv_iload hx hb dX3_place_117 (lv_at hl 0 rfl) ?_
            obtain ⟨g_10, hf⟩ := gd_e hf
            obtain ⟨nv_11, env_11, hf⟩ := bl_e hf
            refine va_iast hx hb hK hP hD hS 5 0 rfl rfl g_10 dX3_place_119 (fun H locs hP hD hS => ?_)
            have hP : va_P G classes (wl [lfN ct nm nv_11]) H := by rw [← env_11]; exact hP
            have hD : va_D A (wl [lfN ct nm nv_11]) := by rw [← env_11]; exact hD
            refine lv_aload_n hx hb dX3_place_120 rfl (lv_at hl 1 rfl) ?_
            refine lv_iload_n hx hb dX3_place_121 rfl (lv_at hl 2 rfl) ?_
            refine lv_iconst (v := 1) hx hb dX3_place_122 (by decide) ?_
            refine lv_iadd hx hb dX3_place_123 ?_
            refine lv_iload_n hx hb dX3_place_124 rfl (lv_at hl 3 rfl) ?_
            refine lv_aload_n hx hb dX3_place_125 rfl (lv_at hl 1 rfl) ?_
            refine va_get (D := G) (C := RX3) (T := TX3) (N := 9) (v := .ref (nm 2)) hx hb hts iu_X3 hown hK hP 0 rfl rfl 2 (by decide) (hts _ kw205) (fun _ h9 => h9) rfl dX3_place_126 ?_
            refine lv_iload_n hx hb dX3_place_129 rfl (lv_at hl 2 rfl) ?_
            obtain ⟨g_12, hf⟩ := gd_e hf
            refine va_iald (f := nv_11.2.1 1) hx hb hK hP 2 0 rfl rfl g_12 dX3_place_130 ?_
            refine lv_iadd hx hb dX3_place_131 ?_
            refine lv_iload_n hx hb dX3_place_132 rfl (lv_at hl 4 rfl) ?_
            refine lv_aload_n hx hb dX3_place_133 rfl (lv_at hl 1 rfl) ?_
            refine va_get (D := G) (C := RX3) (T := TX3) (N := 9) (v := .ref (nm 2)) hx hb hts iu_X3 hown hK hP 0 rfl rfl 2 (by decide) (hts _ kw205) (fun _ h9 => h9) rfl dX3_place_134 ?_
            refine lv_iload_n hx hb dX3_place_137 rfl (lv_at hl 2 rfl) ?_
            obtain ⟨g_13, hf⟩ := gd_e hf
            refine va_iald (f := nv_11.2.1 1) hx hb hK hP 2 0 rfl rfl g_13 dX3_place_138 ?_
            refine lv_isub hx hb dX3_place_139 ?_
            obtain ⟨nv_14, hc14, hf⟩ := bd_e hf
            refine call_V (As := [.int (v1 + 1), .int (v2 + (nv_11.2.1 1 (ix v1))), .int (v3 - (nv_11.2.1 1 (ix v1)))]) (rest := []) hx hb hml hown hts hK hP hD hS hA hZ lkX3_61 (c_X3_place_5 l G ct sk sv nm n nv_11 (v1 + 1) (v2 + (nv_11.2.1 1 (ix v1))) (v3 - (nv_11.2.1 1 (ix v1))) hc14) 0 rfl rfl ⟨Nat.le_of_ble_eq_true rfl, Nat.le_of_ble_eq_true rfl⟩ rfl hl.1 rfl (Nat.le_of_ble_eq_true rfl) dX3_place_140 ⟨Nat.le_of_ble_eq_true rfl, Nat.le_of_ble_eq_true rfl⟩ (fun r9 w9 H locs hB hP hD hS => ?_)
            obtain ⟨rfl, rfl⟩ := hB
            refine WG_eq (g2 := F0 m 143 ls []) rfl ?_
            refine lv_aload_n hx hb dX3_place_143 rfl (lv_at hl 1 rfl) ?_
            refine va_get (D := G) (C := RX3) (T := TX3) (N := 9) (v := .ref (nm 4)) hx hb hts iu_X3 hown hK hP 0 rfl rfl 4 (by decide) (hts _ kw207) (fun _ h9 => h9) rfl dX3_place_144 ?_
            refine lv_iload hx hb dX3_place_147 (lv_at hl 0 rfl) ?_
            refine lv_dup2_11 hx hb dX3_place_149 rfl rfl ?_
            obtain ⟨g_15, hf⟩ := gd_e hf
            refine va_iald (f := nv_14.2.1 3) hx hb hK hP 4 0 rfl rfl g_15 dX3_place_150 ?_
            refine lv_iconst (v := 1) hx hb dX3_place_151 (by decide) ?_
            refine lv_iadd hx hb dX3_place_152 ?_
            obtain ⟨g_16, hf⟩ := gd_e hf
            obtain ⟨nv_17, env_17, hf⟩ := bl_e hf
            refine va_iast hx hb hK hP hD hS 4 0 rfl rfl g_16 dX3_place_153 (fun H locs hP hD hS => ?_)
            have hP : va_P G classes (wl [lfN ct nm nv_17]) H := by rw [← env_17]; exact hP
            have hD : va_D A (wl [lfN ct nm nv_17]) := by rw [← env_17]; exact hD
            exact J154 nv_17 v4 _ _ _ hP hD hS hl hf
  replace hf : f_X3_place_step n (f_X3_place 5 n) nv v1 v2 v3 = some nv' := hf
  unfold f_X3_place_step at hf
  show WG l G ct sk sv p e (RM 7 208 0 0) s m args below meth c A (Eq2 (none) (wl [lfN ct nm nv'])) s.heap [] (F0 m 0 ls [])
  refine lv_iload_n hx hb dX3_place_0 rfl (lv_at hl 2 rfl) ?_
  refine lv_iload_n hx hb dX3_place_1 rfl (lv_at hl 3 rfl) ?_
  refine lv_iadd hx hb dX3_place_2 ?_
  refine lv_aload_n hx hb dX3_place_3 rfl (lv_at hl 0 rfl) ?_
  refine va_get (D := G) (C := RX3) (T := TX3) (N := 9) (v := .int (nv.1 1)) hx hb hts iu_X3 hown hK hP 0 rfl rfl 8 (by decide) (hts _ kw212) (fun _ h9 => h9) rfl dX3_place_4 ?_
  refine lv_icmp_gt (tgt := 11) hx hb dX3_place_7 (by decide) (fun c_18 => ?_) (fun c_18 => ?_)
  · replace hf := bc_t hf c_18
    refine lv_iload_n hx hb dX3_place_11 rfl (lv_at hl 1 rfl) ?_
    refine lv_aload_n hx hb dX3_place_12 rfl (lv_at hl 0 rfl) ?_
    refine va_get (D := G) (C := RX3) (T := TX3) (N := 9) (v := .int (nv.1 0)) hx hb hts iu_X3 hown hK hP 0 rfl rfl 0 (by decide) (hts _ kw203) (fun _ h9 => h9) rfl dX3_place_13 ?_
    refine lv_icmp_lt (tgt := 40) hx hb dX3_place_16 (by decide) (fun c_19 => ?_) (fun c_19 => ?_)
    · replace hf := bc_t hf c_19
      refine lv_aload_n hx hb dX3_place_40 rfl (lv_at hl 0 rfl) ?_
      refine va_get (D := G) (C := RX3) (T := TX3) (N := 9) (v := .ref (nm 3)) hx hb hts iu_X3 hown hK hP 0 rfl rfl 3 (by decide) (hts _ kw206) (fun _ h9 => h9) rfl dX3_place_41 ?_
      refine lv_iload_n hx hb dX3_place_44 rfl (lv_at hl 1 rfl) ?_
      obtain ⟨g_20, hf⟩ := gd_e hf
      refine va_zald (f := nv.2.1 2) hx hb hK hP 3 1 rfl rfl g_20 dX3_place_45 ?_
      refine lv_if_ne (tgt := 67) hx hb dX3_place_46 (by decide) (fun c_21 => ?_) (fun c_21 => ?_)
      · replace hf := bc_f hf c_21
        refine lv_iconst (v := 0) hx hb dX3_place_67 (by decide) ?_
        refine lv_istore (lv' := [(4, .int 0), (0, .ref (nm 0)), (1, .int v1), (2, .int v2), (3, .int v3)]) hx hb dX3_place_68 hl (by decide) rfl (fun ls hl => ?_)
        obtain ⟨nv_22, hx_23, hf⟩ := bd_e hf
        refine L70 n nv v1 v2 v3 0 nv_22 _ _ _ hP hD hS hl hx_23 ?_
        intro x9 e9 H locs ls hP hD hS hl
        subst e9
        have hP : va_P G classes (wl [lfN ct nm nv_22]) H := hP
        have hD : va_D A (wl [lfN ct nm nv_22]) := hD
        have hl : lv_has ls 5 [(0, .ref (nm 0)), (1, .int v1), (2, .int v2), (3, .int v3)] := hl
        refine lv_aload_n hx hb dX3_place_160 rfl (lv_at hl 0 rfl) ?_
        refine va_get (D := G) (C := RX3) (T := TX3) (N := 9) (v := .ref (nm 5)) hx hb hts iu_X3 hown hK hP 0 rfl rfl 5 (by decide) (hts _ kw208) (fun _ h9 => h9) rfl dX3_place_161 ?_
        refine lv_iload_n hx hb dX3_place_164 rfl (lv_at hl 1 rfl) ?_
        refine lv_iconst (v := 5) hx hb dX3_place_165 (by decide) ?_
        obtain ⟨g_24, hf⟩ := gd_e hf
        obtain ⟨nv_25, env_25, hf⟩ := bl_e hf
        refine va_iast hx hb hK hP hD hS 5 0 rfl rfl g_24 dX3_place_166 (fun H locs hP hD hS => ?_)
        have hP : va_P G classes (wl [lfN ct nm nv_25]) H := by rw [← env_25]; exact hP
        have hD : va_D A (wl [lfN ct nm nv_25]) := by rw [← env_25]; exact hD
        refine lv_aload_n hx hb dX3_place_167 rfl (lv_at hl 0 rfl) ?_
        refine lv_iload_n hx hb dX3_place_168 rfl (lv_at hl 1 rfl) ?_
        refine lv_iconst (v := 1) hx hb dX3_place_169 (by decide) ?_
        refine lv_iadd hx hb dX3_place_170 ?_
        refine lv_iload_n hx hb dX3_place_171 rfl (lv_at hl 2 rfl) ?_
        refine lv_iload_n hx hb dX3_place_172 rfl (lv_at hl 3 rfl) ?_
        refine lv_aload_n hx hb dX3_place_173 rfl (lv_at hl 0 rfl) ?_
        refine va_get (D := G) (C := RX3) (T := TX3) (N := 9) (v := .ref (nm 2)) hx hb hts iu_X3 hown hK hP 0 rfl rfl 2 (by decide) (hts _ kw205) (fun _ h9 => h9) rfl dX3_place_174 ?_
        refine lv_iload_n hx hb dX3_place_177 rfl (lv_at hl 1 rfl) ?_
        obtain ⟨g_26, hf⟩ := gd_e hf
        refine va_iald (f := nv_25.2.1 1) hx hb hK hP 2 0 rfl rfl g_26 dX3_place_178 ?_
        refine lv_isub hx hb dX3_place_179 ?_
        obtain ⟨nv_27, hc27, hf⟩ := bd_e hf
        refine call_V (As := [.int (v1 + 1), .int v2, .int (v3 - (nv_25.2.1 1 (ix v1)))]) (rest := []) hx hb hml hown hts hK hP hD hS hA hZ lkX3_61 (c_X3_place_5 l G ct sk sv nm n nv_25 (v1 + 1) v2 (v3 - (nv_25.2.1 1 (ix v1))) hc27) 0 rfl rfl ⟨Nat.le_of_ble_eq_true rfl, Nat.le_of_ble_eq_true rfl⟩ rfl hl.1 rfl (Nat.le_of_ble_eq_true rfl) dX3_place_180 ⟨Nat.le_of_ble_eq_true rfl, Nat.le_of_ble_eq_true rfl⟩ (fun r9 w9 H locs hB hP hD hS => ?_)
        obtain ⟨rfl, rfl⟩ := hB
        refine WG_eq (g2 := F0 m 183 ls []) rfl ?_
        have e1 := Option.some.inj hf
        exact end_v (w' := (wl [lfN ct nm nv_27])) hx hb hr hlocks hK hP hD hS dX3_place_183  ⟨rfl, by rw [← e1]⟩
      · replace hf := bc_t hf c_21
        refine lv_aload_n hx hb dX3_place_49 rfl (lv_at hl 0 rfl) ?_
        refine va_get (D := G) (C := RX3) (T := TX3) (N := 9) (v := .ref (nm 5)) hx hb hts iu_X3 hown hK hP 0 rfl rfl 5 (by decide) (hts _ kw208) (fun _ h9 => h9) rfl dX3_place_50 ?_
        refine lv_iload_n hx hb dX3_place_53 rfl (lv_at hl 1 rfl) ?_
        refine lv_bipush (v := 6) hx hb dX3_place_54 (by decide) ?_
        obtain ⟨g_28, hf⟩ := gd_e hf
        obtain ⟨nv_29, env_29, hf⟩ := bl_e hf
        refine va_iast hx hb hK hP hD hS 5 0 rfl rfl g_28 dX3_place_56 (fun H locs hP hD hS => ?_)
        have hP : va_P G classes (wl [lfN ct nm nv_29]) H := by rw [← env_29]; exact hP
        have hD : va_D A (wl [lfN ct nm nv_29]) := by rw [← env_29]; exact hD
        refine lv_aload_n hx hb dX3_place_57 rfl (lv_at hl 0 rfl) ?_
        refine lv_iload_n hx hb dX3_place_58 rfl (lv_at hl 1 rfl) ?_
        refine lv_iconst (v := 1) hx hb dX3_place_59 (by decide) ?_
        refine lv_iadd hx hb dX3_place_60 ?_
        refine lv_iload_n hx hb dX3_place_61 rfl (lv_at hl 2 rfl) ?_
        refine lv_iload_n hx hb dX3_place_62 rfl (lv_at hl 3 rfl) ?_
        obtain ⟨nv_30, hc30, hf⟩ := bd_e hf
        refine call_V (As := [.int (v1 + 1), .int v2, .int v3]) (rest := []) hx hb hml hown hts hK hP hD hS hA hZ lkX3_61 (c_X3_place_5 l G ct sk sv nm n nv_29 (v1 + 1) v2 v3 hc30) 0 rfl rfl ⟨Nat.le_of_ble_eq_true rfl, Nat.le_of_ble_eq_true rfl⟩ rfl hl.1 rfl (Nat.le_of_ble_eq_true rfl) dX3_place_63 ⟨Nat.le_of_ble_eq_true rfl, Nat.le_of_ble_eq_true rfl⟩ (fun r9 w9 H locs hB hP hD hS => ?_)
        obtain ⟨rfl, rfl⟩ := hB
        refine WG_eq (g2 := F0 m 66 ls []) rfl ?_
        have e1 := Option.some.inj hf
        exact end_v (w' := (wl [lfN ct nm nv_30])) hx hb hr hlocks hK hP hD hS dX3_place_66  ⟨rfl, by rw [← e1]⟩
    · replace hf := bc_f hf c_19
      refine lv_aload_n hx hb dX3_place_19 rfl (lv_at hl 0 rfl) ?_
      refine lv_iload_n hx hb dX3_place_20 rfl (lv_at hl 2 rfl) ?_
      obtain ⟨nv_31, env_31, hf⟩ := bl_e hf
      refine va_put (D := G) (C := RX3) (T := TX3) (N := 9) (ty := .int) hx hb hts iu_X3 tyX3 tyX3_ok nmX3 hown hK hP hD hS 0 rfl rfl 8 (by decide) (hts _ kw212) (fun _ h9 => h9) rfl (by decide +kernel) rfl rfl (Nat.le_of_ble_eq_true rfl) dX3_place_21 (fun H locs hP hD hS => ?_)
      have hP : va_P G classes (wl [lfN ct nm nv_31]) H := by rw [← env_31]; exact hP
      have hD : va_D A (wl [lfN ct nm nv_31]) := by rw [← env_31]; exact hD
      refine lv_aload_n hx hb dX3_place_24 rfl (lv_at hl 0 rfl) ?_
      refine va_get (D := G) (C := RX3) (T := TX3) (N := 9) (v := .ref (nm 5)) hx hb hts iu_X3 hown hK hP 0 rfl rfl 5 (by decide) (hts _ kw208) (fun _ h9 => h9) rfl dX3_place_25 ?_
      refine lv_iconst (v := 0) hx hb dX3_place_28 (by decide) ?_
      refine lv_aload_n hx hb dX3_place_29 rfl (lv_at hl 0 rfl) ?_
      refine va_get (D := G) (C := RX3) (T := TX3) (N := 9) (v := .ref (nm 6)) hx hb hts iu_X3 hown hK hP 0 rfl rfl 6 (by decide) (hts _ kw209) (fun _ h9 => h9) rfl dX3_place_30 ?_
      refine lv_iconst (v := 0) hx hb dX3_place_33 (by decide) ?_
      refine lv_bipush (v := 6) hx hb dX3_place_34 (by decide) ?_
      obtain ⟨g_32, hf⟩ := gd_e hf
      obtain ⟨nv_33, env_33, hf⟩ := bl_e hf
      refine va_copyi (f := nv_31.2.1 4) (g := nv_31.2.1 5) hx hb (hml.trans hl.1.symm) hown (hts _ kw670) (hts _ kw545) (hts _ kw544) (hts _ kw19) hK hP hD hS 5 6 0 0 rfl rfl rfl rfl rfl g_32.1 g_32.2.1 g_32.2.2.1 g_32.2.2.2.1 g_32.2.2.2.2 (fun _ _ => rfl) (Nat.le_of_ble_eq_true rfl) (by decide) dX3_place_36 (fun H locs hP hD hS => ?_)
      have hP : va_P G classes (wl [lfN ct nm nv_33]) H := by rw [← env_33]; exact hP
      have hD : va_D A (wl [lfN ct nm nv_33]) := by rw [← env_33]; exact hD
      have e1 := Option.some.inj hf
      exact end_v (w' := (wl [lfN ct nm nv_33])) hx hb hr hlocks hK hP hD hS dX3_place_39  ⟨rfl, by rw [← e1]⟩
  · replace hf := bc_f hf c_18
    have e1 := Option.some.inj hf
    exact end_v (w' := (wl [lfN ct nm nv])) hx hb hr hlocks hK hP hD hS dX3_place_10  ⟨rfl, by rw [← e1]⟩
set_option maxHeartbeats 4000000 in
set_option maxRecDepth 100000 in
theorem c_X3_place_7 (l : Launch) (G : va_G) (ct : Nat → ClassId) (sk sv : Nat → Nat) (nm : Nat → Nat) (n : Nat) (nv : MV) (v1 : Int32) (v2 : Int32) (v3 : Int32) {nv' : MV} (hf : f_X3_place 7 n nv v1 v2 v3 = some nv') : Ctr (l, G, ct, sk, sv) mX3_place 8 232 [.ref (nm 0), .int v1, .int v2, .int v3] (wl [lfN ct nm nv]) (wl [lfN ct nm nv']) (none) := by
  refine ctr_intro (by decide) (Nat.le_of_ble_eq_true rfl) ?_
  intro p e s m args below meth c A C hP hD hS hA ls hl
  obtain ⟨hx, hb, hml, hown, hts, hr, hlocks, hK, hnm, hZ⟩ := C
  have hb : c.code = cX3_place := hb
  have hml : c.maxLocals = 5 := hml
  have hown : s.vm.findClass "SignedOutside$Names" = some m.cls := hown
  have hr : meth.sig.returnType = none := hr
  have hP : va_P G classes (wl [lfN ct nm nv]) s.heap := hP
  have hD : va_D A (wl [lfN ct nm nv]) := hD
  have hK : va_K G classes (TYS ct) s := hK
  have hl : lv_has ls 5 [(0, .ref (nm 0)), (1, .int v1), (2, .int v2), (3, .int v3)] := hl
  have L70 : ∀ (fu : Nat) (nv : MV) (v1 : Int32) (v2 : Int32) (v3 : Int32) (v4 : Int32) (ex : MV) (H : Heap) (locs : List Loc) (ls : Array Slot), va_P G classes (wl [lfN ct nm nv]) H → va_D A (wl [lfN ct nm nv]) → va_S A s.heap H locs → lv_has ls 5 [(4, .int v4), (0, .ref (nm 0)), (1, .int v1), (2, .int v2), (3, .int v3)] → f_X3_place_l70 fu n (f_X3_place 6 n) nv v1 v2 v3 v4 = some ex → (∀ (x : MV), ex = x → ∀ (H : Heap) (locs : List Loc) (ls : Array Slot), va_P G classes (wl [lfN ct nm x]) H → va_D A (wl [lfN ct nm x]) → va_S A s.heap H locs → lv_has ls 5 [(0, .ref (nm 0)), (1, .int v1), (2, .int v2), (3, .int v3)] → WG l G ct sk sv p e (RM 8 232 0 0) s m args below meth c A (Eq2 (none) (wl [lfN ct nm nv'])) H locs (F0 m 160 ls [])) → WG l G ct sk sv p e (RM 8 232 0 0) s m args below meth c A (Eq2 (none) (wl [lfN ct nm nv'])) H locs (F0 m 70 ls []) := by
    intro fu
    induction fu with
    | zero =>
      intro nv v1 v2 v3 v4 ex H locs ls hP hD hS hl hf
      exact absurd hf (by unfold f_X3_place_l70 lp; exact fun h => by cases h)
    | succ fu ih =>
      intro nv v1 v2 v3 v4 ex H locs ls hP hD hS hl hf hE
      unfold f_X3_place_l70 at hf
      obtain ⟨q, hf, hor⟩ := lp_e hf
      have J154 : ∀ (nv : MV) (v4 : Int32) (H : Heap) (locs : List Loc) (ls : Array Slot), va_P G classes (wl [lfN ct nm nv]) H → va_D A (wl [lfN ct nm nv]) → va_S A s.heap H locs → lv_has ls 5 [(4, .int v4), (0, .ref (nm 0)), (1, .int v1), (2, .int v2), (3, .int v3)] → f_X3_place_j154 n (f_X3_place 6 n) nv v4 v1 v2 v3 = some q → WG l G ct sk sv p e (RM 8 232 0 0) s m args below meth c A (Eq2 (none) (wl [lfN ct nm nv'])) H locs (F0 m 154 ls []) := by
        intro nv v4 H locs ls hP hD hS hl hf
        unfold f_X3_place_j154 at hf
        obtain ⟨v4_1, ev4_1, hf⟩ := bl_e hf
        refine lv_iinc (v := v4_1) (lv' := [(4, .int v4_1), (0, .ref (nm 0)), (1, .int v1), (2, .int v2), (3, .int v3)]) hx hb dX3_place_154 hl (k := 0) rfl ev4_1 (by decide) rfl (fun ls hl => ?_)
        refine lv_goto (tgt := 70) hx hb dX3_place_157 (by decide) ?_
        exact ih nv v1 v2 v3 v4_1 ex _ _ _ hP hD hS hl (lp_inl hor hf) hE
      replace hf : f_X3_place_b70 n (f_X3_place 6 n) nv v4 v1 v2 v3 = some q := hf
      unfold f_X3_place_b70 at hf
      refine lv_iload hx hb dX3_place_70 (lv_at hl 0 rfl) ?_
      refine lv_iconst (v := 5) hx hb dX3_place_72 (by decide) ?_
      refine lv_icmp_ge (tgt := 160) hx hb dX3_place_73 (by decide) (fun c_2 => ?_) (fun c_2 => ?_)
      · replace hf := bc_t hf c_2
        exact hE nv (lp_inr hor hf).symm _ _ _ hP hD hS (lv_sub hl [1, 2, 3, 4] rfl)
      · replace hf := bc_f hf c_2
        refine lv_aload_n hx hb dX3_place_76 rfl (lv_at hl 1 rfl) ?_
        refine va_get (D := G) (C := RX3) (T := TX3) (N := 9) (v := .ref (nm 1)) hx hb hts iu_X3 hown hK hP 0 rfl rfl 1 (by decide) (hts _ kw204) (fun _ h9 => h9) rfl dX3_place_77 ?_
        refine lv_iload_n hx hb dX3_place_80 rfl (lv_at hl 2 rfl) ?_
        obtain ⟨g_3, hf⟩ := gd_e hf
        refine va_iald (f := nv.2.1 0) hx hb hK hP 1 0 rfl rfl g_3 dX3_place_81 ?_
        refine lv_iload hx hb dX3_place_82 (lv_at hl 0 rfl) ?_
        refine lv_ishr hx hb dX3_place_84 ?_
        refine lv_iconst (v := 1) hx hb dX3_place_85 (by decide) ?_
        refine lv_iand hx hb dX3_place_86 ?_
        refine lv_iconst (v := 1) hx hb dX3_place_87 (by decide) ?_
        refine lv_icmp_ne (tgt := 154) hx hb dX3_place_88 (by decide) (fun c_4 => ?_) (fun c_4 => ?_)
        · replace hf := bc_f hf c_4
          exact J154 nv v4 _ _ _ hP hD hS hl hf
        · replace hf := bc_t hf c_4
          refine lv_aload_n hx hb dX3_place_91 rfl (lv_at hl 1 rfl) ?_
          refine va_get (D := G) (C := RX3) (T := TX3) (N := 9) (v := .ref (nm 4)) hx hb hts iu_X3 hown hK hP 0 rfl rfl 4 (by decide) (hts _ kw207) (fun _ h9 => h9) rfl dX3_place_92 ?_
          refine lv_iload hx hb dX3_place_95 (lv_at hl 0 rfl) ?_
          obtain ⟨g_5, hf⟩ := gd_e hf
          refine va_iald (f := nv.2.1 3) hx hb hK hP 4 0 rfl rfl g_5 dX3_place_97 ?_
          refine lv_if_le (tgt := 154) hx hb dX3_place_98 (by decide) (fun c_6 => ?_) (fun c_6 => ?_)
          · replace hf := bc_t hf c_6
            exact J154 nv v4 _ _ _ hP hD hS hl hf
          · replace hf := bc_f hf c_6
            refine lv_aload_n hx hb dX3_place_101 rfl (lv_at hl 1 rfl) ?_
            refine va_get (D := G) (C := RX3) (T := TX3) (N := 9) (v := .ref (nm 4)) hx hb hts iu_X3 hown hK hP 0 rfl rfl 4 (by decide) (hts _ kw207) (fun _ h9 => h9) rfl dX3_place_102 ?_
            refine lv_iload hx hb dX3_place_105 (lv_at hl 0 rfl) ?_
            refine lv_dup2_11 hx hb dX3_place_107 rfl rfl ?_
            obtain ⟨g_7, hf⟩ := gd_e hf
            refine va_iald (f := nv.2.1 3) hx hb hK hP 4 0 rfl rfl g_7 dX3_place_108 ?_
            refine lv_iconst (v := 1) hx hb dX3_place_109 (by decide) ?_
            refine lv_isub hx hb dX3_place_110 ?_
            obtain ⟨g_8, hf⟩ := gd_e hf
            obtain ⟨nv_9, env_9, hf⟩ := bl_e hf
            refine va_iast hx hb hK hP hD hS 4 0 rfl rfl g_8 dX3_place_111 (fun H locs hP hD hS => ?_)
            have hP : va_P G classes (wl [lfN ct nm nv_9]) H := by rw [← env_9]; exact hP
            have hD : va_D A (wl [lfN ct nm nv_9]) := by rw [← env_9]; exact hD
            refine lv_aload_n hx hb dX3_place_112 rfl (lv_at hl 1 rfl) ?_
            refine va_get (D := G) (C := RX3) (T := TX3) (N := 9) (v := .ref (nm 5)) hx hb hts iu_X3 hown hK hP 0 rfl rfl 5 (by decide) (hts _ kw208) (fun _ h9 => h9) rfl dX3_place_113 ?_
            refine lv_iload_n hx hb dX3_place_116 rfl (lv_at hl 2 rfl) ?_
            refine lv_iload hx hb dX3_place_117 (lv_at hl 0 rfl) ?_
            obtain ⟨g_10, hf⟩ := gd_e hf
            obtain ⟨nv_11, env_11, hf⟩ := bl_e hf
            refine va_iast hx hb hK hP hD hS 5 0 rfl rfl g_10 dX3_place_119 (fun H locs hP hD hS => ?_)
            have hP : va_P G classes (wl [lfN ct nm nv_11]) H := by rw [← env_11]; exact hP
            have hD : va_D A (wl [lfN ct nm nv_11]) := by rw [← env_11]; exact hD
            refine lv_aload_n hx hb dX3_place_120 rfl (lv_at hl 1 rfl) ?_
            refine lv_iload_n hx hb dX3_place_121 rfl (lv_at hl 2 rfl) ?_
            refine lv_iconst (v := 1) hx hb dX3_place_122 (by decide) ?_
            refine lv_iadd hx hb dX3_place_123 ?_
            refine lv_iload_n hx hb dX3_place_124 rfl (lv_at hl 3 rfl) ?_
            refine lv_aload_n hx hb dX3_place_125 rfl (lv_at hl 1 rfl) ?_
            refine va_get (D := G) (C := RX3) (T := TX3) (N := 9) (v := .ref (nm 2)) hx hb hts iu_X3 hown hK hP 0 rfl rfl 2 (by decide) (hts _ kw205) (fun _ h9 => h9) rfl dX3_place_126 ?_
            refine lv_iload_n hx hb dX3_place_129 rfl (lv_at hl 2 rfl) ?_
            obtain ⟨g_12, hf⟩ := gd_e hf
            refine va_iald (f := nv_11.2.1 1) hx hb hK hP 2 0 rfl rfl g_12 dX3_place_130 ?_
            refine lv_iadd hx hb dX3_place_131 ?_
            refine lv_iload_n hx hb dX3_place_132 rfl (lv_at hl 4 rfl) ?_
            refine lv_aload_n hx hb dX3_place_133 rfl (lv_at hl 1 rfl) ?_
            refine va_get (D := G) (C := RX3) (T := TX3) (N := 9) (v := .ref (nm 2)) hx hb hts iu_X3 hown hK hP 0 rfl rfl 2 (by decide) (hts _ kw205) (fun _ h9 => h9) rfl dX3_place_134 ?_
            refine lv_iload_n hx hb dX3_place_137 rfl (lv_at hl 2 rfl) ?_
            obtain ⟨g_13, hf⟩ := gd_e hf
            refine va_iald (f := nv_11.2.1 1) hx hb hK hP 2 0 rfl rfl g_13 dX3_place_138 ?_
            refine lv_isub hx hb dX3_place_139 ?_
            obtain ⟨nv_14, hc14, hf⟩ := bd_e hf
            refine call_V (As := [.int (v1 + 1), .int (v2 + (nv_11.2.1 1 (ix v1))), .int (v3 - (nv_11.2.1 1 (ix v1)))]) (rest := []) hx hb hml hown hts hK hP hD hS hA hZ lkX3_61 (c_X3_place_6 l G ct sk sv nm n nv_11 (v1 + 1) (v2 + (nv_11.2.1 1 (ix v1))) (v3 - (nv_11.2.1 1 (ix v1))) hc14) 0 rfl rfl ⟨Nat.le_of_ble_eq_true rfl, Nat.le_of_ble_eq_true rfl⟩ rfl hl.1 rfl (Nat.le_of_ble_eq_true rfl) dX3_place_140 ⟨Nat.le_of_ble_eq_true rfl, Nat.le_of_ble_eq_true rfl⟩ (fun r9 w9 H locs hB hP hD hS => ?_)
            obtain ⟨rfl, rfl⟩ := hB
            refine WG_eq (g2 := F0 m 143 ls []) rfl ?_
            refine lv_aload_n hx hb dX3_place_143 rfl (lv_at hl 1 rfl) ?_
            refine va_get (D := G) (C := RX3) (T := TX3) (N := 9) (v := .ref (nm 4)) hx hb hts iu_X3 hown hK hP 0 rfl rfl 4 (by decide) (hts _ kw207) (fun _ h9 => h9) rfl dX3_place_144 ?_
            refine lv_iload hx hb dX3_place_147 (lv_at hl 0 rfl) ?_
            refine lv_dup2_11 hx hb dX3_place_149 rfl rfl ?_
            obtain ⟨g_15, hf⟩ := gd_e hf
            refine va_iald (f := nv_14.2.1 3) hx hb hK hP 4 0 rfl rfl g_15 dX3_place_150 ?_
            refine lv_iconst (v := 1) hx hb dX3_place_151 (by decide) ?_
            refine lv_iadd hx hb dX3_place_152 ?_
            obtain ⟨g_16, hf⟩ := gd_e hf
            obtain ⟨nv_17, env_17, hf⟩ := bl_e hf
            refine va_iast hx hb hK hP hD hS 4 0 rfl rfl g_16 dX3_place_153 (fun H locs hP hD hS => ?_)
            have hP : va_P G classes (wl [lfN ct nm nv_17]) H := by rw [← env_17]; exact hP
            have hD : va_D A (wl [lfN ct nm nv_17]) := by rw [← env_17]; exact hD
            exact J154 nv_17 v4 _ _ _ hP hD hS hl hf
  replace hf : f_X3_place_step n (f_X3_place 6 n) nv v1 v2 v3 = some nv' := hf
  unfold f_X3_place_step at hf
  show WG l G ct sk sv p e (RM 8 232 0 0) s m args below meth c A (Eq2 (none) (wl [lfN ct nm nv'])) s.heap [] (F0 m 0 ls [])
  refine lv_iload_n hx hb dX3_place_0 rfl (lv_at hl 2 rfl) ?_
  refine lv_iload_n hx hb dX3_place_1 rfl (lv_at hl 3 rfl) ?_
  refine lv_iadd hx hb dX3_place_2 ?_
  refine lv_aload_n hx hb dX3_place_3 rfl (lv_at hl 0 rfl) ?_
  refine va_get (D := G) (C := RX3) (T := TX3) (N := 9) (v := .int (nv.1 1)) hx hb hts iu_X3 hown hK hP 0 rfl rfl 8 (by decide) (hts _ kw212) (fun _ h9 => h9) rfl dX3_place_4 ?_
  refine lv_icmp_gt (tgt := 11) hx hb dX3_place_7 (by decide) (fun c_18 => ?_) (fun c_18 => ?_)
  · replace hf := bc_t hf c_18
    refine lv_iload_n hx hb dX3_place_11 rfl (lv_at hl 1 rfl) ?_
    refine lv_aload_n hx hb dX3_place_12 rfl (lv_at hl 0 rfl) ?_
    refine va_get (D := G) (C := RX3) (T := TX3) (N := 9) (v := .int (nv.1 0)) hx hb hts iu_X3 hown hK hP 0 rfl rfl 0 (by decide) (hts _ kw203) (fun _ h9 => h9) rfl dX3_place_13 ?_
    refine lv_icmp_lt (tgt := 40) hx hb dX3_place_16 (by decide) (fun c_19 => ?_) (fun c_19 => ?_)
    · replace hf := bc_t hf c_19
      refine lv_aload_n hx hb dX3_place_40 rfl (lv_at hl 0 rfl) ?_
      refine va_get (D := G) (C := RX3) (T := TX3) (N := 9) (v := .ref (nm 3)) hx hb hts iu_X3 hown hK hP 0 rfl rfl 3 (by decide) (hts _ kw206) (fun _ h9 => h9) rfl dX3_place_41 ?_
      refine lv_iload_n hx hb dX3_place_44 rfl (lv_at hl 1 rfl) ?_
      obtain ⟨g_20, hf⟩ := gd_e hf
      refine va_zald (f := nv.2.1 2) hx hb hK hP 3 1 rfl rfl g_20 dX3_place_45 ?_
      refine lv_if_ne (tgt := 67) hx hb dX3_place_46 (by decide) (fun c_21 => ?_) (fun c_21 => ?_)
      · replace hf := bc_f hf c_21
        refine lv_iconst (v := 0) hx hb dX3_place_67 (by decide) ?_
        refine lv_istore (lv' := [(4, .int 0), (0, .ref (nm 0)), (1, .int v1), (2, .int v2), (3, .int v3)]) hx hb dX3_place_68 hl (by decide) rfl (fun ls hl => ?_)
        obtain ⟨nv_22, hx_23, hf⟩ := bd_e hf
        refine L70 n nv v1 v2 v3 0 nv_22 _ _ _ hP hD hS hl hx_23 ?_
        intro x9 e9 H locs ls hP hD hS hl
        subst e9
        have hP : va_P G classes (wl [lfN ct nm nv_22]) H := hP
        have hD : va_D A (wl [lfN ct nm nv_22]) := hD
        have hl : lv_has ls 5 [(0, .ref (nm 0)), (1, .int v1), (2, .int v2), (3, .int v3)] := hl
        refine lv_aload_n hx hb dX3_place_160 rfl (lv_at hl 0 rfl) ?_
        refine va_get (D := G) (C := RX3) (T := TX3) (N := 9) (v := .ref (nm 5)) hx hb hts iu_X3 hown hK hP 0 rfl rfl 5 (by decide) (hts _ kw208) (fun _ h9 => h9) rfl dX3_place_161 ?_
        refine lv_iload_n hx hb dX3_place_164 rfl (lv_at hl 1 rfl) ?_
        refine lv_iconst (v := 5) hx hb dX3_place_165 (by decide) ?_
        obtain ⟨g_24, hf⟩ := gd_e hf
        obtain ⟨nv_25, env_25, hf⟩ := bl_e hf
        refine va_iast hx hb hK hP hD hS 5 0 rfl rfl g_24 dX3_place_166 (fun H locs hP hD hS => ?_)
        have hP : va_P G classes (wl [lfN ct nm nv_25]) H := by rw [← env_25]; exact hP
        have hD : va_D A (wl [lfN ct nm nv_25]) := by rw [← env_25]; exact hD
        refine lv_aload_n hx hb dX3_place_167 rfl (lv_at hl 0 rfl) ?_
        refine lv_iload_n hx hb dX3_place_168 rfl (lv_at hl 1 rfl) ?_
        refine lv_iconst (v := 1) hx hb dX3_place_169 (by decide) ?_
        refine lv_iadd hx hb dX3_place_170 ?_
        refine lv_iload_n hx hb dX3_place_171 rfl (lv_at hl 2 rfl) ?_
        refine lv_iload_n hx hb dX3_place_172 rfl (lv_at hl 3 rfl) ?_
        refine lv_aload_n hx hb dX3_place_173 rfl (lv_at hl 0 rfl) ?_
        refine va_get (D := G) (C := RX3) (T := TX3) (N := 9) (v := .ref (nm 2)) hx hb hts iu_X3 hown hK hP 0 rfl rfl 2 (by decide) (hts _ kw205) (fun _ h9 => h9) rfl dX3_place_174 ?_
        refine lv_iload_n hx hb dX3_place_177 rfl (lv_at hl 1 rfl) ?_
        obtain ⟨g_26, hf⟩ := gd_e hf
        refine va_iald (f := nv_25.2.1 1) hx hb hK hP 2 0 rfl rfl g_26 dX3_place_178 ?_
        refine lv_isub hx hb dX3_place_179 ?_
        obtain ⟨nv_27, hc27, hf⟩ := bd_e hf
        refine call_V (As := [.int (v1 + 1), .int v2, .int (v3 - (nv_25.2.1 1 (ix v1)))]) (rest := []) hx hb hml hown hts hK hP hD hS hA hZ lkX3_61 (c_X3_place_6 l G ct sk sv nm n nv_25 (v1 + 1) v2 (v3 - (nv_25.2.1 1 (ix v1))) hc27) 0 rfl rfl ⟨Nat.le_of_ble_eq_true rfl, Nat.le_of_ble_eq_true rfl⟩ rfl hl.1 rfl (Nat.le_of_ble_eq_true rfl) dX3_place_180 ⟨Nat.le_of_ble_eq_true rfl, Nat.le_of_ble_eq_true rfl⟩ (fun r9 w9 H locs hB hP hD hS => ?_)
        obtain ⟨rfl, rfl⟩ := hB
        refine WG_eq (g2 := F0 m 183 ls []) rfl ?_
        have e1 := Option.some.inj hf
        exact end_v (w' := (wl [lfN ct nm nv_27])) hx hb hr hlocks hK hP hD hS dX3_place_183  ⟨rfl, by rw [← e1]⟩
      · replace hf := bc_t hf c_21
        refine lv_aload_n hx hb dX3_place_49 rfl (lv_at hl 0 rfl) ?_
        refine va_get (D := G) (C := RX3) (T := TX3) (N := 9) (v := .ref (nm 5)) hx hb hts iu_X3 hown hK hP 0 rfl rfl 5 (by decide) (hts _ kw208) (fun _ h9 => h9) rfl dX3_place_50 ?_
        refine lv_iload_n hx hb dX3_place_53 rfl (lv_at hl 1 rfl) ?_
        refine lv_bipush (v := 6) hx hb dX3_place_54 (by decide) ?_
        obtain ⟨g_28, hf⟩ := gd_e hf
        obtain ⟨nv_29, env_29, hf⟩ := bl_e hf
        refine va_iast hx hb hK hP hD hS 5 0 rfl rfl g_28 dX3_place_56 (fun H locs hP hD hS => ?_)
        have hP : va_P G classes (wl [lfN ct nm nv_29]) H := by rw [← env_29]; exact hP
        have hD : va_D A (wl [lfN ct nm nv_29]) := by rw [← env_29]; exact hD
        refine lv_aload_n hx hb dX3_place_57 rfl (lv_at hl 0 rfl) ?_
        refine lv_iload_n hx hb dX3_place_58 rfl (lv_at hl 1 rfl) ?_
        refine lv_iconst (v := 1) hx hb dX3_place_59 (by decide) ?_
        refine lv_iadd hx hb dX3_place_60 ?_
        refine lv_iload_n hx hb dX3_place_61 rfl (lv_at hl 2 rfl) ?_
        refine lv_iload_n hx hb dX3_place_62 rfl (lv_at hl 3 rfl) ?_
        obtain ⟨nv_30, hc30, hf⟩ := bd_e hf
        refine call_V (As := [.int (v1 + 1), .int v2, .int v3]) (rest := []) hx hb hml hown hts hK hP hD hS hA hZ lkX3_61 (c_X3_place_6 l G ct sk sv nm n nv_29 (v1 + 1) v2 v3 hc30) 0 rfl rfl ⟨Nat.le_of_ble_eq_true rfl, Nat.le_of_ble_eq_true rfl⟩ rfl hl.1 rfl (Nat.le_of_ble_eq_true rfl) dX3_place_63 ⟨Nat.le_of_ble_eq_true rfl, Nat.le_of_ble_eq_true rfl⟩ (fun r9 w9 H locs hB hP hD hS => ?_)
        obtain ⟨rfl, rfl⟩ := hB
        refine WG_eq (g2 := F0 m 66 ls []) rfl ?_
        have e1 := Option.some.inj hf
        exact end_v (w' := (wl [lfN ct nm nv_30])) hx hb hr hlocks hK hP hD hS dX3_place_66  ⟨rfl, by rw [← e1]⟩
    · replace hf := bc_f hf c_19
      refine lv_aload_n hx hb dX3_place_19 rfl (lv_at hl 0 rfl) ?_
      refine lv_iload_n hx hb dX3_place_20 rfl (lv_at hl 2 rfl) ?_
      obtain ⟨nv_31, env_31, hf⟩ := bl_e hf
      refine va_put (D := G) (C := RX3) (T := TX3) (N := 9) (ty := .int) hx hb hts iu_X3 tyX3 tyX3_ok nmX3 hown hK hP hD hS 0 rfl rfl 8 (by decide) (hts _ kw212) (fun _ h9 => h9) rfl (by decide +kernel) rfl rfl (Nat.le_of_ble_eq_true rfl) dX3_place_21 (fun H locs hP hD hS => ?_)
      have hP : va_P G classes (wl [lfN ct nm nv_31]) H := by rw [← env_31]; exact hP
      have hD : va_D A (wl [lfN ct nm nv_31]) := by rw [← env_31]; exact hD
      refine lv_aload_n hx hb dX3_place_24 rfl (lv_at hl 0 rfl) ?_
      refine va_get (D := G) (C := RX3) (T := TX3) (N := 9) (v := .ref (nm 5)) hx hb hts iu_X3 hown hK hP 0 rfl rfl 5 (by decide) (hts _ kw208) (fun _ h9 => h9) rfl dX3_place_25 ?_
      refine lv_iconst (v := 0) hx hb dX3_place_28 (by decide) ?_
      refine lv_aload_n hx hb dX3_place_29 rfl (lv_at hl 0 rfl) ?_
      refine va_get (D := G) (C := RX3) (T := TX3) (N := 9) (v := .ref (nm 6)) hx hb hts iu_X3 hown hK hP 0 rfl rfl 6 (by decide) (hts _ kw209) (fun _ h9 => h9) rfl dX3_place_30 ?_
      refine lv_iconst (v := 0) hx hb dX3_place_33 (by decide) ?_
      refine lv_bipush (v := 6) hx hb dX3_place_34 (by decide) ?_
      obtain ⟨g_32, hf⟩ := gd_e hf
      obtain ⟨nv_33, env_33, hf⟩ := bl_e hf
      refine va_copyi (f := nv_31.2.1 4) (g := nv_31.2.1 5) hx hb (hml.trans hl.1.symm) hown (hts _ kw670) (hts _ kw545) (hts _ kw544) (hts _ kw19) hK hP hD hS 5 6 0 0 rfl rfl rfl rfl rfl g_32.1 g_32.2.1 g_32.2.2.1 g_32.2.2.2.1 g_32.2.2.2.2 (fun _ _ => rfl) (Nat.le_of_ble_eq_true rfl) (by decide) dX3_place_36 (fun H locs hP hD hS => ?_)
      have hP : va_P G classes (wl [lfN ct nm nv_33]) H := by rw [← env_33]; exact hP
      have hD : va_D A (wl [lfN ct nm nv_33]) := by rw [← env_33]; exact hD
      have e1 := Option.some.inj hf
      exact end_v (w' := (wl [lfN ct nm nv_33])) hx hb hr hlocks hK hP hD hS dX3_place_39  ⟨rfl, by rw [← e1]⟩
  · replace hf := bc_f hf c_18
    have e1 := Option.some.inj hf
    exact end_v (w' := (wl [lfN ct nm nv])) hx hb hr hlocks hK hP hD hS dX3_place_10  ⟨rfl, by rw [← e1]⟩
set_option maxHeartbeats 4000000 in
set_option maxRecDepth 100000 in
theorem c_X3_place_8 (l : Launch) (G : va_G) (ct : Nat → ClassId) (sk sv : Nat → Nat) (nm : Nat → Nat) (n : Nat) (nv : MV) (v1 : Int32) (v2 : Int32) (v3 : Int32) {nv' : MV} (hf : f_X3_place 8 n nv v1 v2 v3 = some nv') : Ctr (l, G, ct, sk, sv) mX3_place 9 256 [.ref (nm 0), .int v1, .int v2, .int v3] (wl [lfN ct nm nv]) (wl [lfN ct nm nv']) (none) := by
  refine ctr_intro (by decide) (Nat.le_of_ble_eq_true rfl) ?_
  intro p e s m args below meth c A C hP hD hS hA ls hl
  obtain ⟨hx, hb, hml, hown, hts, hr, hlocks, hK, hnm, hZ⟩ := C
  have hb : c.code = cX3_place := hb
  have hml : c.maxLocals = 5 := hml
  have hown : s.vm.findClass "SignedOutside$Names" = some m.cls := hown
  have hr : meth.sig.returnType = none := hr
  have hP : va_P G classes (wl [lfN ct nm nv]) s.heap := hP
  have hD : va_D A (wl [lfN ct nm nv]) := hD
  have hK : va_K G classes (TYS ct) s := hK
  have hl : lv_has ls 5 [(0, .ref (nm 0)), (1, .int v1), (2, .int v2), (3, .int v3)] := hl
  have L70 : ∀ (fu : Nat) (nv : MV) (v1 : Int32) (v2 : Int32) (v3 : Int32) (v4 : Int32) (ex : MV) (H : Heap) (locs : List Loc) (ls : Array Slot), va_P G classes (wl [lfN ct nm nv]) H → va_D A (wl [lfN ct nm nv]) → va_S A s.heap H locs → lv_has ls 5 [(4, .int v4), (0, .ref (nm 0)), (1, .int v1), (2, .int v2), (3, .int v3)] → f_X3_place_l70 fu n (f_X3_place 7 n) nv v1 v2 v3 v4 = some ex → (∀ (x : MV), ex = x → ∀ (H : Heap) (locs : List Loc) (ls : Array Slot), va_P G classes (wl [lfN ct nm x]) H → va_D A (wl [lfN ct nm x]) → va_S A s.heap H locs → lv_has ls 5 [(0, .ref (nm 0)), (1, .int v1), (2, .int v2), (3, .int v3)] → WG l G ct sk sv p e (RM 9 256 0 0) s m args below meth c A (Eq2 (none) (wl [lfN ct nm nv'])) H locs (F0 m 160 ls [])) → WG l G ct sk sv p e (RM 9 256 0 0) s m args below meth c A (Eq2 (none) (wl [lfN ct nm nv'])) H locs (F0 m 70 ls []) := by
    intro fu
    induction fu with
    | zero =>
      intro nv v1 v2 v3 v4 ex H locs ls hP hD hS hl hf
      exact absurd hf (by unfold f_X3_place_l70 lp; exact fun h => by cases h)
    | succ fu ih =>
      intro nv v1 v2 v3 v4 ex H locs ls hP hD hS hl hf hE
      unfold f_X3_place_l70 at hf
      obtain ⟨q, hf, hor⟩ := lp_e hf
      have J154 : ∀ (nv : MV) (v4 : Int32) (H : Heap) (locs : List Loc) (ls : Array Slot), va_P G classes (wl [lfN ct nm nv]) H → va_D A (wl [lfN ct nm nv]) → va_S A s.heap H locs → lv_has ls 5 [(4, .int v4), (0, .ref (nm 0)), (1, .int v1), (2, .int v2), (3, .int v3)] → f_X3_place_j154 n (f_X3_place 7 n) nv v4 v1 v2 v3 = some q → WG l G ct sk sv p e (RM 9 256 0 0) s m args below meth c A (Eq2 (none) (wl [lfN ct nm nv'])) H locs (F0 m 154 ls []) := by
        intro nv v4 H locs ls hP hD hS hl hf
        unfold f_X3_place_j154 at hf
        obtain ⟨v4_1, ev4_1, hf⟩ := bl_e hf
        refine lv_iinc (v := v4_1) (lv' := [(4, .int v4_1), (0, .ref (nm 0)), (1, .int v1), (2, .int v2), (3, .int v3)]) hx hb dX3_place_154 hl (k := 0) rfl ev4_1 (by decide) rfl (fun ls hl => ?_)
        refine lv_goto (tgt := 70) hx hb dX3_place_157 (by decide) ?_
        exact ih nv v1 v2 v3 v4_1 ex _ _ _ hP hD hS hl (lp_inl hor hf) hE
      replace hf : f_X3_place_b70 n (f_X3_place 7 n) nv v4 v1 v2 v3 = some q := hf
      unfold f_X3_place_b70 at hf
      refine lv_iload hx hb dX3_place_70 (lv_at hl 0 rfl) ?_
      refine lv_iconst (v := 5) hx hb dX3_place_72 (by decide) ?_
      refine lv_icmp_ge (tgt := 160) hx hb dX3_place_73 (by decide) (fun c_2 => ?_) (fun c_2 => ?_)
      · replace hf := bc_t hf c_2
        exact hE nv (lp_inr hor hf).symm _ _ _ hP hD hS (lv_sub hl [1, 2, 3, 4] rfl)
      · replace hf := bc_f hf c_2
        refine lv_aload_n hx hb dX3_place_76 rfl (lv_at hl 1 rfl) ?_
        refine va_get (D := G) (C := RX3) (T := TX3) (N := 9) (v := .ref (nm 1)) hx hb hts iu_X3 hown hK hP 0 rfl rfl 1 (by decide) (hts _ kw204) (fun _ h9 => h9) rfl dX3_place_77 ?_
        refine lv_iload_n hx hb dX3_place_80 rfl (lv_at hl 2 rfl) ?_
        obtain ⟨g_3, hf⟩ := gd_e hf
        refine va_iald (f := nv.2.1 0) hx hb hK hP 1 0 rfl rfl g_3 dX3_place_81 ?_
        refine lv_iload hx hb dX3_place_82 (lv_at hl 0 rfl) ?_
        refine lv_ishr hx hb dX3_place_84 ?_
        refine lv_iconst (v := 1) hx hb dX3_place_85 (by decide) ?_
        refine lv_iand hx hb dX3_place_86 ?_
        refine lv_iconst (v := 1) hx hb dX3_place_87 (by decide) ?_
        refine lv_icmp_ne (tgt := 154) hx hb dX3_place_88 (by decide) (fun c_4 => ?_) (fun c_4 => ?_)
        · replace hf := bc_f hf c_4
          exact J154 nv v4 _ _ _ hP hD hS hl hf
        · replace hf := bc_t hf c_4
          refine lv_aload_n hx hb dX3_place_91 rfl (lv_at hl 1 rfl) ?_
          refine va_get (D := G) (C := RX3) (T := TX3) (N := 9) (v := .ref (nm 4)) hx hb hts iu_X3 hown hK hP 0 rfl rfl 4 (by decide) (hts _ kw207) (fun _ h9 => h9) rfl dX3_place_92 ?_
          refine lv_iload hx hb dX3_place_95 (lv_at hl 0 rfl) ?_
          obtain ⟨g_5, hf⟩ := gd_e hf
          refine va_iald (f := nv.2.1 3) hx hb hK hP 4 0 rfl rfl g_5 dX3_place_97 ?_
          refine lv_if_le (tgt := 154) hx hb dX3_place_98 (by decide) (fun c_6 => ?_) (fun c_6 => ?_)
          · replace hf := bc_t hf c_6
            exact J154 nv v4 _ _ _ hP hD hS hl hf
          · replace hf := bc_f hf c_6
            refine lv_aload_n hx hb dX3_place_101 rfl (lv_at hl 1 rfl) ?_
            refine va_get (D := G) (C := RX3) (T := TX3) (N := 9) (v := .ref (nm 4)) hx hb hts iu_X3 hown hK hP 0 rfl rfl 4 (by decide) (hts _ kw207) (fun _ h9 => h9) rfl dX3_place_102 ?_
            refine lv_iload hx hb dX3_place_105 (lv_at hl 0 rfl) ?_
            refine lv_dup2_11 hx hb dX3_place_107 rfl rfl ?_
            obtain ⟨g_7, hf⟩ := gd_e hf
            refine va_iald (f := nv.2.1 3) hx hb hK hP 4 0 rfl rfl g_7 dX3_place_108 ?_
            refine lv_iconst (v := 1) hx hb dX3_place_109 (by decide) ?_
            refine lv_isub hx hb dX3_place_110 ?_
            obtain ⟨g_8, hf⟩ := gd_e hf
            obtain ⟨nv_9, env_9, hf⟩ := bl_e hf
            refine va_iast hx hb hK hP hD hS 4 0 rfl rfl g_8 dX3_place_111 (fun H locs hP hD hS => ?_)
            have hP : va_P G classes (wl [lfN ct nm nv_9]) H := by rw [← env_9]; exact hP
            have hD : va_D A (wl [lfN ct nm nv_9]) := by rw [← env_9]; exact hD
            refine lv_aload_n hx hb dX3_place_112 rfl (lv_at hl 1 rfl) ?_
            refine va_get (D := G) (C := RX3) (T := TX3) (N := 9) (v := .ref (nm 5)) hx hb hts iu_X3 hown hK hP 0 rfl rfl 5 (by decide) (hts _ kw208) (fun _ h9 => h9) rfl dX3_place_113 ?_
            refine lv_iload_n hx hb dX3_place_116 rfl (lv_at hl 2 rfl) ?_
            refine lv_iload hx hb dX3_place_117 (lv_at hl 0 rfl) ?_
            obtain ⟨g_10, hf⟩ := gd_e hf
            obtain ⟨nv_11, env_11, hf⟩ := bl_e hf
            refine va_iast hx hb hK hP hD hS 5 0 rfl rfl g_10 dX3_place_119 (fun H locs hP hD hS => ?_)
            have hP : va_P G classes (wl [lfN ct nm nv_11]) H := by rw [← env_11]; exact hP
            have hD : va_D A (wl [lfN ct nm nv_11]) := by rw [← env_11]; exact hD
            refine lv_aload_n hx hb dX3_place_120 rfl (lv_at hl 1 rfl) ?_
            refine lv_iload_n hx hb dX3_place_121 rfl (lv_at hl 2 rfl) ?_
            refine lv_iconst (v := 1) hx hb dX3_place_122 (by decide) ?_
            refine lv_iadd hx hb dX3_place_123 ?_
            refine lv_iload_n hx hb dX3_place_124 rfl (lv_at hl 3 rfl) ?_
            refine lv_aload_n hx hb dX3_place_125 rfl (lv_at hl 1 rfl) ?_
            refine va_get (D := G) (C := RX3) (T := TX3) (N := 9) (v := .ref (nm 2)) hx hb hts iu_X3 hown hK hP 0 rfl rfl 2 (by decide) (hts _ kw205) (fun _ h9 => h9) rfl dX3_place_126 ?_
            refine lv_iload_n hx hb dX3_place_129 rfl (lv_at hl 2 rfl) ?_
            obtain ⟨g_12, hf⟩ := gd_e hf
            refine va_iald (f := nv_11.2.1 1) hx hb hK hP 2 0 rfl rfl g_12 dX3_place_130 ?_
            refine lv_iadd hx hb dX3_place_131 ?_
            refine lv_iload_n hx hb dX3_place_132 rfl (lv_at hl 4 rfl) ?_
            refine lv_aload_n hx hb dX3_place_133 rfl (lv_at hl 1 rfl) ?_
            refine va_get (D := G) (C := RX3) (T := TX3) (N := 9) (v := .ref (nm 2)) hx hb hts iu_X3 hown hK hP 0 rfl rfl 2 (by decide) (hts _ kw205) (fun _ h9 => h9) rfl dX3_place_134 ?_
            refine lv_iload_n hx hb dX3_place_137 rfl (lv_at hl 2 rfl) ?_
            obtain ⟨g_13, hf⟩ := gd_e hf
            refine va_iald (f := nv_11.2.1 1) hx hb hK hP 2 0 rfl rfl g_13 dX3_place_138 ?_
            refine lv_isub hx hb dX3_place_139 ?_
            obtain ⟨nv_14, hc14, hf⟩ := bd_e hf
            refine call_V (As := [.int (v1 + 1), .int (v2 + (nv_11.2.1 1 (ix v1))), .int (v3 - (nv_11.2.1 1 (ix v1)))]) (rest := []) hx hb hml hown hts hK hP hD hS hA hZ lkX3_61 (c_X3_place_7 l G ct sk sv nm n nv_11 (v1 + 1) (v2 + (nv_11.2.1 1 (ix v1))) (v3 - (nv_11.2.1 1 (ix v1))) hc14) 0 rfl rfl ⟨Nat.le_of_ble_eq_true rfl, Nat.le_of_ble_eq_true rfl⟩ rfl hl.1 rfl (Nat.le_of_ble_eq_true rfl) dX3_place_140 ⟨Nat.le_of_ble_eq_true rfl, Nat.le_of_ble_eq_true rfl⟩ (fun r9 w9 H locs hB hP hD hS => ?_)
            obtain ⟨rfl, rfl⟩ := hB
            refine WG_eq (g2 := F0 m 143 ls []) rfl ?_
            refine lv_aload_n hx hb dX3_place_143 rfl (lv_at hl 1 rfl) ?_
            refine va_get (D := G) (C := RX3) (T := TX3) (N := 9) (v := .ref (nm 4)) hx hb hts iu_X3 hown hK hP 0 rfl rfl 4 (by decide) (hts _ kw207) (fun _ h9 => h9) rfl dX3_place_144 ?_
            refine lv_iload hx hb dX3_place_147 (lv_at hl 0 rfl) ?_
            refine lv_dup2_11 hx hb dX3_place_149 rfl rfl ?_
            obtain ⟨g_15, hf⟩ := gd_e hf
            refine va_iald (f := nv_14.2.1 3) hx hb hK hP 4 0 rfl rfl g_15 dX3_place_150 ?_
            refine lv_iconst (v := 1) hx hb dX3_place_151 (by decide) ?_
            refine lv_iadd hx hb dX3_place_152 ?_
            obtain ⟨g_16, hf⟩ := gd_e hf
            obtain ⟨nv_17, env_17, hf⟩ := bl_e hf
            refine va_iast hx hb hK hP hD hS 4 0 rfl rfl g_16 dX3_place_153 (fun H locs hP hD hS => ?_)
            have hP : va_P G classes (wl [lfN ct nm nv_17]) H := by rw [← env_17]; exact hP
            have hD : va_D A (wl [lfN ct nm nv_17]) := by rw [← env_17]; exact hD
            exact J154 nv_17 v4 _ _ _ hP hD hS hl hf
  replace hf : f_X3_place_step n (f_X3_place 7 n) nv v1 v2 v3 = some nv' := hf
  unfold f_X3_place_step at hf
  show WG l G ct sk sv p e (RM 9 256 0 0) s m args below meth c A (Eq2 (none) (wl [lfN ct nm nv'])) s.heap [] (F0 m 0 ls [])
  refine lv_iload_n hx hb dX3_place_0 rfl (lv_at hl 2 rfl) ?_
  refine lv_iload_n hx hb dX3_place_1 rfl (lv_at hl 3 rfl) ?_
  refine lv_iadd hx hb dX3_place_2 ?_
  refine lv_aload_n hx hb dX3_place_3 rfl (lv_at hl 0 rfl) ?_
  refine va_get (D := G) (C := RX3) (T := TX3) (N := 9) (v := .int (nv.1 1)) hx hb hts iu_X3 hown hK hP 0 rfl rfl 8 (by decide) (hts _ kw212) (fun _ h9 => h9) rfl dX3_place_4 ?_
  refine lv_icmp_gt (tgt := 11) hx hb dX3_place_7 (by decide) (fun c_18 => ?_) (fun c_18 => ?_)
  · replace hf := bc_t hf c_18
    refine lv_iload_n hx hb dX3_place_11 rfl (lv_at hl 1 rfl) ?_
    refine lv_aload_n hx hb dX3_place_12 rfl (lv_at hl 0 rfl) ?_
    refine va_get (D := G) (C := RX3) (T := TX3) (N := 9) (v := .int (nv.1 0)) hx hb hts iu_X3 hown hK hP 0 rfl rfl 0 (by decide) (hts _ kw203) (fun _ h9 => h9) rfl dX3_place_13 ?_
    refine lv_icmp_lt (tgt := 40) hx hb dX3_place_16 (by decide) (fun c_19 => ?_) (fun c_19 => ?_)
    · replace hf := bc_t hf c_19
      refine lv_aload_n hx hb dX3_place_40 rfl (lv_at hl 0 rfl) ?_
      refine va_get (D := G) (C := RX3) (T := TX3) (N := 9) (v := .ref (nm 3)) hx hb hts iu_X3 hown hK hP 0 rfl rfl 3 (by decide) (hts _ kw206) (fun _ h9 => h9) rfl dX3_place_41 ?_
      refine lv_iload_n hx hb dX3_place_44 rfl (lv_at hl 1 rfl) ?_
      obtain ⟨g_20, hf⟩ := gd_e hf
      refine va_zald (f := nv.2.1 2) hx hb hK hP 3 1 rfl rfl g_20 dX3_place_45 ?_
      refine lv_if_ne (tgt := 67) hx hb dX3_place_46 (by decide) (fun c_21 => ?_) (fun c_21 => ?_)
      · replace hf := bc_f hf c_21
        refine lv_iconst (v := 0) hx hb dX3_place_67 (by decide) ?_
        refine lv_istore (lv' := [(4, .int 0), (0, .ref (nm 0)), (1, .int v1), (2, .int v2), (3, .int v3)]) hx hb dX3_place_68 hl (by decide) rfl (fun ls hl => ?_)
        obtain ⟨nv_22, hx_23, hf⟩ := bd_e hf
        refine L70 n nv v1 v2 v3 0 nv_22 _ _ _ hP hD hS hl hx_23 ?_
        intro x9 e9 H locs ls hP hD hS hl
        subst e9
        have hP : va_P G classes (wl [lfN ct nm nv_22]) H := hP
        have hD : va_D A (wl [lfN ct nm nv_22]) := hD
        have hl : lv_has ls 5 [(0, .ref (nm 0)), (1, .int v1), (2, .int v2), (3, .int v3)] := hl
        refine lv_aload_n hx hb dX3_place_160 rfl (lv_at hl 0 rfl) ?_
        refine va_get (D := G) (C := RX3) (T := TX3) (N := 9) (v := .ref (nm 5)) hx hb hts iu_X3 hown hK hP 0 rfl rfl 5 (by decide) (hts _ kw208) (fun _ h9 => h9) rfl dX3_place_161 ?_
        refine lv_iload_n hx hb dX3_place_164 rfl (lv_at hl 1 rfl) ?_
        refine lv_iconst (v := 5) hx hb dX3_place_165 (by decide) ?_
        obtain ⟨g_24, hf⟩ := gd_e hf
        obtain ⟨nv_25, env_25, hf⟩ := bl_e hf
        refine va_iast hx hb hK hP hD hS 5 0 rfl rfl g_24 dX3_place_166 (fun H locs hP hD hS => ?_)
        have hP : va_P G classes (wl [lfN ct nm nv_25]) H := by rw [← env_25]; exact hP
        have hD : va_D A (wl [lfN ct nm nv_25]) := by rw [← env_25]; exact hD
        refine lv_aload_n hx hb dX3_place_167 rfl (lv_at hl 0 rfl) ?_
        refine lv_iload_n hx hb dX3_place_168 rfl (lv_at hl 1 rfl) ?_
        refine lv_iconst (v := 1) hx hb dX3_place_169 (by decide) ?_
        refine lv_iadd hx hb dX3_place_170 ?_
        refine lv_iload_n hx hb dX3_place_171 rfl (lv_at hl 2 rfl) ?_
        refine lv_iload_n hx hb dX3_place_172 rfl (lv_at hl 3 rfl) ?_
        refine lv_aload_n hx hb dX3_place_173 rfl (lv_at hl 0 rfl) ?_
        refine va_get (D := G) (C := RX3) (T := TX3) (N := 9) (v := .ref (nm 2)) hx hb hts iu_X3 hown hK hP 0 rfl rfl 2 (by decide) (hts _ kw205) (fun _ h9 => h9) rfl dX3_place_174 ?_
        refine lv_iload_n hx hb dX3_place_177 rfl (lv_at hl 1 rfl) ?_
        obtain ⟨g_26, hf⟩ := gd_e hf
        refine va_iald (f := nv_25.2.1 1) hx hb hK hP 2 0 rfl rfl g_26 dX3_place_178 ?_
        refine lv_isub hx hb dX3_place_179 ?_
        obtain ⟨nv_27, hc27, hf⟩ := bd_e hf
        refine call_V (As := [.int (v1 + 1), .int v2, .int (v3 - (nv_25.2.1 1 (ix v1)))]) (rest := []) hx hb hml hown hts hK hP hD hS hA hZ lkX3_61 (c_X3_place_7 l G ct sk sv nm n nv_25 (v1 + 1) v2 (v3 - (nv_25.2.1 1 (ix v1))) hc27) 0 rfl rfl ⟨Nat.le_of_ble_eq_true rfl, Nat.le_of_ble_eq_true rfl⟩ rfl hl.1 rfl (Nat.le_of_ble_eq_true rfl) dX3_place_180 ⟨Nat.le_of_ble_eq_true rfl, Nat.le_of_ble_eq_true rfl⟩ (fun r9 w9 H locs hB hP hD hS => ?_)
        obtain ⟨rfl, rfl⟩ := hB
        refine WG_eq (g2 := F0 m 183 ls []) rfl ?_
        have e1 := Option.some.inj hf
        exact end_v (w' := (wl [lfN ct nm nv_27])) hx hb hr hlocks hK hP hD hS dX3_place_183  ⟨rfl, by rw [← e1]⟩
      · replace hf := bc_t hf c_21
        refine lv_aload_n hx hb dX3_place_49 rfl (lv_at hl 0 rfl) ?_
        refine va_get (D := G) (C := RX3) (T := TX3) (N := 9) (v := .ref (nm 5)) hx hb hts iu_X3 hown hK hP 0 rfl rfl 5 (by decide) (hts _ kw208) (fun _ h9 => h9) rfl dX3_place_50 ?_
        refine lv_iload_n hx hb dX3_place_53 rfl (lv_at hl 1 rfl) ?_
        refine lv_bipush (v := 6) hx hb dX3_place_54 (by decide) ?_
        obtain ⟨g_28, hf⟩ := gd_e hf
        obtain ⟨nv_29, env_29, hf⟩ := bl_e hf
        refine va_iast hx hb hK hP hD hS 5 0 rfl rfl g_28 dX3_place_56 (fun H locs hP hD hS => ?_)
        have hP : va_P G classes (wl [lfN ct nm nv_29]) H := by rw [← env_29]; exact hP
        have hD : va_D A (wl [lfN ct nm nv_29]) := by rw [← env_29]; exact hD
        refine lv_aload_n hx hb dX3_place_57 rfl (lv_at hl 0 rfl) ?_
        refine lv_iload_n hx hb dX3_place_58 rfl (lv_at hl 1 rfl) ?_
        refine lv_iconst (v := 1) hx hb dX3_place_59 (by decide) ?_
        refine lv_iadd hx hb dX3_place_60 ?_
        refine lv_iload_n hx hb dX3_place_61 rfl (lv_at hl 2 rfl) ?_
        refine lv_iload_n hx hb dX3_place_62 rfl (lv_at hl 3 rfl) ?_
        obtain ⟨nv_30, hc30, hf⟩ := bd_e hf
        refine call_V (As := [.int (v1 + 1), .int v2, .int v3]) (rest := []) hx hb hml hown hts hK hP hD hS hA hZ lkX3_61 (c_X3_place_7 l G ct sk sv nm n nv_29 (v1 + 1) v2 v3 hc30) 0 rfl rfl ⟨Nat.le_of_ble_eq_true rfl, Nat.le_of_ble_eq_true rfl⟩ rfl hl.1 rfl (Nat.le_of_ble_eq_true rfl) dX3_place_63 ⟨Nat.le_of_ble_eq_true rfl, Nat.le_of_ble_eq_true rfl⟩ (fun r9 w9 H locs hB hP hD hS => ?_)
        obtain ⟨rfl, rfl⟩ := hB
        refine WG_eq (g2 := F0 m 66 ls []) rfl ?_
        have e1 := Option.some.inj hf
        exact end_v (w' := (wl [lfN ct nm nv_30])) hx hb hr hlocks hK hP hD hS dX3_place_66  ⟨rfl, by rw [← e1]⟩
    · replace hf := bc_f hf c_19
      refine lv_aload_n hx hb dX3_place_19 rfl (lv_at hl 0 rfl) ?_
      refine lv_iload_n hx hb dX3_place_20 rfl (lv_at hl 2 rfl) ?_
      obtain ⟨nv_31, env_31, hf⟩ := bl_e hf
      refine va_put (D := G) (C := RX3) (T := TX3) (N := 9) (ty := .int) hx hb hts iu_X3 tyX3 tyX3_ok nmX3 hown hK hP hD hS 0 rfl rfl 8 (by decide) (hts _ kw212) (fun _ h9 => h9) rfl (by decide +kernel) rfl rfl (Nat.le_of_ble_eq_true rfl) dX3_place_21 (fun H locs hP hD hS => ?_)
      have hP : va_P G classes (wl [lfN ct nm nv_31]) H := by rw [← env_31]; exact hP
      have hD : va_D A (wl [lfN ct nm nv_31]) := by rw [← env_31]; exact hD
      refine lv_aload_n hx hb dX3_place_24 rfl (lv_at hl 0 rfl) ?_
      refine va_get (D := G) (C := RX3) (T := TX3) (N := 9) (v := .ref (nm 5)) hx hb hts iu_X3 hown hK hP 0 rfl rfl 5 (by decide) (hts _ kw208) (fun _ h9 => h9) rfl dX3_place_25 ?_
      refine lv_iconst (v := 0) hx hb dX3_place_28 (by decide) ?_
      refine lv_aload_n hx hb dX3_place_29 rfl (lv_at hl 0 rfl) ?_
      refine va_get (D := G) (C := RX3) (T := TX3) (N := 9) (v := .ref (nm 6)) hx hb hts iu_X3 hown hK hP 0 rfl rfl 6 (by decide) (hts _ kw209) (fun _ h9 => h9) rfl dX3_place_30 ?_
      refine lv_iconst (v := 0) hx hb dX3_place_33 (by decide) ?_
      refine lv_bipush (v := 6) hx hb dX3_place_34 (by decide) ?_
      obtain ⟨g_32, hf⟩ := gd_e hf
      obtain ⟨nv_33, env_33, hf⟩ := bl_e hf
      refine va_copyi (f := nv_31.2.1 4) (g := nv_31.2.1 5) hx hb (hml.trans hl.1.symm) hown (hts _ kw670) (hts _ kw545) (hts _ kw544) (hts _ kw19) hK hP hD hS 5 6 0 0 rfl rfl rfl rfl rfl g_32.1 g_32.2.1 g_32.2.2.1 g_32.2.2.2.1 g_32.2.2.2.2 (fun _ _ => rfl) (Nat.le_of_ble_eq_true rfl) (by decide) dX3_place_36 (fun H locs hP hD hS => ?_)
      have hP : va_P G classes (wl [lfN ct nm nv_33]) H := by rw [← env_33]; exact hP
      have hD : va_D A (wl [lfN ct nm nv_33]) := by rw [← env_33]; exact hD
      have e1 := Option.some.inj hf
      exact end_v (w' := (wl [lfN ct nm nv_33])) hx hb hr hlocks hK hP hD hS dX3_place_39  ⟨rfl, by rw [← e1]⟩
  · replace hf := bc_f hf c_18
    have e1 := Option.some.inj hf
    exact end_v (w' := (wl [lfN ct nm nv])) hx hb hr hlocks hK hP hD hS dX3_place_10  ⟨rfl, by rw [← e1]⟩
noncomputable def f_X3_solve_j76 (n : Nat) (nv : MV) (h : MV) (v4 : Int32) (v3 : Int32) (v2 : Int32) (s0 : Int32) (s1 : Int32) : Option ((Int32 × Int32 × MV) ⊕ (Int32 × MV)) :=
  gd (vp_in s1 6) <|
  bl (setA nv 1 (upd (nv.2.1 1) (ix s1) s0)) fun nv_2 =>
  gd (vp_in v4 6) <|
  bl (v3 + (nv_2.2.1 1 (ix v4))) fun v3_4 =>
  bl (v4 + 1) fun v4_5 =>
  some (.inl (v4_5, v3_4, nv_2))
noncomputable def f_X3_solve_b13 (n : Nat) (nv : MV) (h : MV) (v4 : Int32) (v3 : Int32) (v2 : Int32) : Option ((Int32 × Int32 × MV) ⊕ (Int32 × MV)) :=
  bc ((nv.1 0) ≤ v4) (some (.inr (v3, nv)))
  (bd (f_X1_lies n h v4) fun r_7 =>
  gd (vp_in v4 6) <|
  bl (setA nv 2 (upd (nv.2.1 2) (ix v4) (vp_nar .boolean r_7))) fun nv_9 =>
  bd (f_X1_whoMayFrank n h v4) fun r_10 =>
  gd (vp_in v4 6) <|
  bl (setA nv_9 0 (upd (nv_9.2.1 0) (ix v4) (r_10 &&& v2))) fun nv_12 =>
  gd (vp_in v4 6) <|
  bc ((nv_12.2.1 0 (ix v4)) = 0) (f_X3_solve_j76 n nv_12 h v4 v3 v2 0 v4)
  (bd (f_X1_postage n h v4) fun r_15 =>
  f_X3_solve_j76 n nv_12 h v4 v3 v2 r_15 v4))
noncomputable def f_X3_solve_l13 (fu : Nat) (n : Nat) (nv : MV) (h : MV) (v2 : Int32) (v4 : Int32) (v3 : Int32) : Option (Int32 × MV) :=
  lp (fun q => f_X3_solve_b13 n q.2.2 h q.1 q.2.1 v2) fu (v4, v3, nv)
noncomputable def f_X3_solve_j127 (n : Nat) (nv : MV) (h : MV) (v4 : Int32) (v3 : Int32) (s0 : Int32) (s1 : Int32) : Option ((Int32 × MV) ⊕ (MV)) :=
  gd (vp_in s1 5) <|
  bl (setA nv 3 (upd (nv.2.1 3) (ix s1) s0)) fun nv_17 =>
  bl (v4 + 1) fun v4_18 =>
  some (.inl (v4_18, nv_17))
noncomputable def f_X3_solve_b96 (n : Nat) (nv : MV) (h : MV) (v4 : Int32) (v3 : Int32) : Option ((Int32 × MV) ⊕ (MV)) :=
  bc (5 ≤ v4) (some (.inr nv))
  (bc ((h.1 0) ≤ v4) (f_X3_solve_j127 n nv h v4 v3 0 v4)
  (bd (f_X1_coversLeft n h v4) fun r_21 =>
  f_X3_solve_j127 n nv h v4 v3 r_21 v4))
noncomputable def f_X3_solve_l96 (fu : Nat) (n : Nat) (nv : MV) (h : MV) (v3 : Int32) (v4 : Int32) : Option (MV) :=
  lp (fun q => f_X3_solve_b96 n q.2 h q.1 v3) fu (v4, nv)
noncomputable def f_X3_solve (n : Nat) (nv : MV) (h : MV) (v2 : Int32) : Option (Int32 × MV) :=
  bl (setS nv 0 (h.1 1)) fun nv_22 =>
  bd2 (f_X3_solve_l13 n n nv_22 h v2 0 0) fun v3_23 nv_24 =>
  bd (f_X3_solve_l96 n n nv_24 h v3_23 0) fun nv_26 =>
  bl (setS nv_26 1 (-1)) fun nv_28 =>
  bd (f_X3_place 8 n nv_28 0 0 v3_23) fun nv_29 =>
  some (nv_29.1 1, nv_29)
set_option maxHeartbeats 4000000 in
set_option maxRecDepth 100000 in
theorem c_X3_solve (l : Launch) (G : va_G) (ct : Nat → ClassId) (sk sv : Nat → Nat) (nm : Nat → Nat) (a : Nat → Nat) (k : Nat → Nat) (n : Nat) (nv : MV) (h : MV) (v2 : Int32) {r : Int32} {nv' : MV} (hf : f_X3_solve n nv h v2 = some (r, nv')) : Ctr (l, G, ct, sk, sv) mX3_solve 10 280 [.ref (nm 0), .ref (a 0), .int v2] (wl [lfN ct nm nv, lfH ct a k h, lfK ct k]) (wl [lfN ct nm nv', lfH ct a k h, lfK ct k]) (some (.int r)) := by
  refine ctr_intro (by decide) (Nat.le_of_ble_eq_true rfl) ?_
  intro p e s m args below meth c A C hP hD hS hA ls hl
  obtain ⟨hx, hb, hml, hown, hts, hr, hlocks, hK, hnm, hZ⟩ := C
  have hb : c.code = cX3_solve := hb
  have hml : c.maxLocals = 5 := hml
  have hown : s.vm.findClass "SignedOutside$Names" = some m.cls := hown
  have hr : meth.sig.returnType = some .int := hr
  have hP : va_P G classes (wl [lfN ct nm nv, lfH ct a k h, lfK ct k]) s.heap := hP
  have hD : va_D A (wl [lfN ct nm nv, lfH ct a k h, lfK ct k]) := hD
  have hK : va_K G classes (TYS ct) s := hK
  have hl : lv_has ls 5 [(0, .ref (nm 0)), (1, .ref (a 0)), (2, .int v2)] := hl
  have L13 : ∀ (fu : Nat) (nv : MV) (v2 : Int32) (v4 : Int32) (v3 : Int32) (ex : Int32 × MV) (H : Heap) (locs : List Loc) (ls : Array Slot), va_P G classes (wl [lfN ct nm nv, lfH ct a k h, lfK ct k]) H → va_D A (wl [lfN ct nm nv, lfH ct a k h, lfK ct k]) → va_S A s.heap H locs → lv_has ls 5 [(4, .int v4), (3, .int v3), (0, .ref (nm 0)), (1, .ref (a 0)), (2, .int v2)] → f_X3_solve_l13 fu n nv h v2 v4 v3 = some ex → (∀ (x : Int32 × MV), ex = x → ∀ (H : Heap) (locs : List Loc) (ls : Array Slot), va_P G classes (wl [lfN ct nm x.2, lfH ct a k h, lfK ct k]) H → va_D A (wl [lfN ct nm x.2, lfH ct a k h, lfK ct k]) → va_S A s.heap H locs → lv_has ls 5 [(3, .int x.1), (0, .ref (nm 0)), (1, .ref (a 0))] → WG l G ct sk sv p e (RM 10 280 0 0) s m args below meth c A (Eq2 (some (.int r)) (wl [lfN ct nm nv', lfH ct a k h, lfK ct k])) H locs (F0 m 93 ls [])) → WG l G ct sk sv p e (RM 10 280 0 0) s m args below meth c A (Eq2 (some (.int r)) (wl [lfN ct nm nv', lfH ct a k h, lfK ct k])) H locs (F0 m 13 ls []) := by
    intro fu
    induction fu with
    | zero =>
      intro nv v2 v4 v3 ex H locs ls hP hD hS hl hf
      exact absurd hf (by unfold f_X3_solve_l13 lp; exact fun h => by cases h)
    | succ fu ih =>
      intro nv v2 v4 v3 ex H locs ls hP hD hS hl hf hE
      unfold f_X3_solve_l13 at hf
      obtain ⟨q, hf, hor⟩ := lp_e hf
      have J76 : ∀ (nv : MV) (v4 : Int32) (v3 : Int32) (s0 : Int32) (s1 : Int32) (H : Heap) (locs : List Loc) (ls : Array Slot), va_P G classes (wl [lfN ct nm nv, lfH ct a k h, lfK ct k]) H → va_D A (wl [lfN ct nm nv, lfH ct a k h, lfK ct k]) → va_S A s.heap H locs → lv_has ls 5 [(4, .int v4), (3, .int v3), (0, .ref (nm 0)), (1, .ref (a 0)), (2, .int v2)] → f_X3_solve_j76 n nv h v4 v3 v2 s0 s1 = some q → WG l G ct sk sv p e (RM 10 280 0 0) s m args below meth c A (Eq2 (some (.int r)) (wl [lfN ct nm nv', lfH ct a k h, lfK ct k])) H locs (F0 m 76 ls [.int s0, .int s1, .ref (nm 2)]) := by
        intro nv v4 v3 s0 s1 H locs ls hP hD hS hl hf
        unfold f_X3_solve_j76 at hf
        obtain ⟨g_1, hf⟩ := gd_e hf
        obtain ⟨nv_2, env_2, hf⟩ := bl_e hf
        refine va_iast hx hb hK hP hD hS 2 0 rfl rfl g_1 dX3_solve_76 (fun H locs hP hD hS => ?_)
        have hP : va_P G classes (wl [lfN ct nm nv_2, lfH ct a k h, lfK ct k]) H := by rw [← env_2]; exact hP
        have hD : va_D A (wl [lfN ct nm nv_2, lfH ct a k h, lfK ct k]) := by rw [← env_2]; exact hD
        refine lv_iload_n hx hb dX3_solve_77 rfl (lv_at hl 1 rfl) ?_
        refine lv_aload_n hx hb dX3_solve_78 rfl (lv_at hl 2 rfl) ?_
        refine va_get (D := G) (C := RX3) (T := TX3) (N := 9) (v := .ref (nm 2)) hx hb hts iu_X3 hown hK hP 0 rfl rfl 2 (by decide) (hts _ kw205) (fun _ h9 => h9) rfl dX3_solve_79 ?_
        refine lv_iload hx hb dX3_solve_82 (lv_at hl 0 rfl) ?_
        obtain ⟨g_3, hf⟩ := gd_e hf
        refine va_iald (f := nv_2.2.1 1) hx hb hK hP 2 0 rfl rfl g_3 dX3_solve_84 ?_
        refine lv_iadd hx hb dX3_solve_85 ?_
        refine lv_topi (fun v3_4 ev3_4 => ?_)
        replace hf := bl_i hf ev3_4
        refine lv_istore_n (lv' := [(3, .int v3_4), (4, .int v4), (0, .ref (nm 0)), (1, .ref (a 0)), (2, .int v2)]) hx hb dX3_solve_86 rfl hl (by decide) rfl (fun ls hl => ?_)
        obtain ⟨v4_5, ev4_5, hf⟩ := bl_e hf
        refine lv_iinc (v := v4_5) (lv' := [(4, .int v4_5), (3, .int v3_4), (0, .ref (nm 0)), (1, .ref (a 0)), (2, .int v2)]) hx hb dX3_solve_87 hl (k := 1) rfl ev4_5 (by decide) rfl (fun ls hl => ?_)
        refine lv_goto (tgt := 13) hx hb dX3_solve_90 (by decide) ?_
        exact ih nv_2 v2 v4_5 v3_4 ex _ _ _ hP hD hS hl (lp_inl hor hf) hE
      replace hf : f_X3_solve_b13 n nv h v4 v3 v2 = some q := hf
      unfold f_X3_solve_b13 at hf
      refine lv_iload hx hb dX3_solve_13 (lv_at hl 0 rfl) ?_
      refine lv_aload_n hx hb dX3_solve_15 rfl (lv_at hl 2 rfl) ?_
      refine va_get (D := G) (C := RX3) (T := TX3) (N := 9) (v := .int (nv.1 0)) hx hb hts iu_X3 hown hK hP 0 rfl rfl 0 (by decide) (hts _ kw203) (fun _ h9 => h9) rfl dX3_solve_16 ?_
      refine lv_icmp_ge (tgt := 93) hx hb dX3_solve_19 (by decide) (fun c_6 => ?_) (fun c_6 => ?_)
      · replace hf := bc_t hf c_6
        exact hE (v3, nv) (lp_inr hor hf).symm _ _ _ hP hD hS (lv_sub hl [1, 2, 3] rfl)
      · replace hf := bc_f hf c_6
        refine lv_aload_n hx hb dX3_solve_22 rfl (lv_at hl 2 rfl) ?_
        refine va_get (D := G) (C := RX3) (T := TX3) (N := 9) (v := .ref (nm 3)) hx hb hts iu_X3 hown hK hP 0 rfl rfl 3 (by decide) (hts _ kw206) (fun _ h9 => h9) rfl dX3_solve_23 ?_
        refine lv_iload hx hb dX3_solve_26 (lv_at hl 0 rfl) ?_
        refine lv_aload_n hx hb dX3_solve_28 rfl (lv_at hl 3 rfl) ?_
        refine lv_iload hx hb dX3_solve_29 (lv_at hl 0 rfl) ?_
        obtain ⟨r_7, hc7, hf⟩ := bd_e hf
        refine call_V (As := [.int v4]) (rest := [.int v4, .ref (nm 3)]) hx hb hml hown hts hK hP hD hS hA hZ lkX3_41 (Ctr.upL (c_X1_lies l G ct sk sv a k n h v4 hc7) [lfN ct nm nv, lfK ct k] [lfN ct nm nv, lfH ct a k h, lfK ct k] [lfN ct nm nv, lfH ct a k h, lfK ct k] [1, 0, 2] 3 (by decide) rfl rfl rfl rfl) 8 rfl rfl ⟨Nat.le_of_ble_eq_true rfl, Nat.le_of_ble_eq_true rfl⟩ rfl hl.1 rfl (Nat.le_of_ble_eq_true rfl) dX3_solve_31 ⟨Nat.le_of_ble_eq_true rfl, Nat.le_of_ble_eq_true rfl⟩ (fun r9 w9 H locs hB hP hD hS => ?_)
        obtain ⟨rfl, rfl⟩ := hB
        refine WG_eq (g2 := F0 m 34 ls [.int r_7, .int v4, .ref (nm 3)]) rfl ?_
        obtain ⟨g_8, hf⟩ := gd_e hf
        obtain ⟨nv_9, env_9, hf⟩ := bl_e hf
        refine va_zast hx hb hK hP hD hS 3 1 rfl rfl g_8 dX3_solve_34 (fun H locs hP hD hS => ?_)
        have hP : va_P G classes (wl [lfN ct nm nv_9, lfH ct a k h, lfK ct k]) H := by rw [← env_9]; exact hP
        have hD : va_D A (wl [lfN ct nm nv_9, lfH ct a k h, lfK ct k]) := by rw [← env_9]; exact hD
        refine lv_aload_n hx hb dX3_solve_35 rfl (lv_at hl 2 rfl) ?_
        refine va_get (D := G) (C := RX3) (T := TX3) (N := 9) (v := .ref (nm 1)) hx hb hts iu_X3 hown hK hP 0 rfl rfl 1 (by decide) (hts _ kw204) (fun _ h9 => h9) rfl dX3_solve_36 ?_
        refine lv_iload hx hb dX3_solve_39 (lv_at hl 0 rfl) ?_
        refine lv_aload_n hx hb dX3_solve_41 rfl (lv_at hl 3 rfl) ?_
        refine lv_iload hx hb dX3_solve_42 (lv_at hl 0 rfl) ?_
        obtain ⟨r_10, hc10, hf⟩ := bd_e hf
        refine call_V (As := [.int v4]) (rest := [.int v4, .ref (nm 1)]) hx hb hml hown hts hK hP hD hS hA hZ lkX3_45 (Ctr.upL (c_X1_whoMayFrank l G ct sk sv a k n h v4 hc10) [lfN ct nm nv_9] [lfN ct nm nv_9, lfH ct a k h, lfK ct k] [lfN ct nm nv_9, lfH ct a k h, lfK ct k] [1, 2, 0] 3 (by decide) rfl rfl rfl rfl) 8 rfl rfl ⟨Nat.le_of_ble_eq_true rfl, Nat.le_of_ble_eq_true rfl⟩ rfl hl.1 rfl (Nat.le_of_ble_eq_true rfl) dX3_solve_44 ⟨Nat.le_of_ble_eq_true rfl, Nat.le_of_ble_eq_true rfl⟩ (fun r9 w9 H locs hB hP hD hS => ?_)
        obtain ⟨rfl, rfl⟩ := hB
        refine WG_eq (g2 := F0 m 47 ls [.int r_10, .int v4, .ref (nm 1)]) rfl ?_
        refine lv_iload_n hx hb dX3_solve_47 rfl (lv_at hl 4 rfl) ?_
        refine lv_iand hx hb dX3_solve_48 ?_
        obtain ⟨g_11, hf⟩ := gd_e hf
        obtain ⟨nv_12, env_12, hf⟩ := bl_e hf
        refine va_iast hx hb hK hP hD hS 1 0 rfl rfl g_11 dX3_solve_49 (fun H locs hP hD hS => ?_)
        have hP : va_P G classes (wl [lfN ct nm nv_12, lfH ct a k h, lfK ct k]) H := by rw [← env_12]; exact hP
        have hD : va_D A (wl [lfN ct nm nv_12, lfH ct a k h, lfK ct k]) := by rw [← env_12]; exact hD
        refine lv_aload_n hx hb dX3_solve_50 rfl (lv_at hl 2 rfl) ?_
        refine va_get (D := G) (C := RX3) (T := TX3) (N := 9) (v := .ref (nm 2)) hx hb hts iu_X3 hown hK hP 0 rfl rfl 2 (by decide) (hts _ kw205) (fun _ h9 => h9) rfl dX3_solve_51 ?_
        refine lv_iload hx hb dX3_solve_54 (lv_at hl 0 rfl) ?_
        refine lv_aload_n hx hb dX3_solve_56 rfl (lv_at hl 2 rfl) ?_
        refine va_get (D := G) (C := RX3) (T := TX3) (N := 9) (v := .ref (nm 1)) hx hb hts iu_X3 hown hK hP 0 rfl rfl 1 (by decide) (hts _ kw204) (fun _ h9 => h9) rfl dX3_solve_57 ?_
        refine lv_iload hx hb dX3_solve_60 (lv_at hl 0 rfl) ?_
        obtain ⟨g_13, hf⟩ := gd_e hf
        refine va_iald (f := nv_12.2.1 0) hx hb hK hP 1 0 rfl rfl g_13 dX3_solve_62 ?_
        refine lv_if_ne (tgt := 70) hx hb dX3_solve_63 (by decide) (fun c_14 => ?_) (fun c_14 => ?_)
        · replace hf := bc_f hf c_14
          refine lv_aload_n hx hb dX3_solve_70 rfl (lv_at hl 3 rfl) ?_
          refine lv_iload hx hb dX3_solve_71 (lv_at hl 0 rfl) ?_
          obtain ⟨r_15, hc15, hf⟩ := bd_e hf
          refine call_V (As := [.int v4]) (rest := [.int v4, .ref (nm 2)]) hx hb hml hown hts hK hP hD hS hA hZ lkX3_49 (Ctr.upL (c_X1_postage l G ct sk sv a k n h v4 hc15) [lfN ct nm nv_12, lfK ct k] [lfN ct nm nv_12, lfH ct a k h, lfK ct k] [lfN ct nm nv_12, lfH ct a k h, lfK ct k] [1, 0, 2] 3 (by decide) rfl rfl rfl rfl) 8 rfl rfl ⟨Nat.le_of_ble_eq_true rfl, Nat.le_of_ble_eq_true rfl⟩ rfl hl.1 rfl (Nat.le_of_ble_eq_true rfl) dX3_solve_73 ⟨Nat.le_of_ble_eq_true rfl, Nat.le_of_ble_eq_true rfl⟩ (fun r9 w9 H locs hB hP hD hS => ?_)
          obtain ⟨rfl, rfl⟩ := hB
          refine WG_eq (g2 := F0 m 76 ls [.int r_15, .int v4, .ref (nm 2)]) rfl ?_
          exact J76 nv_12 v4 v3 r_15 v4 _ _ _ hP hD hS hl hf
        · replace hf := bc_t hf c_14
          refine lv_iconst (v := 0) hx hb dX3_solve_66 (by decide) ?_
          refine lv_goto (tgt := 76) hx hb dX3_solve_67 (by decide) ?_
          exact J76 nv_12 v4 v3 0 v4 _ _ _ hP hD hS hl hf
  have L96 : ∀ (fu : Nat) (nv : MV) (v3 : Int32) (v4 : Int32) (ex : MV) (H : Heap) (locs : List Loc) (ls : Array Slot), va_P G classes (wl [lfN ct nm nv, lfH ct a k h, lfK ct k]) H → va_D A (wl [lfN ct nm nv, lfH ct a k h, lfK ct k]) → va_S A s.heap H locs → lv_has ls 5 [(4, .int v4), (3, .int v3), (0, .ref (nm 0)), (1, .ref (a 0))] → f_X3_solve_l96 fu n nv h v3 v4 = some ex → (∀ (x : MV), ex = x → ∀ (H : Heap) (locs : List Loc) (ls : Array Slot), va_P G classes (wl [lfN ct nm x, lfH ct a k h, lfK ct k]) H → va_D A (wl [lfN ct nm x, lfH ct a k h, lfK ct k]) → va_S A s.heap H locs → lv_has ls 5 [(3, .int v3), (0, .ref (nm 0))] → WG l G ct sk sv p e (RM 10 280 0 0) s m args below meth c A (Eq2 (some (.int r)) (wl [lfN ct nm nv', lfH ct a k h, lfK ct k])) H locs (F0 m 134 ls [])) → WG l G ct sk sv p e (RM 10 280 0 0) s m args below meth c A (Eq2 (some (.int r)) (wl [lfN ct nm nv', lfH ct a k h, lfK ct k])) H locs (F0 m 96 ls []) := by
    intro fu
    induction fu with
    | zero =>
      intro nv v3 v4 ex H locs ls hP hD hS hl hf
      exact absurd hf (by unfold f_X3_solve_l96 lp; exact fun h => by cases h)
    | succ fu ih =>
      intro nv v3 v4 ex H locs ls hP hD hS hl hf hE
      unfold f_X3_solve_l96 at hf
      obtain ⟨q, hf, hor⟩ := lp_e hf
      have J127 : ∀ (nv : MV) (v4 : Int32) (s0 : Int32) (s1 : Int32) (H : Heap) (locs : List Loc) (ls : Array Slot), va_P G classes (wl [lfN ct nm nv, lfH ct a k h, lfK ct k]) H → va_D A (wl [lfN ct nm nv, lfH ct a k h, lfK ct k]) → va_S A s.heap H locs → lv_has ls 5 [(4, .int v4), (3, .int v3), (0, .ref (nm 0)), (1, .ref (a 0))] → f_X3_solve_j127 n nv h v4 v3 s0 s1 = some q → WG l G ct sk sv p e (RM 10 280 0 0) s m args below meth c A (Eq2 (some (.int r)) (wl [lfN ct nm nv', lfH ct a k h, lfK ct k])) H locs (F0 m 127 ls [.int s0, .int s1, .ref (nm 4)]) := by
        intro nv v4 s0 s1 H locs ls hP hD hS hl hf
        unfold f_X3_solve_j127 at hf
        obtain ⟨g_16, hf⟩ := gd_e hf
        obtain ⟨nv_17, env_17, hf⟩ := bl_e hf
        refine va_iast hx hb hK hP hD hS 4 0 rfl rfl g_16 dX3_solve_127 (fun H locs hP hD hS => ?_)
        have hP : va_P G classes (wl [lfN ct nm nv_17, lfH ct a k h, lfK ct k]) H := by rw [← env_17]; exact hP
        have hD : va_D A (wl [lfN ct nm nv_17, lfH ct a k h, lfK ct k]) := by rw [← env_17]; exact hD
        obtain ⟨v4_18, ev4_18, hf⟩ := bl_e hf
        refine lv_iinc (v := v4_18) (lv' := [(4, .int v4_18), (3, .int v3), (0, .ref (nm 0)), (1, .ref (a 0))]) hx hb dX3_solve_128 hl (k := 0) rfl ev4_18 (by decide) rfl (fun ls hl => ?_)
        refine lv_goto (tgt := 96) hx hb dX3_solve_131 (by decide) ?_
        exact ih nv_17 v3 v4_18 ex _ _ _ hP hD hS hl (lp_inl hor hf) hE
      replace hf : f_X3_solve_b96 n nv h v4 v3 = some q := hf
      unfold f_X3_solve_b96 at hf
      refine lv_iload hx hb dX3_solve_96 (lv_at hl 0 rfl) ?_
      refine lv_iconst (v := 5) hx hb dX3_solve_98 (by decide) ?_
      refine lv_icmp_ge (tgt := 134) hx hb dX3_solve_99 (by decide) (fun c_19 => ?_) (fun c_19 => ?_)
      · replace hf := bc_t hf c_19
        exact hE nv (lp_inr hor hf).symm _ _ _ hP hD hS (lv_sub hl [1, 2] rfl)
      · replace hf := bc_f hf c_19
        refine lv_aload_n hx hb dX3_solve_102 rfl (lv_at hl 2 rfl) ?_
        refine va_get (D := G) (C := RX3) (T := TX3) (N := 9) (v := .ref (nm 4)) hx hb hts iu_X3 hown hK hP 0 rfl rfl 4 (by decide) (hts _ kw207) (fun _ h9 => h9) rfl dX3_solve_103 ?_
        refine lv_iload hx hb dX3_solve_106 (lv_at hl 0 rfl) ?_
        refine lv_iload hx hb dX3_solve_108 (lv_at hl 0 rfl) ?_
        refine lv_aload_n hx hb dX3_solve_110 rfl (lv_at hl 3 rfl) ?_
        refine va_get (D := G) (C := RX1) (T := TX1) (N := 16) (v := .int (h.1 0)) hx hb hts iu_X1 hown hK hP 8 rfl rfl 1 (by decide) (hts _ kw125) (fun _ h9 => h9) rfl dX3_solve_111 ?_
        refine lv_icmp_ge (tgt := 126) hx hb dX3_solve_114 (by decide) (fun c_20 => ?_) (fun c_20 => ?_)
        · replace hf := bc_t hf c_20
          refine lv_iconst (v := 0) hx hb dX3_solve_126 (by decide) ?_
          exact J127 nv v4 0 v4 _ _ _ hP hD hS hl hf
        · replace hf := bc_f hf c_20
          refine lv_aload_n hx hb dX3_solve_117 rfl (lv_at hl 3 rfl) ?_
          refine lv_iload hx hb dX3_solve_118 (lv_at hl 0 rfl) ?_
          obtain ⟨r_21, hc21, hf⟩ := bd_e hf
          refine call_V (As := [.int v4]) (rest := [.int v4, .ref (nm 4)]) hx hb hml hown hts hK hP hD hS hA hZ lkX3_55 (Ctr.upL (c_X1_coversLeft l G ct sk sv a k n h v4 hc21) [lfN ct nm nv] [lfN ct nm nv, lfH ct a k h, lfK ct k] [lfN ct nm nv, lfH ct a k h, lfK ct k] [1, 2, 0] 3 (by decide) rfl rfl rfl rfl) 8 rfl rfl ⟨Nat.le_of_ble_eq_true rfl, Nat.le_of_ble_eq_true rfl⟩ rfl hl.1 rfl (Nat.le_of_ble_eq_true rfl) dX3_solve_120 ⟨Nat.le_of_ble_eq_true rfl, Nat.le_of_ble_eq_true rfl⟩ (fun r9 w9 H locs hB hP hD hS => ?_)
          obtain ⟨rfl, rfl⟩ := hB
          refine WG_eq (g2 := F0 m 123 ls [.int r_21, .int v4, .ref (nm 4)]) rfl ?_
          refine lv_goto (tgt := 127) hx hb dX3_solve_123 (by decide) ?_
          exact J127 nv v4 r_21 v4 _ _ _ hP hD hS hl hf
  unfold f_X3_solve at hf
  show WG l G ct sk sv p e (RM 10 280 0 0) s m args below meth c A (Eq2 (some (.int r)) (wl [lfN ct nm nv', lfH ct a k h, lfK ct k])) s.heap [] (F0 m 0 ls [])
  refine lv_aload_n hx hb dX3_solve_0 rfl (lv_at hl 0 rfl) ?_
  refine lv_aload_n hx hb dX3_solve_1 rfl (lv_at hl 1 rfl) ?_
  refine va_get (D := G) (C := RX1) (T := TX1) (N := 16) (v := .int (h.1 1)) hx hb hts iu_X1 hown hK hP 8 rfl rfl 5 (by decide) (hts _ kw135) (fun _ h9 => h9) rfl dX3_solve_2 ?_
  obtain ⟨nv_22, env_22, hf⟩ := bl_e hf
  refine va_put (D := G) (C := RX3) (T := TX3) (N := 9) (ty := .int) hx hb hts iu_X3 tyX3 tyX3_ok nmX3 hown hK hP hD hS 0 rfl rfl 0 (by decide) (hts _ kw203) (fun _ h9 => h9) rfl (by decide +kernel) rfl rfl (Nat.le_of_ble_eq_true rfl) dX3_solve_5 (fun H locs hP hD hS => ?_)
  have hP : va_P G classes (wl [lfN ct nm nv_22, lfH ct a k h, lfK ct k]) H := by rw [← env_22]; exact hP
  have hD : va_D A (wl [lfN ct nm nv_22, lfH ct a k h, lfK ct k]) := by rw [← env_22]; exact hD
  refine lv_iconst (v := 0) hx hb dX3_solve_8 (by decide) ?_
  refine lv_istore_n (lv' := [(3, .int 0), (0, .ref (nm 0)), (1, .ref (a 0)), (2, .int v2)]) hx hb dX3_solve_9 rfl hl (by decide) rfl (fun ls hl => ?_)
  refine lv_iconst (v := 0) hx hb dX3_solve_10 (by decide) ?_
  refine lv_istore (lv' := [(4, .int 0), (3, .int 0), (0, .ref (nm 0)), (1, .ref (a 0)), (2, .int v2)]) hx hb dX3_solve_11 hl (by decide) rfl (fun ls hl => ?_)
  obtain ⟨v3_23, nv_24, hx_25, hf⟩ := bd2_e hf
  refine L13 n nv_22 v2 0 0 (v3_23, nv_24) _ _ _ hP hD hS hl hx_25 ?_
  intro x9 e9 H locs ls hP hD hS hl
  subst e9
  have hP : va_P G classes (wl [lfN ct nm nv_24, lfH ct a k h, lfK ct k]) H := hP
  have hD : va_D A (wl [lfN ct nm nv_24, lfH ct a k h, lfK ct k]) := hD
  have hl : lv_has ls 5 [(3, .int v3_23), (0, .ref (nm 0)), (1, .ref (a 0))] := hl
  refine lv_iconst (v := 0) hx hb dX3_solve_93 (by decide) ?_
  refine lv_istore (lv' := [(4, .int 0), (3, .int v3_23), (0, .ref (nm 0)), (1, .ref (a 0))]) hx hb dX3_solve_94 hl (by decide) rfl (fun ls hl => ?_)
  obtain ⟨nv_26, hx_27, hf⟩ := bd_e hf
  refine L96 n nv_24 v3_23 0 nv_26 _ _ _ hP hD hS hl hx_27 ?_
  intro x9 e9 H locs ls hP hD hS hl
  subst e9
  have hP : va_P G classes (wl [lfN ct nm nv_26, lfH ct a k h, lfK ct k]) H := hP
  have hD : va_D A (wl [lfN ct nm nv_26, lfH ct a k h, lfK ct k]) := hD
  have hl : lv_has ls 5 [(3, .int v3_23), (0, .ref (nm 0))] := hl
  refine lv_aload_n hx hb dX3_solve_134 rfl (lv_at hl 1 rfl) ?_
  refine lv_iconst (v := (-1)) hx hb dX3_solve_135 (by decide) ?_
  obtain ⟨nv_28, env_28, hf⟩ := bl_e hf
  refine va_put (D := G) (C := RX3) (T := TX3) (N := 9) (ty := .int) hx hb hts iu_X3 tyX3 tyX3_ok nmX3 hown hK hP hD hS 0 rfl rfl 8 (by decide) (hts _ kw212) (fun _ h9 => h9) rfl (by decide +kernel) rfl rfl (Nat.le_of_ble_eq_true rfl) dX3_solve_136 (fun H locs hP hD hS => ?_)
  have hP : va_P G classes (wl [lfN ct nm nv_28, lfH ct a k h, lfK ct k]) H := by rw [← env_28]; exact hP
  have hD : va_D A (wl [lfN ct nm nv_28, lfH ct a k h, lfK ct k]) := by rw [← env_28]; exact hD
  refine lv_aload_n hx hb dX3_solve_139 rfl (lv_at hl 1 rfl) ?_
  refine lv_iconst (v := 0) hx hb dX3_solve_140 (by decide) ?_
  refine lv_iconst (v := 0) hx hb dX3_solve_141 (by decide) ?_
  refine lv_iload_n hx hb dX3_solve_142 rfl (lv_at hl 0 rfl) ?_
  obtain ⟨nv_29, hc29, hf⟩ := bd_e hf
  refine call_V (As := [.int 0, .int 0, .int v3_23]) (rest := []) hx hb hml hown hts hK hP hD hS hA hZ lkX3_61 (Ctr.upL (c_X3_place_8 l G ct sk sv nm n nv_28 0 0 v3_23 hc29) [lfH ct a k h, lfK ct k] [lfN ct nm nv_28, lfH ct a k h, lfK ct k] [lfN ct nm nv_29, lfH ct a k h, lfK ct k] [0, 1, 2] 3 (by decide) rfl rfl rfl rfl) 0 rfl rfl ⟨Nat.le_of_ble_eq_true rfl, Nat.le_of_ble_eq_true rfl⟩ rfl hl.1 rfl (Nat.le_of_ble_eq_true rfl) dX3_solve_143 ⟨Nat.le_of_ble_eq_true rfl, Nat.le_of_ble_eq_true rfl⟩ (fun r9 w9 H locs hB hP hD hS => ?_)
  obtain ⟨rfl, rfl⟩ := hB
  refine WG_eq (g2 := F0 m 146 ls []) rfl ?_
  refine lv_aload_n hx hb dX3_solve_146 rfl (lv_at hl 1 rfl) ?_
  refine va_get (D := G) (C := RX3) (T := TX3) (N := 9) (v := .int (nv_29.1 1)) hx hb hts iu_X3 hown hK hP 0 rfl rfl 8 (by decide) (hts _ kw212) (fun _ h9 => h9) rfl dX3_solve_147 ?_
  obtain ⟨e1, e2⟩ := inj2 (Option.some.inj hf)
  exact end_i (w' := (wl [lfN ct nm nv_29, lfH ct a k h, lfK ct k])) hx hb hr hlocks hK hP hD hS dX3_solve_150  ⟨by rw [← e1], by rw [← e2]⟩
noncomputable def f_X3_sortByPostage_b23 (n : Nat) (nv : MV) (h : MV) (v3 : Int32) (v2 : Int32) : Option ((Int32 × MV) ⊕ (Int32 × MV)) :=
  bc (v3 ≤ 0) (some (.inr (v3, nv)))
  (gd (vp_in (v3 - 1) 6) <|
  gd (vp_in (nv.2.1 6 (ix (v3 - 1))) 6) <|
  gd (vp_in v2 6) <|
  bc ((nv.2.1 1 (ix v2)) ≤ (nv.2.1 1 (ix (nv.2.1 6 (ix (v3 - 1)))))) (some (.inr (v3, nv)))
  (gd (vp_in (v3 - 1) 6) <|
  gd (vp_in v3 6) <|
  bl (setA nv 6 (upd (nv.2.1 6) (ix v3) (nv.2.1 6 (ix (v3 - 1))))) fun nv_8 =>
  bl (v3 + (-1)) fun v3_9 =>
  some (.inl (v3_9, nv_8))))
noncomputable def f_X3_sortByPostage_l23 (fu : Nat) (n : Nat) (nv : MV) (h : MV) (v2 : Int32) (v3 : Int32) : Option (Int32 × MV) :=
  lp (fun q => f_X3_sortByPostage_b23 n q.2 h q.1 v2) fu (v3, nv)
noncomputable def f_X3_sortByPostage_j69 (n : Nat) (nv : MV) (h : MV) (v3 : Int32) (v2 : Int32) : Option ((Int32 × MV) ⊕ (MV)) :=
  gd (vp_in v3 6) <|
  bl (setA nv 6 (upd (nv.2.1 6) (ix v3) v2)) fun nv_11 =>
  bl (v2 + 1) fun v2_12 =>
  some (.inl (v2_12, nv_11))
noncomputable def f_X3_sortByPostage_b2 (n : Nat) (nv : MV) (h : MV) (v2 : Int32) : Option ((Int32 × MV) ⊕ (MV)) :=
  bc ((h.1 1) ≤ v2) (some (.inr nv))
  (bd (f_X1_postage n h v2) fun r_14 =>
  gd (vp_in v2 6) <|
  bl (setA nv 1 (upd (nv.2.1 1) (ix v2) r_14)) fun nv_16 =>
  bd2 (f_X3_sortByPostage_l23 n n nv_16 h v2 v2) fun v3_17 nv_18 =>
  f_X3_sortByPostage_j69 n nv_18 h v3_17 v2)
noncomputable def f_X3_sortByPostage_l2 (fu : Nat) (n : Nat) (nv : MV) (h : MV) (v2 : Int32) : Option (MV) :=
  lp (fun q => f_X3_sortByPostage_b2 n q.2 h q.1) fu (v2, nv)
noncomputable def f_X3_sortByPostage (n : Nat) (nv : MV) (h : MV) : Option (MV) :=
  bd (f_X3_sortByPostage_l2 n n nv h 0) fun nv_20 =>
  some nv_20
set_option maxHeartbeats 4000000 in
set_option maxRecDepth 100000 in
theorem c_X3_sortByPostage (l : Launch) (G : va_G) (ct : Nat → ClassId) (sk sv : Nat → Nat) (nm : Nat → Nat) (a : Nat → Nat) (k : Nat → Nat) (n : Nat) (nv : MV) (h : MV) {nv' : MV} (hf : f_X3_sortByPostage n nv h = some nv') : Ctr (l, G, ct, sk, sv) mX3_sortByPostage 2 85 [.ref (nm 0), .ref (a 0)] (wl [lfN ct nm nv, lfH ct a k h]) (wl [lfN ct nm nv', lfH ct a k h]) (none) := by
  refine ctr_intro (by decide) (Nat.le_of_ble_eq_true rfl) ?_
  intro p e s m args below meth c A C hP hD hS hA ls hl
  obtain ⟨hx, hb, hml, hown, hts, hr, hlocks, hK, hnm, hZ⟩ := C
  have hb : c.code = cX3_sortByPostage := hb
  have hml : c.maxLocals = 4 := hml
  have hown : s.vm.findClass "SignedOutside$Names" = some m.cls := hown
  have hr : meth.sig.returnType = none := hr
  have hP : va_P G classes (wl [lfN ct nm nv, lfH ct a k h]) s.heap := hP
  have hD : va_D A (wl [lfN ct nm nv, lfH ct a k h]) := hD
  have hK : va_K G classes (TYS ct) s := hK
  have hl : lv_has ls 4 [(0, .ref (nm 0)), (1, .ref (a 0))] := hl
  have L23 : ∀ (fu : Nat) (nv : MV) (v2 : Int32) (v3 : Int32) (ex : Int32 × MV) (H : Heap) (locs : List Loc) (ls : Array Slot), va_P G classes (wl [lfN ct nm nv, lfH ct a k h]) H → va_D A (wl [lfN ct nm nv, lfH ct a k h]) → va_S A s.heap H locs → lv_has ls 4 [(3, .int v3), (2, .int v2), (0, .ref (nm 0)), (1, .ref (a 0))] → f_X3_sortByPostage_l23 fu n nv h v2 v3 = some ex → (∀ (x : Int32 × MV), ex = x → ∀ (H : Heap) (locs : List Loc) (ls : Array Slot), va_P G classes (wl [lfN ct nm x.2, lfH ct a k h]) H → va_D A (wl [lfN ct nm x.2, lfH ct a k h]) → va_S A s.heap H locs → lv_has ls 4 [(3, .int x.1), (2, .int v2), (0, .ref (nm 0)), (1, .ref (a 0))] → WG l G ct sk sv p e (RM 2 85 0 0) s m args below meth c A (Eq2 (none) (wl [lfN ct nm nv', lfH ct a k h])) H locs (F0 m 69 ls [])) → WG l G ct sk sv p e (RM 2 85 0 0) s m args below meth c A (Eq2 (none) (wl [lfN ct nm nv', lfH ct a k h])) H locs (F0 m 23 ls []) := by
    intro fu
    induction fu with
    | zero =>
      intro nv v2 v3 ex H locs ls hP hD hS hl hf
      exact absurd hf (by unfold f_X3_sortByPostage_l23 lp; exact fun h => by cases h)
    | succ fu ih =>
      intro nv v2 v3 ex H locs ls hP hD hS hl hf hE
      unfold f_X3_sortByPostage_l23 at hf
      obtain ⟨q, hf, hor⟩ := lp_e hf
      replace hf : f_X3_sortByPostage_b23 n nv h v3 v2 = some q := hf
      unfold f_X3_sortByPostage_b23 at hf
      refine lv_iload_n hx hb dX3_sortByPostage_23 rfl (lv_at hl 0 rfl) ?_
      refine lv_if_le (tgt := 69) hx hb dX3_sortByPostage_24 (by decide) (fun c_1 => ?_) (fun c_1 => ?_)
      · replace hf := bc_t hf c_1
        exact hE (v3, nv) (lp_inr hor hf).symm _ _ _ hP hD hS hl
      · replace hf := bc_f hf c_1
        refine lv_aload_n hx hb dX3_sortByPostage_27 rfl (lv_at hl 2 rfl) ?_
        refine va_get (D := G) (C := RX3) (T := TX3) (N := 9) (v := .ref (nm 2)) hx hb hts iu_X3 hown hK hP 0 rfl rfl 2 (by decide) (hts _ kw205) (fun _ h9 => h9) rfl dX3_sortByPostage_28 ?_
        refine lv_aload_n hx hb dX3_sortByPostage_31 rfl (lv_at hl 2 rfl) ?_
        refine va_get (D := G) (C := RX3) (T := TX3) (N := 9) (v := .ref (nm 7)) hx hb hts iu_X3 hown hK hP 0 rfl rfl 7 (by decide) (hts _ kw211) (fun _ h9 => h9) rfl dX3_sortByPostage_32 ?_
        refine lv_iload_n hx hb dX3_sortByPostage_35 rfl (lv_at hl 0 rfl) ?_
        refine lv_iconst (v := 1) hx hb dX3_sortByPostage_36 (by decide) ?_
        refine lv_isub hx hb dX3_sortByPostage_37 ?_
        obtain ⟨g_2, hf⟩ := gd_e hf
        refine va_iald (f := nv.2.1 6) hx hb hK hP 7 0 rfl rfl g_2 dX3_sortByPostage_38 ?_
        obtain ⟨g_3, hf⟩ := gd_e hf
        refine va_iald (f := nv.2.1 1) hx hb hK hP 2 0 rfl rfl g_3 dX3_sortByPostage_39 ?_
        refine lv_aload_n hx hb dX3_sortByPostage_40 rfl (lv_at hl 2 rfl) ?_
        refine va_get (D := G) (C := RX3) (T := TX3) (N := 9) (v := .ref (nm 2)) hx hb hts iu_X3 hown hK hP 0 rfl rfl 2 (by decide) (hts _ kw205) (fun _ h9 => h9) rfl dX3_sortByPostage_41 ?_
        refine lv_iload_n hx hb dX3_sortByPostage_44 rfl (lv_at hl 1 rfl) ?_
        obtain ⟨g_4, hf⟩ := gd_e hf
        refine va_iald (f := nv.2.1 1) hx hb hK hP 2 0 rfl rfl g_4 dX3_sortByPostage_45 ?_
        refine lv_icmp_ge (tgt := 69) hx hb dX3_sortByPostage_46 (by decide) (fun c_5 => ?_) (fun c_5 => ?_)
        · replace hf := bc_t hf c_5
          exact hE (v3, nv) (lp_inr hor hf).symm _ _ _ hP hD hS hl
        · replace hf := bc_f hf c_5
          refine lv_aload_n hx hb dX3_sortByPostage_49 rfl (lv_at hl 2 rfl) ?_
          refine va_get (D := G) (C := RX3) (T := TX3) (N := 9) (v := .ref (nm 7)) hx hb hts iu_X3 hown hK hP 0 rfl rfl 7 (by decide) (hts _ kw211) (fun _ h9 => h9) rfl dX3_sortByPostage_50 ?_
          refine lv_iload_n hx hb dX3_sortByPostage_53 rfl (lv_at hl 0 rfl) ?_
          refine lv_aload_n hx hb dX3_sortByPostage_54 rfl (lv_at hl 2 rfl) ?_
          refine va_get (D := G) (C := RX3) (T := TX3) (N := 9) (v := .ref (nm 7)) hx hb hts iu_X3 hown hK hP 0 rfl rfl 7 (by decide) (hts _ kw211) (fun _ h9 => h9) rfl dX3_sortByPostage_55 ?_
          refine lv_iload_n hx hb dX3_sortByPostage_58 rfl (lv_at hl 0 rfl) ?_
          refine lv_iconst (v := 1) hx hb dX3_sortByPostage_59 (by decide) ?_
          refine lv_isub hx hb dX3_sortByPostage_60 ?_
          obtain ⟨g_6, hf⟩ := gd_e hf
          refine va_iald (f := nv.2.1 6) hx hb hK hP 7 0 rfl rfl g_6 dX3_sortByPostage_61 ?_
          obtain ⟨g_7, hf⟩ := gd_e hf
          obtain ⟨nv_8, env_8, hf⟩ := bl_e hf
          refine va_iast hx hb hK hP hD hS 7 0 rfl rfl g_7 dX3_sortByPostage_62 (fun H locs hP hD hS => ?_)
          have hP : va_P G classes (wl [lfN ct nm nv_8, lfH ct a k h]) H := by rw [← env_8]; exact hP
          have hD : va_D A (wl [lfN ct nm nv_8, lfH ct a k h]) := by rw [← env_8]; exact hD
          obtain ⟨v3_9, ev3_9, hf⟩ := bl_e hf
          refine lv_iinc (v := v3_9) (lv' := [(3, .int v3_9), (2, .int v2), (0, .ref (nm 0)), (1, .ref (a 0))]) hx hb dX3_sortByPostage_63 hl (k := 0) rfl ev3_9 (by decide) rfl (fun ls hl => ?_)
          refine lv_goto (tgt := 23) hx hb dX3_sortByPostage_66 (by decide) ?_
          exact ih nv_8 v2 v3_9 ex _ _ _ hP hD hS hl (lp_inl hor hf) hE
  have L2 : ∀ (fu : Nat) (nv : MV) (v2 : Int32) (ex : MV) (H : Heap) (locs : List Loc) (ls : Array Slot), va_P G classes (wl [lfN ct nm nv, lfH ct a k h]) H → va_D A (wl [lfN ct nm nv, lfH ct a k h]) → va_S A s.heap H locs → lv_has ls 4 [(2, .int v2), (0, .ref (nm 0)), (1, .ref (a 0))] → f_X3_sortByPostage_l2 fu n nv h v2 = some ex → (∀ (x : MV), ex = x → ∀ (H : Heap) (locs : List Loc) (ls : Array Slot), va_P G classes (wl [lfN ct nm x, lfH ct a k h]) H → va_D A (wl [lfN ct nm x, lfH ct a k h]) → va_S A s.heap H locs → lv_has ls 4 [] → WG l G ct sk sv p e (RM 2 85 0 0) s m args below meth c A (Eq2 (none) (wl [lfN ct nm nv', lfH ct a k h])) H locs (F0 m 82 ls [])) → WG l G ct sk sv p e (RM 2 85 0 0) s m args below meth c A (Eq2 (none) (wl [lfN ct nm nv', lfH ct a k h])) H locs (F0 m 2 ls []) := by
    intro fu
    induction fu with
    | zero =>
      intro nv v2 ex H locs ls hP hD hS hl hf
      exact absurd hf (by unfold f_X3_sortByPostage_l2 lp; exact fun h => by cases h)
    | succ fu ih =>
      intro nv v2 ex H locs ls hP hD hS hl hf hE
      unfold f_X3_sortByPostage_l2 at hf
      obtain ⟨q, hf, hor⟩ := lp_e hf
      have J69 : ∀ (nv : MV) (v3 : Int32) (v2 : Int32) (H : Heap) (locs : List Loc) (ls : Array Slot), va_P G classes (wl [lfN ct nm nv, lfH ct a k h]) H → va_D A (wl [lfN ct nm nv, lfH ct a k h]) → va_S A s.heap H locs → lv_has ls 4 [(3, .int v3), (2, .int v2), (0, .ref (nm 0)), (1, .ref (a 0))] → f_X3_sortByPostage_j69 n nv h v3 v2 = some q → WG l G ct sk sv p e (RM 2 85 0 0) s m args below meth c A (Eq2 (none) (wl [lfN ct nm nv', lfH ct a k h])) H locs (F0 m 69 ls []) := by
        intro nv v3 v2 H locs ls hP hD hS hl hf
        unfold f_X3_sortByPostage_j69 at hf
        refine lv_aload_n hx hb dX3_sortByPostage_69 rfl (lv_at hl 2 rfl) ?_
        refine va_get (D := G) (C := RX3) (T := TX3) (N := 9) (v := .ref (nm 7)) hx hb hts iu_X3 hown hK hP 0 rfl rfl 7 (by decide) (hts _ kw211) (fun _ h9 => h9) rfl dX3_sortByPostage_70 ?_
        refine lv_iload_n hx hb dX3_sortByPostage_73 rfl (lv_at hl 0 rfl) ?_
        refine lv_iload_n hx hb dX3_sortByPostage_74 rfl (lv_at hl 1 rfl) ?_
        obtain ⟨g_10, hf⟩ := gd_e hf
        obtain ⟨nv_11, env_11, hf⟩ := bl_e hf
        refine va_iast hx hb hK hP hD hS 7 0 rfl rfl g_10 dX3_sortByPostage_75 (fun H locs hP hD hS => ?_)
        have hP : va_P G classes (wl [lfN ct nm nv_11, lfH ct a k h]) H := by rw [← env_11]; exact hP
        have hD : va_D A (wl [lfN ct nm nv_11, lfH ct a k h]) := by rw [← env_11]; exact hD
        obtain ⟨v2_12, ev2_12, hf⟩ := bl_e hf
        refine lv_iinc (v := v2_12) (lv' := [(2, .int v2_12), (3, .int v3), (0, .ref (nm 0)), (1, .ref (a 0))]) hx hb dX3_sortByPostage_76 hl (k := 1) rfl ev2_12 (by decide) rfl (fun ls hl => ?_)
        refine lv_goto (tgt := 2) hx hb dX3_sortByPostage_79 (by decide) ?_
        exact ih nv_11 v2_12 ex _ _ _ hP hD hS (lv_sub hl [0, 2, 3] rfl) (lp_inl hor hf) hE
      replace hf : f_X3_sortByPostage_b2 n nv h v2 = some q := hf
      unfold f_X3_sortByPostage_b2 at hf
      refine lv_iload_n hx hb dX3_sortByPostage_2 rfl (lv_at hl 0 rfl) ?_
      refine lv_aload_n hx hb dX3_sortByPostage_3 rfl (lv_at hl 2 rfl) ?_
      refine va_get (D := G) (C := RX1) (T := TX1) (N := 16) (v := .int (h.1 1)) hx hb hts iu_X1 hown hK hP 8 rfl rfl 5 (by decide) (hts _ kw135) (fun _ h9 => h9) rfl dX3_sortByPostage_4 ?_
      refine lv_icmp_ge (tgt := 82) hx hb dX3_sortByPostage_7 (by decide) (fun c_13 => ?_) (fun c_13 => ?_)
      · replace hf := bc_t hf c_13
        exact hE nv (lp_inr hor hf).symm _ _ _ hP hD hS (lv_sub hl [] rfl)
      · replace hf := bc_f hf c_13
        refine lv_aload_n hx hb dX3_sortByPostage_10 rfl (lv_at hl 1 rfl) ?_
        refine va_get (D := G) (C := RX3) (T := TX3) (N := 9) (v := .ref (nm 2)) hx hb hts iu_X3 hown hK hP 0 rfl rfl 2 (by decide) (hts _ kw205) (fun _ h9 => h9) rfl dX3_sortByPostage_11 ?_
        refine lv_iload_n hx hb dX3_sortByPostage_14 rfl (lv_at hl 0 rfl) ?_
        refine lv_aload_n hx hb dX3_sortByPostage_15 rfl (lv_at hl 2 rfl) ?_
        refine lv_iload_n hx hb dX3_sortByPostage_16 rfl (lv_at hl 0 rfl) ?_
        obtain ⟨r_14, hc14, hf⟩ := bd_e hf
        refine call_V (As := [.int v2]) (rest := [.int v2, .ref (nm 2)]) hx hb hml hown hts hK hP hD hS hA hZ lkX3_49 (Ctr.upL (c_X1_postage l G ct sk sv a k n h v2 hc14) [lfN ct nm nv] [lfN ct nm nv, lfH ct a k h] [lfN ct nm nv, lfH ct a k h] [1, 0] 2 (by decide) rfl rfl rfl rfl) 8 rfl rfl ⟨Nat.le_of_ble_eq_true rfl, Nat.le_of_ble_eq_true rfl⟩ rfl hl.1 rfl (Nat.le_of_ble_eq_true rfl) dX3_sortByPostage_17 ⟨Nat.le_of_ble_eq_true rfl, Nat.le_of_ble_eq_true rfl⟩ (fun r9 w9 H locs hB hP hD hS => ?_)
        obtain ⟨rfl, rfl⟩ := hB
        refine WG_eq (g2 := F0 m 20 ls [.int r_14, .int v2, .ref (nm 2)]) rfl ?_
        obtain ⟨g_15, hf⟩ := gd_e hf
        obtain ⟨nv_16, env_16, hf⟩ := bl_e hf
        refine va_iast hx hb hK hP hD hS 2 0 rfl rfl g_15 dX3_sortByPostage_20 (fun H locs hP hD hS => ?_)
        have hP : va_P G classes (wl [lfN ct nm nv_16, lfH ct a k h]) H := by rw [← env_16]; exact hP
        have hD : va_D A (wl [lfN ct nm nv_16, lfH ct a k h]) := by rw [← env_16]; exact hD
        refine lv_iload_n hx hb dX3_sortByPostage_21 rfl (lv_at hl 0 rfl) ?_
        refine lv_istore_n (lv' := [(3, .int v2), (2, .int v2), (0, .ref (nm 0)), (1, .ref (a 0))]) hx hb dX3_sortByPostage_22 rfl hl (by decide) rfl (fun ls hl => ?_)
        obtain ⟨v3_17, nv_18, hx_19, hf⟩ := bd2_e hf
        refine L23 n nv_16 v2 v2 (v3_17, nv_18) _ _ _ hP hD hS hl hx_19 ?_
        intro x9 e9 H locs ls hP hD hS hl
        subst e9
        have hP : va_P G classes (wl [lfN ct nm nv_18, lfH ct a k h]) H := hP
        have hD : va_D A (wl [lfN ct nm nv_18, lfH ct a k h]) := hD
        have hl : lv_has ls 4 [(3, .int v3_17), (2, .int v2), (0, .ref (nm 0)), (1, .ref (a 0))] := hl
        exact J69 nv_18 v3_17 v2 _ _ _ hP hD hS hl hf
  unfold f_X3_sortByPostage at hf
  show WG l G ct sk sv p e (RM 2 85 0 0) s m args below meth c A (Eq2 (none) (wl [lfN ct nm nv', lfH ct a k h])) s.heap [] (F0 m 0 ls [])
  refine lv_iconst (v := 0) hx hb dX3_sortByPostage_0 (by decide) ?_
  refine lv_istore_n (lv' := [(2, .int 0), (0, .ref (nm 0)), (1, .ref (a 0))]) hx hb dX3_sortByPostage_1 rfl hl (by decide) rfl (fun ls hl => ?_)
  obtain ⟨nv_20, hx_21, hf⟩ := bd_e hf
  refine L2 n nv 0 nv_20 _ _ _ hP hD hS hl hx_21 ?_
  intro x9 e9 H locs ls hP hD hS hl
  subst e9
  have hP : va_P G classes (wl [lfN ct nm nv_20, lfH ct a k h]) H := hP
  have hD : va_D A (wl [lfN ct nm nv_20, lfH ct a k h]) := hD
  have hl : lv_has ls 4 [] := hl
  have e1 := Option.some.inj hf
  exact end_v (w' := (wl [lfN ct nm nv_20, lfH ct a k h])) hx hb hr hlocks hK hP hD hS dX3_sortByPostage_82  ⟨rfl, by rw [← e1]⟩
noncomputable def f_X3_worthAt_j68 (n : Nat) (nv : MV) (h : MV) (v7 : Int32) (v6 : Int32) (v5 : Int32) (v2 : Int32) (v3 : Int32) : Option ((Int32 × Int32 × Int32) ⊕ (Int32)) :=
  bl (v7 + 1) fun v7_1 =>
  some (.inl (v7_1, v6, v5))
noncomputable def f_X3_worthAt_b10 (n : Nat) (nv : MV) (h : MV) (v7 : Int32) (v6 : Int32) (v5 : Int32) (v2 : Int32) (v3 : Int32) : Option ((Int32 × Int32 × Int32) ⊕ (Int32)) :=
  bc ((h.1 1) ≤ v7) (some (.inr v6))
  (bc (v5 ≤ 0) (some (.inr v6))
  (gd (vp_in v7 6) <|
  bl (nv.2.1 6 (ix v7)) fun v8_5 =>
  bd (f_X1_lies n h v8_5) fun r_6 =>
  bc (r_6 = 0) (f_X3_worthAt_j68 n nv h v7 v6 v5 v2 v3)
  (bd (f_X1_suits n h v8_5 v2 v3) fun r_8 =>
  bc (r_8 = 0) (f_X3_worthAt_j68 n nv h v7 v6 v5 v2 v3)
  (gd (vp_in v8_5 6) <|
  bl (v6 + (nv.2.1 1 (ix v8_5))) fun v6_11 =>
  bl (v5 + (-1)) fun v5_12 =>
  f_X3_worthAt_j68 n nv h v7 v6_11 v5_12 v2 v3))))
noncomputable def f_X3_worthAt_l10 (fu : Nat) (n : Nat) (nv : MV) (h : MV) (v2 : Int32) (v3 : Int32) (v7 : Int32) (v6 : Int32) (v5 : Int32) : Option (Int32) :=
  lp (fun q => f_X3_worthAt_b10 n nv h q.1 q.2.1 q.2.2 v2 v3) fu (v7, v6, v5)
noncomputable def f_X3_worthAt_j74 (n : Nat) (nv : MV) (h : MV) (v6 : Int32) : Option (Int32) :=
  some v6
noncomputable def f_X3_worthAt (n : Nat) (nv : MV) (h : MV) (v2 : Int32) (v3 : Int32) (v4 : Int32) : Option (Int32) :=
  bd (f_X3_worthAt_l10 n n nv h v2 v3 0 0 v4) fun v6_13 =>
  f_X3_worthAt_j74 n nv h v6_13
set_option maxHeartbeats 4000000 in
set_option maxRecDepth 100000 in
theorem c_X3_worthAt (l : Launch) (G : va_G) (ct : Nat → ClassId) (sk sv : Nat → Nat) (nm : Nat → Nat) (a : Nat → Nat) (k : Nat → Nat) (n : Nat) (nv : MV) (h : MV) (v2 : Int32) (v3 : Int32) (v4 : Int32) {r : Int32} (hf : f_X3_worthAt n nv h v2 v3 v4 = some r) : Ctr (l, G, ct, sk, sv) mX3_worthAt 5 184 [.ref (nm 0), .ref (a 0), .int v2, .int v3, .int v4] (wl [lfN ct nm nv, lfH ct a k h, lfK ct k]) (wl [lfN ct nm nv, lfH ct a k h, lfK ct k]) (some (.int r)) := by
  refine ctr_intro (by decide) (Nat.le_of_ble_eq_true rfl) ?_
  intro p e s m args below meth c A C hP hD hS hA ls hl
  obtain ⟨hx, hb, hml, hown, hts, hr, hlocks, hK, hnm, hZ⟩ := C
  have hb : c.code = cX3_worthAt := hb
  have hml : c.maxLocals = 9 := hml
  have hown : s.vm.findClass "SignedOutside$Names" = some m.cls := hown
  have hr : meth.sig.returnType = some .int := hr
  have hP : va_P G classes (wl [lfN ct nm nv, lfH ct a k h, lfK ct k]) s.heap := hP
  have hD : va_D A (wl [lfN ct nm nv, lfH ct a k h, lfK ct k]) := hD
  have hK : va_K G classes (TYS ct) s := hK
  have hl : lv_has ls 9 [(0, .ref (nm 0)), (1, .ref (a 0)), (2, .int v2), (3, .int v3), (4, .int v4)] := hl
  have L10 : ∀ (fu : Nat) (v2 : Int32) (v3 : Int32) (v7 : Int32) (v6 : Int32) (v5 : Int32) (ex : Int32) (H : Heap) (locs : List Loc) (ls : Array Slot), va_P G classes (wl [lfN ct nm nv, lfH ct a k h, lfK ct k]) H → va_D A (wl [lfN ct nm nv, lfH ct a k h, lfK ct k]) → va_S A s.heap H locs → lv_has ls 9 [(7, .int v7), (6, .int v6), (5, .int v5), (0, .ref (nm 0)), (1, .ref (a 0)), (2, .int v2), (3, .int v3)] → f_X3_worthAt_l10 fu n nv h v2 v3 v7 v6 v5 = some ex → (∀ (x : Int32), ex = x → ∀ (H : Heap) (locs : List Loc) (ls : Array Slot), va_P G classes (wl [lfN ct nm nv, lfH ct a k h, lfK ct k]) H → va_D A (wl [lfN ct nm nv, lfH ct a k h, lfK ct k]) → va_S A s.heap H locs → lv_has ls 9 [(6, .int x)] → WG l G ct sk sv p e (RM 5 184 0 0) s m args below meth c A (Eq2 (some (.int r)) (wl [lfN ct nm nv, lfH ct a k h, lfK ct k])) H locs (F0 m 74 ls [])) → WG l G ct sk sv p e (RM 5 184 0 0) s m args below meth c A (Eq2 (some (.int r)) (wl [lfN ct nm nv, lfH ct a k h, lfK ct k])) H locs (F0 m 10 ls []) := by
    intro fu
    induction fu with
    | zero =>
      intro v2 v3 v7 v6 v5 ex H locs ls hP hD hS hl hf
      exact absurd hf (by unfold f_X3_worthAt_l10 lp; exact fun h => by cases h)
    | succ fu ih =>
      intro v2 v3 v7 v6 v5 ex H locs ls hP hD hS hl hf hE
      unfold f_X3_worthAt_l10 at hf
      obtain ⟨q, hf, hor⟩ := lp_e hf
      have J68 : ∀ (v7 : Int32) (v6 : Int32) (v5 : Int32) (H : Heap) (locs : List Loc) (ls : Array Slot), va_P G classes (wl [lfN ct nm nv, lfH ct a k h, lfK ct k]) H → va_D A (wl [lfN ct nm nv, lfH ct a k h, lfK ct k]) → va_S A s.heap H locs → lv_has ls 9 [(7, .int v7), (6, .int v6), (5, .int v5), (0, .ref (nm 0)), (1, .ref (a 0)), (2, .int v2), (3, .int v3)] → f_X3_worthAt_j68 n nv h v7 v6 v5 v2 v3 = some q → WG l G ct sk sv p e (RM 5 184 0 0) s m args below meth c A (Eq2 (some (.int r)) (wl [lfN ct nm nv, lfH ct a k h, lfK ct k])) H locs (F0 m 68 ls []) := by
        intro v7 v6 v5 H locs ls hP hD hS hl hf
        unfold f_X3_worthAt_j68 at hf
        obtain ⟨v7_1, ev7_1, hf⟩ := bl_e hf
        refine lv_iinc (v := v7_1) (lv' := [(7, .int v7_1), (6, .int v6), (5, .int v5), (0, .ref (nm 0)), (1, .ref (a 0)), (2, .int v2), (3, .int v3)]) hx hb dX3_worthAt_68 hl (k := 0) rfl ev7_1 (by decide) rfl (fun ls hl => ?_)
        refine lv_goto (tgt := 10) hx hb dX3_worthAt_71 (by decide) ?_
        exact ih v2 v3 v7_1 v6 v5 ex _ _ _ hP hD hS hl (lp_inl hor hf) hE
      replace hf : f_X3_worthAt_b10 n nv h v7 v6 v5 v2 v3 = some q := hf
      unfold f_X3_worthAt_b10 at hf
      refine lv_iload hx hb dX3_worthAt_10 (lv_at hl 0 rfl) ?_
      refine lv_aload_n hx hb dX3_worthAt_12 rfl (lv_at hl 4 rfl) ?_
      refine va_get (D := G) (C := RX1) (T := TX1) (N := 16) (v := .int (h.1 1)) hx hb hts iu_X1 hown hK hP 8 rfl rfl 5 (by decide) (hts _ kw135) (fun _ h9 => h9) rfl dX3_worthAt_13 ?_
      refine lv_icmp_ge (tgt := 74) hx hb dX3_worthAt_16 (by decide) (fun c_2 => ?_) (fun c_2 => ?_)
      · replace hf := bc_t hf c_2
        exact hE v6 (lp_inr hor hf).symm _ _ _ hP hD hS (lv_sub hl [1] rfl)
      · replace hf := bc_f hf c_2
        refine lv_iload hx hb dX3_worthAt_19 (lv_at hl 2 rfl) ?_
        refine lv_if_le (tgt := 74) hx hb dX3_worthAt_21 (by decide) (fun c_3 => ?_) (fun c_3 => ?_)
        · replace hf := bc_t hf c_3
          exact hE v6 (lp_inr hor hf).symm _ _ _ hP hD hS (lv_sub hl [1] rfl)
        · replace hf := bc_f hf c_3
          refine lv_aload_n hx hb dX3_worthAt_24 rfl (lv_at hl 3 rfl) ?_
          refine va_get (D := G) (C := RX3) (T := TX3) (N := 9) (v := .ref (nm 7)) hx hb hts iu_X3 hown hK hP 0 rfl rfl 7 (by decide) (hts _ kw211) (fun _ h9 => h9) rfl dX3_worthAt_25 ?_
          refine lv_iload hx hb dX3_worthAt_28 (lv_at hl 0 rfl) ?_
          obtain ⟨g_4, hf⟩ := gd_e hf
          refine va_iald (f := nv.2.1 6) hx hb hK hP 7 0 rfl rfl g_4 dX3_worthAt_30 ?_
          refine lv_topi (fun v8_5 ev8_5 => ?_)
          replace hf := bl_i hf ev8_5
          refine lv_istore (lv' := [(8, .int v8_5), (7, .int v7), (6, .int v6), (5, .int v5), (0, .ref (nm 0)), (1, .ref (a 0)), (2, .int v2), (3, .int v3)]) hx hb dX3_worthAt_31 hl (by decide) rfl (fun ls hl => ?_)
          refine lv_aload_n hx hb dX3_worthAt_33 rfl (lv_at hl 5 rfl) ?_
          refine lv_iload hx hb dX3_worthAt_34 (lv_at hl 0 rfl) ?_
          obtain ⟨r_6, hc6, hf⟩ := bd_e hf
          refine call_V (As := [.int v8_5]) (rest := []) hx hb hml hown hts hK hP hD hS hA hZ lkX3_41 (Ctr.upL (c_X1_lies l G ct sk sv a k n h v8_5 hc6) [lfN ct nm nv, lfK ct k] [lfN ct nm nv, lfH ct a k h, lfK ct k] [lfN ct nm nv, lfH ct a k h, lfK ct k] [1, 0, 2] 3 (by decide) rfl rfl rfl rfl) 8 rfl rfl ⟨Nat.le_of_ble_eq_true rfl, Nat.le_of_ble_eq_true rfl⟩ rfl hl.1 rfl (Nat.le_of_ble_eq_true rfl) dX3_worthAt_36 ⟨Nat.le_of_ble_eq_true rfl, Nat.le_of_ble_eq_true rfl⟩ (fun r9 w9 H locs hB hP hD hS => ?_)
          obtain ⟨rfl, rfl⟩ := hB
          refine WG_eq (g2 := F0 m 39 ls [.int r_6]) rfl ?_
          refine lv_if_eq (tgt := 68) hx hb dX3_worthAt_39 (by decide) (fun c_7 => ?_) (fun c_7 => ?_)
          · replace hf := bc_t hf c_7
            exact J68 v7 v6 v5 _ _ _ hP hD hS (lv_sub hl [1, 2, 3, 4, 5, 6, 7] rfl) hf
          · replace hf := bc_f hf c_7
            refine lv_aload_n hx hb dX3_worthAt_42 rfl (lv_at hl 5 rfl) ?_
            refine lv_iload hx hb dX3_worthAt_43 (lv_at hl 0 rfl) ?_
            refine lv_iload_n hx hb dX3_worthAt_45 rfl (lv_at hl 6 rfl) ?_
            refine lv_iload_n hx hb dX3_worthAt_46 rfl (lv_at hl 7 rfl) ?_
            obtain ⟨r_8, hc8, hf⟩ := bd_e hf
            refine call_V (As := [.int v8_5, .int v2, .int v3]) (rest := []) hx hb hml hown hts hK hP hD hS hA hZ lkX3_79 (Ctr.upL (c_X1_suits l G ct sk sv a k n h v8_5 v2 v3 hc8) [lfN ct nm nv] [lfN ct nm nv, lfH ct a k h, lfK ct k] [lfN ct nm nv, lfH ct a k h, lfK ct k] [1, 2, 0] 3 (by decide) rfl rfl rfl rfl) 8 rfl rfl ⟨Nat.le_of_ble_eq_true rfl, Nat.le_of_ble_eq_true rfl⟩ rfl hl.1 rfl (Nat.le_of_ble_eq_true rfl) dX3_worthAt_47 ⟨Nat.le_of_ble_eq_true rfl, Nat.le_of_ble_eq_true rfl⟩ (fun r9 w9 H locs hB hP hD hS => ?_)
            obtain ⟨rfl, rfl⟩ := hB
            refine WG_eq (g2 := F0 m 50 ls [.int r_8]) rfl ?_
            refine lv_if_eq (tgt := 68) hx hb dX3_worthAt_50 (by decide) (fun c_9 => ?_) (fun c_9 => ?_)
            · replace hf := bc_t hf c_9
              exact J68 v7 v6 v5 _ _ _ hP hD hS (lv_sub hl [1, 2, 3, 4, 5, 6, 7] rfl) hf
            · replace hf := bc_f hf c_9
              refine lv_iload hx hb dX3_worthAt_53 (lv_at hl 2 rfl) ?_
              refine lv_aload_n hx hb dX3_worthAt_55 rfl (lv_at hl 4 rfl) ?_
              refine va_get (D := G) (C := RX3) (T := TX3) (N := 9) (v := .ref (nm 2)) hx hb hts iu_X3 hown hK hP 0 rfl rfl 2 (by decide) (hts _ kw205) (fun _ h9 => h9) rfl dX3_worthAt_56 ?_
              refine lv_iload hx hb dX3_worthAt_59 (lv_at hl 0 rfl) ?_
              obtain ⟨g_10, hf⟩ := gd_e hf
              refine va_iald (f := nv.2.1 1) hx hb hK hP 2 0 rfl rfl g_10 dX3_worthAt_61 ?_
              refine lv_iadd hx hb dX3_worthAt_62 ?_
              refine lv_topi (fun v6_11 ev6_11 => ?_)
              replace hf := bl_i hf ev6_11
              refine lv_istore (lv' := [(6, .int v6_11), (8, .int v8_5), (7, .int v7), (5, .int v5), (0, .ref (nm 0)), (1, .ref (a 0)), (2, .int v2), (3, .int v3)]) hx hb dX3_worthAt_63 hl (by decide) rfl (fun ls hl => ?_)
              obtain ⟨v5_12, ev5_12, hf⟩ := bl_e hf
              refine lv_iinc (v := v5_12) (lv' := [(5, .int v5_12), (6, .int v6_11), (8, .int v8_5), (7, .int v7), (0, .ref (nm 0)), (1, .ref (a 0)), (2, .int v2), (3, .int v3)]) hx hb dX3_worthAt_65 hl (k := 3) rfl ev5_12 (by decide) rfl (fun ls hl => ?_)
              exact J68 v7 v6_11 v5_12 _ _ _ hP hD hS (lv_sub hl [3, 1, 0, 4, 5, 6, 7] rfl) hf
  have J74 : ∀ (v6 : Int32) (H : Heap) (locs : List Loc) (ls : Array Slot), va_P G classes (wl [lfN ct nm nv, lfH ct a k h, lfK ct k]) H → va_D A (wl [lfN ct nm nv, lfH ct a k h, lfK ct k]) → va_S A s.heap H locs → lv_has ls 9 [(6, .int v6)] → f_X3_worthAt_j74 n nv h v6 = some r → WG l G ct sk sv p e (RM 5 184 0 0) s m args below meth c A (Eq2 (some (.int r)) (wl [lfN ct nm nv, lfH ct a k h, lfK ct k])) H locs (F0 m 74 ls []) := by
    intro v6 H locs ls hP hD hS hl hf
    unfold f_X3_worthAt_j74 at hf
    refine lv_iload hx hb dX3_worthAt_74 (lv_at hl 0 rfl) ?_
    have e1 := Option.some.inj hf
    exact end_i (w' := (wl [lfN ct nm nv, lfH ct a k h, lfK ct k])) hx hb hr hlocks hK hP hD hS dX3_worthAt_76  ⟨by rw [← e1], rfl⟩
  unfold f_X3_worthAt at hf
  show WG l G ct sk sv p e (RM 5 184 0 0) s m args below meth c A (Eq2 (some (.int r)) (wl [lfN ct nm nv, lfH ct a k h, lfK ct k])) s.heap [] (F0 m 0 ls [])
  refine lv_iload hx hb dX3_worthAt_0 (lv_at hl 4 rfl) ?_
  refine lv_istore (lv' := [(5, .int v4), (0, .ref (nm 0)), (1, .ref (a 0)), (2, .int v2), (3, .int v3), (4, .int v4)]) hx hb dX3_worthAt_2 hl (by decide) rfl (fun ls hl => ?_)
  refine lv_iconst (v := 0) hx hb dX3_worthAt_4 (by decide) ?_
  refine lv_istore (lv' := [(6, .int 0), (5, .int v4), (0, .ref (nm 0)), (1, .ref (a 0)), (2, .int v2), (3, .int v3), (4, .int v4)]) hx hb dX3_worthAt_5 hl (by decide) rfl (fun ls hl => ?_)
  refine lv_iconst (v := 0) hx hb dX3_worthAt_7 (by decide) ?_
  refine lv_istore (lv' := [(7, .int 0), (6, .int 0), (5, .int v4), (0, .ref (nm 0)), (1, .ref (a 0)), (2, .int v2), (3, .int v3), (4, .int v4)]) hx hb dX3_worthAt_8 hl (by decide) rfl (fun ls hl => ?_)
  obtain ⟨v6_13, hx_14, hf⟩ := bd_e hf
  refine L10 n v2 v3 0 0 v4 v6_13 _ _ _ hP hD hS (lv_sub hl [0, 1, 2, 3, 4, 5, 6] rfl) hx_14 ?_
  intro x9 e9 H locs ls hP hD hS hl
  subst e9
  have hP : va_P G classes (wl [lfN ct nm nv, lfH ct a k h, lfK ct k]) H := hP
  have hD : va_D A (wl [lfN ct nm nv, lfH ct a k h, lfK ct k]) := hD
  have hl : lv_has ls 9 [(6, .int v6_13)] := hl
  exact J74 v6_13 _ _ _ hP hD hS hl hf
noncomputable def f_X3_bestPlace_j59 (n : Nat) (nv : MV) (h : MV) (v5 : Int32) (v4 : Int32) (v3 : Int32) (v2 : Int32) : Option ((Int32 × Int32 × MV) ⊕ (Int32 × MV)) :=
  bl (v5 + 1) fun v5_1 =>
  some (.inl (v5_1, v4, nv))
noncomputable def f_X3_bestPlace_b22 (n : Nat) (nv : MV) (h : MV) (v5 : Int32) (v4 : Int32) (v3 : Int32) (v2 : Int32) : Option ((Int32 × Int32 × MV) ⊕ (Int32 × MV)) :=
  bc (99 < v5) (some (.inr (v4, nv)))
  (bd (f_X3_worthAt n nv h v2 v5 v3) fun r_3 =>
  bc (r_3 ≤ (nv.1 1)) (f_X3_bestPlace_j59 n nv h v5 v4 v3 v2)
  (bl (setS nv 1 r_3) fun nv_5 =>
  f_X3_bestPlace_j59 n nv_5 h v5 v5 v3 v2))
noncomputable def f_X3_bestPlace_l22 (fu : Nat) (n : Nat) (nv : MV) (h : MV) (v3 : Int32) (v2 : Int32) (v5 : Int32) (v4 : Int32) : Option (Int32 × MV) :=
  lp (fun q => f_X3_bestPlace_b22 n q.2.2 h q.1 q.2.1 v3 v2) fu (v5, v4, nv)
noncomputable def f_X3_bestPlace (n : Nat) (nv : MV) (h : MV) (v2 : Int32) : Option (Int32 × MV) :=
  bd (f_X3_sortByPostage n nv h) fun nv_6 =>
  bd (f_X1_coversLeft n h v2) fun r_7 =>
  bl (setS nv_6 1 (-1)) fun nv_8 =>
  bd2 (f_X3_bestPlace_l22 n n nv_8 h r_7 v2 0 0) fun v4_9 nv_10 =>
  some (v4_9, nv_10)
set_option maxHeartbeats 4000000 in
set_option maxRecDepth 100000 in
theorem c_X3_bestPlace (l : Launch) (G : va_G) (ct : Nat → ClassId) (sk sv : Nat → Nat) (nm : Nat → Nat) (a : Nat → Nat) (k : Nat → Nat) (n : Nat) (nv : MV) (h : MV) (v2 : Int32) {r : Int32} {nv' : MV} (hf : f_X3_bestPlace n nv h v2 = some (r, nv')) : Ctr (l, G, ct, sk, sv) mX3_bestPlace 6 212 [.ref (nm 0), .ref (a 0), .int v2] (wl [lfN ct nm nv, lfH ct a k h, lfK ct k]) (wl [lfN ct nm nv', lfH ct a k h, lfK ct k]) (some (.int r)) := by
  refine ctr_intro (by decide) (Nat.le_of_ble_eq_true rfl) ?_
  intro p e s m args below meth c A C hP hD hS hA ls hl
  obtain ⟨hx, hb, hml, hown, hts, hr, hlocks, hK, hnm, hZ⟩ := C
  have hb : c.code = cX3_bestPlace := hb
  have hml : c.maxLocals = 7 := hml
  have hown : s.vm.findClass "SignedOutside$Names" = some m.cls := hown
  have hr : meth.sig.returnType = some .int := hr
  have hP : va_P G classes (wl [lfN ct nm nv, lfH ct a k h, lfK ct k]) s.heap := hP
  have hD : va_D A (wl [lfN ct nm nv, lfH ct a k h, lfK ct k]) := hD
  have hK : va_K G classes (TYS ct) s := hK
  have hl : lv_has ls 7 [(0, .ref (nm 0)), (1, .ref (a 0)), (2, .int v2)] := hl
  have L22 : ∀ (fu : Nat) (nv : MV) (v3 : Int32) (v2 : Int32) (v5 : Int32) (v4 : Int32) (ex : Int32 × MV) (H : Heap) (locs : List Loc) (ls : Array Slot), va_P G classes (wl [lfN ct nm nv, lfH ct a k h, lfK ct k]) H → va_D A (wl [lfN ct nm nv, lfH ct a k h, lfK ct k]) → va_S A s.heap H locs → lv_has ls 7 [(5, .int v5), (4, .int v4), (3, .int v3), (0, .ref (nm 0)), (1, .ref (a 0)), (2, .int v2)] → f_X3_bestPlace_l22 fu n nv h v3 v2 v5 v4 = some ex → (∀ (x : Int32 × MV), ex = x → ∀ (H : Heap) (locs : List Loc) (ls : Array Slot), va_P G classes (wl [lfN ct nm x.2, lfH ct a k h, lfK ct k]) H → va_D A (wl [lfN ct nm x.2, lfH ct a k h, lfK ct k]) → va_S A s.heap H locs → lv_has ls 7 [(4, .int x.1)] → WG l G ct sk sv p e (RM 6 212 0 0) s m args below meth c A (Eq2 (some (.int r)) (wl [lfN ct nm nv', lfH ct a k h, lfK ct k])) H locs (F0 m 65 ls [])) → WG l G ct sk sv p e (RM 6 212 0 0) s m args below meth c A (Eq2 (some (.int r)) (wl [lfN ct nm nv', lfH ct a k h, lfK ct k])) H locs (F0 m 22 ls []) := by
    intro fu
    induction fu with
    | zero =>
      intro nv v3 v2 v5 v4 ex H locs ls hP hD hS hl hf
      exact absurd hf (by unfold f_X3_bestPlace_l22 lp; exact fun h => by cases h)
    | succ fu ih =>
      intro nv v3 v2 v5 v4 ex H locs ls hP hD hS hl hf hE
      unfold f_X3_bestPlace_l22 at hf
      obtain ⟨q, hf, hor⟩ := lp_e hf
      have J59 : ∀ (nv : MV) (v5 : Int32) (v4 : Int32) (H : Heap) (locs : List Loc) (ls : Array Slot), va_P G classes (wl [lfN ct nm nv, lfH ct a k h, lfK ct k]) H → va_D A (wl [lfN ct nm nv, lfH ct a k h, lfK ct k]) → va_S A s.heap H locs → lv_has ls 7 [(5, .int v5), (4, .int v4), (3, .int v3), (0, .ref (nm 0)), (1, .ref (a 0)), (2, .int v2)] → f_X3_bestPlace_j59 n nv h v5 v4 v3 v2 = some q → WG l G ct sk sv p e (RM 6 212 0 0) s m args below meth c A (Eq2 (some (.int r)) (wl [lfN ct nm nv', lfH ct a k h, lfK ct k])) H locs (F0 m 59 ls []) := by
        intro nv v5 v4 H locs ls hP hD hS hl hf
        unfold f_X3_bestPlace_j59 at hf
        obtain ⟨v5_1, ev5_1, hf⟩ := bl_e hf
        refine lv_iinc (v := v5_1) (lv' := [(5, .int v5_1), (4, .int v4), (3, .int v3), (0, .ref (nm 0)), (1, .ref (a 0)), (2, .int v2)]) hx hb dX3_bestPlace_59 hl (k := 0) rfl ev5_1 (by decide) rfl (fun ls hl => ?_)
        refine lv_goto (tgt := 22) hx hb dX3_bestPlace_62 (by decide) ?_
        exact ih nv v3 v2 v5_1 v4 ex _ _ _ hP hD hS hl (lp_inl hor hf) hE
      replace hf : f_X3_bestPlace_b22 n nv h v5 v4 v3 v2 = some q := hf
      unfold f_X3_bestPlace_b22 at hf
      refine lv_iload hx hb dX3_bestPlace_22 (lv_at hl 0 rfl) ?_
      refine lv_bipush (v := 99) hx hb dX3_bestPlace_24 (by decide) ?_
      refine lv_icmp_gt (tgt := 65) hx hb dX3_bestPlace_26 (by decide) (fun c_2 => ?_) (fun c_2 => ?_)
      · replace hf := bc_t hf c_2
        exact hE (v4, nv) (lp_inr hor hf).symm _ _ _ hP hD hS (lv_sub hl [1] rfl)
      · replace hf := bc_f hf c_2
        refine lv_aload_n hx hb dX3_bestPlace_29 rfl (lv_at hl 3 rfl) ?_
        refine lv_aload_n hx hb dX3_bestPlace_30 rfl (lv_at hl 4 rfl) ?_
        refine lv_iload_n hx hb dX3_bestPlace_31 rfl (lv_at hl 5 rfl) ?_
        refine lv_iload hx hb dX3_bestPlace_32 (lv_at hl 0 rfl) ?_
        refine lv_iload_n hx hb dX3_bestPlace_34 rfl (lv_at hl 2 rfl) ?_
        obtain ⟨r_3, hc3, hf⟩ := bd_e hf
        refine call_V (As := [.ref (a 0), .int v2, .int v5, .int v3]) (rest := []) hx hb hml hown hts hK hP hD hS hA hZ lkX3_75 (c_X3_worthAt l G ct sk sv nm a k n nv h v2 v5 v3 hc3) 0 rfl rfl ⟨Nat.le_of_ble_eq_true rfl, Nat.le_of_ble_eq_true rfl⟩ rfl hl.1 rfl (Nat.le_of_ble_eq_true rfl) dX3_bestPlace_35 ⟨Nat.le_of_ble_eq_true rfl, Nat.le_of_ble_eq_true rfl⟩ (fun r9 w9 H locs hB hP hD hS => ?_)
        obtain ⟨rfl, rfl⟩ := hB
        refine WG_eq (g2 := F0 m 38 ls [.int r_3]) rfl ?_
        refine lv_istore (lv' := [(6, .int r_3), (5, .int v5), (4, .int v4), (3, .int v3), (0, .ref (nm 0)), (1, .ref (a 0)), (2, .int v2)]) hx hb dX3_bestPlace_38 hl (by decide) rfl (fun ls hl => ?_)
        refine lv_iload hx hb dX3_bestPlace_40 (lv_at hl 0 rfl) ?_
        refine lv_aload_n hx hb dX3_bestPlace_42 rfl (lv_at hl 4 rfl) ?_
        refine va_get (D := G) (C := RX3) (T := TX3) (N := 9) (v := .int (nv.1 1)) hx hb hts iu_X3 hown hK hP 0 rfl rfl 8 (by decide) (hts _ kw212) (fun _ h9 => h9) rfl dX3_bestPlace_43 ?_
        refine lv_icmp_le (tgt := 59) hx hb dX3_bestPlace_46 (by decide) (fun c_4 => ?_) (fun c_4 => ?_)
        · replace hf := bc_t hf c_4
          exact J59 nv v5 v4 _ _ _ hP hD hS (lv_sub hl [1, 2, 3, 4, 5, 6] rfl) hf
        · replace hf := bc_f hf c_4
          refine lv_iload hx hb dX3_bestPlace_49 (lv_at hl 1 rfl) ?_
          refine lv_istore (lv' := [(4, .int v5), (6, .int r_3), (5, .int v5), (3, .int v3), (0, .ref (nm 0)), (1, .ref (a 0)), (2, .int v2)]) hx hb dX3_bestPlace_51 hl (by decide) rfl (fun ls hl => ?_)
          refine lv_aload_n hx hb dX3_bestPlace_53 rfl (lv_at hl 4 rfl) ?_
          refine lv_iload hx hb dX3_bestPlace_54 (lv_at hl 1 rfl) ?_
          obtain ⟨nv_5, env_5, hf⟩ := bl_e hf
          refine va_put (D := G) (C := RX3) (T := TX3) (N := 9) (ty := .int) hx hb hts iu_X3 tyX3 tyX3_ok nmX3 hown hK hP hD hS 0 rfl rfl 8 (by decide) (hts _ kw212) (fun _ h9 => h9) rfl (by decide +kernel) rfl rfl (Nat.le_of_ble_eq_true rfl) dX3_bestPlace_56 (fun H locs hP hD hS => ?_)
          have hP : va_P G classes (wl [lfN ct nm nv_5, lfH ct a k h, lfK ct k]) H := by rw [← env_5]; exact hP
          have hD : va_D A (wl [lfN ct nm nv_5, lfH ct a k h, lfK ct k]) := by rw [← env_5]; exact hD
          exact J59 nv_5 v5 v5 _ _ _ hP hD hS (lv_sub hl [2, 0, 3, 4, 5, 6] rfl) hf
  unfold f_X3_bestPlace at hf
  show WG l G ct sk sv p e (RM 6 212 0 0) s m args below meth c A (Eq2 (some (.int r)) (wl [lfN ct nm nv', lfH ct a k h, lfK ct k])) s.heap [] (F0 m 0 ls [])
  refine lv_aload_n hx hb dX3_bestPlace_0 rfl (lv_at hl 0 rfl) ?_
  refine lv_aload_n hx hb dX3_bestPlace_1 rfl (lv_at hl 1 rfl) ?_
  obtain ⟨nv_6, hc6, hf⟩ := bd_e hf
  refine call_V (As := [.ref (a 0)]) (rest := []) hx hb hml hown hts hK hP hD hS hA hZ lkX3_71 (Ctr.upL (c_X3_sortByPostage l G ct sk sv nm a k n nv h hc6) [lfK ct k] [lfN ct nm nv, lfH ct a k h, lfK ct k] [lfN ct nm nv_6, lfH ct a k h, lfK ct k] [0, 1, 2] 3 (by decide) rfl rfl rfl rfl) 0 rfl rfl ⟨Nat.le_of_ble_eq_true rfl, Nat.le_of_ble_eq_true rfl⟩ rfl hl.1 rfl (Nat.le_of_ble_eq_true rfl) dX3_bestPlace_2 ⟨Nat.le_of_ble_eq_true rfl, Nat.le_of_ble_eq_true rfl⟩ (fun r9 w9 H locs hB hP hD hS => ?_)
  obtain ⟨rfl, rfl⟩ := hB
  refine WG_eq (g2 := F0 m 5 ls []) rfl ?_
  refine lv_aload_n hx hb dX3_bestPlace_5 rfl (lv_at hl 1 rfl) ?_
  refine lv_iload_n hx hb dX3_bestPlace_6 rfl (lv_at hl 2 rfl) ?_
  obtain ⟨r_7, hc7, hf⟩ := bd_e hf
  refine call_V (As := [.int v2]) (rest := []) hx hb hml hown hts hK hP hD hS hA hZ lkX3_55 (Ctr.upL (c_X1_coversLeft l G ct sk sv a k n h v2 hc7) [lfN ct nm nv_6] [lfN ct nm nv_6, lfH ct a k h, lfK ct k] [lfN ct nm nv_6, lfH ct a k h, lfK ct k] [1, 2, 0] 3 (by decide) rfl rfl rfl rfl) 8 rfl rfl ⟨Nat.le_of_ble_eq_true rfl, Nat.le_of_ble_eq_true rfl⟩ rfl hl.1 rfl (Nat.le_of_ble_eq_true rfl) dX3_bestPlace_7 ⟨Nat.le_of_ble_eq_true rfl, Nat.le_of_ble_eq_true rfl⟩ (fun r9 w9 H locs hB hP hD hS => ?_)
  obtain ⟨rfl, rfl⟩ := hB
  refine WG_eq (g2 := F0 m 10 ls [.int r_7]) rfl ?_
  refine lv_istore_n (lv' := [(3, .int r_7), (0, .ref (nm 0)), (1, .ref (a 0)), (2, .int v2)]) hx hb dX3_bestPlace_10 rfl hl (by decide) rfl (fun ls hl => ?_)
  refine lv_iconst (v := 0) hx hb dX3_bestPlace_11 (by decide) ?_
  refine lv_istore (lv' := [(4, .int 0), (3, .int r_7), (0, .ref (nm 0)), (1, .ref (a 0)), (2, .int v2)]) hx hb dX3_bestPlace_12 hl (by decide) rfl (fun ls hl => ?_)
  refine lv_aload_n hx hb dX3_bestPlace_14 rfl (lv_at hl 2 rfl) ?_
  refine lv_iconst (v := (-1)) hx hb dX3_bestPlace_15 (by decide) ?_
  obtain ⟨nv_8, env_8, hf⟩ := bl_e hf
  refine va_put (D := G) (C := RX3) (T := TX3) (N := 9) (ty := .int) hx hb hts iu_X3 tyX3 tyX3_ok nmX3 hown hK hP hD hS 0 rfl rfl 8 (by decide) (hts _ kw212) (fun _ h9 => h9) rfl (by decide +kernel) rfl rfl (Nat.le_of_ble_eq_true rfl) dX3_bestPlace_16 (fun H locs hP hD hS => ?_)
  have hP : va_P G classes (wl [lfN ct nm nv_8, lfH ct a k h, lfK ct k]) H := by rw [← env_8]; exact hP
  have hD : va_D A (wl [lfN ct nm nv_8, lfH ct a k h, lfK ct k]) := by rw [← env_8]; exact hD
  refine lv_iconst (v := 0) hx hb dX3_bestPlace_19 (by decide) ?_
  refine lv_istore (lv' := [(5, .int 0), (4, .int 0), (3, .int r_7), (0, .ref (nm 0)), (1, .ref (a 0)), (2, .int v2)]) hx hb dX3_bestPlace_20 hl (by decide) rfl (fun ls hl => ?_)
  obtain ⟨v4_9, nv_10, hx_11, hf⟩ := bd2_e hf
  refine L22 n nv_8 r_7 v2 0 0 (v4_9, nv_10) _ _ _ hP hD hS hl hx_11 ?_
  intro x9 e9 H locs ls hP hD hS hl
  subst e9
  have hP : va_P G classes (wl [lfN ct nm nv_10, lfH ct a k h, lfK ct k]) H := hP
  have hD : va_D A (wl [lfN ct nm nv_10, lfH ct a k h, lfK ct k]) := hD
  have hl : lv_has ls 7 [(4, .int v4_9)] := hl
  refine lv_iload hx hb dX3_bestPlace_65 (lv_at hl 0 rfl) ?_
  obtain ⟨e1, e2⟩ := inj2 (Option.some.inj hf)
  exact end_i (w' := (wl [lfN ct nm nv_10, lfH ct a k h, lfK ct k])) hx hb hr hlocks hK hP hD hS dX3_bestPlace_67  ⟨by rw [← e1], by rw [← e2]⟩
noncomputable def f_X3_gain_j19 (n : Nat) (s0 : Int32) : Option (Int32) :=
  some s0
noncomputable def f_X3_gain (n : Nat) (v0 : Int32) (v1 : Int32) (v2 : Int32) : Option (Int32) :=
  bc (v0 = 0) (some 0)
  (bc (v1 = 0) (f_X3_gain_j19 n v2)
  (f_X3_gain_j19 n ((v2 / 2) - 1)))
set_option maxHeartbeats 4000000 in
set_option maxRecDepth 100000 in
theorem c_X3_gain (l : Launch) (G : va_G) (ct : Nat → ClassId) (sk sv : Nat → Nat)  (n : Nat) (v0 : Int32) (v1 : Int32) (v2 : Int32) {r : Int32} (hf : f_X3_gain n v0 v1 v2 = some r) : Ctr (l, G, ct, sk, sv) mX3_gain 0 0 [.int v0, .int v1, .int v2] (wl []) (wl []) (some (.int r)) := by
  refine ctr_intro (by decide) (Nat.le_of_ble_eq_true rfl) ?_
  intro p e s m args below meth c A C hP hD hS hA ls hl
  obtain ⟨hx, hb, hml, hown, hts, hr, hlocks, hK, hnm, hZ⟩ := C
  have hb : c.code = cX3_gain := hb
  have hml : c.maxLocals = 3 := hml
  have hown : s.vm.findClass "SignedOutside$Names" = some m.cls := hown
  have hr : meth.sig.returnType = some .int := hr
  have hP : va_P G classes (wl []) s.heap := hP
  have hD : va_D A (wl []) := hD
  have hK : va_K G classes (TYS ct) s := hK
  have hl : lv_has ls 3 [(0, .int v0), (1, .int v1), (2, .int v2)] := hl
  have J19 : ∀ (s0 : Int32) (H : Heap) (locs : List Loc) (ls : Array Slot), va_P G classes (wl []) H → va_D A (wl []) → va_S A s.heap H locs → lv_has ls 3 [] → f_X3_gain_j19 n s0 = some r → WG l G ct sk sv p e (RM 0 0 0 0) s m args below meth c A (Eq2 (some (.int r)) (wl [])) H locs (F0 m 19 ls [.int s0]) := by
    intro s0 H locs ls hP hD hS hl hf
    unfold f_X3_gain_j19 at hf
    have e1 := Option.some.inj hf
    exact end_i (w' := (wl [])) hx hb hr hlocks hK hP hD hS dX3_gain_19  ⟨by rw [← e1], rfl⟩
  unfold f_X3_gain at hf
  show WG l G ct sk sv p e (RM 0 0 0 0) s m args below meth c A (Eq2 (some (.int r)) (wl [])) s.heap [] (F0 m 0 ls [])
  refine lv_iload_n hx hb dX3_gain_0 rfl (lv_at hl 0 rfl) ?_
  refine lv_if_ne (tgt := 6) hx hb dX3_gain_1 (by decide) (fun c_1 => ?_) (fun c_1 => ?_)
  · replace hf := bc_f hf c_1
    refine lv_iload_n hx hb dX3_gain_6 rfl (lv_at hl 1 rfl) ?_
    refine lv_if_eq (tgt := 18) hx hb dX3_gain_7 (by decide) (fun c_2 => ?_) (fun c_2 => ?_)
    · replace hf := bc_t hf c_2
      refine lv_iload_n hx hb dX3_gain_18 rfl (lv_at hl 2 rfl) ?_
      exact J19 v2 _ _ _ hP hD hS (lv_sub hl [] rfl) hf
    · replace hf := bc_f hf c_2
      refine lv_iload_n hx hb dX3_gain_10 rfl (lv_at hl 2 rfl) ?_
      refine lv_iconst (v := 2) hx hb dX3_gain_11 (by decide) ?_
      refine lv_idiv hx hb dX3_gain_12 (by decide) ?_
      refine lv_iconst (v := 1) hx hb dX3_gain_13 (by decide) ?_
      refine lv_isub hx hb dX3_gain_14 ?_
      refine lv_goto (tgt := 19) hx hb dX3_gain_15 (by decide) ?_
      exact J19 ((v2 / 2) - 1) _ _ _ hP hD hS (lv_sub hl [] rfl) hf
  · replace hf := bc_t hf c_1
    refine lv_iconst (v := 0) hx hb dX3_gain_4 (by decide) ?_
    have e1 := Option.some.inj hf
    exact end_i (w' := (wl [])) hx hb hr hlocks hK hP hD hS dX3_gain_5  ⟨by rw [← e1], rfl⟩
noncomputable def f_X3_pairsThatRest_j151 (n : Nat) (v5 : Int32) (v4 : Int32) (v1 : Int32) (v2 : Int32) (v3 : Int32) : Option ((Int32 × Int32) ⊕ (Int32)) :=
  bl (v5 + 1) fun v5_1 =>
  some (.inl (v5_1, v4))
noncomputable def f_X3_pairsThatRest_j130 (n : Nat) (v10 : Int32) (v5 : Int32) (v4 : Int32) (v1 : Int32) (v2 : Int32) (v3 : Int32) (s0 : Int32) : Option ((Int32 × Int32) ⊕ (Int32)) :=
  bc (v10 = 0) (bc (s0 = 0) (bl (v4 ||| (1 <<< (v5 &&& 31))) fun v4_4 =>
  f_X3_pairsThatRest_j151 n v5 v4_4 v1 v2 v3)
  (f_X3_pairsThatRest_j151 n v5 v4 v1 v2 v3))
  (f_X3_pairsThatRest_j151 n v5 v4 v1 v2 v3)
noncomputable def f_X3_pairsThatRest_j104 (n : Nat) (v9 : Int32) (v7 : Int32) (v6 : Int32) (v5 : Int32) (v4 : Int32) (v1 : Int32) (v2 : Int32) (v3 : Int32) (s0 : Int32) : Option ((Int32 × Int32) ⊕ (Int32)) :=
  bd (f_X3_gain n v9 v6 v3) fun r_5 =>
  bd (f_X3_gain n v7 v6 v3) fun r_6 =>
  bc (r_5 ≤ r_6) (f_X3_pairsThatRest_j130 n s0 v5 v4 v1 v2 v3 0)
  (f_X3_pairsThatRest_j130 n s0 v5 v4 v1 v2 v3 1)
noncomputable def f_X3_pairsThatRest_j78 (n : Nat) (v8 : Int32) (v7 : Int32) (v6 : Int32) (v5 : Int32) (v4 : Int32) (v1 : Int32) (v2 : Int32) (v3 : Int32) (s0 : Int32) : Option ((Int32 × Int32) ⊕ (Int32)) :=
  bd (f_X3_gain n v8 v7 v3) fun r_8 =>
  bd (f_X3_gain n v6 v7 v3) fun r_9 =>
  bc (r_8 ≤ r_9) (f_X3_pairsThatRest_j104 n s0 v7 v6 v5 v4 v1 v2 v3 0)
  (f_X3_pairsThatRest_j104 n s0 v7 v6 v5 v4 v1 v2 v3 1)
noncomputable def f_X3_pairsThatRest_j77 (n : Nat) (v8 : Int32) (v7 : Int32) (v6 : Int32) (v5 : Int32) (v4 : Int32) (v1 : Int32) (v2 : Int32) (v3 : Int32) : Option ((Int32 × Int32) ⊕ (Int32)) :=
  f_X3_pairsThatRest_j78 n v8 v7 v6 v5 v4 v1 v2 v3 0
noncomputable def f_X3_pairsThatRest_j62 (n : Nat) (v7 : Int32) (v6 : Int32) (v5 : Int32) (v4 : Int32) (v1 : Int32) (v2 : Int32) (v3 : Int32) (s0 : Int32) : Option ((Int32 × Int32) ⊕ (Int32)) :=
  bc (v2 = 0) (f_X3_pairsThatRest_j77 n s0 v7 v6 v5 v4 v1 v2 v3)
  (bc (v7 = 0) (f_X3_pairsThatRest_j78 n s0 v7 v6 v5 v4 v1 v2 v3 1)
  (f_X3_pairsThatRest_j77 n s0 v7 v6 v5 v4 v1 v2 v3))
noncomputable def f_X3_pairsThatRest_j61 (n : Nat) (v7 : Int32) (v6 : Int32) (v5 : Int32) (v4 : Int32) (v1 : Int32) (v2 : Int32) (v3 : Int32) : Option ((Int32 × Int32) ⊕ (Int32)) :=
  f_X3_pairsThatRest_j62 n v7 v6 v5 v4 v1 v2 v3 0
noncomputable def f_X3_pairsThatRest_j46 (n : Nat) (v6 : Int32) (v5 : Int32) (v4 : Int32) (v1 : Int32) (v2 : Int32) (v3 : Int32) (s0 : Int32) : Option ((Int32 × Int32) ⊕ (Int32)) :=
  bc (v1 = 0) (f_X3_pairsThatRest_j61 n s0 v6 v5 v4 v1 v2 v3)
  (bc (v6 = 0) (f_X3_pairsThatRest_j62 n s0 v6 v5 v4 v1 v2 v3 1)
  (f_X3_pairsThatRest_j61 n s0 v6 v5 v4 v1 v2 v3))
noncomputable def f_X3_pairsThatRest_j45 (n : Nat) (v6 : Int32) (v5 : Int32) (v4 : Int32) (v1 : Int32) (v2 : Int32) (v3 : Int32) : Option ((Int32 × Int32) ⊕ (Int32)) :=
  f_X3_pairsThatRest_j46 n v6 v5 v4 v1 v2 v3 0
noncomputable def f_X3_pairsThatRest_j28 (n : Nat) (v5 : Int32) (v4 : Int32) (v1 : Int32) (v2 : Int32) (v3 : Int32) (s0 : Int32) : Option ((Int32 × Int32) ⊕ (Int32)) :=
  bc (v2 = 0) (f_X3_pairsThatRest_j45 n s0 v5 v4 v1 v2 v3)
  (bc ((v5 &&& 2) = 0) (f_X3_pairsThatRest_j45 n s0 v5 v4 v1 v2 v3)
  (f_X3_pairsThatRest_j46 n s0 v5 v4 v1 v2 v3 1))
noncomputable def f_X3_pairsThatRest_j27 (n : Nat) (v5 : Int32) (v4 : Int32) (v1 : Int32) (v2 : Int32) (v3 : Int32) : Option ((Int32 × Int32) ⊕ (Int32)) :=
  f_X3_pairsThatRest_j28 n v5 v4 v1 v2 v3 0
noncomputable def f_X3_pairsThatRest_b6 (n : Nat) (v5 : Int32) (v4 : Int32) (v1 : Int32) (v2 : Int32) (v3 : Int32) : Option ((Int32 × Int32) ⊕ (Int32)) :=
  bc (4 ≤ v5) (some (.inr v4))
  (bc (v1 = 0) (f_X3_pairsThatRest_j27 n v5 v4 v1 v2 v3)
  (bc ((v5 &&& 1) = 0) (f_X3_pairsThatRest_j27 n v5 v4 v1 v2 v3)
  (f_X3_pairsThatRest_j28 n v5 v4 v1 v2 v3 1)))
noncomputable def f_X3_pairsThatRest_l6 (fu : Nat) (n : Nat) (v1 : Int32) (v2 : Int32) (v3 : Int32) (v5 : Int32) (v4 : Int32) : Option (Int32) :=
  lp (fun q => f_X3_pairsThatRest_b6 n q.1 q.2 v1 v2 v3) fu (v5, v4)
noncomputable def f_X3_pairsThatRest (n : Nat) (v1 : Int32) (v2 : Int32) (v3 : Int32) : Option (Int32) :=
  bd (f_X3_pairsThatRest_l6 n n v1 v2 v3 0 0) fun v4_20 =>
  some v4_20
set_option maxHeartbeats 4000000 in
set_option maxRecDepth 100000 in
theorem c_X3_pairsThatRest (l : Launch) (G : va_G) (ct : Nat → ClassId) (sk sv : Nat → Nat) (nm : Nat → Nat) (n : Nat) (v1 : Int32) (v2 : Int32) (v3 : Int32) {r : Int32} (hf : f_X3_pairsThatRest n v1 v2 v3 = some r) : Ctr (l, G, ct, sk, sv) mX3_pairsThatRest 1 22 [.ref (nm 0), .int v1, .int v2, .int v3] (wl []) (wl []) (some (.int r)) := by
  refine ctr_intro (by decide) (Nat.le_of_ble_eq_true rfl) ?_
  intro p e s m args below meth c A C hP hD hS hA ls hl
  obtain ⟨hx, hb, hml, hown, hts, hr, hlocks, hK, hnm, hZ⟩ := C
  have hb : c.code = cX3_pairsThatRest := hb
  have hml : c.maxLocals = 12 := hml
  have hown : s.vm.findClass "SignedOutside$Names" = some m.cls := hown
  have hr : meth.sig.returnType = some .int := hr
  have hP : va_P G classes (wl []) s.heap := hP
  have hD : va_D A (wl []) := hD
  have hK : va_K G classes (TYS ct) s := hK
  have hl : lv_has ls 12 [(0, .ref (nm 0)), (1, .int v1), (2, .int v2), (3, .int v3)] := hl
  have L6 : ∀ (fu : Nat) (v1 : Int32) (v2 : Int32) (v3 : Int32) (v5 : Int32) (v4 : Int32) (ex : Int32) (H : Heap) (locs : List Loc) (ls : Array Slot), va_P G classes (wl []) H → va_D A (wl []) → va_S A s.heap H locs → lv_has ls 12 [(5, .int v5), (4, .int v4), (1, .int v1), (2, .int v2), (3, .int v3)] → f_X3_pairsThatRest_l6 fu n v1 v2 v3 v5 v4 = some ex → (∀ (x : Int32), ex = x → ∀ (H : Heap) (locs : List Loc) (ls : Array Slot), va_P G classes (wl []) H → va_D A (wl []) → va_S A s.heap H locs → lv_has ls 12 [(4, .int x)] → WG l G ct sk sv p e (RM 1 22 0 0) s m args below meth c A (Eq2 (some (.int r)) (wl [])) H locs (F0 m 157 ls [])) → WG l G ct sk sv p e (RM 1 22 0 0) s m args below meth c A (Eq2 (some (.int r)) (wl [])) H locs (F0 m 6 ls []) := by
    intro fu
    induction fu with
    | zero =>
      intro v1 v2 v3 v5 v4 ex H locs ls hP hD hS hl hf
      exact absurd hf (by unfold f_X3_pairsThatRest_l6 lp; exact fun h => by cases h)
    | succ fu ih =>
      intro v1 v2 v3 v5 v4 ex H locs ls hP hD hS hl hf hE
      unfold f_X3_pairsThatRest_l6 at hf
      obtain ⟨q, hf, hor⟩ := lp_e hf
      have J151 : ∀ (v5 : Int32) (v4 : Int32) (H : Heap) (locs : List Loc) (ls : Array Slot), va_P G classes (wl []) H → va_D A (wl []) → va_S A s.heap H locs → lv_has ls 12 [(5, .int v5), (4, .int v4), (1, .int v1), (2, .int v2), (3, .int v3)] → f_X3_pairsThatRest_j151 n v5 v4 v1 v2 v3 = some q → WG l G ct sk sv p e (RM 1 22 0 0) s m args below meth c A (Eq2 (some (.int r)) (wl [])) H locs (F0 m 151 ls []) := by
        intro v5 v4 H locs ls hP hD hS hl hf
        unfold f_X3_pairsThatRest_j151 at hf
        obtain ⟨v5_1, ev5_1, hf⟩ := bl_e hf
        refine lv_iinc (v := v5_1) (lv' := [(5, .int v5_1), (4, .int v4), (1, .int v1), (2, .int v2), (3, .int v3)]) hx hb dX3_pairsThatRest_151 hl (k := 0) rfl ev5_1 (by decide) rfl (fun ls hl => ?_)
        refine lv_goto (tgt := 6) hx hb dX3_pairsThatRest_154 (by decide) ?_
        exact ih v1 v2 v3 v5_1 v4 ex _ _ _ hP hD hS hl (lp_inl hor hf) hE
      have J130 : ∀ (v10 : Int32) (v5 : Int32) (v4 : Int32) (s0 : Int32) (H : Heap) (locs : List Loc) (ls : Array Slot), va_P G classes (wl []) H → va_D A (wl []) → va_S A s.heap H locs → lv_has ls 12 [(10, .int v10), (5, .int v5), (4, .int v4), (1, .int v1), (2, .int v2), (3, .int v3)] → f_X3_pairsThatRest_j130 n v10 v5 v4 v1 v2 v3 s0 = some q → WG l G ct sk sv p e (RM 1 22 0 0) s m args below meth c A (Eq2 (some (.int r)) (wl [])) H locs (F0 m 130 ls [.int s0]) := by
        intro v10 v5 v4 s0 H locs ls hP hD hS hl hf
        unfold f_X3_pairsThatRest_j130 at hf
        refine lv_istore (lv' := [(11, .int s0), (10, .int v10), (5, .int v5), (4, .int v4), (1, .int v1), (2, .int v2), (3, .int v3)]) hx hb dX3_pairsThatRest_130 hl (by decide) rfl (fun ls hl => ?_)
        refine lv_iload hx hb dX3_pairsThatRest_132 (lv_at hl 1 rfl) ?_
        refine lv_if_ne (tgt := 151) hx hb dX3_pairsThatRest_134 (by decide) (fun c_2 => ?_) (fun c_2 => ?_)
        · replace hf := bc_f hf c_2
          exact J151 v5 v4 _ _ _ hP hD hS (lv_sub hl [2, 3, 4, 5, 6] rfl) hf
        · replace hf := bc_t hf c_2
          refine lv_iload hx hb dX3_pairsThatRest_137 (lv_at hl 0 rfl) ?_
          refine lv_if_ne (tgt := 151) hx hb dX3_pairsThatRest_139 (by decide) (fun c_3 => ?_) (fun c_3 => ?_)
          · replace hf := bc_f hf c_3
            exact J151 v5 v4 _ _ _ hP hD hS (lv_sub hl [2, 3, 4, 5, 6] rfl) hf
          · replace hf := bc_t hf c_3
            refine lv_iload hx hb dX3_pairsThatRest_142 (lv_at hl 3 rfl) ?_
            refine lv_iconst (v := 1) hx hb dX3_pairsThatRest_144 (by decide) ?_
            refine lv_iload hx hb dX3_pairsThatRest_145 (lv_at hl 2 rfl) ?_
            refine lv_ishl hx hb dX3_pairsThatRest_147 ?_
            refine lv_ior hx hb dX3_pairsThatRest_148 ?_
            refine lv_topi (fun v4_4 ev4_4 => ?_)
            replace hf := bl_i hf ev4_4
            refine lv_istore (lv' := [(4, .int v4_4), (11, .int s0), (10, .int v10), (5, .int v5), (1, .int v1), (2, .int v2), (3, .int v3)]) hx hb dX3_pairsThatRest_149 hl (by decide) rfl (fun ls hl => ?_)
            exact J151 v5 v4_4 _ _ _ hP hD hS (lv_sub hl [3, 0, 4, 5, 6] rfl) hf
      have J104 : ∀ (v9 : Int32) (v7 : Int32) (v6 : Int32) (v5 : Int32) (v4 : Int32) (s0 : Int32) (H : Heap) (locs : List Loc) (ls : Array Slot), va_P G classes (wl []) H → va_D A (wl []) → va_S A s.heap H locs → lv_has ls 12 [(9, .int v9), (7, .int v7), (6, .int v6), (5, .int v5), (4, .int v4), (1, .int v1), (2, .int v2), (3, .int v3)] → f_X3_pairsThatRest_j104 n v9 v7 v6 v5 v4 v1 v2 v3 s0 = some q → WG l G ct sk sv p e (RM 1 22 0 0) s m args below meth c A (Eq2 (some (.int r)) (wl [])) H locs (F0 m 104 ls [.int s0]) := by
        intro v9 v7 v6 v5 v4 s0 H locs ls hP hD hS hl hf
        unfold f_X3_pairsThatRest_j104 at hf
        refine lv_istore (lv' := [(10, .int s0), (9, .int v9), (7, .int v7), (6, .int v6), (5, .int v5), (4, .int v4), (1, .int v1), (2, .int v2), (3, .int v3)]) hx hb dX3_pairsThatRest_104 hl (by decide) rfl (fun ls hl => ?_)
        refine lv_iload hx hb dX3_pairsThatRest_106 (lv_at hl 1 rfl) ?_
        refine lv_iload hx hb dX3_pairsThatRest_108 (lv_at hl 3 rfl) ?_
        refine lv_iload_n hx hb dX3_pairsThatRest_110 rfl (lv_at hl 8 rfl) ?_
        obtain ⟨r_5, hc5, hf⟩ := bd_e hf
        refine call_S (As := [.int v9, .int v6, .int v3]) (rest := []) hx hb hml hown hts hK hP hD hS hA hZ lkX3_83 (c_X3_gain l G ct sk sv  n v9 v6 v3 hc5) ⟨Nat.le_of_ble_eq_true rfl, Nat.le_of_ble_eq_true rfl⟩ rfl hl.1 rfl (Nat.le_of_ble_eq_true rfl) dX3_pairsThatRest_111 ⟨Nat.le_of_ble_eq_true rfl, Nat.le_of_ble_eq_true rfl⟩ (fun r9 w9 H locs hB hP hD hS => ?_)
        obtain ⟨rfl, rfl⟩ := hB
        refine WG_eq (g2 := F0 m 114 ls [.int r_5]) rfl ?_
        refine lv_iload hx hb dX3_pairsThatRest_114 (lv_at hl 2 rfl) ?_
        refine lv_iload hx hb dX3_pairsThatRest_116 (lv_at hl 3 rfl) ?_
        refine lv_iload_n hx hb dX3_pairsThatRest_118 rfl (lv_at hl 8 rfl) ?_
        obtain ⟨r_6, hc6, hf⟩ := bd_e hf
        refine call_S (As := [.int v7, .int v6, .int v3]) (rest := [.int r_5]) hx hb hml hown hts hK hP hD hS hA hZ lkX3_83 (c_X3_gain l G ct sk sv  n v7 v6 v3 hc6) ⟨Nat.le_of_ble_eq_true rfl, Nat.le_of_ble_eq_true rfl⟩ rfl hl.1 rfl (Nat.le_of_ble_eq_true rfl) dX3_pairsThatRest_119 ⟨Nat.le_of_ble_eq_true rfl, Nat.le_of_ble_eq_true rfl⟩ (fun r9 w9 H locs hB hP hD hS => ?_)
        obtain ⟨rfl, rfl⟩ := hB
        refine WG_eq (g2 := F0 m 122 ls [.int r_6, .int r_5]) rfl ?_
        refine lv_icmp_le (tgt := 129) hx hb dX3_pairsThatRest_122 (by decide) (fun c_7 => ?_) (fun c_7 => ?_)
        · replace hf := bc_t hf c_7
          refine lv_iconst (v := 0) hx hb dX3_pairsThatRest_129 (by decide) ?_
          exact J130 s0 v5 v4 0 _ _ _ hP hD hS (lv_sub hl [0, 4, 5, 6, 7, 8] rfl) hf
        · replace hf := bc_f hf c_7
          refine lv_iconst (v := 1) hx hb dX3_pairsThatRest_125 (by decide) ?_
          refine lv_goto (tgt := 130) hx hb dX3_pairsThatRest_126 (by decide) ?_
          exact J130 s0 v5 v4 1 _ _ _ hP hD hS (lv_sub hl [0, 4, 5, 6, 7, 8] rfl) hf
      have J78 : ∀ (v8 : Int32) (v7 : Int32) (v6 : Int32) (v5 : Int32) (v4 : Int32) (s0 : Int32) (H : Heap) (locs : List Loc) (ls : Array Slot), va_P G classes (wl []) H → va_D A (wl []) → va_S A s.heap H locs → lv_has ls 12 [(8, .int v8), (7, .int v7), (6, .int v6), (5, .int v5), (4, .int v4), (1, .int v1), (2, .int v2), (3, .int v3)] → f_X3_pairsThatRest_j78 n v8 v7 v6 v5 v4 v1 v2 v3 s0 = some q → WG l G ct sk sv p e (RM 1 22 0 0) s m args below meth c A (Eq2 (some (.int r)) (wl [])) H locs (F0 m 78 ls [.int s0]) := by
        intro v8 v7 v6 v5 v4 s0 H locs ls hP hD hS hl hf
        unfold f_X3_pairsThatRest_j78 at hf
        refine lv_istore (lv' := [(9, .int s0), (8, .int v8), (7, .int v7), (6, .int v6), (5, .int v5), (4, .int v4), (1, .int v1), (2, .int v2), (3, .int v3)]) hx hb dX3_pairsThatRest_78 hl (by decide) rfl (fun ls hl => ?_)
        refine lv_iload hx hb dX3_pairsThatRest_80 (lv_at hl 1 rfl) ?_
        refine lv_iload hx hb dX3_pairsThatRest_82 (lv_at hl 2 rfl) ?_
        refine lv_iload_n hx hb dX3_pairsThatRest_84 rfl (lv_at hl 8 rfl) ?_
        obtain ⟨r_8, hc8, hf⟩ := bd_e hf
        refine call_S (As := [.int v8, .int v7, .int v3]) (rest := []) hx hb hml hown hts hK hP hD hS hA hZ lkX3_83 (c_X3_gain l G ct sk sv  n v8 v7 v3 hc8) ⟨Nat.le_of_ble_eq_true rfl, Nat.le_of_ble_eq_true rfl⟩ rfl hl.1 rfl (Nat.le_of_ble_eq_true rfl) dX3_pairsThatRest_85 ⟨Nat.le_of_ble_eq_true rfl, Nat.le_of_ble_eq_true rfl⟩ (fun r9 w9 H locs hB hP hD hS => ?_)
        obtain ⟨rfl, rfl⟩ := hB
        refine WG_eq (g2 := F0 m 88 ls [.int r_8]) rfl ?_
        refine lv_iload hx hb dX3_pairsThatRest_88 (lv_at hl 3 rfl) ?_
        refine lv_iload hx hb dX3_pairsThatRest_90 (lv_at hl 2 rfl) ?_
        refine lv_iload_n hx hb dX3_pairsThatRest_92 rfl (lv_at hl 8 rfl) ?_
        obtain ⟨r_9, hc9, hf⟩ := bd_e hf
        refine call_S (As := [.int v6, .int v7, .int v3]) (rest := [.int r_8]) hx hb hml hown hts hK hP hD hS hA hZ lkX3_83 (c_X3_gain l G ct sk sv  n v6 v7 v3 hc9) ⟨Nat.le_of_ble_eq_true rfl, Nat.le_of_ble_eq_true rfl⟩ rfl hl.1 rfl (Nat.le_of_ble_eq_true rfl) dX3_pairsThatRest_93 ⟨Nat.le_of_ble_eq_true rfl, Nat.le_of_ble_eq_true rfl⟩ (fun r9 w9 H locs hB hP hD hS => ?_)
        obtain ⟨rfl, rfl⟩ := hB
        refine WG_eq (g2 := F0 m 96 ls [.int r_9, .int r_8]) rfl ?_
        refine lv_icmp_le (tgt := 103) hx hb dX3_pairsThatRest_96 (by decide) (fun c_10 => ?_) (fun c_10 => ?_)
        · replace hf := bc_t hf c_10
          refine lv_iconst (v := 0) hx hb dX3_pairsThatRest_103 (by decide) ?_
          exact J104 s0 v7 v6 v5 v4 0 _ _ _ hP hD hS (lv_sub hl [0, 2, 3, 4, 5, 6, 7, 8] rfl) hf
        · replace hf := bc_f hf c_10
          refine lv_iconst (v := 1) hx hb dX3_pairsThatRest_99 (by decide) ?_
          refine lv_goto (tgt := 104) hx hb dX3_pairsThatRest_100 (by decide) ?_
          exact J104 s0 v7 v6 v5 v4 1 _ _ _ hP hD hS (lv_sub hl [0, 2, 3, 4, 5, 6, 7, 8] rfl) hf
      have J77 : ∀ (v8 : Int32) (v7 : Int32) (v6 : Int32) (v5 : Int32) (v4 : Int32) (H : Heap) (locs : List Loc) (ls : Array Slot), va_P G classes (wl []) H → va_D A (wl []) → va_S A s.heap H locs → lv_has ls 12 [(8, .int v8), (7, .int v7), (6, .int v6), (5, .int v5), (4, .int v4), (1, .int v1), (2, .int v2), (3, .int v3)] → f_X3_pairsThatRest_j77 n v8 v7 v6 v5 v4 v1 v2 v3 = some q → WG l G ct sk sv p e (RM 1 22 0 0) s m args below meth c A (Eq2 (some (.int r)) (wl [])) H locs (F0 m 77 ls []) := by
        intro v8 v7 v6 v5 v4 H locs ls hP hD hS hl hf
        unfold f_X3_pairsThatRest_j77 at hf
        refine lv_iconst (v := 0) hx hb dX3_pairsThatRest_77 (by decide) ?_
        exact J78 v8 v7 v6 v5 v4 0 _ _ _ hP hD hS hl hf
      have J62 : ∀ (v7 : Int32) (v6 : Int32) (v5 : Int32) (v4 : Int32) (s0 : Int32) (H : Heap) (locs : List Loc) (ls : Array Slot), va_P G classes (wl []) H → va_D A (wl []) → va_S A s.heap H locs → lv_has ls 12 [(7, .int v7), (6, .int v6), (5, .int v5), (4, .int v4), (1, .int v1), (2, .int v2), (3, .int v3)] → f_X3_pairsThatRest_j62 n v7 v6 v5 v4 v1 v2 v3 s0 = some q → WG l G ct sk sv p e (RM 1 22 0 0) s m args below meth c A (Eq2 (some (.int r)) (wl [])) H locs (F0 m 62 ls [.int s0]) := by
        intro v7 v6 v5 v4 s0 H locs ls hP hD hS hl hf
        unfold f_X3_pairsThatRest_j62 at hf
        refine lv_istore (lv' := [(8, .int s0), (7, .int v7), (6, .int v6), (5, .int v5), (4, .int v4), (1, .int v1), (2, .int v2), (3, .int v3)]) hx hb dX3_pairsThatRest_62 hl (by decide) rfl (fun ls hl => ?_)
        refine lv_iload_n hx hb dX3_pairsThatRest_64 rfl (lv_at hl 6 rfl) ?_
        refine lv_if_eq (tgt := 77) hx hb dX3_pairsThatRest_65 (by decide) (fun c_11 => ?_) (fun c_11 => ?_)
        · replace hf := bc_t hf c_11
          exact J77 s0 v7 v6 v5 v4 _ _ _ hP hD hS hl hf
        · replace hf := bc_f hf c_11
          refine lv_iload hx hb dX3_pairsThatRest_68 (lv_at hl 1 rfl) ?_
          refine lv_if_ne (tgt := 77) hx hb dX3_pairsThatRest_70 (by decide) (fun c_12 => ?_) (fun c_12 => ?_)
          · replace hf := bc_f hf c_12
            exact J77 s0 v7 v6 v5 v4 _ _ _ hP hD hS hl hf
          · replace hf := bc_t hf c_12
            refine lv_iconst (v := 1) hx hb dX3_pairsThatRest_73 (by decide) ?_
            refine lv_goto (tgt := 78) hx hb dX3_pairsThatRest_74 (by decide) ?_
            exact J78 s0 v7 v6 v5 v4 1 _ _ _ hP hD hS hl hf
      have J61 : ∀ (v7 : Int32) (v6 : Int32) (v5 : Int32) (v4 : Int32) (H : Heap) (locs : List Loc) (ls : Array Slot), va_P G classes (wl []) H → va_D A (wl []) → va_S A s.heap H locs → lv_has ls 12 [(7, .int v7), (6, .int v6), (5, .int v5), (4, .int v4), (1, .int v1), (2, .int v2), (3, .int v3)] → f_X3_pairsThatRest_j61 n v7 v6 v5 v4 v1 v2 v3 = some q → WG l G ct sk sv p e (RM 1 22 0 0) s m args below meth c A (Eq2 (some (.int r)) (wl [])) H locs (F0 m 61 ls []) := by
        intro v7 v6 v5 v4 H locs ls hP hD hS hl hf
        unfold f_X3_pairsThatRest_j61 at hf
        refine lv_iconst (v := 0) hx hb dX3_pairsThatRest_61 (by decide) ?_
        exact J62 v7 v6 v5 v4 0 _ _ _ hP hD hS hl hf
      have J46 : ∀ (v6 : Int32) (v5 : Int32) (v4 : Int32) (s0 : Int32) (H : Heap) (locs : List Loc) (ls : Array Slot), va_P G classes (wl []) H → va_D A (wl []) → va_S A s.heap H locs → lv_has ls 12 [(6, .int v6), (5, .int v5), (4, .int v4), (1, .int v1), (2, .int v2), (3, .int v3)] → f_X3_pairsThatRest_j46 n v6 v5 v4 v1 v2 v3 s0 = some q → WG l G ct sk sv p e (RM 1 22 0 0) s m args below meth c A (Eq2 (some (.int r)) (wl [])) H locs (F0 m 46 ls [.int s0]) := by
        intro v6 v5 v4 s0 H locs ls hP hD hS hl hf
        unfold f_X3_pairsThatRest_j46 at hf
        refine lv_istore (lv' := [(7, .int s0), (6, .int v6), (5, .int v5), (4, .int v4), (1, .int v1), (2, .int v2), (3, .int v3)]) hx hb dX3_pairsThatRest_46 hl (by decide) rfl (fun ls hl => ?_)
        refine lv_iload_n hx hb dX3_pairsThatRest_48 rfl (lv_at hl 4 rfl) ?_
        refine lv_if_eq (tgt := 61) hx hb dX3_pairsThatRest_49 (by decide) (fun c_13 => ?_) (fun c_13 => ?_)
        · replace hf := bc_t hf c_13
          exact J61 s0 v6 v5 v4 _ _ _ hP hD hS hl hf
        · replace hf := bc_f hf c_13
          refine lv_iload hx hb dX3_pairsThatRest_52 (lv_at hl 1 rfl) ?_
          refine lv_if_ne (tgt := 61) hx hb dX3_pairsThatRest_54 (by decide) (fun c_14 => ?_) (fun c_14 => ?_)
          · replace hf := bc_f hf c_14
            exact J61 s0 v6 v5 v4 _ _ _ hP hD hS hl hf
          · replace hf := bc_t hf c_14
            refine lv_iconst (v := 1) hx hb dX3_pairsThatRest_57 (by decide) ?_
            refine lv_goto (tgt := 62) hx hb dX3_pairsThatRest_58 (by decide) ?_
            exact J62 s0 v6 v5 v4 1 _ _ _ hP hD hS hl hf
      have J45 : ∀ (v6 : Int32) (v5 : Int32) (v4 : Int32) (H : Heap) (locs : List Loc) (ls : Array Slot), va_P G classes (wl []) H → va_D A (wl []) → va_S A s.heap H locs → lv_has ls 12 [(6, .int v6), (5, .int v5), (4, .int v4), (1, .int v1), (2, .int v2), (3, .int v3)] → f_X3_pairsThatRest_j45 n v6 v5 v4 v1 v2 v3 = some q → WG l G ct sk sv p e (RM 1 22 0 0) s m args below meth c A (Eq2 (some (.int r)) (wl [])) H locs (F0 m 45 ls []) := by
        intro v6 v5 v4 H locs ls hP hD hS hl hf
        unfold f_X3_pairsThatRest_j45 at hf
        refine lv_iconst (v := 0) hx hb dX3_pairsThatRest_45 (by decide) ?_
        exact J46 v6 v5 v4 0 _ _ _ hP hD hS hl hf
      have J28 : ∀ (v5 : Int32) (v4 : Int32) (s0 : Int32) (H : Heap) (locs : List Loc) (ls : Array Slot), va_P G classes (wl []) H → va_D A (wl []) → va_S A s.heap H locs → lv_has ls 12 [(5, .int v5), (4, .int v4), (1, .int v1), (2, .int v2), (3, .int v3)] → f_X3_pairsThatRest_j28 n v5 v4 v1 v2 v3 s0 = some q → WG l G ct sk sv p e (RM 1 22 0 0) s m args below meth c A (Eq2 (some (.int r)) (wl [])) H locs (F0 m 28 ls [.int s0]) := by
        intro v5 v4 s0 H locs ls hP hD hS hl hf
        unfold f_X3_pairsThatRest_j28 at hf
        refine lv_istore (lv' := [(6, .int s0), (5, .int v5), (4, .int v4), (1, .int v1), (2, .int v2), (3, .int v3)]) hx hb dX3_pairsThatRest_28 hl (by decide) rfl (fun ls hl => ?_)
        refine lv_iload_n hx hb dX3_pairsThatRest_30 rfl (lv_at hl 4 rfl) ?_
        refine lv_if_eq (tgt := 45) hx hb dX3_pairsThatRest_31 (by decide) (fun c_15 => ?_) (fun c_15 => ?_)
        · replace hf := bc_t hf c_15
          exact J45 s0 v5 v4 _ _ _ hP hD hS hl hf
        · replace hf := bc_f hf c_15
          refine lv_iload hx hb dX3_pairsThatRest_34 (lv_at hl 1 rfl) ?_
          refine lv_iconst (v := 2) hx hb dX3_pairsThatRest_36 (by decide) ?_
          refine lv_iand hx hb dX3_pairsThatRest_37 ?_
          refine lv_if_eq (tgt := 45) hx hb dX3_pairsThatRest_38 (by decide) (fun c_16 => ?_) (fun c_16 => ?_)
          · replace hf := bc_t hf c_16
            exact J45 s0 v5 v4 _ _ _ hP hD hS hl hf
          · replace hf := bc_f hf c_16
            refine lv_iconst (v := 1) hx hb dX3_pairsThatRest_41 (by decide) ?_
            refine lv_goto (tgt := 46) hx hb dX3_pairsThatRest_42 (by decide) ?_
            exact J46 s0 v5 v4 1 _ _ _ hP hD hS hl hf
      have J27 : ∀ (v5 : Int32) (v4 : Int32) (H : Heap) (locs : List Loc) (ls : Array Slot), va_P G classes (wl []) H → va_D A (wl []) → va_S A s.heap H locs → lv_has ls 12 [(5, .int v5), (4, .int v4), (1, .int v1), (2, .int v2), (3, .int v3)] → f_X3_pairsThatRest_j27 n v5 v4 v1 v2 v3 = some q → WG l G ct sk sv p e (RM 1 22 0 0) s m args below meth c A (Eq2 (some (.int r)) (wl [])) H locs (F0 m 27 ls []) := by
        intro v5 v4 H locs ls hP hD hS hl hf
        unfold f_X3_pairsThatRest_j27 at hf
        refine lv_iconst (v := 0) hx hb dX3_pairsThatRest_27 (by decide) ?_
        exact J28 v5 v4 0 _ _ _ hP hD hS hl hf
      replace hf : f_X3_pairsThatRest_b6 n v5 v4 v1 v2 v3 = some q := hf
      unfold f_X3_pairsThatRest_b6 at hf
      refine lv_iload hx hb dX3_pairsThatRest_6 (lv_at hl 0 rfl) ?_
      refine lv_iconst (v := 4) hx hb dX3_pairsThatRest_8 (by decide) ?_
      refine lv_icmp_ge (tgt := 157) hx hb dX3_pairsThatRest_9 (by decide) (fun c_17 => ?_) (fun c_17 => ?_)
      · replace hf := bc_t hf c_17
        exact hE v4 (lp_inr hor hf).symm _ _ _ hP hD hS (lv_sub hl [1] rfl)
      · replace hf := bc_f hf c_17
        refine lv_iload_n hx hb dX3_pairsThatRest_12 rfl (lv_at hl 2 rfl) ?_
        refine lv_if_eq (tgt := 27) hx hb dX3_pairsThatRest_13 (by decide) (fun c_18 => ?_) (fun c_18 => ?_)
        · replace hf := bc_t hf c_18
          exact J27 v5 v4 _ _ _ hP hD hS hl hf
        · replace hf := bc_f hf c_18
          refine lv_iload hx hb dX3_pairsThatRest_16 (lv_at hl 0 rfl) ?_
          refine lv_iconst (v := 1) hx hb dX3_pairsThatRest_18 (by decide) ?_
          refine lv_iand hx hb dX3_pairsThatRest_19 ?_
          refine lv_if_eq (tgt := 27) hx hb dX3_pairsThatRest_20 (by decide) (fun c_19 => ?_) (fun c_19 => ?_)
          · replace hf := bc_t hf c_19
            exact J27 v5 v4 _ _ _ hP hD hS hl hf
          · replace hf := bc_f hf c_19
            refine lv_iconst (v := 1) hx hb dX3_pairsThatRest_23 (by decide) ?_
            refine lv_goto (tgt := 28) hx hb dX3_pairsThatRest_24 (by decide) ?_
            exact J28 v5 v4 1 _ _ _ hP hD hS hl hf
  unfold f_X3_pairsThatRest at hf
  show WG l G ct sk sv p e (RM 1 22 0 0) s m args below meth c A (Eq2 (some (.int r)) (wl [])) s.heap [] (F0 m 0 ls [])
  refine lv_iconst (v := 0) hx hb dX3_pairsThatRest_0 (by decide) ?_
  refine lv_istore (lv' := [(4, .int 0), (0, .ref (nm 0)), (1, .int v1), (2, .int v2), (3, .int v3)]) hx hb dX3_pairsThatRest_1 hl (by decide) rfl (fun ls hl => ?_)
  refine lv_iconst (v := 0) hx hb dX3_pairsThatRest_3 (by decide) ?_
  refine lv_istore (lv' := [(5, .int 0), (4, .int 0), (0, .ref (nm 0)), (1, .int v1), (2, .int v2), (3, .int v3)]) hx hb dX3_pairsThatRest_4 hl (by decide) rfl (fun ls hl => ?_)
  obtain ⟨v4_20, hx_21, hf⟩ := bd_e hf
  refine L6 n v1 v2 v3 0 0 v4_20 _ _ _ hP hD hS (lv_sub hl [0, 1, 3, 4, 5] rfl) hx_21 ?_
  intro x9 e9 H locs ls hP hD hS hl
  subst e9
  have hP : va_P G classes (wl []) H := hP
  have hD : va_D A (wl []) := hD
  have hl : lv_has ls 12 [(4, .int v4_20)] := hl
  refine lv_iload hx hb dX3_pairsThatRest_157 (lv_at hl 0 rfl) ?_
  have e1 := Option.some.inj hf
  exact end_i (w' := (wl [])) hx hb hr hlocks hK hP hD hS dX3_pairsThatRest_159  ⟨by rw [← e1], rfl⟩
