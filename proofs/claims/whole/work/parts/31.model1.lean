noncomputable def f_X12_due_j30 (n : Nat) (mo : MV) (v2 : Int32) (s0 : Int32) (s1 : Int32) : Option ((Int32 × Int32) ⊕ (Int32)) :=
  bl (s1 + s0) fun v1_1 =>
  bl (v2 + 1) fun v2_2 =>
  some (.inl (v2_2, v1_1))
noncomputable def f_X12_due_b4 (n : Nat) (mo : MV) (v2 : Int32) (v1 : Int32) : Option ((Int32 × Int32) ⊕ (Int32)) :=
  bd (f_X12_letters n mo) fun r_3 =>
  bc (r_3 ≤ v2) (some (.inr v1))
  (bd (f_X12_lies n mo v2) fun r_5 =>
  bc (r_5 = 0) (f_X12_due_j30 n mo v2 0 v1)
  (bd (f_X12_postage n mo v2) fun r_7 =>
  f_X12_due_j30 n mo v2 r_7 v1))
noncomputable def f_X12_due_l4 (fu : Nat) (n : Nat) (mo : MV) (v2 : Int32) (v1 : Int32) : Option (Int32) :=
  lp (fun q => f_X12_due_b4 n mo q.1 q.2) fu (v2, v1)
noncomputable def f_X12_due (n : Nat) (mo : MV) : Option (Int32) :=
  bd (f_X12_due_l4 n n mo 0 0) fun v1_8 =>
  some v1_8
set_option maxHeartbeats 4000000 in
set_option maxRecDepth 100000 in
theorem c_X12_due (l : Launch) (G : va_G) (ct : Nat → ClassId) (sk sv : Nat → Nat) (a : Nat → Nat) (n : Nat) (mo : MV) {r : Int32} (hf : f_X12_due n mo = some r) : Ctr (l, G, ct, sk, sv) mX12_due 3 64 [.ref (a 0)] (wl [lfM ct a mo]) (wl [lfM ct a mo]) (some (.int r)) := by
  refine ctr_intro (by decide) (Nat.le_of_ble_eq_true rfl) ?_
  intro p e s m args below meth c A C hP hD hS hA ls hl
  obtain ⟨hx, hb, hml, hown, hts, hr, hlocks, hK, hnm, hZ⟩ := C
  have hb : c.code = cX12_due := hb
  have hml : c.maxLocals = 3 := hml
  have hown : s.vm.findClass "SignedOutsideModel" = some m.cls := hown
  have hr : meth.sig.returnType = some .int := hr
  have hP : va_P G classes (wl [lfM ct a mo]) s.heap := hP
  have hD : va_D A (wl [lfM ct a mo]) := hD
  have hK : va_K G classes (TYS ct) s := hK
  have hl : lv_has ls 3 [(0, .ref (a 0))] := hl
  have L4 : ∀ (fu : Nat) (v2 : Int32) (v1 : Int32) (ex : Int32) (H : Heap) (locs : List Loc) (ls : Array Slot), va_P G classes (wl [lfM ct a mo]) H → va_D A (wl [lfM ct a mo]) → va_S A s.heap H locs → lv_has ls 3 [(2, .int v2), (1, .int v1), (0, .ref (a 0))] → f_X12_due_l4 fu n mo v2 v1 = some ex → (∀ (x : Int32), ex = x → ∀ (H : Heap) (locs : List Loc) (ls : Array Slot), va_P G classes (wl [lfM ct a mo]) H → va_D A (wl [lfM ct a mo]) → va_S A s.heap H locs → lv_has ls 3 [(1, .int x)] → WG l G ct sk sv p e (RM 3 64 0 0) s m args below meth c A (Eq2 (some (.int r)) (wl [lfM ct a mo])) H locs (F0 m 38 ls [])) → WG l G ct sk sv p e (RM 3 64 0 0) s m args below meth c A (Eq2 (some (.int r)) (wl [lfM ct a mo])) H locs (F0 m 4 ls []) := by
    intro fu
    induction fu with
    | zero =>
      intro v2 v1 ex H locs ls hP hD hS hl hf
      exact absurd hf (by unfold f_X12_due_l4 lp; exact fun h => by cases h)
    | succ fu ih =>
      intro v2 v1 ex H locs ls hP hD hS hl hf hE
      unfold f_X12_due_l4 at hf
      obtain ⟨q, hf, hor⟩ := lp_e hf
      have J30 : ∀ (v2 : Int32) (s0 : Int32) (s1 : Int32) (H : Heap) (locs : List Loc) (ls : Array Slot), va_P G classes (wl [lfM ct a mo]) H → va_D A (wl [lfM ct a mo]) → va_S A s.heap H locs → lv_has ls 3 [(2, .int v2), (0, .ref (a 0))] → f_X12_due_j30 n mo v2 s0 s1 = some q → WG l G ct sk sv p e (RM 3 64 0 0) s m args below meth c A (Eq2 (some (.int r)) (wl [lfM ct a mo])) H locs (F0 m 30 ls [.int s0, .int s1]) := by
        intro v2 s0 s1 H locs ls hP hD hS hl hf
        unfold f_X12_due_j30 at hf
        refine lv_iadd hx hb dX12_due_30 ?_
        refine lv_topi (fun v1_1 ev1_1 => ?_)
        replace hf := bl_i hf ev1_1
        refine lv_istore_n (lv' := [(1, .int v1_1), (2, .int v2), (0, .ref (a 0))]) hx hb dX12_due_31 rfl hl (by decide) rfl (fun ls hl => ?_)
        obtain ⟨v2_2, ev2_2, hf⟩ := bl_e hf
        refine lv_iinc (v := v2_2) (lv' := [(2, .int v2_2), (1, .int v1_1), (0, .ref (a 0))]) hx hb dX12_due_32 hl (k := 1) rfl ev2_2 (by decide) rfl (fun ls hl => ?_)
        refine lv_goto (tgt := 4) hx hb dX12_due_35 (by decide) ?_
        exact ih v2_2 v1_1 ex _ _ _ hP hD hS hl (lp_inl hor hf) hE
      replace hf : f_X12_due_b4 n mo v2 v1 = some q := hf
      unfold f_X12_due_b4 at hf
      refine lv_iload_n hx hb dX12_due_4 rfl (lv_at hl 0 rfl) ?_
      refine lv_aload_n hx hb dX12_due_5 rfl (lv_at hl 2 rfl) ?_
      obtain ⟨r_3, hc3, hf⟩ := bd_e hf
      refine call_V (As := []) (rest := [.int v2]) hx hb hml hown hts hK hP hD hS hA hZ lkX12_69 (c_X12_letters l G ct sk sv a n mo hc3) 0 rfl rfl ⟨Nat.le_of_ble_eq_true rfl, Nat.le_of_ble_eq_true rfl⟩ rfl hl.1 rfl (Nat.le_of_ble_eq_true rfl) dX12_due_6 ⟨Nat.le_of_ble_eq_true rfl, Nat.le_of_ble_eq_true rfl⟩ (fun r9 w9 H locs hB hP hD hS => ?_)
      obtain ⟨rfl, rfl⟩ := hB
      refine WG_eq (g2 := F0 m 9 ls [.int r_3, .int v2]) rfl ?_
      refine lv_icmp_ge (tgt := 38) hx hb dX12_due_9 (by decide) (fun c_4 => ?_) (fun c_4 => ?_)
      · replace hf := bc_t hf c_4
        exact hE v1 (lp_inr hor hf).symm _ _ _ hP hD hS (lv_sub hl [1] rfl)
      · replace hf := bc_f hf c_4
        refine lv_iload_n hx hb dX12_due_12 rfl (lv_at hl 1 rfl) ?_
        refine lv_aload_n hx hb dX12_due_13 rfl (lv_at hl 2 rfl) ?_
        refine lv_iload_n hx hb dX12_due_14 rfl (lv_at hl 0 rfl) ?_
        obtain ⟨r_5, hc5, hf⟩ := bd_e hf
        refine call_V (As := [.int v2]) (rest := [.int v1]) hx hb hml hown hts hK hP hD hS hA hZ lkX12_134 (c_X12_lies l G ct sk sv a n mo v2 hc5) 0 rfl rfl ⟨Nat.le_of_ble_eq_true rfl, Nat.le_of_ble_eq_true rfl⟩ rfl hl.1 rfl (Nat.le_of_ble_eq_true rfl) dX12_due_15 ⟨Nat.le_of_ble_eq_true rfl, Nat.le_of_ble_eq_true rfl⟩ (fun r9 w9 H locs hB hP hD hS => ?_)
        obtain ⟨rfl, rfl⟩ := hB
        refine WG_eq (g2 := F0 m 18 ls [.int r_5, .int v1]) rfl ?_
        refine lv_if_eq (tgt := 29) hx hb dX12_due_18 (by decide) (fun c_6 => ?_) (fun c_6 => ?_)
        · replace hf := bc_t hf c_6
          refine lv_iconst (v := 0) hx hb dX12_due_29 (by decide) ?_
          exact J30 v2 0 v1 _ _ _ hP hD hS (lv_sub hl [0, 2] rfl) hf
        · replace hf := bc_f hf c_6
          refine lv_aload_n hx hb dX12_due_21 rfl (lv_at hl 2 rfl) ?_
          refine lv_iload_n hx hb dX12_due_22 rfl (lv_at hl 0 rfl) ?_
          obtain ⟨r_7, hc7, hf⟩ := bd_e hf
          refine call_V (As := [.int v2]) (rest := [.int v1]) hx hb hml hown hts hK hP hD hS hA hZ lkX12_137 (c_X12_postage l G ct sk sv a n mo v2 hc7) 0 rfl rfl ⟨Nat.le_of_ble_eq_true rfl, Nat.le_of_ble_eq_true rfl⟩ rfl hl.1 rfl (Nat.le_of_ble_eq_true rfl) dX12_due_23 ⟨Nat.le_of_ble_eq_true rfl, Nat.le_of_ble_eq_true rfl⟩ (fun r9 w9 H locs hB hP hD hS => ?_)
          obtain ⟨rfl, rfl⟩ := hB
          refine WG_eq (g2 := F0 m 26 ls [.int r_7, .int v1]) rfl ?_
          refine lv_goto (tgt := 30) hx hb dX12_due_26 (by decide) ?_
          exact J30 v2 r_7 v1 _ _ _ hP hD hS (lv_sub hl [0, 2] rfl) hf
  unfold f_X12_due at hf
  show WG l G ct sk sv p e (RM 3 64 0 0) s m args below meth c A (Eq2 (some (.int r)) (wl [lfM ct a mo])) s.heap [] (F0 m 0 ls [])
  refine lv_iconst (v := 0) hx hb dX12_due_0 (by decide) ?_
  refine lv_istore_n (lv' := [(1, .int 0), (0, .ref (a 0))]) hx hb dX12_due_1 rfl hl (by decide) rfl (fun ls hl => ?_)
  refine lv_iconst (v := 0) hx hb dX12_due_2 (by decide) ?_
  refine lv_istore_n (lv' := [(2, .int 0), (1, .int 0), (0, .ref (a 0))]) hx hb dX12_due_3 rfl hl (by decide) rfl (fun ls hl => ?_)
  obtain ⟨v1_8, hx_9, hf⟩ := bd_e hf
  refine L4 n 0 0 v1_8 _ _ _ hP hD hS hl hx_9 ?_
  intro x9 e9 H locs ls hP hD hS hl
  subst e9
  have hP : va_P G classes (wl [lfM ct a mo]) H := hP
  have hD : va_D A (wl [lfM ct a mo]) := hD
  have hl : lv_has ls 3 [(1, .int v1_8)] := hl
  refine lv_iload_n hx hb dX12_due_38 rfl (lv_at hl 0 rfl) ?_
  have e1 := Option.some.inj hf
  exact end_i (w' := (wl [lfM ct a mo])) hx hb hr hlocks hK hP hD hS dX12_due_39  ⟨by rw [← e1], rfl⟩
noncomputable def f_X12_fewest_j90 (n : Nat) (mo : MV) (v4 : Int32) (v5 : Int32) (v2 : Int32) (v1 : Int32) (s0 : Int32) (s1 : Int32) : Option ((Int32 × Int32 × Int32) ⊕ (Int32 × Int32)) :=
  bl (s1 ||| s0) fun v3_1 =>
  bl (v5 + 1) fun v5_2 =>
  some (.inl (v5_2, v4, v3_1))
noncomputable def f_X12_fewest_j63 (n : Nat) (mo : MV) (v5 : Int32) (v3 : Int32) (v2 : Int32) (v1 : Int32) (s0 : Int32) : Option ((Int32 × Int32 × Int32) ⊕ (Int32 × Int32)) :=
  gd (vp_in v5 6) <|
  bc (5 ≤ (mo.2.1 4 (ix v5))) (f_X12_fewest_j90 n mo s0 v5 v2 v1 0 v3)
  (gd (vp_in v5 6) <|
  f_X12_fewest_j90 n mo s0 v5 v2 v1 (1 <<< ((mo.2.1 4 (ix v5)) &&& 31)) v3)
noncomputable def f_X12_fewest_j62 (n : Nat) (mo : MV) (v5 : Int32) (v3 : Int32) (v2 : Int32) (v1 : Int32) : Option ((Int32 × Int32 × Int32) ⊕ (Int32 × Int32)) :=
  f_X12_fewest_j63 n mo v5 v3 v2 v1 0
noncomputable def f_X12_fewest_b33 (n : Nat) (mo : MV) (v5 : Int32) (v4 : Int32) (v3 : Int32) (v2 : Int32) (v1 : Int32) : Option ((Int32 × Int32 × Int32) ⊕ (Int32 × Int32)) :=
  bd (f_X12_letters n mo) fun r_6 =>
  bc (r_6 ≤ v5) (some (.inr (v4, v3)))
  (bc (v4 = 0) (f_X12_fewest_j62 n mo v5 v3 v2 v1)
  (gd (vp_in v5 6) <|
  bc ((mo.2.1 4 (ix v5)) = 5) (f_X12_fewest_j62 n mo v5 v3 v2 v1)
  (f_X12_fewest_j63 n mo v5 v3 v2 v1 1)))
noncomputable def f_X12_fewest_l33 (fu : Nat) (n : Nat) (mo : MV) (v2 : Int32) (v1 : Int32) (v5 : Int32) (v4 : Int32) (v3 : Int32) : Option (Int32 × Int32) :=
  lp (fun q => f_X12_fewest_b33 n mo q.1 q.2.1 q.2.2 v2 v1) fu (v5, v4, v3)
noncomputable def f_X12_fewest_j152 (n : Nat) (mo : MV) (v2 : Int32) (s0 : Int32) : Option ((Int32 × Int32 × MV) ⊕ (Int32 × MV)) :=
  bl (v2 + 1) fun v2_11 =>
  some (.inl (v2_11, s0, mo))
noncomputable def f_X12_fewest_j151 (n : Nat) (mo : MV) (v2 : Int32) (v1 : Int32) : Option ((Int32 × Int32 × MV) ⊕ (Int32 × MV)) :=
  f_X12_fewest_j152 n mo v2 v1
noncomputable def f_X12_fewest_j135 (n : Nat) (mo : MV) (v4 : Int32) (v3 : Int32) (v2 : Int32) (v1 : Int32) (s0 : Int32) : Option ((Int32 × Int32 × MV) ⊕ (Int32 × MV)) :=
  bc (v4 = 0) (f_X12_fewest_j151 n mo v2 v1)
  (bc (s0 = 0) (f_X12_fewest_j151 n mo v2 v1)
  (f_X12_fewest_j152 n mo v2 v3))
noncomputable def f_X12_fewest_j134 (n : Nat) (mo : MV) (v4 : Int32) (v3 : Int32) (v2 : Int32) (v1 : Int32) : Option ((Int32 × Int32 × MV) ⊕ (Int32 × MV)) :=
  f_X12_fewest_j135 n mo v4 v3 v2 v1 0
noncomputable def f_X12_fewest_j130 (n : Nat) (mo : MV) (v4 : Int32) (v3 : Int32) (v2 : Int32) (v1 : Int32) : Option ((Int32 × Int32 × MV) ⊕ (Int32 × MV)) :=
  f_X12_fewest_j135 n mo v4 v3 v2 v1 1
noncomputable def f_X12_fewest_j28 (n : Nat) (mo : MV) (v3 : Int32) (v2 : Int32) (v1 : Int32) (s0 : Int32) : Option ((Int32 × Int32 × MV) ⊕ (Int32 × MV)) :=
  bd2 (f_X12_fewest_l33 n n mo v2 v1 0 s0 v3) fun v4_14 v3_15 =>
  bc (v1 = (-1)) (f_X12_fewest_j130 n mo v4_14 v3_15 v2 v1)
  (bd (f_X12_bits n v3_15) fun r_18 =>
  bd (f_X12_bits n v1) fun r_19 =>
  bc (r_18 < r_19) (f_X12_fewest_j130 n mo v4_14 v3_15 v2 v1)
  (bd (f_X12_bits n v3_15) fun r_21 =>
  bd (f_X12_bits n v1) fun r_22 =>
  bc (r_21 = r_22) (bc (v1 ≤ v3_15) (f_X12_fewest_j134 n mo v4_14 v3_15 v2 v1)
  (f_X12_fewest_j130 n mo v4_14 v3_15 v2 v1))
  (f_X12_fewest_j134 n mo v4_14 v3_15 v2 v1)))
noncomputable def f_X12_fewest_b4 (n : Nat) (mo : MV) (v2 : Int32) (v1 : Int32) : Option ((Int32 × Int32 × MV) ⊕ (Int32 × MV)) :=
  bd (f_X12_codes n mo) fun r_25 =>
  bc (r_25 ≤ v2) (some (.inr (v1, mo)))
  (bd2 (f_X12_savedBy n mo v2) fun r_27 mo_28 =>
  bc (r_27 = (-1)) (f_X12_fewest_j28 n mo_28 0 v2 v1 0)
  (f_X12_fewest_j28 n mo_28 0 v2 v1 1))
noncomputable def f_X12_fewest_l4 (fu : Nat) (n : Nat) (mo : MV) (v2 : Int32) (v1 : Int32) : Option (Int32 × MV) :=
  lp (fun q => f_X12_fewest_b4 n q.2.2 q.1 q.2.1) fu (v2, v1, mo)
noncomputable def f_X12_fewest (n : Nat) (mo : MV) : Option (Int32 × MV) :=
  bd2 (f_X12_fewest_l4 n n mo 0 (-1)) fun v1_30 mo_31 =>
  some (v1_30, mo_31)
set_option maxHeartbeats 4000000 in
set_option maxRecDepth 100000 in
theorem c_X12_fewest (l : Launch) (G : va_G) (ct : Nat → ClassId) (sk sv : Nat → Nat) (a : Nat → Nat) (n : Nat) (mo : MV) {r : Int32} {mo' : MV} (hf : f_X12_fewest n mo = some (r, mo')) : Ctr (l, G, ct, sk, sv) mX12_fewest 4 90 [.ref (a 0)] (wl [lfM ct a mo]) (wl [lfM ct a mo']) (some (.int r)) := by
  refine ctr_intro (by decide) (Nat.le_of_ble_eq_true rfl) ?_
  intro p e s m args below meth c A C hP hD hS hA ls hl
  obtain ⟨hx, hb, hml, hown, hts, hr, hlocks, hK, hnm, hZ⟩ := C
  have hb : c.code = cX12_fewest := hb
  have hml : c.maxLocals = 6 := hml
  have hown : s.vm.findClass "SignedOutsideModel" = some m.cls := hown
  have hr : meth.sig.returnType = some .int := hr
  have hP : va_P G classes (wl [lfM ct a mo]) s.heap := hP
  have hD : va_D A (wl [lfM ct a mo]) := hD
  have hK : va_K G classes (TYS ct) s := hK
  have hl : lv_has ls 6 [(0, .ref (a 0))] := hl
  have L33 : ∀ (fu : Nat) (mo : MV) (v2 : Int32) (v1 : Int32) (v5 : Int32) (v4 : Int32) (v3 : Int32) (ex : Int32 × Int32) (H : Heap) (locs : List Loc) (ls : Array Slot), va_P G classes (wl [lfM ct a mo]) H → va_D A (wl [lfM ct a mo]) → va_S A s.heap H locs → lv_has ls 6 [(5, .int v5), (4, .int v4), (3, .int v3), (2, .int v2), (1, .int v1), (0, .ref (a 0))] → f_X12_fewest_l33 fu n mo v2 v1 v5 v4 v3 = some ex → (∀ (x : Int32 × Int32), ex = x → ∀ (H : Heap) (locs : List Loc) (ls : Array Slot), va_P G classes (wl [lfM ct a mo]) H → va_D A (wl [lfM ct a mo]) → va_S A s.heap H locs → lv_has ls 6 [(4, .int x.1), (3, .int x.2), (2, .int v2), (1, .int v1), (0, .ref (a 0))] → WG l G ct sk sv p e (RM 4 90 0 0) s m args below meth c A (Eq2 (some (.int r)) (wl [lfM ct a mo'])) H locs (F0 m 98 ls [])) → WG l G ct sk sv p e (RM 4 90 0 0) s m args below meth c A (Eq2 (some (.int r)) (wl [lfM ct a mo'])) H locs (F0 m 33 ls []) := by
    intro fu
    induction fu with
    | zero =>
      intro mo v2 v1 v5 v4 v3 ex H locs ls hP hD hS hl hf
      exact absurd hf (by unfold f_X12_fewest_l33 lp; exact fun h => by cases h)
    | succ fu ih =>
      intro mo v2 v1 v5 v4 v3 ex H locs ls hP hD hS hl hf hE
      unfold f_X12_fewest_l33 at hf
      obtain ⟨q, hf, hor⟩ := lp_e hf
      have J90 : ∀ (v4 : Int32) (v5 : Int32) (s0 : Int32) (s1 : Int32) (H : Heap) (locs : List Loc) (ls : Array Slot), va_P G classes (wl [lfM ct a mo]) H → va_D A (wl [lfM ct a mo]) → va_S A s.heap H locs → lv_has ls 6 [(4, .int v4), (5, .int v5), (2, .int v2), (1, .int v1), (0, .ref (a 0))] → f_X12_fewest_j90 n mo v4 v5 v2 v1 s0 s1 = some q → WG l G ct sk sv p e (RM 4 90 0 0) s m args below meth c A (Eq2 (some (.int r)) (wl [lfM ct a mo'])) H locs (F0 m 90 ls [.int s0, .int s1]) := by
        intro v4 v5 s0 s1 H locs ls hP hD hS hl hf
        unfold f_X12_fewest_j90 at hf
        refine lv_ior hx hb dX12_fewest_90 ?_
        refine lv_topi (fun v3_1 ev3_1 => ?_)
        replace hf := bl_i hf ev3_1
        refine lv_istore_n (lv' := [(3, .int v3_1), (4, .int v4), (5, .int v5), (2, .int v2), (1, .int v1), (0, .ref (a 0))]) hx hb dX12_fewest_91 rfl hl (by decide) rfl (fun ls hl => ?_)
        obtain ⟨v5_2, ev5_2, hf⟩ := bl_e hf
        refine lv_iinc (v := v5_2) (lv' := [(5, .int v5_2), (3, .int v3_1), (4, .int v4), (2, .int v2), (1, .int v1), (0, .ref (a 0))]) hx hb dX12_fewest_92 hl (k := 2) rfl ev5_2 (by decide) rfl (fun ls hl => ?_)
        refine lv_goto (tgt := 33) hx hb dX12_fewest_95 (by decide) ?_
        exact ih mo v2 v1 v5_2 v4 v3_1 ex _ _ _ hP hD hS (lv_sub hl [0, 2, 1, 3, 4, 5] rfl) (lp_inl hor hf) hE
      have J63 : ∀ (v5 : Int32) (v3 : Int32) (s0 : Int32) (H : Heap) (locs : List Loc) (ls : Array Slot), va_P G classes (wl [lfM ct a mo]) H → va_D A (wl [lfM ct a mo]) → va_S A s.heap H locs → lv_has ls 6 [(5, .int v5), (3, .int v3), (2, .int v2), (1, .int v1), (0, .ref (a 0))] → f_X12_fewest_j63 n mo v5 v3 v2 v1 s0 = some q → WG l G ct sk sv p e (RM 4 90 0 0) s m args below meth c A (Eq2 (some (.int r)) (wl [lfM ct a mo'])) H locs (F0 m 63 ls [.int s0]) := by
        intro v5 v3 s0 H locs ls hP hD hS hl hf
        unfold f_X12_fewest_j63 at hf
        refine lv_istore (lv' := [(4, .int s0), (5, .int v5), (3, .int v3), (2, .int v2), (1, .int v1), (0, .ref (a 0))]) hx hb dX12_fewest_63 hl (by decide) rfl (fun ls hl => ?_)
        refine lv_iload_n hx hb dX12_fewest_65 rfl (lv_at hl 2 rfl) ?_
        refine lv_aload_n hx hb dX12_fewest_66 rfl (lv_at hl 5 rfl) ?_
        refine va_get (D := G) (C := RX12) (T := TX12) (N := 21) (v := .ref (a 5)) hx hb hts iu_X12 hown hK hP 0 rfl rfl 6 (by decide) (hts _ kw893) (fun _ h9 => h9) rfl dX12_fewest_67 ?_
        refine lv_iload hx hb dX12_fewest_70 (lv_at hl 1 rfl) ?_
        obtain ⟨g_3, hf⟩ := gd_e hf
        refine va_iald (f := mo.2.1 4) hx hb hK hP 5 0 rfl rfl g_3 dX12_fewest_72 ?_
        refine lv_iconst (v := 5) hx hb dX12_fewest_73 (by decide) ?_
        refine lv_icmp_ge (tgt := 89) hx hb dX12_fewest_74 (by decide) (fun c_4 => ?_) (fun c_4 => ?_)
        · replace hf := bc_t hf c_4
          refine lv_iconst (v := 0) hx hb dX12_fewest_89 (by decide) ?_
          exact J90 s0 v5 0 v3 _ _ _ hP hD hS (lv_sub hl [0, 1, 3, 4, 5] rfl) hf
        · replace hf := bc_f hf c_4
          refine lv_iconst (v := 1) hx hb dX12_fewest_77 (by decide) ?_
          refine lv_aload_n hx hb dX12_fewest_78 rfl (lv_at hl 5 rfl) ?_
          refine va_get (D := G) (C := RX12) (T := TX12) (N := 21) (v := .ref (a 5)) hx hb hts iu_X12 hown hK hP 0 rfl rfl 6 (by decide) (hts _ kw893) (fun _ h9 => h9) rfl dX12_fewest_79 ?_
          refine lv_iload hx hb dX12_fewest_82 (lv_at hl 1 rfl) ?_
          obtain ⟨g_5, hf⟩ := gd_e hf
          refine va_iald (f := mo.2.1 4) hx hb hK hP 5 0 rfl rfl g_5 dX12_fewest_84 ?_
          refine lv_ishl hx hb dX12_fewest_85 ?_
          refine lv_goto (tgt := 90) hx hb dX12_fewest_86 (by decide) ?_
          exact J90 s0 v5 (1 <<< ((mo.2.1 4 (ix v5)) &&& 31)) v3 _ _ _ hP hD hS (lv_sub hl [0, 1, 3, 4, 5] rfl) hf
      have J62 : ∀ (v5 : Int32) (v3 : Int32) (H : Heap) (locs : List Loc) (ls : Array Slot), va_P G classes (wl [lfM ct a mo]) H → va_D A (wl [lfM ct a mo]) → va_S A s.heap H locs → lv_has ls 6 [(5, .int v5), (3, .int v3), (2, .int v2), (1, .int v1), (0, .ref (a 0))] → f_X12_fewest_j62 n mo v5 v3 v2 v1 = some q → WG l G ct sk sv p e (RM 4 90 0 0) s m args below meth c A (Eq2 (some (.int r)) (wl [lfM ct a mo'])) H locs (F0 m 62 ls []) := by
        intro v5 v3 H locs ls hP hD hS hl hf
        unfold f_X12_fewest_j62 at hf
        refine lv_iconst (v := 0) hx hb dX12_fewest_62 (by decide) ?_
        exact J63 v5 v3 0 _ _ _ hP hD hS hl hf
      replace hf : f_X12_fewest_b33 n mo v5 v4 v3 v2 v1 = some q := hf
      unfold f_X12_fewest_b33 at hf
      refine lv_iload hx hb dX12_fewest_33 (lv_at hl 0 rfl) ?_
      refine lv_aload_n hx hb dX12_fewest_35 rfl (lv_at hl 5 rfl) ?_
      obtain ⟨r_6, hc6, hf⟩ := bd_e hf
      refine call_V (As := []) (rest := [.int v5]) hx hb hml hown hts hK hP hD hS hA hZ lkX12_69 (c_X12_letters l G ct sk sv a n mo hc6) 0 rfl rfl ⟨Nat.le_of_ble_eq_true rfl, Nat.le_of_ble_eq_true rfl⟩ rfl hl.1 rfl (Nat.le_of_ble_eq_true rfl) dX12_fewest_36 ⟨Nat.le_of_ble_eq_true rfl, Nat.le_of_ble_eq_true rfl⟩ (fun r9 w9 H locs hB hP hD hS => ?_)
      obtain ⟨rfl, rfl⟩ := hB
      refine WG_eq (g2 := F0 m 39 ls [.int r_6, .int v5]) rfl ?_
      refine lv_icmp_ge (tgt := 98) hx hb dX12_fewest_39 (by decide) (fun c_7 => ?_) (fun c_7 => ?_)
      · replace hf := bc_t hf c_7
        exact hE (v4, v3) (lp_inr hor hf).symm _ _ _ hP hD hS (lv_sub hl [1, 2, 3, 4, 5] rfl)
      · replace hf := bc_f hf c_7
        refine lv_iload hx hb dX12_fewest_42 (lv_at hl 1 rfl) ?_
        refine lv_if_eq (tgt := 62) hx hb dX12_fewest_44 (by decide) (fun c_8 => ?_) (fun c_8 => ?_)
        · replace hf := bc_t hf c_8
          exact J62 v5 v3 _ _ _ hP hD hS (lv_sub hl [0, 2, 3, 4, 5] rfl) hf
        · replace hf := bc_f hf c_8
          refine lv_aload_n hx hb dX12_fewest_47 rfl (lv_at hl 5 rfl) ?_
          refine va_get (D := G) (C := RX12) (T := TX12) (N := 21) (v := .ref (a 5)) hx hb hts iu_X12 hown hK hP 0 rfl rfl 6 (by decide) (hts _ kw893) (fun _ h9 => h9) rfl dX12_fewest_48 ?_
          refine lv_iload hx hb dX12_fewest_51 (lv_at hl 0 rfl) ?_
          obtain ⟨g_9, hf⟩ := gd_e hf
          refine va_iald (f := mo.2.1 4) hx hb hK hP 5 0 rfl rfl g_9 dX12_fewest_53 ?_
          refine lv_iconst (v := 5) hx hb dX12_fewest_54 (by decide) ?_
          refine lv_icmp_eq (tgt := 62) hx hb dX12_fewest_55 (by decide) (fun c_10 => ?_) (fun c_10 => ?_)
          · replace hf := bc_t hf c_10
            exact J62 v5 v3 _ _ _ hP hD hS (lv_sub hl [0, 2, 3, 4, 5] rfl) hf
          · replace hf := bc_f hf c_10
            refine lv_iconst (v := 1) hx hb dX12_fewest_58 (by decide) ?_
            refine lv_goto (tgt := 63) hx hb dX12_fewest_59 (by decide) ?_
            exact J63 v5 v3 1 _ _ _ hP hD hS (lv_sub hl [0, 2, 3, 4, 5] rfl) hf
  have L4 : ∀ (fu : Nat) (mo : MV) (v2 : Int32) (v1 : Int32) (ex : Int32 × MV) (H : Heap) (locs : List Loc) (ls : Array Slot), va_P G classes (wl [lfM ct a mo]) H → va_D A (wl [lfM ct a mo]) → va_S A s.heap H locs → lv_has ls 6 [(2, .int v2), (1, .int v1), (0, .ref (a 0))] → f_X12_fewest_l4 fu n mo v2 v1 = some ex → (∀ (x : Int32 × MV), ex = x → ∀ (H : Heap) (locs : List Loc) (ls : Array Slot), va_P G classes (wl [lfM ct a x.2]) H → va_D A (wl [lfM ct a x.2]) → va_S A s.heap H locs → lv_has ls 6 [(1, .int x.1)] → WG l G ct sk sv p e (RM 4 90 0 0) s m args below meth c A (Eq2 (some (.int r)) (wl [lfM ct a mo'])) H locs (F0 m 159 ls [])) → WG l G ct sk sv p e (RM 4 90 0 0) s m args below meth c A (Eq2 (some (.int r)) (wl [lfM ct a mo'])) H locs (F0 m 4 ls []) := by
    intro fu
    induction fu with
    | zero =>
      intro mo v2 v1 ex H locs ls hP hD hS hl hf
      exact absurd hf (by unfold f_X12_fewest_l4 lp; exact fun h => by cases h)
    | succ fu ih =>
      intro mo v2 v1 ex H locs ls hP hD hS hl hf hE
      unfold f_X12_fewest_l4 at hf
      obtain ⟨q, hf, hor⟩ := lp_e hf
      have J152 : ∀ (mo : MV) (v2 : Int32) (s0 : Int32) (H : Heap) (locs : List Loc) (ls : Array Slot), va_P G classes (wl [lfM ct a mo]) H → va_D A (wl [lfM ct a mo]) → va_S A s.heap H locs → lv_has ls 6 [(2, .int v2), (0, .ref (a 0))] → f_X12_fewest_j152 n mo v2 s0 = some q → WG l G ct sk sv p e (RM 4 90 0 0) s m args below meth c A (Eq2 (some (.int r)) (wl [lfM ct a mo'])) H locs (F0 m 152 ls [.int s0]) := by
        intro mo v2 s0 H locs ls hP hD hS hl hf
        unfold f_X12_fewest_j152 at hf
        refine lv_istore_n (lv' := [(1, .int s0), (2, .int v2), (0, .ref (a 0))]) hx hb dX12_fewest_152 rfl hl (by decide) rfl (fun ls hl => ?_)
        obtain ⟨v2_11, ev2_11, hf⟩ := bl_e hf
        refine lv_iinc (v := v2_11) (lv' := [(2, .int v2_11), (1, .int s0), (0, .ref (a 0))]) hx hb dX12_fewest_153 hl (k := 1) rfl ev2_11 (by decide) rfl (fun ls hl => ?_)
        refine lv_goto (tgt := 4) hx hb dX12_fewest_156 (by decide) ?_
        exact ih mo v2_11 s0 ex _ _ _ hP hD hS hl (lp_inl hor hf) hE
      have J151 : ∀ (mo : MV) (v2 : Int32) (v1 : Int32) (H : Heap) (locs : List Loc) (ls : Array Slot), va_P G classes (wl [lfM ct a mo]) H → va_D A (wl [lfM ct a mo]) → va_S A s.heap H locs → lv_has ls 6 [(2, .int v2), (1, .int v1), (0, .ref (a 0))] → f_X12_fewest_j151 n mo v2 v1 = some q → WG l G ct sk sv p e (RM 4 90 0 0) s m args below meth c A (Eq2 (some (.int r)) (wl [lfM ct a mo'])) H locs (F0 m 151 ls []) := by
        intro mo v2 v1 H locs ls hP hD hS hl hf
        unfold f_X12_fewest_j151 at hf
        refine lv_iload_n hx hb dX12_fewest_151 rfl (lv_at hl 1 rfl) ?_
        exact J152 mo v2 v1 _ _ _ hP hD hS (lv_sub hl [0, 2] rfl) hf
      have J135 : ∀ (mo : MV) (v4 : Int32) (v3 : Int32) (v2 : Int32) (v1 : Int32) (s0 : Int32) (H : Heap) (locs : List Loc) (ls : Array Slot), va_P G classes (wl [lfM ct a mo]) H → va_D A (wl [lfM ct a mo]) → va_S A s.heap H locs → lv_has ls 6 [(4, .int v4), (3, .int v3), (2, .int v2), (1, .int v1), (0, .ref (a 0))] → f_X12_fewest_j135 n mo v4 v3 v2 v1 s0 = some q → WG l G ct sk sv p e (RM 4 90 0 0) s m args below meth c A (Eq2 (some (.int r)) (wl [lfM ct a mo'])) H locs (F0 m 135 ls [.int s0]) := by
        intro mo v4 v3 v2 v1 s0 H locs ls hP hD hS hl hf
        unfold f_X12_fewest_j135 at hf
        refine lv_istore (lv' := [(5, .int s0), (4, .int v4), (3, .int v3), (2, .int v2), (1, .int v1), (0, .ref (a 0))]) hx hb dX12_fewest_135 hl (by decide) rfl (fun ls hl => ?_)
        refine lv_iload hx hb dX12_fewest_137 (lv_at hl 1 rfl) ?_
        refine lv_if_eq (tgt := 151) hx hb dX12_fewest_139 (by decide) (fun c_12 => ?_) (fun c_12 => ?_)
        · replace hf := bc_t hf c_12
          exact J151 mo v2 v1 _ _ _ hP hD hS (lv_sub hl [3, 4, 5] rfl) hf
        · replace hf := bc_f hf c_12
          refine lv_iload hx hb dX12_fewest_142 (lv_at hl 0 rfl) ?_
          refine lv_if_eq (tgt := 151) hx hb dX12_fewest_144 (by decide) (fun c_13 => ?_) (fun c_13 => ?_)
          · replace hf := bc_t hf c_13
            exact J151 mo v2 v1 _ _ _ hP hD hS (lv_sub hl [3, 4, 5] rfl) hf
          · replace hf := bc_f hf c_13
            refine lv_iload_n hx hb dX12_fewest_147 rfl (lv_at hl 2 rfl) ?_
            refine lv_goto (tgt := 152) hx hb dX12_fewest_148 (by decide) ?_
            exact J152 mo v2 v3 _ _ _ hP hD hS (lv_sub hl [3, 5] rfl) hf
      have J134 : ∀ (mo : MV) (v4 : Int32) (v3 : Int32) (v2 : Int32) (v1 : Int32) (H : Heap) (locs : List Loc) (ls : Array Slot), va_P G classes (wl [lfM ct a mo]) H → va_D A (wl [lfM ct a mo]) → va_S A s.heap H locs → lv_has ls 6 [(4, .int v4), (3, .int v3), (2, .int v2), (1, .int v1), (0, .ref (a 0))] → f_X12_fewest_j134 n mo v4 v3 v2 v1 = some q → WG l G ct sk sv p e (RM 4 90 0 0) s m args below meth c A (Eq2 (some (.int r)) (wl [lfM ct a mo'])) H locs (F0 m 134 ls []) := by
        intro mo v4 v3 v2 v1 H locs ls hP hD hS hl hf
        unfold f_X12_fewest_j134 at hf
        refine lv_iconst (v := 0) hx hb dX12_fewest_134 (by decide) ?_
        exact J135 mo v4 v3 v2 v1 0 _ _ _ hP hD hS hl hf
      have J130 : ∀ (mo : MV) (v4 : Int32) (v3 : Int32) (v2 : Int32) (v1 : Int32) (H : Heap) (locs : List Loc) (ls : Array Slot), va_P G classes (wl [lfM ct a mo]) H → va_D A (wl [lfM ct a mo]) → va_S A s.heap H locs → lv_has ls 6 [(4, .int v4), (3, .int v3), (2, .int v2), (1, .int v1), (0, .ref (a 0))] → f_X12_fewest_j130 n mo v4 v3 v2 v1 = some q → WG l G ct sk sv p e (RM 4 90 0 0) s m args below meth c A (Eq2 (some (.int r)) (wl [lfM ct a mo'])) H locs (F0 m 130 ls []) := by
        intro mo v4 v3 v2 v1 H locs ls hP hD hS hl hf
        unfold f_X12_fewest_j130 at hf
        refine lv_iconst (v := 1) hx hb dX12_fewest_130 (by decide) ?_
        refine lv_goto (tgt := 135) hx hb dX12_fewest_131 (by decide) ?_
        exact J135 mo v4 v3 v2 v1 1 _ _ _ hP hD hS hl hf
      have J28 : ∀ (mo : MV) (v3 : Int32) (v2 : Int32) (v1 : Int32) (s0 : Int32) (H : Heap) (locs : List Loc) (ls : Array Slot), va_P G classes (wl [lfM ct a mo]) H → va_D A (wl [lfM ct a mo]) → va_S A s.heap H locs → lv_has ls 6 [(3, .int v3), (2, .int v2), (1, .int v1), (0, .ref (a 0))] → f_X12_fewest_j28 n mo v3 v2 v1 s0 = some q → WG l G ct sk sv p e (RM 4 90 0 0) s m args below meth c A (Eq2 (some (.int r)) (wl [lfM ct a mo'])) H locs (F0 m 28 ls [.int s0]) := by
        intro mo v3 v2 v1 s0 H locs ls hP hD hS hl hf
        unfold f_X12_fewest_j28 at hf
        refine lv_istore (lv' := [(4, .int s0), (3, .int v3), (2, .int v2), (1, .int v1), (0, .ref (a 0))]) hx hb dX12_fewest_28 hl (by decide) rfl (fun ls hl => ?_)
        refine lv_iconst (v := 0) hx hb dX12_fewest_30 (by decide) ?_
        refine lv_istore (lv' := [(5, .int 0), (4, .int s0), (3, .int v3), (2, .int v2), (1, .int v1), (0, .ref (a 0))]) hx hb dX12_fewest_31 hl (by decide) rfl (fun ls hl => ?_)
        obtain ⟨v4_14, v3_15, hx_16, hf⟩ := bd2_e hf
        refine L33 n mo v2 v1 0 s0 v3 (v4_14, v3_15) _ _ _ hP hD hS hl hx_16 ?_
        intro x9 e9 H locs ls hP hD hS hl
        subst e9
        have hP : va_P G classes (wl [lfM ct a mo]) H := hP
        have hD : va_D A (wl [lfM ct a mo]) := hD
        have hl : lv_has ls 6 [(4, .int v4_14), (3, .int v3_15), (2, .int v2), (1, .int v1), (0, .ref (a 0))] := hl
        refine lv_iload_n hx hb dX12_fewest_98 rfl (lv_at hl 3 rfl) ?_
        refine lv_iconst (v := (-1)) hx hb dX12_fewest_99 (by decide) ?_
        refine lv_icmp_eq (tgt := 130) hx hb dX12_fewest_100 (by decide) (fun c_17 => ?_) (fun c_17 => ?_)
        · replace hf := bc_t hf c_17
          exact J130 mo v4_14 v3_15 v2 v1 _ _ _ hP hD hS hl hf
        · replace hf := bc_f hf c_17
          refine lv_iload_n hx hb dX12_fewest_103 rfl (lv_at hl 1 rfl) ?_
          obtain ⟨r_18, hc18, hf⟩ := bd_e hf
          refine call_S (As := [.int v3_15]) (rest := []) hx hb hml hown hts hK hP hD hS hA hZ lkX12_162 (Ctr.upL (c_X12_bits l G ct sk sv  n v3_15 hc18) [lfM ct a mo] [lfM ct a mo] [lfM ct a mo] [0] 1 (by decide) rfl rfl rfl rfl) ⟨Nat.le_of_ble_eq_true rfl, Nat.le_of_ble_eq_true rfl⟩ rfl hl.1 rfl (Nat.le_of_ble_eq_true rfl) dX12_fewest_104 ⟨Nat.le_of_ble_eq_true rfl, Nat.le_of_ble_eq_true rfl⟩ (fun r9 w9 H locs hB hP hD hS => ?_)
          obtain ⟨rfl, rfl⟩ := hB
          refine WG_eq (g2 := F0 m 107 ls [.int r_18]) rfl ?_
          refine lv_iload_n hx hb dX12_fewest_107 rfl (lv_at hl 3 rfl) ?_
          obtain ⟨r_19, hc19, hf⟩ := bd_e hf
          refine call_S (As := [.int v1]) (rest := [.int r_18]) hx hb hml hown hts hK hP hD hS hA hZ lkX12_162 (Ctr.upL (c_X12_bits l G ct sk sv  n v1 hc19) [lfM ct a mo] [lfM ct a mo] [lfM ct a mo] [0] 1 (by decide) rfl rfl rfl rfl) ⟨Nat.le_of_ble_eq_true rfl, Nat.le_of_ble_eq_true rfl⟩ rfl hl.1 rfl (Nat.le_of_ble_eq_true rfl) dX12_fewest_108 ⟨Nat.le_of_ble_eq_true rfl, Nat.le_of_ble_eq_true rfl⟩ (fun r9 w9 H locs hB hP hD hS => ?_)
          obtain ⟨rfl, rfl⟩ := hB
          refine WG_eq (g2 := F0 m 111 ls [.int r_19, .int r_18]) rfl ?_
          refine lv_icmp_lt (tgt := 130) hx hb dX12_fewest_111 (by decide) (fun c_20 => ?_) (fun c_20 => ?_)
          · replace hf := bc_t hf c_20
            exact J130 mo v4_14 v3_15 v2 v1 _ _ _ hP hD hS hl hf
          · replace hf := bc_f hf c_20
            refine lv_iload_n hx hb dX12_fewest_114 rfl (lv_at hl 1 rfl) ?_
            obtain ⟨r_21, hc21, hf⟩ := bd_e hf
            refine call_S (As := [.int v3_15]) (rest := []) hx hb hml hown hts hK hP hD hS hA hZ lkX12_162 (Ctr.upL (c_X12_bits l G ct sk sv  n v3_15 hc21) [lfM ct a mo] [lfM ct a mo] [lfM ct a mo] [0] 1 (by decide) rfl rfl rfl rfl) ⟨Nat.le_of_ble_eq_true rfl, Nat.le_of_ble_eq_true rfl⟩ rfl hl.1 rfl (Nat.le_of_ble_eq_true rfl) dX12_fewest_115 ⟨Nat.le_of_ble_eq_true rfl, Nat.le_of_ble_eq_true rfl⟩ (fun r9 w9 H locs hB hP hD hS => ?_)
            obtain ⟨rfl, rfl⟩ := hB
            refine WG_eq (g2 := F0 m 118 ls [.int r_21]) rfl ?_
            refine lv_iload_n hx hb dX12_fewest_118 rfl (lv_at hl 3 rfl) ?_
            obtain ⟨r_22, hc22, hf⟩ := bd_e hf
            refine call_S (As := [.int v1]) (rest := [.int r_21]) hx hb hml hown hts hK hP hD hS hA hZ lkX12_162 (Ctr.upL (c_X12_bits l G ct sk sv  n v1 hc22) [lfM ct a mo] [lfM ct a mo] [lfM ct a mo] [0] 1 (by decide) rfl rfl rfl rfl) ⟨Nat.le_of_ble_eq_true rfl, Nat.le_of_ble_eq_true rfl⟩ rfl hl.1 rfl (Nat.le_of_ble_eq_true rfl) dX12_fewest_119 ⟨Nat.le_of_ble_eq_true rfl, Nat.le_of_ble_eq_true rfl⟩ (fun r9 w9 H locs hB hP hD hS => ?_)
            obtain ⟨rfl, rfl⟩ := hB
            refine WG_eq (g2 := F0 m 122 ls [.int r_22, .int r_21]) rfl ?_
            refine lv_icmp_ne (tgt := 134) hx hb dX12_fewest_122 (by decide) (fun c_23 => ?_) (fun c_23 => ?_)
            · replace hf := bc_f hf c_23
              exact J134 mo v4_14 v3_15 v2 v1 _ _ _ hP hD hS hl hf
            · replace hf := bc_t hf c_23
              refine lv_iload_n hx hb dX12_fewest_125 rfl (lv_at hl 1 rfl) ?_
              refine lv_iload_n hx hb dX12_fewest_126 rfl (lv_at hl 3 rfl) ?_
              refine lv_icmp_ge (tgt := 134) hx hb dX12_fewest_127 (by decide) (fun c_24 => ?_) (fun c_24 => ?_)
              · replace hf := bc_t hf c_24
                exact J134 mo v4_14 v3_15 v2 v1 _ _ _ hP hD hS hl hf
              · replace hf := bc_f hf c_24
                exact J130 mo v4_14 v3_15 v2 v1 _ _ _ hP hD hS hl hf
      replace hf : f_X12_fewest_b4 n mo v2 v1 = some q := hf
      unfold f_X12_fewest_b4 at hf
      refine lv_iload_n hx hb dX12_fewest_4 rfl (lv_at hl 0 rfl) ?_
      refine lv_aload_n hx hb dX12_fewest_5 rfl (lv_at hl 2 rfl) ?_
      obtain ⟨r_25, hc25, hf⟩ := bd_e hf
      refine call_V (As := []) (rest := [.int v2]) hx hb hml hown hts hK hP hD hS hA hZ lkX12_156 (c_X12_codes l G ct sk sv a n mo hc25) 0 rfl rfl ⟨Nat.le_of_ble_eq_true rfl, Nat.le_of_ble_eq_true rfl⟩ rfl hl.1 rfl (Nat.le_of_ble_eq_true rfl) dX12_fewest_6 ⟨Nat.le_of_ble_eq_true rfl, Nat.le_of_ble_eq_true rfl⟩ (fun r9 w9 H locs hB hP hD hS => ?_)
      obtain ⟨rfl, rfl⟩ := hB
      refine WG_eq (g2 := F0 m 9 ls [.int r_25, .int v2]) rfl ?_
      refine lv_icmp_ge (tgt := 159) hx hb dX12_fewest_9 (by decide) (fun c_26 => ?_) (fun c_26 => ?_)
      · replace hf := bc_t hf c_26
        exact hE (v1, mo) (lp_inr hor hf).symm _ _ _ hP hD hS (lv_sub hl [1] rfl)
      · replace hf := bc_f hf c_26
        refine lv_iconst (v := 0) hx hb dX12_fewest_12 (by decide) ?_
        refine lv_istore_n (lv' := [(3, .int 0), (2, .int v2), (1, .int v1), (0, .ref (a 0))]) hx hb dX12_fewest_13 rfl hl (by decide) rfl (fun ls hl => ?_)
        refine lv_aload_n hx hb dX12_fewest_14 rfl (lv_at hl 3 rfl) ?_
        refine lv_iload_n hx hb dX12_fewest_15 rfl (lv_at hl 1 rfl) ?_
        obtain ⟨r_27, mo_28, hc28, hf⟩ := bd2_e hf
        refine call_V (As := [.int v2]) (rest := []) hx hb hml hown hts hK hP hD hS hA hZ lkX12_159 (c_X12_savedBy l G ct sk sv a n mo v2 hc28) 0 rfl rfl ⟨Nat.le_of_ble_eq_true rfl, Nat.le_of_ble_eq_true rfl⟩ rfl hl.1 rfl (Nat.le_of_ble_eq_true rfl) dX12_fewest_16 ⟨Nat.le_of_ble_eq_true rfl, Nat.le_of_ble_eq_true rfl⟩ (fun r9 w9 H locs hB hP hD hS => ?_)
        obtain ⟨rfl, rfl⟩ := hB
        refine WG_eq (g2 := F0 m 19 ls [.int r_27]) rfl ?_
        refine lv_iconst (v := (-1)) hx hb dX12_fewest_19 (by decide) ?_
        refine lv_icmp_eq (tgt := 27) hx hb dX12_fewest_20 (by decide) (fun c_29 => ?_) (fun c_29 => ?_)
        · replace hf := bc_t hf c_29
          refine lv_iconst (v := 0) hx hb dX12_fewest_27 (by decide) ?_
          exact J28 mo_28 0 v2 v1 0 _ _ _ hP hD hS hl hf
        · replace hf := bc_f hf c_29
          refine lv_iconst (v := 1) hx hb dX12_fewest_23 (by decide) ?_
          refine lv_goto (tgt := 28) hx hb dX12_fewest_24 (by decide) ?_
          exact J28 mo_28 0 v2 v1 1 _ _ _ hP hD hS hl hf
  unfold f_X12_fewest at hf
  show WG l G ct sk sv p e (RM 4 90 0 0) s m args below meth c A (Eq2 (some (.int r)) (wl [lfM ct a mo'])) s.heap [] (F0 m 0 ls [])
  refine lv_iconst (v := (-1)) hx hb dX12_fewest_0 (by decide) ?_
  refine lv_istore_n (lv' := [(1, .int (-1)), (0, .ref (a 0))]) hx hb dX12_fewest_1 rfl hl (by decide) rfl (fun ls hl => ?_)
  refine lv_iconst (v := 0) hx hb dX12_fewest_2 (by decide) ?_
  refine lv_istore_n (lv' := [(2, .int 0), (1, .int (-1)), (0, .ref (a 0))]) hx hb dX12_fewest_3 rfl hl (by decide) rfl (fun ls hl => ?_)
  obtain ⟨v1_30, mo_31, hx_32, hf⟩ := bd2_e hf
  refine L4 n mo 0 (-1) (v1_30, mo_31) _ _ _ hP hD hS hl hx_32 ?_
  intro x9 e9 H locs ls hP hD hS hl
  subst e9
  have hP : va_P G classes (wl [lfM ct a mo_31]) H := hP
  have hD : va_D A (wl [lfM ct a mo_31]) := hD
  have hl : lv_has ls 6 [(1, .int v1_30)] := hl
  refine lv_iload_n hx hb dX12_fewest_159 rfl (lv_at hl 0 rfl) ?_
  obtain ⟨e1, e2⟩ := inj2 (Option.some.inj hf)
  exact end_i (w' := (wl [lfM ct a mo_31])) hx hb hr hlocks hK hP hD hS dX12_fewest_160  ⟨by rw [← e1], by rw [← e2]⟩
noncomputable def f_X12_forged_j138 (n : Nat) (mo : MV) (v5 : Int32) (v3 : Int32) (v2 : Int32) (v1 : Int32) (s0 : Int32) : Option ((Int32 × Int32) ⊕ (Int32)) :=
  bl (v5 + 1) fun v5_1 =>
  some (.inl (v5_1, s0))
noncomputable def f_X12_forged_j94 (n : Nat) (mo : MV) (v5 : Int32) (v3 : Int32) (v2 : Int32) (v1 : Int32) (s0 : Int32) : Option ((Int32 × Int32) ⊕ (Int32)) :=
  bc (s0 = 0) (bd (f_X12_has n v3 v5) fun r_3 =>
  bc (r_3 = 0) (f_X12_forged_j138 n mo v5 v3 v2 v1 1)
  (f_X12_forged_j138 n mo v5 v3 v2 v1 0))
  (gd (vp_in ((47 + (3 * v5)) + 1) 235) <|
  bd (f_X12_areTrue n mo v1 (mo.2.1 0 (ix ((47 + (3 * v5)) + 1))) v3) fun r_6 =>
  f_X12_forged_j138 n mo v5 v3 v2 v1 r_6)
noncomputable def f_X12_forged_b57 (n : Nat) (mo : MV) (v5 : Int32) (v4 : Int32) (v3 : Int32) (v2 : Int32) (v1 : Int32) : Option ((Int32 × Int32) ⊕ (Int32)) :=
  gd (vp_in 2 235) <|
  bc ((mo.2.1 0 (ix 2)) ≤ v5) (some (.inr v4))
  (bc (v4 = 0) (some (.inr v4))
  (gd (vp_in (47 + (3 * v5)) 235) <|
  bc ((mo.2.1 0 (ix (47 + (3 * v5)))) = v1) (f_X12_forged_j94 n mo v5 v3 v2 v1 1)
  (f_X12_forged_j94 n mo v5 v3 v2 v1 0)))
noncomputable def f_X12_forged_l57 (fu : Nat) (n : Nat) (mo : MV) (v3 : Int32) (v2 : Int32) (v1 : Int32) (v5 : Int32) (v4 : Int32) : Option (Int32) :=
  lp (fun q => f_X12_forged_b57 n mo q.1 q.2 v3 v2 v1) fu (v5, v4)
noncomputable def f_X12_forged_j156 (n : Nat) (mo : MV) (v3 : Int32) (v1 : Int32) (s0 : Int32) : Option ((Int32 × Int32) ⊕ (Int32)) :=
  bl (v3 + 1) fun v3_12 =>
  some (.inl (v3_12, s0))
noncomputable def f_X12_forged_j146 (n : Nat) (mo : MV) (v4 : Int32) (v3 : Int32) (v2 : Int32) (v1 : Int32) : Option ((Int32 × Int32) ⊕ (Int32)) :=
  bc (v4 = 0) (f_X12_forged_j156 n mo v3 v1 v2)
  (f_X12_forged_j156 n mo v3 v1 v3)
noncomputable def f_X12_forged_j52 (n : Nat) (mo : MV) (v3 : Int32) (v2 : Int32) (v1 : Int32) (s0 : Int32) : Option ((Int32 × Int32) ⊕ (Int32)) :=
  bd (f_X12_forged_l57 n n mo v3 v2 v1 0 s0) fun v4_14 =>
  f_X12_forged_j146 n mo v4_14 v3 v2 v1
noncomputable def f_X12_forged_j47 (n : Nat) (mo : MV) (v3 : Int32) (v2 : Int32) (v1 : Int32) : Option ((Int32 × Int32) ⊕ (Int32)) :=
  f_X12_forged_j52 n mo v3 v2 v1 1
noncomputable def f_X12_forged_b19 (n : Nat) (mo : MV) (v3 : Int32) (v2 : Int32) (v1 : Int32) : Option ((Int32 × Int32) ⊕ (Int32)) :=
  gd (vp_in 2 235) <|
  bc ((1 <<< ((mo.2.1 0 (ix 2)) &&& 31)) ≤ v3) (some (.inr v2))
  (bc (v2 = (-1)) (f_X12_forged_j47 n mo v3 v2 v1)
  (bd (f_X12_bits n v3) fun r_19 =>
  bd (f_X12_bits n v2) fun r_20 =>
  bc (r_20 ≤ r_19) (f_X12_forged_j52 n mo v3 v2 v1 0)
  (f_X12_forged_j47 n mo v3 v2 v1)))
noncomputable def f_X12_forged_l19 (fu : Nat) (n : Nat) (mo : MV) (v1 : Int32) (v3 : Int32) (v2 : Int32) : Option (Int32) :=
  lp (fun q => f_X12_forged_b19 n mo q.1 q.2 v1) fu (v3, v2)
noncomputable def f_X12_forged (n : Nat) (mo : MV) (v1 : Int32) : Option (Int32 × MV) :=
  bd (f_X12_isMember n mo v1) fun r_22 =>
  bc (r_22 = 0) (bd2 (f_X12_bad n mo (-2)) fun r_26 mo_27 =>
  some (r_26, mo_27))
  (bd (f_X12_forged_l19 n n mo v1 0 (-1)) fun v2_24 =>
  some (v2_24, mo))
set_option maxHeartbeats 4000000 in
set_option maxRecDepth 100000 in
theorem c_X12_forged (l : Launch) (G : va_G) (ct : Nat → ClassId) (sk sv : Nat → Nat) (a : Nat → Nat) (n : Nat) (mo : MV) (v1 : Int32) {r : Int32} {mo' : MV} (hf : f_X12_forged n mo v1 = some (r, mo')) : Ctr (l, G, ct, sk, sv) mX12_forged 3 76 [.ref (a 0), .int v1] (wl [lfM ct a mo]) (wl [lfM ct a mo']) (some (.int r)) := by
  refine ctr_intro (by decide) (Nat.le_of_ble_eq_true rfl) ?_
  intro p e s m args below meth c A C hP hD hS hA ls hl
  obtain ⟨hx, hb, hml, hown, hts, hr, hlocks, hK, hnm, hZ⟩ := C
  have hb : c.code = cX12_forged := hb
  have hml : c.maxLocals = 7 := hml
  have hown : s.vm.findClass "SignedOutsideModel" = some m.cls := hown
  have hr : meth.sig.returnType = some .int := hr
  have hP : va_P G classes (wl [lfM ct a mo]) s.heap := hP
  have hD : va_D A (wl [lfM ct a mo]) := hD
  have hK : va_K G classes (TYS ct) s := hK
  have hl : lv_has ls 7 [(0, .ref (a 0)), (1, .int v1)] := hl
  have L57 : ∀ (fu : Nat) (mo : MV) (v3 : Int32) (v2 : Int32) (v1 : Int32) (v5 : Int32) (v4 : Int32) (ex : Int32) (H : Heap) (locs : List Loc) (ls : Array Slot), va_P G classes (wl [lfM ct a mo]) H → va_D A (wl [lfM ct a mo]) → va_S A s.heap H locs → lv_has ls 7 [(5, .int v5), (4, .int v4), (3, .int v3), (2, .int v2), (0, .ref (a 0)), (1, .int v1)] → f_X12_forged_l57 fu n mo v3 v2 v1 v5 v4 = some ex → (∀ (x : Int32), ex = x → ∀ (H : Heap) (locs : List Loc) (ls : Array Slot), va_P G classes (wl [lfM ct a mo]) H → va_D A (wl [lfM ct a mo]) → va_S A s.heap H locs → lv_has ls 7 [(4, .int x), (3, .int v3), (2, .int v2), (0, .ref (a 0)), (1, .int v1)] → WG l G ct sk sv p e (RM 3 76 0 0) s m args below meth c A (Eq2 (some (.int r)) (wl [lfM ct a mo'])) H locs (F0 m 146 ls [])) → WG l G ct sk sv p e (RM 3 76 0 0) s m args below meth c A (Eq2 (some (.int r)) (wl [lfM ct a mo'])) H locs (F0 m 57 ls []) := by
    intro fu
    induction fu with
    | zero =>
      intro mo v3 v2 v1 v5 v4 ex H locs ls hP hD hS hl hf
      exact absurd hf (by unfold f_X12_forged_l57 lp; exact fun h => by cases h)
    | succ fu ih =>
      intro mo v3 v2 v1 v5 v4 ex H locs ls hP hD hS hl hf hE
      unfold f_X12_forged_l57 at hf
      obtain ⟨q, hf, hor⟩ := lp_e hf
      have J138 : ∀ (v5 : Int32) (s0 : Int32) (H : Heap) (locs : List Loc) (ls : Array Slot), va_P G classes (wl [lfM ct a mo]) H → va_D A (wl [lfM ct a mo]) → va_S A s.heap H locs → lv_has ls 7 [(5, .int v5), (3, .int v3), (2, .int v2), (0, .ref (a 0)), (1, .int v1)] → f_X12_forged_j138 n mo v5 v3 v2 v1 s0 = some q → WG l G ct sk sv p e (RM 3 76 0 0) s m args below meth c A (Eq2 (some (.int r)) (wl [lfM ct a mo'])) H locs (F0 m 138 ls [.int s0]) := by
        intro v5 s0 H locs ls hP hD hS hl hf
        unfold f_X12_forged_j138 at hf
        refine lv_istore (lv' := [(4, .int s0), (5, .int v5), (3, .int v3), (2, .int v2), (0, .ref (a 0)), (1, .int v1)]) hx hb dX12_forged_138 hl (by decide) rfl (fun ls hl => ?_)
        obtain ⟨v5_1, ev5_1, hf⟩ := bl_e hf
        refine lv_iinc (v := v5_1) (lv' := [(5, .int v5_1), (4, .int s0), (3, .int v3), (2, .int v2), (0, .ref (a 0)), (1, .int v1)]) hx hb dX12_forged_140 hl (k := 1) rfl ev5_1 (by decide) rfl (fun ls hl => ?_)
        refine lv_goto (tgt := 57) hx hb dX12_forged_143 (by decide) ?_
        exact ih mo v3 v2 v1 v5_1 s0 ex _ _ _ hP hD hS hl (lp_inl hor hf) hE
      have J94 : ∀ (v5 : Int32) (s0 : Int32) (H : Heap) (locs : List Loc) (ls : Array Slot), va_P G classes (wl [lfM ct a mo]) H → va_D A (wl [lfM ct a mo]) → va_S A s.heap H locs → lv_has ls 7 [(5, .int v5), (3, .int v3), (2, .int v2), (0, .ref (a 0)), (1, .int v1)] → f_X12_forged_j94 n mo v5 v3 v2 v1 s0 = some q → WG l G ct sk sv p e (RM 3 76 0 0) s m args below meth c A (Eq2 (some (.int r)) (wl [lfM ct a mo'])) H locs (F0 m 94 ls [.int s0]) := by
        intro v5 s0 H locs ls hP hD hS hl hf
        unfold f_X12_forged_j94 at hf
        refine lv_istore (lv' := [(6, .int s0), (5, .int v5), (3, .int v3), (2, .int v2), (0, .ref (a 0)), (1, .int v1)]) hx hb dX12_forged_94 hl (by decide) rfl (fun ls hl => ?_)
        refine lv_iload hx hb dX12_forged_96 (lv_at hl 0 rfl) ?_
        refine lv_if_eq (tgt := 124) hx hb dX12_forged_98 (by decide) (fun c_2 => ?_) (fun c_2 => ?_)
        · replace hf := bc_t hf c_2
          refine lv_iload_n hx hb dX12_forged_124 rfl (lv_at hl 2 rfl) ?_
          refine lv_iload hx hb dX12_forged_125 (lv_at hl 1 rfl) ?_
          obtain ⟨r_3, hc3, hf⟩ := bd_e hf
          refine call_S (As := [.int v3, .int v5]) (rest := []) hx hb hml hown hts hK hP hD hS hA hZ lkX12_181 (Ctr.upL (c_X12_has l G ct sk sv  n v3 v5 hc3) [lfM ct a mo] [lfM ct a mo] [lfM ct a mo] [0] 1 (by decide) rfl rfl rfl rfl) ⟨Nat.le_of_ble_eq_true rfl, Nat.le_of_ble_eq_true rfl⟩ rfl hl.1 rfl (Nat.le_of_ble_eq_true rfl) dX12_forged_127 ⟨Nat.le_of_ble_eq_true rfl, Nat.le_of_ble_eq_true rfl⟩ (fun r9 w9 H locs hB hP hD hS => ?_)
          obtain ⟨rfl, rfl⟩ := hB
          refine WG_eq (g2 := F0 m 130 ls [.int r_3]) rfl ?_
          refine lv_if_ne (tgt := 137) hx hb dX12_forged_130 (by decide) (fun c_4 => ?_) (fun c_4 => ?_)
          · replace hf := bc_f hf c_4
            refine lv_iconst (v := 0) hx hb dX12_forged_137 (by decide) ?_
            exact J138 v5 0 _ _ _ hP hD hS (lv_sub hl [1, 2, 3, 4, 5] rfl) hf
          · replace hf := bc_t hf c_4
            refine lv_iconst (v := 1) hx hb dX12_forged_133 (by decide) ?_
            refine lv_goto (tgt := 138) hx hb dX12_forged_134 (by decide) ?_
            exact J138 v5 1 _ _ _ hP hD hS (lv_sub hl [1, 2, 3, 4, 5] rfl) hf
        · replace hf := bc_f hf c_2
          refine lv_aload_n hx hb dX12_forged_101 rfl (lv_at hl 4 rfl) ?_
          refine lv_iload_n hx hb dX12_forged_102 rfl (lv_at hl 5 rfl) ?_
          refine lv_aload_n hx hb dX12_forged_103 rfl (lv_at hl 4 rfl) ?_
          refine va_get (D := G) (C := RX12) (T := TX12) (N := 21) (v := .ref (a 1)) hx hb hts iu_X12 hown hK hP 0 rfl rfl 0 (by decide) (hts _ kw887) (fun _ h9 => h9) rfl dX12_forged_104 ?_
          refine lv_bipush (v := 47) hx hb dX12_forged_107 (by decide) ?_
          refine lv_iconst (v := 3) hx hb dX12_forged_109 (by decide) ?_
          refine lv_iload hx hb dX12_forged_110 (lv_at hl 1 rfl) ?_
          refine lv_imul hx hb dX12_forged_112 ?_
          refine lv_iadd hx hb dX12_forged_113 ?_
          refine lv_iconst (v := 1) hx hb dX12_forged_114 (by decide) ?_
          refine lv_iadd hx hb dX12_forged_115 ?_
          obtain ⟨g_5, hf⟩ := gd_e hf
          refine va_iald (f := mo.2.1 0) hx hb hK hP 1 0 rfl rfl g_5 dX12_forged_116 ?_
          refine lv_iload_n hx hb dX12_forged_117 rfl (lv_at hl 2 rfl) ?_
          obtain ⟨r_6, hc6, hf⟩ := bd_e hf
          refine call_V (As := [.int v1, .int (mo.2.1 0 (ix ((47 + (3 * v5)) + 1))), .int v3]) (rest := []) hx hb hml hown hts hK hP hD hS hA hZ lkX12_190 (c_X12_areTrue l G ct sk sv a n mo v1 (mo.2.1 0 (ix ((47 + (3 * v5)) + 1))) v3 hc6) 0 rfl rfl ⟨Nat.le_of_ble_eq_true rfl, Nat.le_of_ble_eq_true rfl⟩ rfl hl.1 rfl (Nat.le_of_ble_eq_true rfl) dX12_forged_118 ⟨Nat.le_of_ble_eq_true rfl, Nat.le_of_ble_eq_true rfl⟩ (fun r9 w9 H locs hB hP hD hS => ?_)
          obtain ⟨rfl, rfl⟩ := hB
          refine WG_eq (g2 := F0 m 121 ls [.int r_6]) rfl ?_
          refine lv_goto (tgt := 138) hx hb dX12_forged_121 (by decide) ?_
          exact J138 v5 r_6 _ _ _ hP hD hS (lv_sub hl [1, 2, 3, 4, 5] rfl) hf
      replace hf : f_X12_forged_b57 n mo v5 v4 v3 v2 v1 = some q := hf
      unfold f_X12_forged_b57 at hf
      refine lv_iload hx hb dX12_forged_57 (lv_at hl 0 rfl) ?_
      refine lv_aload_n hx hb dX12_forged_59 rfl (lv_at hl 4 rfl) ?_
      refine va_get (D := G) (C := RX12) (T := TX12) (N := 21) (v := .ref (a 1)) hx hb hts iu_X12 hown hK hP 0 rfl rfl 0 (by decide) (hts _ kw887) (fun _ h9 => h9) rfl dX12_forged_60 ?_
      refine lv_iconst (v := 2) hx hb dX12_forged_63 (by decide) ?_
      obtain ⟨g_7, hf⟩ := gd_e hf
      refine va_iald (f := mo.2.1 0) hx hb hK hP 1 0 rfl rfl g_7 dX12_forged_64 ?_
      refine lv_icmp_ge (tgt := 146) hx hb dX12_forged_65 (by decide) (fun c_8 => ?_) (fun c_8 => ?_)
      · replace hf := bc_t hf c_8
        exact hE v4 (lp_inr hor hf).symm _ _ _ hP hD hS (lv_sub hl [1, 2, 3, 4, 5] rfl)
      · replace hf := bc_f hf c_8
        refine lv_iload hx hb dX12_forged_68 (lv_at hl 1 rfl) ?_
        refine lv_if_eq (tgt := 146) hx hb dX12_forged_70 (by decide) (fun c_9 => ?_) (fun c_9 => ?_)
        · replace hf := bc_t hf c_9
          exact hE v4 (lp_inr hor hf).symm _ _ _ hP hD hS (lv_sub hl [1, 2, 3, 4, 5] rfl)
        · replace hf := bc_f hf c_9
          refine lv_aload_n hx hb dX12_forged_73 rfl (lv_at hl 4 rfl) ?_
          refine va_get (D := G) (C := RX12) (T := TX12) (N := 21) (v := .ref (a 1)) hx hb hts iu_X12 hown hK hP 0 rfl rfl 0 (by decide) (hts _ kw887) (fun _ h9 => h9) rfl dX12_forged_74 ?_
          refine lv_bipush (v := 47) hx hb dX12_forged_77 (by decide) ?_
          refine lv_iconst (v := 3) hx hb dX12_forged_79 (by decide) ?_
          refine lv_iload hx hb dX12_forged_80 (lv_at hl 0 rfl) ?_
          refine lv_imul hx hb dX12_forged_82 ?_
          refine lv_iadd hx hb dX12_forged_83 ?_
          obtain ⟨g_10, hf⟩ := gd_e hf
          refine va_iald (f := mo.2.1 0) hx hb hK hP 1 0 rfl rfl g_10 dX12_forged_84 ?_
          refine lv_iload_n hx hb dX12_forged_85 rfl (lv_at hl 5 rfl) ?_
          refine lv_icmp_ne (tgt := 93) hx hb dX12_forged_86 (by decide) (fun c_11 => ?_) (fun c_11 => ?_)
          · replace hf := bc_f hf c_11
            refine lv_iconst (v := 0) hx hb dX12_forged_93 (by decide) ?_
            exact J94 v5 0 _ _ _ hP hD hS (lv_sub hl [0, 2, 3, 4, 5] rfl) hf
          · replace hf := bc_t hf c_11
            refine lv_iconst (v := 1) hx hb dX12_forged_89 (by decide) ?_
            refine lv_goto (tgt := 94) hx hb dX12_forged_90 (by decide) ?_
            exact J94 v5 1 _ _ _ hP hD hS (lv_sub hl [0, 2, 3, 4, 5] rfl) hf
  have L19 : ∀ (fu : Nat) (mo : MV) (v1 : Int32) (v3 : Int32) (v2 : Int32) (ex : Int32) (H : Heap) (locs : List Loc) (ls : Array Slot), va_P G classes (wl [lfM ct a mo]) H → va_D A (wl [lfM ct a mo]) → va_S A s.heap H locs → lv_has ls 7 [(3, .int v3), (2, .int v2), (0, .ref (a 0)), (1, .int v1)] → f_X12_forged_l19 fu n mo v1 v3 v2 = some ex → (∀ (x : Int32), ex = x → ∀ (H : Heap) (locs : List Loc) (ls : Array Slot), va_P G classes (wl [lfM ct a mo]) H → va_D A (wl [lfM ct a mo]) → va_S A s.heap H locs → lv_has ls 7 [(2, .int x)] → WG l G ct sk sv p e (RM 3 76 0 0) s m args below meth c A (Eq2 (some (.int r)) (wl [lfM ct a mo'])) H locs (F0 m 163 ls [])) → WG l G ct sk sv p e (RM 3 76 0 0) s m args below meth c A (Eq2 (some (.int r)) (wl [lfM ct a mo'])) H locs (F0 m 19 ls []) := by
    intro fu
    induction fu with
    | zero =>
      intro mo v1 v3 v2 ex H locs ls hP hD hS hl hf
      exact absurd hf (by unfold f_X12_forged_l19 lp; exact fun h => by cases h)
    | succ fu ih =>
      intro mo v1 v3 v2 ex H locs ls hP hD hS hl hf hE
      unfold f_X12_forged_l19 at hf
      obtain ⟨q, hf, hor⟩ := lp_e hf
      have J156 : ∀ (v3 : Int32) (s0 : Int32) (H : Heap) (locs : List Loc) (ls : Array Slot), va_P G classes (wl [lfM ct a mo]) H → va_D A (wl [lfM ct a mo]) → va_S A s.heap H locs → lv_has ls 7 [(3, .int v3), (0, .ref (a 0)), (1, .int v1)] → f_X12_forged_j156 n mo v3 v1 s0 = some q → WG l G ct sk sv p e (RM 3 76 0 0) s m args below meth c A (Eq2 (some (.int r)) (wl [lfM ct a mo'])) H locs (F0 m 156 ls [.int s0]) := by
        intro v3 s0 H locs ls hP hD hS hl hf
        unfold f_X12_forged_j156 at hf
        refine lv_istore_n (lv' := [(2, .int s0), (3, .int v3), (0, .ref (a 0)), (1, .int v1)]) hx hb dX12_forged_156 rfl hl (by decide) rfl (fun ls hl => ?_)
        obtain ⟨v3_12, ev3_12, hf⟩ := bl_e hf
        refine lv_iinc (v := v3_12) (lv' := [(3, .int v3_12), (2, .int s0), (0, .ref (a 0)), (1, .int v1)]) hx hb dX12_forged_157 hl (k := 1) rfl ev3_12 (by decide) rfl (fun ls hl => ?_)
        refine lv_goto (tgt := 19) hx hb dX12_forged_160 (by decide) ?_
        exact ih mo v1 v3_12 s0 ex _ _ _ hP hD hS hl (lp_inl hor hf) hE
      have J146 : ∀ (v4 : Int32) (v3 : Int32) (v2 : Int32) (H : Heap) (locs : List Loc) (ls : Array Slot), va_P G classes (wl [lfM ct a mo]) H → va_D A (wl [lfM ct a mo]) → va_S A s.heap H locs → lv_has ls 7 [(4, .int v4), (3, .int v3), (2, .int v2), (0, .ref (a 0)), (1, .int v1)] → f_X12_forged_j146 n mo v4 v3 v2 v1 = some q → WG l G ct sk sv p e (RM 3 76 0 0) s m args below meth c A (Eq2 (some (.int r)) (wl [lfM ct a mo'])) H locs (F0 m 146 ls []) := by
        intro v4 v3 v2 H locs ls hP hD hS hl hf
        unfold f_X12_forged_j146 at hf
        refine lv_iload hx hb dX12_forged_146 (lv_at hl 0 rfl) ?_
        refine lv_if_eq (tgt := 155) hx hb dX12_forged_148 (by decide) (fun c_13 => ?_) (fun c_13 => ?_)
        · replace hf := bc_t hf c_13
          refine lv_iload_n hx hb dX12_forged_155 rfl (lv_at hl 2 rfl) ?_
          exact J156 v3 v2 _ _ _ hP hD hS (lv_sub hl [1, 3, 4] rfl) hf
        · replace hf := bc_f hf c_13
          refine lv_iload_n hx hb dX12_forged_151 rfl (lv_at hl 1 rfl) ?_
          refine lv_goto (tgt := 156) hx hb dX12_forged_152 (by decide) ?_
          exact J156 v3 v3 _ _ _ hP hD hS (lv_sub hl [1, 3, 4] rfl) hf
      have J52 : ∀ (v3 : Int32) (v2 : Int32) (s0 : Int32) (H : Heap) (locs : List Loc) (ls : Array Slot), va_P G classes (wl [lfM ct a mo]) H → va_D A (wl [lfM ct a mo]) → va_S A s.heap H locs → lv_has ls 7 [(3, .int v3), (2, .int v2), (0, .ref (a 0)), (1, .int v1)] → f_X12_forged_j52 n mo v3 v2 v1 s0 = some q → WG l G ct sk sv p e (RM 3 76 0 0) s m args below meth c A (Eq2 (some (.int r)) (wl [lfM ct a mo'])) H locs (F0 m 52 ls [.int s0]) := by
        intro v3 v2 s0 H locs ls hP hD hS hl hf
        unfold f_X12_forged_j52 at hf
        refine lv_istore (lv' := [(4, .int s0), (3, .int v3), (2, .int v2), (0, .ref (a 0)), (1, .int v1)]) hx hb dX12_forged_52 hl (by decide) rfl (fun ls hl => ?_)
        refine lv_iconst (v := 0) hx hb dX12_forged_54 (by decide) ?_
        refine lv_istore (lv' := [(5, .int 0), (4, .int s0), (3, .int v3), (2, .int v2), (0, .ref (a 0)), (1, .int v1)]) hx hb dX12_forged_55 hl (by decide) rfl (fun ls hl => ?_)
        obtain ⟨v4_14, hx_15, hf⟩ := bd_e hf
        refine L57 n mo v3 v2 v1 0 s0 v4_14 _ _ _ hP hD hS hl hx_15 ?_
        intro x9 e9 H locs ls hP hD hS hl
        subst e9
        have hP : va_P G classes (wl [lfM ct a mo]) H := hP
        have hD : va_D A (wl [lfM ct a mo]) := hD
        have hl : lv_has ls 7 [(4, .int v4_14), (3, .int v3), (2, .int v2), (0, .ref (a 0)), (1, .int v1)] := hl
        exact J146 v4_14 v3 v2 _ _ _ hP hD hS hl hf
      have J47 : ∀ (v3 : Int32) (v2 : Int32) (H : Heap) (locs : List Loc) (ls : Array Slot), va_P G classes (wl [lfM ct a mo]) H → va_D A (wl [lfM ct a mo]) → va_S A s.heap H locs → lv_has ls 7 [(3, .int v3), (2, .int v2), (0, .ref (a 0)), (1, .int v1)] → f_X12_forged_j47 n mo v3 v2 v1 = some q → WG l G ct sk sv p e (RM 3 76 0 0) s m args below meth c A (Eq2 (some (.int r)) (wl [lfM ct a mo'])) H locs (F0 m 47 ls []) := by
        intro v3 v2 H locs ls hP hD hS hl hf
        unfold f_X12_forged_j47 at hf
        refine lv_iconst (v := 1) hx hb dX12_forged_47 (by decide) ?_
        refine lv_goto (tgt := 52) hx hb dX12_forged_48 (by decide) ?_
        exact J52 v3 v2 1 _ _ _ hP hD hS hl hf
      replace hf : f_X12_forged_b19 n mo v3 v2 v1 = some q := hf
      unfold f_X12_forged_b19 at hf
      refine lv_iload_n hx hb dX12_forged_19 rfl (lv_at hl 0 rfl) ?_
      refine lv_iconst (v := 1) hx hb dX12_forged_20 (by decide) ?_
      refine lv_aload_n hx hb dX12_forged_21 rfl (lv_at hl 2 rfl) ?_
      refine va_get (D := G) (C := RX12) (T := TX12) (N := 21) (v := .ref (a 1)) hx hb hts iu_X12 hown hK hP 0 rfl rfl 0 (by decide) (hts _ kw887) (fun _ h9 => h9) rfl dX12_forged_22 ?_
      refine lv_iconst (v := 2) hx hb dX12_forged_25 (by decide) ?_
      obtain ⟨g_16, hf⟩ := gd_e hf
      refine va_iald (f := mo.2.1 0) hx hb hK hP 1 0 rfl rfl g_16 dX12_forged_26 ?_
      refine lv_ishl hx hb dX12_forged_27 ?_
      refine lv_icmp_ge (tgt := 163) hx hb dX12_forged_28 (by decide) (fun c_17 => ?_) (fun c_17 => ?_)
      · replace hf := bc_t hf c_17
        exact hE v2 (lp_inr hor hf).symm _ _ _ hP hD hS (lv_sub hl [1] rfl)
      · replace hf := bc_f hf c_17
        refine lv_iload_n hx hb dX12_forged_31 rfl (lv_at hl 1 rfl) ?_
        refine lv_iconst (v := (-1)) hx hb dX12_forged_32 (by decide) ?_
        refine lv_icmp_eq (tgt := 47) hx hb dX12_forged_33 (by decide) (fun c_18 => ?_) (fun c_18 => ?_)
        · replace hf := bc_t hf c_18
          exact J47 v3 v2 _ _ _ hP hD hS hl hf
        · replace hf := bc_f hf c_18
          refine lv_iload_n hx hb dX12_forged_36 rfl (lv_at hl 0 rfl) ?_
          obtain ⟨r_19, hc19, hf⟩ := bd_e hf
          refine call_S (As := [.int v3]) (rest := []) hx hb hml hown hts hK hP hD hS hA hZ lkX12_162 (Ctr.upL (c_X12_bits l G ct sk sv  n v3 hc19) [lfM ct a mo] [lfM ct a mo] [lfM ct a mo] [0] 1 (by decide) rfl rfl rfl rfl) ⟨Nat.le_of_ble_eq_true rfl, Nat.le_of_ble_eq_true rfl⟩ rfl hl.1 rfl (Nat.le_of_ble_eq_true rfl) dX12_forged_37 ⟨Nat.le_of_ble_eq_true rfl, Nat.le_of_ble_eq_true rfl⟩ (fun r9 w9 H locs hB hP hD hS => ?_)
          obtain ⟨rfl, rfl⟩ := hB
          refine WG_eq (g2 := F0 m 40 ls [.int r_19]) rfl ?_
          refine lv_iload_n hx hb dX12_forged_40 rfl (lv_at hl 1 rfl) ?_
          obtain ⟨r_20, hc20, hf⟩ := bd_e hf
          refine call_S (As := [.int v2]) (rest := [.int r_19]) hx hb hml hown hts hK hP hD hS hA hZ lkX12_162 (Ctr.upL (c_X12_bits l G ct sk sv  n v2 hc20) [lfM ct a mo] [lfM ct a mo] [lfM ct a mo] [0] 1 (by decide) rfl rfl rfl rfl) ⟨Nat.le_of_ble_eq_true rfl, Nat.le_of_ble_eq_true rfl⟩ rfl hl.1 rfl (Nat.le_of_ble_eq_true rfl) dX12_forged_41 ⟨Nat.le_of_ble_eq_true rfl, Nat.le_of_ble_eq_true rfl⟩ (fun r9 w9 H locs hB hP hD hS => ?_)
          obtain ⟨rfl, rfl⟩ := hB
          refine WG_eq (g2 := F0 m 44 ls [.int r_20, .int r_19]) rfl ?_
          refine lv_icmp_ge (tgt := 51) hx hb dX12_forged_44 (by decide) (fun c_21 => ?_) (fun c_21 => ?_)
          · replace hf := bc_t hf c_21
            refine lv_iconst (v := 0) hx hb dX12_forged_51 (by decide) ?_
            exact J52 v3 v2 0 _ _ _ hP hD hS hl hf
          · replace hf := bc_f hf c_21
            exact J47 v3 v2 _ _ _ hP hD hS hl hf
  unfold f_X12_forged at hf
  show WG l G ct sk sv p e (RM 3 76 0 0) s m args below meth c A (Eq2 (some (.int r)) (wl [lfM ct a mo'])) s.heap [] (F0 m 0 ls [])
  refine lv_aload_n hx hb dX12_forged_0 rfl (lv_at hl 0 rfl) ?_
  refine lv_iload_n hx hb dX12_forged_1 rfl (lv_at hl 1 rfl) ?_
  obtain ⟨r_22, hc22, hf⟩ := bd_e hf
  refine call_V (As := [.int v1]) (rest := []) hx hb hml hown hts hK hP hD hS hA hZ lkX12_117 (c_X12_isMember l G ct sk sv a n mo v1 hc22) 0 rfl rfl ⟨Nat.le_of_ble_eq_true rfl, Nat.le_of_ble_eq_true rfl⟩ rfl hl.1 rfl (Nat.le_of_ble_eq_true rfl) dX12_forged_2 ⟨Nat.le_of_ble_eq_true rfl, Nat.le_of_ble_eq_true rfl⟩ (fun r9 w9 H locs hB hP hD hS => ?_)
  obtain ⟨rfl, rfl⟩ := hB
  refine WG_eq (g2 := F0 m 5 ls [.int r_22]) rfl ?_
  refine lv_if_ne (tgt := 15) hx hb dX12_forged_5 (by decide) (fun c_23 => ?_) (fun c_23 => ?_)
  · replace hf := bc_f hf c_23
    refine lv_iconst (v := (-1)) hx hb dX12_forged_15 (by decide) ?_
    refine lv_istore_n (lv' := [(2, .int (-1)), (0, .ref (a 0)), (1, .int v1)]) hx hb dX12_forged_16 rfl hl (by decide) rfl (fun ls hl => ?_)
    refine lv_iconst (v := 0) hx hb dX12_forged_17 (by decide) ?_
    refine lv_istore_n (lv' := [(3, .int 0), (2, .int (-1)), (0, .ref (a 0)), (1, .int v1)]) hx hb dX12_forged_18 rfl hl (by decide) rfl (fun ls hl => ?_)
    obtain ⟨v2_24, hx_25, hf⟩ := bd_e hf
    refine L19 n mo v1 0 (-1) v2_24 _ _ _ hP hD hS hl hx_25 ?_
    intro x9 e9 H locs ls hP hD hS hl
    subst e9
    have hP : va_P G classes (wl [lfM ct a mo]) H := hP
    have hD : va_D A (wl [lfM ct a mo]) := hD
    have hl : lv_has ls 7 [(2, .int v2_24)] := hl
    refine lv_iload_n hx hb dX12_forged_163 rfl (lv_at hl 0 rfl) ?_
    obtain ⟨e1, e2⟩ := inj2 (Option.some.inj hf)
    exact end_i (w' := (wl [lfM ct a mo])) hx hb hr hlocks hK hP hD hS dX12_forged_164  ⟨by rw [← e1], by rw [← e2]⟩
  · replace hf := bc_t hf c_23
    refine lv_aload_n hx hb dX12_forged_8 rfl (lv_at hl 0 rfl) ?_
    refine lv_bipush (v := (-2)) hx hb dX12_forged_9 (by decide) ?_
    obtain ⟨r_26, mo_27, hc27, hf⟩ := bd2_e hf
    refine call_V (As := [.int (-2)]) (rest := []) hx hb hml hown hts hK hP hD hS hA hZ lkX12_80 (c_X12_bad l G ct sk sv a n mo (-2) hc27) 0 rfl rfl ⟨Nat.le_of_ble_eq_true rfl, Nat.le_of_ble_eq_true rfl⟩ rfl hl.1 rfl (Nat.le_of_ble_eq_true rfl) dX12_forged_11 ⟨Nat.le_of_ble_eq_true rfl, Nat.le_of_ble_eq_true rfl⟩ (fun r9 w9 H locs hB hP hD hS => ?_)
    obtain ⟨rfl, rfl⟩ := hB
    refine WG_eq (g2 := F0 m 14 ls [.int r_26]) rfl ?_
    obtain ⟨e1, e2⟩ := inj2 (Option.some.inj hf)
    exact end_i (w' := (wl [lfM ct a mo_27])) hx hb hr hlocks hK hP hD hS dX12_forged_14  ⟨by rw [← e1], by rw [← e2]⟩
noncomputable def f_X12_forget (n : Nat) (mo : MV) (v1 : Int32) : Option (Int32 × MV) :=
  bd (f_X12_in n ((v1 : Int32).toInt64) 0 1) fun r_1 =>
  bc (r_1 = 0) (bd2 (f_X12_bad n mo (-2)) fun r_7 mo_8 =>
  some (r_7, mo_8))
  (gd (vp_in (2 + v1) 235) <|
  bl (mo.2.1 0 (ix (2 + v1))) fun v2_4 =>
  gd (vp_in (2 + v1) 235) <|
  bl (setA mo 0 (upd (mo.2.1 0) (ix (2 + v1)) 0)) fun mo_6 =>
  some (v2_4, mo_6))
set_option maxHeartbeats 4000000 in
set_option maxRecDepth 100000 in
theorem c_X12_forget (l : Launch) (G : va_G) (ct : Nat → ClassId) (sk sv : Nat → Nat) (a : Nat → Nat) (n : Nat) (mo : MV) (v1 : Int32) {r : Int32} {mo' : MV} (hf : f_X12_forget n mo v1 = some (r, mo')) : Ctr (l, G, ct, sk, sv) mX12_forget 1 25 [.ref (a 0), .int v1] (wl [lfM ct a mo]) (wl [lfM ct a mo']) (some (.int r)) := by
  refine ctr_intro (by decide) (Nat.le_of_ble_eq_true rfl) ?_
  intro p e s m args below meth c A C hP hD hS hA ls hl
  obtain ⟨hx, hb, hml, hown, hts, hr, hlocks, hK, hnm, hZ⟩ := C
  have hb : c.code = cX12_forget := hb
  have hml : c.maxLocals = 3 := hml
  have hown : s.vm.findClass "SignedOutsideModel" = some m.cls := hown
  have hr : meth.sig.returnType = some .int := hr
  have hP : va_P G classes (wl [lfM ct a mo]) s.heap := hP
  have hD : va_D A (wl [lfM ct a mo]) := hD
  have hK : va_K G classes (TYS ct) s := hK
  have hl : lv_has ls 3 [(0, .ref (a 0)), (1, .int v1)] := hl
  unfold f_X12_forget at hf
  show WG l G ct sk sv p e (RM 1 25 0 0) s m args below meth c A (Eq2 (some (.int r)) (wl [lfM ct a mo'])) s.heap [] (F0 m 0 ls [])
  refine lv_iload_n hx hb dX12_forget_0 rfl (lv_at hl 1 rfl) ?_
  refine lv_i2l (v := (v1 : Int32).toInt64) hx hb dX12_forget_1 rfl ?_
  refine lv_lconst (v := 0) hx hb dX12_forget_2 (by decide) ?_
  refine lv_lconst (v := 1) hx hb dX12_forget_3 (by decide) ?_
  obtain ⟨r_1, hc1, hf⟩ := bd_e hf
  refine call_S (As := [.long ((v1 : Int32).toInt64), .long 0, .long 1]) (rest := []) hx hb hml hown hts hK hP hD hS hA hZ lkX12_65 (Ctr.upL (c_X12_in l G ct sk sv  n ((v1 : Int32).toInt64) 0 1 hc1) [lfM ct a mo] [lfM ct a mo] [lfM ct a mo] [0] 1 (by decide) rfl rfl rfl rfl) ⟨Nat.le_of_ble_eq_true rfl, Nat.le_of_ble_eq_true rfl⟩ rfl hl.1 rfl (Nat.le_of_ble_eq_true rfl) dX12_forget_4 ⟨Nat.le_of_ble_eq_true rfl, Nat.le_of_ble_eq_true rfl⟩ (fun r9 w9 H locs hB hP hD hS => ?_)
  obtain ⟨rfl, rfl⟩ := hB
  refine WG_eq (g2 := F0 m 7 ls [.int r_1]) rfl ?_
  refine lv_if_ne (tgt := 17) hx hb dX12_forget_7 (by decide) (fun c_2 => ?_) (fun c_2 => ?_)
  · replace hf := bc_f hf c_2
    refine lv_aload_n hx hb dX12_forget_17 rfl (lv_at hl 0 rfl) ?_
    refine va_get (D := G) (C := RX12) (T := TX12) (N := 21) (v := .ref (a 1)) hx hb hts iu_X12 hown hK hP 0 rfl rfl 0 (by decide) (hts _ kw887) (fun _ h9 => h9) rfl dX12_forget_18 ?_
    refine lv_iconst (v := 2) hx hb dX12_forget_21 (by decide) ?_
    refine lv_iload_n hx hb dX12_forget_22 rfl (lv_at hl 1 rfl) ?_
    refine lv_iadd hx hb dX12_forget_23 ?_
    obtain ⟨g_3, hf⟩ := gd_e hf
    refine va_iald (f := mo.2.1 0) hx hb hK hP 1 0 rfl rfl g_3 dX12_forget_24 ?_
    refine lv_topi (fun v2_4 ev2_4 => ?_)
    replace hf := bl_i hf ev2_4
    refine lv_istore_n (lv' := [(2, .int v2_4), (0, .ref (a 0)), (1, .int v1)]) hx hb dX12_forget_25 rfl hl (by decide) rfl (fun ls hl => ?_)
    refine lv_aload_n hx hb dX12_forget_26 rfl (lv_at hl 1 rfl) ?_
    refine va_get (D := G) (C := RX12) (T := TX12) (N := 21) (v := .ref (a 1)) hx hb hts iu_X12 hown hK hP 0 rfl rfl 0 (by decide) (hts _ kw887) (fun _ h9 => h9) rfl dX12_forget_27 ?_
    refine lv_iconst (v := 2) hx hb dX12_forget_30 (by decide) ?_
    refine lv_iload_n hx hb dX12_forget_31 rfl (lv_at hl 2 rfl) ?_
    refine lv_iadd hx hb dX12_forget_32 ?_
    refine lv_iconst (v := 0) hx hb dX12_forget_33 (by decide) ?_
    obtain ⟨g_5, hf⟩ := gd_e hf
    obtain ⟨mo_6, emo_6, hf⟩ := bl_e hf
    refine va_iast hx hb hK hP hD hS 1 0 rfl rfl g_5 dX12_forget_34 (fun H locs hP hD hS => ?_)
    have hP : va_P G classes (wl [lfM ct a mo_6]) H := by rw [← emo_6]; exact hP
    have hD : va_D A (wl [lfM ct a mo_6]) := by rw [← emo_6]; exact hD
    refine lv_iload_n hx hb dX12_forget_35 rfl (lv_at hl 0 rfl) ?_
    obtain ⟨e1, e2⟩ := inj2 (Option.some.inj hf)
    exact end_i (w' := (wl [lfM ct a mo_6])) hx hb hr hlocks hK hP hD hS dX12_forget_36  ⟨by rw [← e1], by rw [← e2]⟩
  · replace hf := bc_t hf c_2
    refine lv_aload_n hx hb dX12_forget_10 rfl (lv_at hl 0 rfl) ?_
    refine lv_bipush (v := (-2)) hx hb dX12_forget_11 (by decide) ?_
    obtain ⟨r_7, mo_8, hc8, hf⟩ := bd2_e hf
    refine call_V (As := [.int (-2)]) (rest := []) hx hb hml hown hts hK hP hD hS hA hZ lkX12_80 (c_X12_bad l G ct sk sv a n mo (-2) hc8) 0 rfl rfl ⟨Nat.le_of_ble_eq_true rfl, Nat.le_of_ble_eq_true rfl⟩ rfl hl.1 rfl (Nat.le_of_ble_eq_true rfl) dX12_forget_13 ⟨Nat.le_of_ble_eq_true rfl, Nat.le_of_ble_eq_true rfl⟩ (fun r9 w9 H locs hB hP hD hS => ?_)
    obtain ⟨rfl, rfl⟩ := hB
    refine WG_eq (g2 := F0 m 16 ls [.int r_7]) rfl ?_
    obtain ⟨e1, e2⟩ := inj2 (Option.some.inj hf)
    exact end_i (w' := (wl [lfM ct a mo_8])) hx hb hr hlocks hK hP hD hS dX12_forget_16  ⟨by rw [← e1], by rw [← e2]⟩
noncomputable def f_X12_fraction_b6 (n : Nat) (mo : MV) (v7 : Int64) (v5 : Int64) (v1 : Int64) (v3 : Int64) : Option ((Int64 × Int64) ⊕ (Int64)) :=
  bc ((lg_cmp v7 0) = 0) (some (.inr v5))
  (gd (¬ v7 = 0) <|
  bl (v5 - v5 / v7 * v7) fun v9_3 =>
  some (.inl (v9_3, v7)))
noncomputable def f_X12_fraction_l6 (fu : Nat) (n : Nat) (mo : MV) (v1 : Int64) (v3 : Int64) (v7 : Int64) (v5 : Int64) : Option (Int64) :=
  lp (fun q => f_X12_fraction_b6 n mo q.1 q.2 v1 v3) fu (v7, v5)
noncomputable def f_X12_fraction (n : Nat) (mo : MV) (v1 : Int64) (v3 : Int64) : Option (MV) :=
  bd (f_X12_fraction_l6 n n mo v1 v3 v3 v1) fun v5_4 =>
  gd (¬ v5_4 = 0) <|
  bl (setL mo 0 (v1 / v5_4)) fun mo_7 =>
  gd (¬ v5_4 = 0) <|
  bl (setL mo_7 1 (v3 / v5_4)) fun mo_9 =>
  some mo_9
set_option maxHeartbeats 4000000 in
set_option maxRecDepth 100000 in
theorem c_X12_fraction (l : Launch) (G : va_G) (ct : Nat → ClassId) (sk sv : Nat → Nat) (a : Nat → Nat) (n : Nat) (mo : MV) (v1 : Int64) (v3 : Int64) {mo' : MV} (hf : f_X12_fraction n mo v1 v3 = some mo') : Ctr (l, G, ct, sk, sv) mX12_fraction 0 0 [.ref (a 0), .long v1, .long v3] (wl [lfM ct a mo]) (wl [lfM ct a mo']) (none) := by
  refine ctr_intro (by decide) (Nat.le_of_ble_eq_true rfl) ?_
  intro p e s m args below meth c A C hP hD hS hA ls hl
  obtain ⟨hx, hb, hml, hown, hts, hr, hlocks, hK, hnm, hZ⟩ := C
  have hb : c.code = cX12_fraction := hb
  have hml : c.maxLocals = 11 := hml
  have hown : s.vm.findClass "SignedOutsideModel" = some m.cls := hown
  have hr : meth.sig.returnType = none := hr
  have hP : va_P G classes (wl [lfM ct a mo]) s.heap := hP
  have hD : va_D A (wl [lfM ct a mo]) := hD
  have hK : va_K G classes (TYS ct) s := hK
  have hl : lv_has ls 11 [(0, .ref (a 0)), (1, .long v1), (3, .long v3)] := hl
  have L6 : ∀ (fu : Nat) (mo : MV) (v1 : Int64) (v3 : Int64) (v7 : Int64) (v5 : Int64) (ex : Int64) (H : Heap) (locs : List Loc) (ls : Array Slot), va_P G classes (wl [lfM ct a mo]) H → va_D A (wl [lfM ct a mo]) → va_S A s.heap H locs → lv_has ls 11 [(7, .long v7), (5, .long v5), (0, .ref (a 0)), (1, .long v1), (3, .long v3)] → f_X12_fraction_l6 fu n mo v1 v3 v7 v5 = some ex → (∀ (x : Int64), ex = x → ∀ (H : Heap) (locs : List Loc) (ls : Array Slot), va_P G classes (wl [lfM ct a mo]) H → va_D A (wl [lfM ct a mo]) → va_S A s.heap H locs → lv_has ls 11 [(5, .long x), (0, .ref (a 0)), (1, .long v1), (3, .long v3)] → WG l G ct sk sv p e (RM 0 0 0 0) s m args below meth c A (Eq2 (none) (wl [lfM ct a mo'])) H locs (F0 m 31 ls [])) → WG l G ct sk sv p e (RM 0 0 0 0) s m args below meth c A (Eq2 (none) (wl [lfM ct a mo'])) H locs (F0 m 6 ls []) := by
    intro fu
    induction fu with
    | zero =>
      intro mo v1 v3 v7 v5 ex H locs ls hP hD hS hl hf
      exact absurd hf (by unfold f_X12_fraction_l6 lp; exact fun h => by cases h)
    | succ fu ih =>
      intro mo v1 v3 v7 v5 ex H locs ls hP hD hS hl hf hE
      unfold f_X12_fraction_l6 at hf
      obtain ⟨q, hf, hor⟩ := lp_e hf
      replace hf : f_X12_fraction_b6 n mo v7 v5 v1 v3 = some q := hf
      unfold f_X12_fraction_b6 at hf
      refine lv_lload hx hb dX12_fraction_6 (lv_at hl 0 rfl) ?_
      refine lv_lconst (v := 0) hx hb dX12_fraction_8 (by decide) ?_
      refine W.lcmp hx hb dX12_fraction_9 ?_
      refine lv_if_eq (tgt := 31) hx hb dX12_fraction_10 (by decide) (fun c_1 => ?_) (fun c_1 => ?_)
      · replace hf := bc_t hf c_1
        exact hE v5 (lp_inr hor hf).symm _ _ _ hP hD hS (lv_sub hl [1, 2, 3, 4] rfl)
      · replace hf := bc_f hf c_1
        refine lv_lload hx hb dX12_fraction_13 (lv_at hl 1 rfl) ?_
        refine lv_lload hx hb dX12_fraction_15 (lv_at hl 0 rfl) ?_
        obtain ⟨g_2, hf⟩ := gd_e hf
        refine lv_lrem hx hb dX12_fraction_17 g_2 ?_
        refine lv_topl (fun v9_3 ev9_3 => ?_)
        replace hf := bl_i hf ev9_3
        refine lv_lstore (lv' := [(9, .long v9_3), (7, .long v7), (5, .long v5), (0, .ref (a 0)), (1, .long v1), (3, .long v3)]) hx hb dX12_fraction_18 hl (by decide) rfl (fun ls hl => ?_)
        refine lv_lload hx hb dX12_fraction_20 (lv_at hl 1 rfl) ?_
        refine lv_lstore (lv' := [(5, .long v7), (9, .long v9_3), (7, .long v7), (0, .ref (a 0)), (1, .long v1), (3, .long v3)]) hx hb dX12_fraction_22 hl (by decide) rfl (fun ls hl => ?_)
        refine lv_lload hx hb dX12_fraction_24 (lv_at hl 1 rfl) ?_
        refine lv_lstore (lv' := [(7, .long v9_3), (5, .long v7), (9, .long v9_3), (0, .ref (a 0)), (1, .long v1), (3, .long v3)]) hx hb dX12_fraction_26 hl (by decide) rfl (fun ls hl => ?_)
        refine lv_goto (tgt := 6) hx hb dX12_fraction_28 (by decide) ?_
        exact ih mo v1 v3 v9_3 v7 ex _ _ _ hP hD hS (lv_sub hl [0, 1, 3, 4, 5] rfl) (lp_inl hor hf) hE
  unfold f_X12_fraction at hf
  show WG l G ct sk sv p e (RM 0 0 0 0) s m args below meth c A (Eq2 (none) (wl [lfM ct a mo'])) s.heap [] (F0 m 0 ls [])
  refine lv_lload_n hx hb dX12_fraction_0 rfl (lv_at hl 1 rfl) ?_
  refine lv_lstore (lv' := [(5, .long v1), (0, .ref (a 0)), (1, .long v1), (3, .long v3)]) hx hb dX12_fraction_1 hl (by decide) rfl (fun ls hl => ?_)
  refine lv_lload_n hx hb dX12_fraction_3 rfl (lv_at hl 3 rfl) ?_
  refine lv_lstore (lv' := [(7, .long v3), (5, .long v1), (0, .ref (a 0)), (1, .long v1), (3, .long v3)]) hx hb dX12_fraction_4 hl (by decide) rfl (fun ls hl => ?_)
  obtain ⟨v5_4, hx_5, hf⟩ := bd_e hf
  refine L6 n mo v1 v3 v3 v1 v5_4 _ _ _ hP hD hS hl hx_5 ?_
  intro x9 e9 H locs ls hP hD hS hl
  subst e9
  have hP : va_P G classes (wl [lfM ct a mo]) H := hP
  have hD : va_D A (wl [lfM ct a mo]) := hD
  have hl : lv_has ls 11 [(5, .long v5_4), (0, .ref (a 0)), (1, .long v1), (3, .long v3)] := hl
  refine lv_aload_n hx hb dX12_fraction_31 rfl (lv_at hl 1 rfl) ?_
  refine lv_lload_n hx hb dX12_fraction_32 rfl (lv_at hl 2 rfl) ?_
  refine lv_lload hx hb dX12_fraction_33 (lv_at hl 0 rfl) ?_
  obtain ⟨g_6, hf⟩ := gd_e hf
  refine lv_ldiv hx hb dX12_fraction_35 g_6 ?_
  obtain ⟨mo_7, emo_7, hf⟩ := bl_e hf
  refine va_put (D := G) (C := RX12) (T := TX12) (N := 21) (ty := .long) hx hb hts iu_X12 tyX12 tyX12_ok nmX12 hown hK hP hD hS 0 rfl rfl 4 (by decide) (hts _ kw891) (fun _ h9 => h9) rfl (by decide +kernel) rfl rfl (Nat.le_of_ble_eq_true rfl) dX12_fraction_36 (fun H locs hP hD hS => ?_)
  have hP : va_P G classes (wl [lfM ct a mo_7]) H := by rw [← emo_7]; exact hP
  have hD : va_D A (wl [lfM ct a mo_7]) := by rw [← emo_7]; exact hD
  refine lv_aload_n hx hb dX12_fraction_39 rfl (lv_at hl 1 rfl) ?_
  refine lv_lload_n hx hb dX12_fraction_40 rfl (lv_at hl 3 rfl) ?_
  refine lv_lload hx hb dX12_fraction_41 (lv_at hl 0 rfl) ?_
  obtain ⟨g_8, hf⟩ := gd_e hf
  refine lv_ldiv hx hb dX12_fraction_43 g_8 ?_
  obtain ⟨mo_9, emo_9, hf⟩ := bl_e hf
  refine va_put (D := G) (C := RX12) (T := TX12) (N := 21) (ty := .long) hx hb hts iu_X12 tyX12 tyX12_ok nmX12 hown hK hP hD hS 0 rfl rfl 5 (by decide) (hts _ kw892) (fun _ h9 => h9) rfl (by decide +kernel) rfl rfl (Nat.le_of_ble_eq_true rfl) dX12_fraction_44 (fun H locs hP hD hS => ?_)
  have hP : va_P G classes (wl [lfM ct a mo_9]) H := by rw [← emo_9]; exact hP
  have hD : va_D A (wl [lfM ct a mo_9]) := by rw [← emo_9]; exact hD
  have e1 := Option.some.inj hf
  exact end_v (w' := (wl [lfM ct a mo_9])) hx hb hr hlocks hK hP hD hS dX12_fraction_47  ⟨rfl, by rw [← e1]⟩
noncomputable def f_X12_found_j61 (n : Nat) (mo : MV) (v3 : Int32) (v1 : Int32) (s0 : Int32) (s1 : Int32) : Option ((Int32 × Int32) ⊕ (Int32)) :=
  bl (s1 + s0) fun v2_1 =>
  bl (v3 + 1) fun v3_2 =>
  some (.inl (v3_2, v2_1))
noncomputable def f_X12_found_j60 (n : Nat) (mo : MV) (v3 : Int32) (v1 : Int32) (s0 : Int32) : Option ((Int32 × Int32) ⊕ (Int32)) :=
  f_X12_found_j61 n mo v3 v1 0 s0
noncomputable def f_X12_found_b23 (n : Nat) (mo : MV) (v3 : Int32) (v2 : Int32) (v1 : Int32) : Option ((Int32 × Int32) ⊕ (Int32)) :=
  bd (f_X12_letters n mo) fun r_3 =>
  bc (r_3 ≤ v3) (some (.inr v2))
  (bd (f_X12_lies n mo v3) fun r_5 =>
  bc (r_5 = 0) (gd (vp_in (5 + v3) 235) <|
  bc ((mo.2.1 0 (ix (5 + v3))) = 5) (f_X12_found_j60 n mo v3 v1 v2)
  (bd (f_X12_postage n mo v3) fun r_9 =>
  f_X12_found_j61 n mo v3 v1 r_9 v2))
  (f_X12_found_j60 n mo v3 v1 v2))
noncomputable def f_X12_found_l23 (fu : Nat) (n : Nat) (mo : MV) (v1 : Int32) (v3 : Int32) (v2 : Int32) : Option (Int32) :=
  lp (fun q => f_X12_found_b23 n mo q.1 q.2 v1) fu (v3, v2)
noncomputable def f_X12_found (n : Nat) (mo : MV) (v1 : Int32) : Option (Int32 × MV) :=
  bd (f_X12_in n ((v1 : Int32).toInt64) 0 10) fun r_10 =>
  bc (r_10 = 0) (bd2 (f_X12_bad n mo (-2)) fun r_15 mo_16 =>
  some (r_15, mo_16))
  (bd (f_X12_found_l23 n n mo v1 0 0) fun v2_12 =>
  bd (f_X12_fraction n mo (((v2_12 : Int32).toInt64) * ((v1 : Int32).toInt64)) 10) fun mo_14 =>
  some (1, mo_14))
set_option maxHeartbeats 4000000 in
set_option maxRecDepth 100000 in
theorem c_X12_found (l : Launch) (G : va_G) (ct : Nat → ClassId) (sk sv : Nat → Nat) (a : Nat → Nat) (n : Nat) (mo : MV) (v1 : Int32) {r : Int32} {mo' : MV} (hf : f_X12_found n mo v1 = some (r, mo')) : Ctr (l, G, ct, sk, sv) mX12_found 3 64 [.ref (a 0), .int v1] (wl [lfM ct a mo]) (wl [lfM ct a mo']) (some (.int r)) := by
  refine ctr_intro (by decide) (Nat.le_of_ble_eq_true rfl) ?_
  intro p e s m args below meth c A C hP hD hS hA ls hl
  obtain ⟨hx, hb, hml, hown, hts, hr, hlocks, hK, hnm, hZ⟩ := C
  have hb : c.code = cX12_found := hb
  have hml : c.maxLocals = 4 := hml
  have hown : s.vm.findClass "SignedOutsideModel" = some m.cls := hown
  have hr : meth.sig.returnType = some .int := hr
  have hP : va_P G classes (wl [lfM ct a mo]) s.heap := hP
  have hD : va_D A (wl [lfM ct a mo]) := hD
  have hK : va_K G classes (TYS ct) s := hK
  have hl : lv_has ls 4 [(0, .ref (a 0)), (1, .int v1)] := hl
  have L23 : ∀ (fu : Nat) (mo : MV) (v1 : Int32) (v3 : Int32) (v2 : Int32) (ex : Int32) (H : Heap) (locs : List Loc) (ls : Array Slot), va_P G classes (wl [lfM ct a mo]) H → va_D A (wl [lfM ct a mo]) → va_S A s.heap H locs → lv_has ls 4 [(3, .int v3), (2, .int v2), (0, .ref (a 0)), (1, .int v1)] → f_X12_found_l23 fu n mo v1 v3 v2 = some ex → (∀ (x : Int32), ex = x → ∀ (H : Heap) (locs : List Loc) (ls : Array Slot), va_P G classes (wl [lfM ct a mo]) H → va_D A (wl [lfM ct a mo]) → va_S A s.heap H locs → lv_has ls 4 [(2, .int x), (0, .ref (a 0)), (1, .int v1)] → WG l G ct sk sv p e (RM 3 64 0 0) s m args below meth c A (Eq2 (some (.int r)) (wl [lfM ct a mo'])) H locs (F0 m 69 ls [])) → WG l G ct sk sv p e (RM 3 64 0 0) s m args below meth c A (Eq2 (some (.int r)) (wl [lfM ct a mo'])) H locs (F0 m 23 ls []) := by
    intro fu
    induction fu with
    | zero =>
      intro mo v1 v3 v2 ex H locs ls hP hD hS hl hf
      exact absurd hf (by unfold f_X12_found_l23 lp; exact fun h => by cases h)
    | succ fu ih =>
      intro mo v1 v3 v2 ex H locs ls hP hD hS hl hf hE
      unfold f_X12_found_l23 at hf
      obtain ⟨q, hf, hor⟩ := lp_e hf
      have J61 : ∀ (v3 : Int32) (s0 : Int32) (s1 : Int32) (H : Heap) (locs : List Loc) (ls : Array Slot), va_P G classes (wl [lfM ct a mo]) H → va_D A (wl [lfM ct a mo]) → va_S A s.heap H locs → lv_has ls 4 [(3, .int v3), (0, .ref (a 0)), (1, .int v1)] → f_X12_found_j61 n mo v3 v1 s0 s1 = some q → WG l G ct sk sv p e (RM 3 64 0 0) s m args below meth c A (Eq2 (some (.int r)) (wl [lfM ct a mo'])) H locs (F0 m 61 ls [.int s0, .int s1]) := by
        intro v3 s0 s1 H locs ls hP hD hS hl hf
        unfold f_X12_found_j61 at hf
        refine lv_iadd hx hb dX12_found_61 ?_
        refine lv_topi (fun v2_1 ev2_1 => ?_)
        replace hf := bl_i hf ev2_1
        refine lv_istore_n (lv' := [(2, .int v2_1), (3, .int v3), (0, .ref (a 0)), (1, .int v1)]) hx hb dX12_found_62 rfl hl (by decide) rfl (fun ls hl => ?_)
        obtain ⟨v3_2, ev3_2, hf⟩ := bl_e hf
        refine lv_iinc (v := v3_2) (lv' := [(3, .int v3_2), (2, .int v2_1), (0, .ref (a 0)), (1, .int v1)]) hx hb dX12_found_63 hl (k := 1) rfl ev3_2 (by decide) rfl (fun ls hl => ?_)
        refine lv_goto (tgt := 23) hx hb dX12_found_66 (by decide) ?_
        exact ih mo v1 v3_2 v2_1 ex _ _ _ hP hD hS hl (lp_inl hor hf) hE
      have J60 : ∀ (v3 : Int32) (s0 : Int32) (H : Heap) (locs : List Loc) (ls : Array Slot), va_P G classes (wl [lfM ct a mo]) H → va_D A (wl [lfM ct a mo]) → va_S A s.heap H locs → lv_has ls 4 [(3, .int v3), (0, .ref (a 0)), (1, .int v1)] → f_X12_found_j60 n mo v3 v1 s0 = some q → WG l G ct sk sv p e (RM 3 64 0 0) s m args below meth c A (Eq2 (some (.int r)) (wl [lfM ct a mo'])) H locs (F0 m 60 ls [.int s0]) := by
        intro v3 s0 H locs ls hP hD hS hl hf
        unfold f_X12_found_j60 at hf
        refine lv_iconst (v := 0) hx hb dX12_found_60 (by decide) ?_
        exact J61 v3 0 s0 _ _ _ hP hD hS hl hf
      replace hf : f_X12_found_b23 n mo v3 v2 v1 = some q := hf
      unfold f_X12_found_b23 at hf
      refine lv_iload_n hx hb dX12_found_23 rfl (lv_at hl 0 rfl) ?_
      refine lv_aload_n hx hb dX12_found_24 rfl (lv_at hl 2 rfl) ?_
      obtain ⟨r_3, hc3, hf⟩ := bd_e hf
      refine call_V (As := []) (rest := [.int v3]) hx hb hml hown hts hK hP hD hS hA hZ lkX12_69 (c_X12_letters l G ct sk sv a n mo hc3) 0 rfl rfl ⟨Nat.le_of_ble_eq_true rfl, Nat.le_of_ble_eq_true rfl⟩ rfl hl.1 rfl (Nat.le_of_ble_eq_true rfl) dX12_found_25 ⟨Nat.le_of_ble_eq_true rfl, Nat.le_of_ble_eq_true rfl⟩ (fun r9 w9 H locs hB hP hD hS => ?_)
      obtain ⟨rfl, rfl⟩ := hB
      refine WG_eq (g2 := F0 m 28 ls [.int r_3, .int v3]) rfl ?_
      refine lv_icmp_ge (tgt := 69) hx hb dX12_found_28 (by decide) (fun c_4 => ?_) (fun c_4 => ?_)
      · replace hf := bc_t hf c_4
        exact hE v2 (lp_inr hor hf).symm _ _ _ hP hD hS (lv_sub hl [1, 2, 3] rfl)
      · replace hf := bc_f hf c_4
        refine lv_iload_n hx hb dX12_found_31 rfl (lv_at hl 1 rfl) ?_
        refine lv_aload_n hx hb dX12_found_32 rfl (lv_at hl 2 rfl) ?_
        refine lv_iload_n hx hb dX12_found_33 rfl (lv_at hl 0 rfl) ?_
        obtain ⟨r_5, hc5, hf⟩ := bd_e hf
        refine call_V (As := [.int v3]) (rest := [.int v2]) hx hb hml hown hts hK hP hD hS hA hZ lkX12_134 (c_X12_lies l G ct sk sv a n mo v3 hc5) 0 rfl rfl ⟨Nat.le_of_ble_eq_true rfl, Nat.le_of_ble_eq_true rfl⟩ rfl hl.1 rfl (Nat.le_of_ble_eq_true rfl) dX12_found_34 ⟨Nat.le_of_ble_eq_true rfl, Nat.le_of_ble_eq_true rfl⟩ (fun r9 w9 H locs hB hP hD hS => ?_)
        obtain ⟨rfl, rfl⟩ := hB
        refine WG_eq (g2 := F0 m 37 ls [.int r_5, .int v2]) rfl ?_
        refine lv_if_ne (tgt := 60) hx hb dX12_found_37 (by decide) (fun c_6 => ?_) (fun c_6 => ?_)
        · replace hf := bc_f hf c_6
          exact J60 v3 v2 _ _ _ hP hD hS (lv_sub hl [0, 2, 3] rfl) hf
        · replace hf := bc_t hf c_6
          refine lv_aload_n hx hb dX12_found_40 rfl (lv_at hl 2 rfl) ?_
          refine va_get (D := G) (C := RX12) (T := TX12) (N := 21) (v := .ref (a 1)) hx hb hts iu_X12 hown hK hP 0 rfl rfl 0 (by decide) (hts _ kw887) (fun _ h9 => h9) rfl dX12_found_41 ?_
          refine lv_iconst (v := 5) hx hb dX12_found_44 (by decide) ?_
          refine lv_iload_n hx hb dX12_found_45 rfl (lv_at hl 0 rfl) ?_
          refine lv_iadd hx hb dX12_found_46 ?_
          obtain ⟨g_7, hf⟩ := gd_e hf
          refine va_iald (f := mo.2.1 0) hx hb hK hP 1 0 rfl rfl g_7 dX12_found_47 ?_
          refine lv_iconst (v := 5) hx hb dX12_found_48 (by decide) ?_
          refine lv_icmp_eq (tgt := 60) hx hb dX12_found_49 (by decide) (fun c_8 => ?_) (fun c_8 => ?_)
          · replace hf := bc_t hf c_8
            exact J60 v3 v2 _ _ _ hP hD hS (lv_sub hl [0, 2, 3] rfl) hf
          · replace hf := bc_f hf c_8
            refine lv_aload_n hx hb dX12_found_52 rfl (lv_at hl 2 rfl) ?_
            refine lv_iload_n hx hb dX12_found_53 rfl (lv_at hl 0 rfl) ?_
            obtain ⟨r_9, hc9, hf⟩ := bd_e hf
            refine call_V (As := [.int v3]) (rest := [.int v2]) hx hb hml hown hts hK hP hD hS hA hZ lkX12_137 (c_X12_postage l G ct sk sv a n mo v3 hc9) 0 rfl rfl ⟨Nat.le_of_ble_eq_true rfl, Nat.le_of_ble_eq_true rfl⟩ rfl hl.1 rfl (Nat.le_of_ble_eq_true rfl) dX12_found_54 ⟨Nat.le_of_ble_eq_true rfl, Nat.le_of_ble_eq_true rfl⟩ (fun r9 w9 H locs hB hP hD hS => ?_)
            obtain ⟨rfl, rfl⟩ := hB
            refine WG_eq (g2 := F0 m 57 ls [.int r_9, .int v2]) rfl ?_
            refine lv_goto (tgt := 61) hx hb dX12_found_57 (by decide) ?_
            exact J61 v3 r_9 v2 _ _ _ hP hD hS (lv_sub hl [0, 2, 3] rfl) hf
  unfold f_X12_found at hf
  show WG l G ct sk sv p e (RM 3 64 0 0) s m args below meth c A (Eq2 (some (.int r)) (wl [lfM ct a mo'])) s.heap [] (F0 m 0 ls [])
  refine lv_iload_n hx hb dX12_found_0 rfl (lv_at hl 1 rfl) ?_
  refine lv_i2l (v := (v1 : Int32).toInt64) hx hb dX12_found_1 rfl ?_
  refine lv_lconst (v := 0) hx hb dX12_found_2 (by decide) ?_
  refine lv_ldc2 (v := 10) hx hb hown (hts _ kw1180) dX12_found_3 ?_
  obtain ⟨r_10, hc10, hf⟩ := bd_e hf
  refine call_S (As := [.long ((v1 : Int32).toInt64), .long 0, .long 10]) (rest := []) hx hb hml hown hts hK hP hD hS hA hZ lkX12_65 (Ctr.upL (c_X12_in l G ct sk sv  n ((v1 : Int32).toInt64) 0 10 hc10) [lfM ct a mo] [lfM ct a mo] [lfM ct a mo] [0] 1 (by decide) rfl rfl rfl rfl) ⟨Nat.le_of_ble_eq_true rfl, Nat.le_of_ble_eq_true rfl⟩ rfl hl.1 rfl (Nat.le_of_ble_eq_true rfl) dX12_found_6 ⟨Nat.le_of_ble_eq_true rfl, Nat.le_of_ble_eq_true rfl⟩ (fun r9 w9 H locs hB hP hD hS => ?_)
  obtain ⟨rfl, rfl⟩ := hB
  refine WG_eq (g2 := F0 m 9 ls [.int r_10]) rfl ?_
  refine lv_if_ne (tgt := 19) hx hb dX12_found_9 (by decide) (fun c_11 => ?_) (fun c_11 => ?_)
  · replace hf := bc_f hf c_11
    refine lv_iconst (v := 0) hx hb dX12_found_19 (by decide) ?_
    refine lv_istore_n (lv' := [(2, .int 0), (0, .ref (a 0)), (1, .int v1)]) hx hb dX12_found_20 rfl hl (by decide) rfl (fun ls hl => ?_)
    refine lv_iconst (v := 0) hx hb dX12_found_21 (by decide) ?_
    refine lv_istore_n (lv' := [(3, .int 0), (2, .int 0), (0, .ref (a 0)), (1, .int v1)]) hx hb dX12_found_22 rfl hl (by decide) rfl (fun ls hl => ?_)
    obtain ⟨v2_12, hx_13, hf⟩ := bd_e hf
    refine L23 n mo v1 0 0 v2_12 _ _ _ hP hD hS hl hx_13 ?_
    intro x9 e9 H locs ls hP hD hS hl
    subst e9
    have hP : va_P G classes (wl [lfM ct a mo]) H := hP
    have hD : va_D A (wl [lfM ct a mo]) := hD
    have hl : lv_has ls 4 [(2, .int v2_12), (0, .ref (a 0)), (1, .int v1)] := hl
    refine lv_aload_n hx hb dX12_found_69 rfl (lv_at hl 1 rfl) ?_
    refine lv_iload_n hx hb dX12_found_70 rfl (lv_at hl 0 rfl) ?_
    refine lv_i2l (v := (v2_12 : Int32).toInt64) hx hb dX12_found_71 rfl ?_
    refine lv_iload_n hx hb dX12_found_72 rfl (lv_at hl 2 rfl) ?_
    refine lv_i2l (v := (v1 : Int32).toInt64) hx hb dX12_found_73 rfl ?_
    refine lv_lmul hx hb dX12_found_74 ?_
    refine lv_ldc2 (v := 10) hx hb hown (hts _ kw1180) dX12_found_75 ?_
    obtain ⟨mo_14, hc14, hf⟩ := bd_e hf
    refine call_V (As := [.long (((v2_12 : Int32).toInt64) * ((v1 : Int32).toInt64)), .long 10]) (rest := []) hx hb hml hown hts hK hP hD hS hA hZ lkX12_171 (c_X12_fraction l G ct sk sv a n mo (((v2_12 : Int32).toInt64) * ((v1 : Int32).toInt64)) 10 hc14) 0 rfl rfl ⟨Nat.le_of_ble_eq_true rfl, Nat.le_of_ble_eq_true rfl⟩ rfl hl.1 rfl (Nat.le_of_ble_eq_true rfl) dX12_found_78 ⟨Nat.le_of_ble_eq_true rfl, Nat.le_of_ble_eq_true rfl⟩ (fun r9 w9 H locs hB hP hD hS => ?_)
    obtain ⟨rfl, rfl⟩ := hB
    refine WG_eq (g2 := F0 m 81 ls []) rfl ?_
    refine lv_iconst (v := 1) hx hb dX12_found_81 (by decide) ?_
    obtain ⟨e1, e2⟩ := inj2 (Option.some.inj hf)
    exact end_i (w' := (wl [lfM ct a mo_14])) hx hb hr hlocks hK hP hD hS dX12_found_82  ⟨by rw [← e1], by rw [← e2]⟩
  · replace hf := bc_t hf c_11
    refine lv_aload_n hx hb dX12_found_12 rfl (lv_at hl 0 rfl) ?_
    refine lv_bipush (v := (-2)) hx hb dX12_found_13 (by decide) ?_
    obtain ⟨r_15, mo_16, hc16, hf⟩ := bd2_e hf
    refine call_V (As := [.int (-2)]) (rest := []) hx hb hml hown hts hK hP hD hS hA hZ lkX12_80 (c_X12_bad l G ct sk sv a n mo (-2) hc16) 0 rfl rfl ⟨Nat.le_of_ble_eq_true rfl, Nat.le_of_ble_eq_true rfl⟩ rfl hl.1 rfl (Nat.le_of_ble_eq_true rfl) dX12_found_15 ⟨Nat.le_of_ble_eq_true rfl, Nat.le_of_ble_eq_true rfl⟩ (fun r9 w9 H locs hB hP hD hS => ?_)
    obtain ⟨rfl, rfl⟩ := hB
    refine WG_eq (g2 := F0 m 18 ls [.int r_15]) rfl ?_
    obtain ⟨e1, e2⟩ := inj2 (Option.some.inj hf)
    exact end_i (w' := (wl [lfM ct a mo_16])) hx hb hr hlocks hK hP hD hS dX12_found_18  ⟨by rw [← e1], by rw [← e2]⟩
noncomputable def f_X12_goFrank (n : Nat) (z : Nat) (t : (Nat → Int32)) (v1 : Int32) (v2 : Int32) : Option (Int32 × (Nat → Int32)) :=
  gd (vp_in (5 + v1) z) <|
  bl (upd t (ix (5 + v1)) v2) fun t_2 =>
  gd (vp_in (11 + v2) z) <|
  gd (vp_in (11 + v2) z) <|
  bl (upd t_2 (ix (11 + v2)) ((t_2 (ix (11 + v2))) + 1)) fun t_5 =>
  gd (vp_in 21 z) <|
  bd (f_X12_postageOf n z t_5 v1) fun r_7 =>
  gd (vp_in 21 z) <|
  bl (upd t_5 (ix 21) ((t_5 (ix 21)) + r_7)) fun t_9 =>
  bd (f_X12_postageOf n z t_9 v1) fun r_10 =>
  some (r_10, t_9)
set_option maxHeartbeats 4000000 in
set_option maxRecDepth 100000 in
theorem c_X12_goFrank (l : Launch) (G : va_G) (ct : Nat → ClassId) (sk sv : Nat → Nat) (a : Nat → Nat) (n : Nat) (z : Nat) (t : (Nat → Int32)) (v1 : Int32) (v2 : Int32) {r : Int32} {t' : (Nat → Int32)} (hf : f_X12_goFrank n z t v1 v2 = some (r, t')) : Ctr (l, G, ct, sk, sv) mX12_goFrank 2 43 [.ref (a 0), .int v1, .int v2] (wl [lfA ct a z t]) (wl [lfA ct a z t']) (some (.int r)) := by
  refine ctr_intro (by decide) (Nat.le_of_ble_eq_true rfl) ?_
  intro p e s m args below meth c A C hP hD hS hA ls hl
  obtain ⟨hx, hb, hml, hown, hts, hr, hlocks, hK, hnm, hZ⟩ := C
  have hb : c.code = cX12_goFrank := hb
  have hml : c.maxLocals = 3 := hml
  have hown : s.vm.findClass "SignedOutsideModel" = some m.cls := hown
  have hr : meth.sig.returnType = some .int := hr
  have hP : va_P G classes (wl [lfA ct a z t]) s.heap := hP
  have hD : va_D A (wl [lfA ct a z t]) := hD
  have hK : va_K G classes (TYS ct) s := hK
  have hl : lv_has ls 3 [(0, .ref (a 0)), (1, .int v1), (2, .int v2)] := hl
  unfold f_X12_goFrank at hf
  show WG l G ct sk sv p e (RM 2 43 0 0) s m args below meth c A (Eq2 (some (.int r)) (wl [lfA ct a z t'])) s.heap [] (F0 m 0 ls [])
  refine lv_aload_n hx hb dX12_goFrank_0 rfl (lv_at hl 0 rfl) ?_
  refine lv_iconst (v := 5) hx hb dX12_goFrank_1 (by decide) ?_
  refine lv_iload_n hx hb dX12_goFrank_2 rfl (lv_at hl 1 rfl) ?_
  refine lv_iadd hx hb dX12_goFrank_3 ?_
  refine lv_iload_n hx hb dX12_goFrank_4 rfl (lv_at hl 2 rfl) ?_
  obtain ⟨g_1, hf⟩ := gd_e hf
  obtain ⟨t_2, et_2, hf⟩ := bl_e hf
  refine va_iast hx hb hK hP hD hS 0 0 rfl rfl g_1 dX12_goFrank_5 (fun H locs hP hD hS => ?_)
  have hP : va_P G classes (wl [lfA ct a z t_2]) H := by rw [← et_2]; exact hP
  have hD : va_D A (wl [lfA ct a z t_2]) := by rw [← et_2]; exact hD
  refine lv_aload_n hx hb dX12_goFrank_6 rfl (lv_at hl 0 rfl) ?_
  refine lv_bipush (v := 11) hx hb dX12_goFrank_7 (by decide) ?_
  refine lv_iload_n hx hb dX12_goFrank_9 rfl (lv_at hl 2 rfl) ?_
  refine lv_iadd hx hb dX12_goFrank_10 ?_
  refine lv_dup2_11 hx hb dX12_goFrank_11 rfl rfl ?_
  obtain ⟨g_3, hf⟩ := gd_e hf
  refine va_iald (f := t_2) hx hb hK hP 0 0 rfl rfl g_3 dX12_goFrank_12 ?_
  refine lv_iconst (v := 1) hx hb dX12_goFrank_13 (by decide) ?_
  refine lv_iadd hx hb dX12_goFrank_14 ?_
  obtain ⟨g_4, hf⟩ := gd_e hf
  obtain ⟨t_5, et_5, hf⟩ := bl_e hf
  refine va_iast hx hb hK hP hD hS 0 0 rfl rfl g_4 dX12_goFrank_15 (fun H locs hP hD hS => ?_)
  have hP : va_P G classes (wl [lfA ct a z t_5]) H := by rw [← et_5]; exact hP
  have hD : va_D A (wl [lfA ct a z t_5]) := by rw [← et_5]; exact hD
  refine lv_aload_n hx hb dX12_goFrank_16 rfl (lv_at hl 0 rfl) ?_
  refine lv_bipush (v := 21) hx hb dX12_goFrank_17 (by decide) ?_
  refine lv_dup2_11 hx hb dX12_goFrank_19 rfl rfl ?_
  obtain ⟨g_6, hf⟩ := gd_e hf
  refine va_iald (f := t_5) hx hb hK hP 0 0 rfl rfl g_6 dX12_goFrank_20 ?_
  refine lv_aload_n hx hb dX12_goFrank_21 rfl (lv_at hl 0 rfl) ?_
  refine lv_iload_n hx hb dX12_goFrank_22 rfl (lv_at hl 1 rfl) ?_
  obtain ⟨r_7, hc7, hf⟩ := bd_e hf
  refine call_S (As := [.ref (a 0), .int v1]) (rest := [.int (t_5 (ix 21)), .int 21, .ref (a 0)]) hx hb hml hown hts hK hP hD hS hA hZ lkX12_101 (c_X12_postageOf l G ct sk sv (fun _ => a 0) n z t_5 v1 hc7) ⟨Nat.le_of_ble_eq_true rfl, Nat.le_of_ble_eq_true rfl⟩ rfl hl.1 rfl (Nat.le_of_ble_eq_true rfl) dX12_goFrank_23 ⟨Nat.le_of_ble_eq_true rfl, Nat.le_of_ble_eq_true rfl⟩ (fun r9 w9 H locs hB hP hD hS => ?_)
  obtain ⟨rfl, rfl⟩ := hB
  refine WG_eq (g2 := F0 m 26 ls [.int r_7, .int (t_5 (ix 21)), .int 21, .ref (a 0)]) rfl ?_
  refine lv_iadd hx hb dX12_goFrank_26 ?_
  obtain ⟨g_8, hf⟩ := gd_e hf
  obtain ⟨t_9, et_9, hf⟩ := bl_e hf
  refine va_iast hx hb hK hP hD hS 0 0 rfl rfl g_8 dX12_goFrank_27 (fun H locs hP hD hS => ?_)
  have hP : va_P G classes (wl [lfA ct a z t_9]) H := by rw [← et_9]; exact hP
  have hD : va_D A (wl [lfA ct a z t_9]) := by rw [← et_9]; exact hD
  refine lv_aload_n hx hb dX12_goFrank_28 rfl (lv_at hl 0 rfl) ?_
  refine lv_iload_n hx hb dX12_goFrank_29 rfl (lv_at hl 1 rfl) ?_
  obtain ⟨r_10, hc10, hf⟩ := bd_e hf
  refine call_S (As := [.ref (a 0), .int v1]) (rest := []) hx hb hml hown hts hK hP hD hS hA hZ lkX12_101 (c_X12_postageOf l G ct sk sv (fun _ => a 0) n z t_9 v1 hc10) ⟨Nat.le_of_ble_eq_true rfl, Nat.le_of_ble_eq_true rfl⟩ rfl hl.1 rfl (Nat.le_of_ble_eq_true rfl) dX12_goFrank_30 ⟨Nat.le_of_ble_eq_true rfl, Nat.le_of_ble_eq_true rfl⟩ (fun r9 w9 H locs hB hP hD hS => ?_)
  obtain ⟨rfl, rfl⟩ := hB
  refine WG_eq (g2 := F0 m 33 ls [.int r_10]) rfl ?_
  obtain ⟨e1, e2⟩ := inj2 (Option.some.inj hf)
  exact end_i (w' := (wl [lfA ct a z t_9])) hx hb hr hlocks hK hP hD hS dX12_goFrank_33  ⟨by rw [← e1], by rw [← e2]⟩
noncomputable def f_X12_no (n : Nat) (mo : MV) : Option (Int32 × MV) :=
  gd (vp_in 1 3) <|
  gd (vp_in 1 3) <|
  bl (setA mo 3 (upd (mo.2.1 3) (ix 1) ((mo.2.1 3 (ix 1)) + 1))) fun mo_3 =>
  some ((-3), mo_3)
set_option maxHeartbeats 4000000 in
set_option maxRecDepth 100000 in
theorem c_X12_no (l : Launch) (G : va_G) (ct : Nat → ClassId) (sk sv : Nat → Nat) (a : Nat → Nat) (n : Nat) (mo : MV) {r : Int32} {mo' : MV} (hf : f_X12_no n mo = some (r, mo')) : Ctr (l, G, ct, sk, sv) mX12_no 0 0 [.ref (a 0)] (wl [lfM ct a mo]) (wl [lfM ct a mo']) (some (.int r)) := by
  refine ctr_intro (by decide) (Nat.le_of_ble_eq_true rfl) ?_
  intro p e s m args below meth c A C hP hD hS hA ls hl
  obtain ⟨hx, hb, hml, hown, hts, hr, hlocks, hK, hnm, hZ⟩ := C
  have hb : c.code = cX12_no := hb
  have hml : c.maxLocals = 1 := hml
  have hown : s.vm.findClass "SignedOutsideModel" = some m.cls := hown
  have hr : meth.sig.returnType = some .int := hr
  have hP : va_P G classes (wl [lfM ct a mo]) s.heap := hP
  have hD : va_D A (wl [lfM ct a mo]) := hD
  have hK : va_K G classes (TYS ct) s := hK
  have hl : lv_has ls 1 [(0, .ref (a 0))] := hl
  unfold f_X12_no at hf
  show WG l G ct sk sv p e (RM 0 0 0 0) s m args below meth c A (Eq2 (some (.int r)) (wl [lfM ct a mo'])) s.heap [] (F0 m 0 ls [])
  refine lv_aload_n hx hb dX12_no_0 rfl (lv_at hl 0 rfl) ?_
  refine va_get (D := G) (C := RX12) (T := TX12) (N := 21) (v := .ref (a 4)) hx hb hts iu_X12 hown hK hP 0 rfl rfl 3 (by decide) (hts _ kw890) (fun _ h9 => h9) rfl dX12_no_1 ?_
  refine lv_iconst (v := 1) hx hb dX12_no_4 (by decide) ?_
  refine lv_dup2_11 hx hb dX12_no_5 rfl rfl ?_
  obtain ⟨g_1, hf⟩ := gd_e hf
  refine va_iald (f := mo.2.1 3) hx hb hK hP 4 0 rfl rfl g_1 dX12_no_6 ?_
  refine lv_iconst (v := 1) hx hb dX12_no_7 (by decide) ?_
  refine lv_iadd hx hb dX12_no_8 ?_
  obtain ⟨g_2, hf⟩ := gd_e hf
  obtain ⟨mo_3, emo_3, hf⟩ := bl_e hf
  refine va_iast hx hb hK hP hD hS 4 0 rfl rfl g_2 dX12_no_9 (fun H locs hP hD hS => ?_)
  have hP : va_P G classes (wl [lfM ct a mo_3]) H := by rw [← emo_3]; exact hP
  have hD : va_D A (wl [lfM ct a mo_3]) := by rw [← emo_3]; exact hD
  refine lv_bipush (v := (-3)) hx hb dX12_no_10 (by decide) ?_
  obtain ⟨e1, e2⟩ := inj2 (Option.some.inj hf)
  exact end_i (w' := (wl [lfM ct a mo_3])) hx hb hr hlocks hK hP hD hS dX12_no_12  ⟨by rw [← e1], by rw [← e2]⟩
noncomputable def f_X12_frank_j16 (n : Nat) (mo : MV) : Option (Int32 × MV) :=
  bd2 (f_X12_bad n mo (-2)) fun r_1 mo_2 =>
  some (r_1, mo_2)
noncomputable def f_X12_frank (n : Nat) (mo : MV) (v1 : Int32) (v2 : Int32) : Option (Int32 × MV) :=
  bd (f_X12_isLetter n mo v1) fun r_3 =>
  bc (r_3 = 0) (f_X12_frank_j16 n mo)
  (bd (f_X12_isMember n mo v2) fun r_5 =>
  bc (r_5 = 0) (f_X12_frank_j16 n mo)
  (bd (f_X12_mayFrank n 235 (mo.2.1 0) v1 v2) fun r_7 =>
  bc (r_7 = 0) (bd2 (f_X12_no n mo) fun r_13 mo_14 =>
  some (r_13, mo_14))
  (bd (f_X12_keep n mo) fun mo_9 =>
  bd2 (f_X12_goFrank n 235 (mo_9.2.1 0) v1 v2) fun r_10 t_11 =>
  bl (setA mo_9 0 t_11) fun mo_12 =>
  some (r_10, mo_12))))
set_option maxHeartbeats 4000000 in
set_option maxRecDepth 100000 in
theorem c_X12_frank (l : Launch) (G : va_G) (ct : Nat → ClassId) (sk sv : Nat → Nat) (a : Nat → Nat) (n : Nat) (mo : MV) (v1 : Int32) (v2 : Int32) {r : Int32} {mo' : MV} (hf : f_X12_frank n mo v1 v2 = some (r, mo')) : Ctr (l, G, ct, sk, sv) mX12_frank 3 65 [.ref (a 0), .int v1, .int v2] (wl [lfM ct a mo]) (wl [lfM ct a mo']) (some (.int r)) := by
  refine ctr_intro (by decide) (Nat.le_of_ble_eq_true rfl) ?_
  intro p e s m args below meth c A C hP hD hS hA ls hl
  obtain ⟨hx, hb, hml, hown, hts, hr, hlocks, hK, hnm, hZ⟩ := C
  have hb : c.code = cX12_frank := hb
  have hml : c.maxLocals = 3 := hml
  have hown : s.vm.findClass "SignedOutsideModel" = some m.cls := hown
  have hr : meth.sig.returnType = some .int := hr
  have hP : va_P G classes (wl [lfM ct a mo]) s.heap := hP
  have hD : va_D A (wl [lfM ct a mo]) := hD
  have hK : va_K G classes (TYS ct) s := hK
  have hl : lv_has ls 3 [(0, .ref (a 0)), (1, .int v1), (2, .int v2)] := hl
  have J16 : ∀ (mo : MV) (H : Heap) (locs : List Loc) (ls : Array Slot), va_P G classes (wl [lfM ct a mo]) H → va_D A (wl [lfM ct a mo]) → va_S A s.heap H locs → lv_has ls 3 [(0, .ref (a 0))] → f_X12_frank_j16 n mo = some (r, mo') → WG l G ct sk sv p e (RM 3 65 0 0) s m args below meth c A (Eq2 (some (.int r)) (wl [lfM ct a mo'])) H locs (F0 m 16 ls []) := by
    intro mo H locs ls hP hD hS hl hf
    unfold f_X12_frank_j16 at hf
    refine lv_aload_n hx hb dX12_frank_16 rfl (lv_at hl 0 rfl) ?_
    refine lv_bipush (v := (-2)) hx hb dX12_frank_17 (by decide) ?_
    obtain ⟨r_1, mo_2, hc2, hf⟩ := bd2_e hf
    refine call_V (As := [.int (-2)]) (rest := []) hx hb hml hown hts hK hP hD hS hA hZ lkX12_80 (c_X12_bad l G ct sk sv a n mo (-2) hc2) 0 rfl rfl ⟨Nat.le_of_ble_eq_true rfl, Nat.le_of_ble_eq_true rfl⟩ rfl hl.1 rfl (Nat.le_of_ble_eq_true rfl) dX12_frank_19 ⟨Nat.le_of_ble_eq_true rfl, Nat.le_of_ble_eq_true rfl⟩ (fun r9 w9 H locs hB hP hD hS => ?_)
    obtain ⟨rfl, rfl⟩ := hB
    refine WG_eq (g2 := F0 m 22 ls [.int r_1]) rfl ?_
    obtain ⟨e1, e2⟩ := inj2 (Option.some.inj hf)
    exact end_i (w' := (wl [lfM ct a mo_2])) hx hb hr hlocks hK hP hD hS dX12_frank_22  ⟨by rw [← e1], by rw [← e2]⟩
  unfold f_X12_frank at hf
  show WG l G ct sk sv p e (RM 3 65 0 0) s m args below meth c A (Eq2 (some (.int r)) (wl [lfM ct a mo'])) s.heap [] (F0 m 0 ls [])
  refine lv_aload_n hx hb dX12_frank_0 rfl (lv_at hl 0 rfl) ?_
  refine lv_iload_n hx hb dX12_frank_1 rfl (lv_at hl 1 rfl) ?_
  obtain ⟨r_3, hc3, hf⟩ := bd_e hf
  refine call_V (As := [.int v1]) (rest := []) hx hb hml hown hts hK hP hD hS hA hZ lkX12_114 (c_X12_isLetter l G ct sk sv a n mo v1 hc3) 0 rfl rfl ⟨Nat.le_of_ble_eq_true rfl, Nat.le_of_ble_eq_true rfl⟩ rfl hl.1 rfl (Nat.le_of_ble_eq_true rfl) dX12_frank_2 ⟨Nat.le_of_ble_eq_true rfl, Nat.le_of_ble_eq_true rfl⟩ (fun r9 w9 H locs hB hP hD hS => ?_)
  obtain ⟨rfl, rfl⟩ := hB
  refine WG_eq (g2 := F0 m 5 ls [.int r_3]) rfl ?_
  refine lv_if_eq (tgt := 16) hx hb dX12_frank_5 (by decide) (fun c_4 => ?_) (fun c_4 => ?_)
  · replace hf := bc_t hf c_4
    exact J16 mo _ _ _ hP hD hS (lv_sub hl [0] rfl) hf
  · replace hf := bc_f hf c_4
    refine lv_aload_n hx hb dX12_frank_8 rfl (lv_at hl 0 rfl) ?_
    refine lv_iload_n hx hb dX12_frank_9 rfl (lv_at hl 2 rfl) ?_
    obtain ⟨r_5, hc5, hf⟩ := bd_e hf
    refine call_V (As := [.int v2]) (rest := []) hx hb hml hown hts hK hP hD hS hA hZ lkX12_117 (c_X12_isMember l G ct sk sv a n mo v2 hc5) 0 rfl rfl ⟨Nat.le_of_ble_eq_true rfl, Nat.le_of_ble_eq_true rfl⟩ rfl hl.1 rfl (Nat.le_of_ble_eq_true rfl) dX12_frank_10 ⟨Nat.le_of_ble_eq_true rfl, Nat.le_of_ble_eq_true rfl⟩ (fun r9 w9 H locs hB hP hD hS => ?_)
    obtain ⟨rfl, rfl⟩ := hB
    refine WG_eq (g2 := F0 m 13 ls [.int r_5]) rfl ?_
    refine lv_if_ne (tgt := 23) hx hb dX12_frank_13 (by decide) (fun c_6 => ?_) (fun c_6 => ?_)
    · replace hf := bc_f hf c_6
      refine lv_aload_n hx hb dX12_frank_23 rfl (lv_at hl 0 rfl) ?_
      refine va_get (D := G) (C := RX12) (T := TX12) (N := 21) (v := .ref (a 1)) hx hb hts iu_X12 hown hK hP 0 rfl rfl 0 (by decide) (hts _ kw887) (fun _ h9 => h9) rfl dX12_frank_24 ?_
      refine lv_iload_n hx hb dX12_frank_27 rfl (lv_at hl 1 rfl) ?_
      refine lv_iload_n hx hb dX12_frank_28 rfl (lv_at hl 2 rfl) ?_
      obtain ⟨r_7, hc7, hf⟩ := bd_e hf
      refine call_S (As := [.ref (a 1), .int v1, .int v2]) (rest := []) hx hb hml hown hts hK hP hD hS hA hZ lkX12_120 (Ctr.up (W := (wl [lfM ct a mo])) (W' := (wl [lfM ct a mo])) (c_X12_mayFrank l G ct sk sv (fun _ => a 1) n 235 (mo.2.1 0) v1 v2 hc7) [1] [0, 2, 3, 4, 5, 6, 7, 8, 9, 10, 11, 12, 13, 14] [0, 14, 1, 2, 3, 4, 5, 6, 7, 8, 9, 10, 11, 12, 13] rfl rfl rfl rfl (by decide) rfl rfl) ⟨Nat.le_of_ble_eq_true rfl, Nat.le_of_ble_eq_true rfl⟩ rfl hl.1 rfl (Nat.le_of_ble_eq_true rfl) dX12_frank_29 ⟨Nat.le_of_ble_eq_true rfl, Nat.le_of_ble_eq_true rfl⟩ (fun r9 w9 H locs hB hP hD hS => ?_)
      obtain ⟨rfl, rfl⟩ := hB
      refine WG_eq (g2 := F0 m 32 ls [.int r_7]) rfl ?_
      refine lv_if_ne (tgt := 40) hx hb dX12_frank_32 (by decide) (fun c_8 => ?_) (fun c_8 => ?_)
      · replace hf := bc_f hf c_8
        refine lv_aload_n hx hb dX12_frank_40 rfl (lv_at hl 0 rfl) ?_
        obtain ⟨mo_9, hc9, hf⟩ := bd_e hf
        refine call_V (As := []) (rest := []) hx hb hml hown hts hK hP hD hS hA hZ lkX12_127 (c_X12_keep l G ct sk sv a n mo hc9) 0 rfl rfl ⟨Nat.le_of_ble_eq_true rfl, Nat.le_of_ble_eq_true rfl⟩ rfl hl.1 rfl (Nat.le_of_ble_eq_true rfl) dX12_frank_41 ⟨Nat.le_of_ble_eq_true rfl, Nat.le_of_ble_eq_true rfl⟩ (fun r9 w9 H locs hB hP hD hS => ?_)
        obtain ⟨rfl, rfl⟩ := hB
        refine WG_eq (g2 := F0 m 44 ls []) rfl ?_
        refine lv_aload_n hx hb dX12_frank_44 rfl (lv_at hl 0 rfl) ?_
        refine va_get (D := G) (C := RX12) (T := TX12) (N := 21) (v := .ref (a 1)) hx hb hts iu_X12 hown hK hP 0 rfl rfl 0 (by decide) (hts _ kw887) (fun _ h9 => h9) rfl dX12_frank_45 ?_
        refine lv_iload_n hx hb dX12_frank_48 rfl (lv_at hl 1 rfl) ?_
        refine lv_iload_n hx hb dX12_frank_49 rfl (lv_at hl 2 rfl) ?_
        obtain ⟨r_10, t_11, hc12, hf⟩ := bd2_e hf
        obtain ⟨mo_12, emo_12, hf⟩ := bl_e hf
        refine call_S (As := [.ref (a 1), .int v1, .int v2]) (rest := []) hx hb hml hown hts hK hP hD hS hA hZ lkX12_130 (Ctr.up (W := (wl [lfM ct a mo_9])) (W' := (wl [lfM ct a (setA mo_9 0 t_11)])) (c_X12_goFrank l G ct sk sv (fun _ => a 1) n 235 (mo_9.2.1 0) v1 v2 hc12) [1] [0, 2, 3, 4, 5, 6, 7, 8, 9, 10, 11, 12, 13, 14] [0, 14, 1, 2, 3, 4, 5, 6, 7, 8, 9, 10, 11, 12, 13] rfl rfl rfl rfl (by decide) rfl rfl) ⟨Nat.le_of_ble_eq_true rfl, Nat.le_of_ble_eq_true rfl⟩ rfl hl.1 rfl (Nat.le_of_ble_eq_true rfl) dX12_frank_50 ⟨Nat.le_of_ble_eq_true rfl, Nat.le_of_ble_eq_true rfl⟩ (fun r9 w9 H locs hB hP hD hS => ?_)
        obtain ⟨rfl, rfl⟩ := hB
        have hP : va_P G classes (wl [lfM ct a mo_12]) H := by rw [← emo_12]; exact hP
        have hD : va_D A (wl [lfM ct a mo_12]) := by rw [← emo_12]; exact hD
        refine WG_eq (g2 := F0 m 53 ls [.int r_10]) rfl ?_
        obtain ⟨e1, e2⟩ := inj2 (Option.some.inj hf)
        exact end_i (w' := (wl [lfM ct a mo_12])) hx hb hr hlocks hK hP hD hS dX12_frank_53  ⟨by rw [← e1], by rw [← e2]⟩
      · replace hf := bc_t hf c_8
        refine lv_aload_n hx hb dX12_frank_35 rfl (lv_at hl 0 rfl) ?_
        obtain ⟨r_13, mo_14, hc14, hf⟩ := bd2_e hf
        refine call_V (As := []) (rest := []) hx hb hml hown hts hK hP hD hS hA hZ lkX12_124 (c_X12_no l G ct sk sv a n mo hc14) 0 rfl rfl ⟨Nat.le_of_ble_eq_true rfl, Nat.le_of_ble_eq_true rfl⟩ rfl hl.1 rfl (Nat.le_of_ble_eq_true rfl) dX12_frank_36 ⟨Nat.le_of_ble_eq_true rfl, Nat.le_of_ble_eq_true rfl⟩ (fun r9 w9 H locs hB hP hD hS => ?_)
        obtain ⟨rfl, rfl⟩ := hB
        refine WG_eq (g2 := F0 m 39 ls [.int r_13]) rfl ?_
        obtain ⟨e1, e2⟩ := inj2 (Option.some.inj hf)
        exact end_i (w' := (wl [lfM ct a mo_14])) hx hb hr hlocks hK hP hD hS dX12_frank_39  ⟨by rw [← e1], by rw [← e2]⟩
    · replace hf := bc_t hf c_6
      exact J16 mo _ _ _ hP hD hS (lv_sub hl [0] rfl) hf
noncomputable def f_X12_from_b33 (n : Nat) (mo : MV) (v2 : Int32) (v1 : Int32) : Option ((Int32 × MV) ⊕ (MV)) :=
  bc (235 ≤ v2) (some (.inr mo))
  (gd (vp_in ((235 * v1) + v2) 470) <|
  gd (vp_in v2 235) <|
  bl (setA mo 0 (upd (mo.2.1 0) (ix v2) (mo.2.1 1 (ix ((235 * v1) + v2))))) fun mo_4 =>
  bl (v2 + 1) fun v2_5 =>
  some (.inl (v2_5, mo_4)))
noncomputable def f_X12_from_l33 (fu : Nat) (n : Nat) (mo : MV) (v1 : Int32) (v2 : Int32) : Option (MV) :=
  lp (fun q => f_X12_from_b33 n q.2 q.1 v1) fu (v2, mo)
noncomputable def f_X12_from (n : Nat) (mo : MV) (v1 : Int32) : Option (Int32 × MV) :=
  bd (f_X12_in n ((v1 : Int32).toInt64) 0 1) fun r_6 =>
  bc (r_6 = 0) (bd2 (f_X12_bad n mo (-2)) fun r_14 mo_15 =>
  some (r_14, mo_15))
  (gd (vp_in v1 2) <|
  bc ((mo.2.1 2 (ix v1)) = 0) (bd2 (f_X12_no n mo) fun r_12 mo_13 =>
  some (r_12, mo_13))
  (bd (f_X12_from_l33 n n mo v1 0) fun mo_10 =>
  some (1, mo_10)))
set_option maxHeartbeats 4000000 in
set_option maxRecDepth 100000 in
theorem c_X12_from (l : Launch) (G : va_G) (ct : Nat → ClassId) (sk sv : Nat → Nat) (a : Nat → Nat) (n : Nat) (mo : MV) (v1 : Int32) {r : Int32} {mo' : MV} (hf : f_X12_from n mo v1 = some (r, mo')) : Ctr (l, G, ct, sk, sv) mX12_from 1 25 [.ref (a 0), .int v1] (wl [lfM ct a mo]) (wl [lfM ct a mo']) (some (.int r)) := by
  refine ctr_intro (by decide) (Nat.le_of_ble_eq_true rfl) ?_
  intro p e s m args below meth c A C hP hD hS hA ls hl
  obtain ⟨hx, hb, hml, hown, hts, hr, hlocks, hK, hnm, hZ⟩ := C
  have hb : c.code = cX12_from := hb
  have hml : c.maxLocals = 3 := hml
  have hown : s.vm.findClass "SignedOutsideModel" = some m.cls := hown
  have hr : meth.sig.returnType = some .int := hr
  have hP : va_P G classes (wl [lfM ct a mo]) s.heap := hP
  have hD : va_D A (wl [lfM ct a mo]) := hD
  have hK : va_K G classes (TYS ct) s := hK
  have hl : lv_has ls 3 [(0, .ref (a 0)), (1, .int v1)] := hl
  have L33 : ∀ (fu : Nat) (mo : MV) (v1 : Int32) (v2 : Int32) (ex : MV) (H : Heap) (locs : List Loc) (ls : Array Slot), va_P G classes (wl [lfM ct a mo]) H → va_D A (wl [lfM ct a mo]) → va_S A s.heap H locs → lv_has ls 3 [(2, .int v2), (0, .ref (a 0)), (1, .int v1)] → f_X12_from_l33 fu n mo v1 v2 = some ex → (∀ (x : MV), ex = x → ∀ (H : Heap) (locs : List Loc) (ls : Array Slot), va_P G classes (wl [lfM ct a x]) H → va_D A (wl [lfM ct a x]) → va_S A s.heap H locs → lv_has ls 3 [] → WG l G ct sk sv p e (RM 1 25 0 0) s m args below meth c A (Eq2 (some (.int r)) (wl [lfM ct a mo'])) H locs (F0 m 64 ls [])) → WG l G ct sk sv p e (RM 1 25 0 0) s m args below meth c A (Eq2 (some (.int r)) (wl [lfM ct a mo'])) H locs (F0 m 33 ls []) := by
    intro fu
    induction fu with
    | zero =>
      intro mo v1 v2 ex H locs ls hP hD hS hl hf
      exact absurd hf (by unfold f_X12_from_l33 lp; exact fun h => by cases h)
    | succ fu ih =>
      intro mo v1 v2 ex H locs ls hP hD hS hl hf hE
      unfold f_X12_from_l33 at hf
      obtain ⟨q, hf, hor⟩ := lp_e hf
      replace hf : f_X12_from_b33 n mo v2 v1 = some q := hf
      unfold f_X12_from_b33 at hf
      refine lv_iload_n hx hb dX12_from_33 rfl (lv_at hl 0 rfl) ?_
      refine lv_sipush (v := 235) hx hb dX12_from_34 (by decide) ?_
      refine lv_icmp_ge (tgt := 64) hx hb dX12_from_37 (by decide) (fun c_1 => ?_) (fun c_1 => ?_)
      · replace hf := bc_t hf c_1
        exact hE mo (lp_inr hor hf).symm _ _ _ hP hD hS (lv_sub hl [] rfl)
      · replace hf := bc_f hf c_1
        refine lv_aload_n hx hb dX12_from_40 rfl (lv_at hl 1 rfl) ?_
        refine va_get (D := G) (C := RX12) (T := TX12) (N := 21) (v := .ref (a 1)) hx hb hts iu_X12 hown hK hP 0 rfl rfl 0 (by decide) (hts _ kw887) (fun _ h9 => h9) rfl dX12_from_41 ?_
        refine lv_iload_n hx hb dX12_from_44 rfl (lv_at hl 0 rfl) ?_
        refine lv_aload_n hx hb dX12_from_45 rfl (lv_at hl 1 rfl) ?_
        refine va_get (D := G) (C := RX12) (T := TX12) (N := 21) (v := .ref (a 2)) hx hb hts iu_X12 hown hK hP 0 rfl rfl 1 (by decide) (hts _ kw888) (fun _ h9 => h9) rfl dX12_from_46 ?_
        refine lv_sipush (v := 235) hx hb dX12_from_49 (by decide) ?_
        refine lv_iload_n hx hb dX12_from_52 rfl (lv_at hl 2 rfl) ?_
        refine lv_imul hx hb dX12_from_53 ?_
        refine lv_iload_n hx hb dX12_from_54 rfl (lv_at hl 0 rfl) ?_
        refine lv_iadd hx hb dX12_from_55 ?_
        obtain ⟨g_2, hf⟩ := gd_e hf
        refine va_iald (f := mo.2.1 1) hx hb hK hP 2 0 rfl rfl g_2 dX12_from_56 ?_
        obtain ⟨g_3, hf⟩ := gd_e hf
        obtain ⟨mo_4, emo_4, hf⟩ := bl_e hf
        refine va_iast hx hb hK hP hD hS 1 0 rfl rfl g_3 dX12_from_57 (fun H locs hP hD hS => ?_)
        have hP : va_P G classes (wl [lfM ct a mo_4]) H := by rw [← emo_4]; exact hP
        have hD : va_D A (wl [lfM ct a mo_4]) := by rw [← emo_4]; exact hD
        obtain ⟨v2_5, ev2_5, hf⟩ := bl_e hf
        refine lv_iinc (v := v2_5) (lv' := [(2, .int v2_5), (0, .ref (a 0)), (1, .int v1)]) hx hb dX12_from_58 hl (k := 0) rfl ev2_5 (by decide) rfl (fun ls hl => ?_)
        refine lv_goto (tgt := 33) hx hb dX12_from_61 (by decide) ?_
        exact ih mo_4 v1 v2_5 ex _ _ _ hP hD hS hl (lp_inl hor hf) hE
  unfold f_X12_from at hf
  show WG l G ct sk sv p e (RM 1 25 0 0) s m args below meth c A (Eq2 (some (.int r)) (wl [lfM ct a mo'])) s.heap [] (F0 m 0 ls [])
  refine lv_iload_n hx hb dX12_from_0 rfl (lv_at hl 1 rfl) ?_
  refine lv_i2l (v := (v1 : Int32).toInt64) hx hb dX12_from_1 rfl ?_
  refine lv_lconst (v := 0) hx hb dX12_from_2 (by decide) ?_
  refine lv_lconst (v := 1) hx hb dX12_from_3 (by decide) ?_
  obtain ⟨r_6, hc6, hf⟩ := bd_e hf
  refine call_S (As := [.long ((v1 : Int32).toInt64), .long 0, .long 1]) (rest := []) hx hb hml hown hts hK hP hD hS hA hZ lkX12_65 (Ctr.upL (c_X12_in l G ct sk sv  n ((v1 : Int32).toInt64) 0 1 hc6) [lfM ct a mo] [lfM ct a mo] [lfM ct a mo] [0] 1 (by decide) rfl rfl rfl rfl) ⟨Nat.le_of_ble_eq_true rfl, Nat.le_of_ble_eq_true rfl⟩ rfl hl.1 rfl (Nat.le_of_ble_eq_true rfl) dX12_from_4 ⟨Nat.le_of_ble_eq_true rfl, Nat.le_of_ble_eq_true rfl⟩ (fun r9 w9 H locs hB hP hD hS => ?_)
  obtain ⟨rfl, rfl⟩ := hB
  refine WG_eq (g2 := F0 m 7 ls [.int r_6]) rfl ?_
  refine lv_if_ne (tgt := 17) hx hb dX12_from_7 (by decide) (fun c_7 => ?_) (fun c_7 => ?_)
  · replace hf := bc_f hf c_7
    refine lv_aload_n hx hb dX12_from_17 rfl (lv_at hl 0 rfl) ?_
    refine va_get (D := G) (C := RX12) (T := TX12) (N := 21) (v := .ref (a 3)) hx hb hts iu_X12 hown hK hP 0 rfl rfl 2 (by decide) (hts _ kw889) (fun _ h9 => h9) rfl dX12_from_18 ?_
    refine lv_iload_n hx hb dX12_from_21 rfl (lv_at hl 1 rfl) ?_
    obtain ⟨g_8, hf⟩ := gd_e hf
    refine va_zald (f := mo.2.1 2) hx hb hK hP 3 1 rfl rfl g_8 dX12_from_22 ?_
    refine lv_if_ne (tgt := 31) hx hb dX12_from_23 (by decide) (fun c_9 => ?_) (fun c_9 => ?_)
    · replace hf := bc_f hf c_9
      refine lv_iconst (v := 0) hx hb dX12_from_31 (by decide) ?_
      refine lv_istore_n (lv' := [(2, .int 0), (0, .ref (a 0)), (1, .int v1)]) hx hb dX12_from_32 rfl hl (by decide) rfl (fun ls hl => ?_)
      obtain ⟨mo_10, hx_11, hf⟩ := bd_e hf
      refine L33 n mo v1 0 mo_10 _ _ _ hP hD hS hl hx_11 ?_
      intro x9 e9 H locs ls hP hD hS hl
      subst e9
      have hP : va_P G classes (wl [lfM ct a mo_10]) H := hP
      have hD : va_D A (wl [lfM ct a mo_10]) := hD
      have hl : lv_has ls 3 [] := hl
      refine lv_iconst (v := 1) hx hb dX12_from_64 (by decide) ?_
      obtain ⟨e1, e2⟩ := inj2 (Option.some.inj hf)
      exact end_i (w' := (wl [lfM ct a mo_10])) hx hb hr hlocks hK hP hD hS dX12_from_65  ⟨by rw [← e1], by rw [← e2]⟩
    · replace hf := bc_t hf c_9
      refine lv_aload_n hx hb dX12_from_26 rfl (lv_at hl 0 rfl) ?_
      obtain ⟨r_12, mo_13, hc13, hf⟩ := bd2_e hf
      refine call_V (As := []) (rest := []) hx hb hml hown hts hK hP hD hS hA hZ lkX12_124 (c_X12_no l G ct sk sv a n mo hc13) 0 rfl rfl ⟨Nat.le_of_ble_eq_true rfl, Nat.le_of_ble_eq_true rfl⟩ rfl hl.1 rfl (Nat.le_of_ble_eq_true rfl) dX12_from_27 ⟨Nat.le_of_ble_eq_true rfl, Nat.le_of_ble_eq_true rfl⟩ (fun r9 w9 H locs hB hP hD hS => ?_)
      obtain ⟨rfl, rfl⟩ := hB
      refine WG_eq (g2 := F0 m 30 ls [.int r_12]) rfl ?_
      obtain ⟨e1, e2⟩ := inj2 (Option.some.inj hf)
      exact end_i (w' := (wl [lfM ct a mo_13])) hx hb hr hlocks hK hP hD hS dX12_from_30  ⟨by rw [← e1], by rw [← e2]⟩
  · replace hf := bc_t hf c_7
    refine lv_aload_n hx hb dX12_from_10 rfl (lv_at hl 0 rfl) ?_
    refine lv_bipush (v := (-2)) hx hb dX12_from_11 (by decide) ?_
    obtain ⟨r_14, mo_15, hc15, hf⟩ := bd2_e hf
    refine call_V (As := [.int (-2)]) (rest := []) hx hb hml hown hts hK hP hD hS hA hZ lkX12_80 (c_X12_bad l G ct sk sv a n mo (-2) hc15) 0 rfl rfl ⟨Nat.le_of_ble_eq_true rfl, Nat.le_of_ble_eq_true rfl⟩ rfl hl.1 rfl (Nat.le_of_ble_eq_true rfl) dX12_from_13 ⟨Nat.le_of_ble_eq_true rfl, Nat.le_of_ble_eq_true rfl⟩ (fun r9 w9 H locs hB hP hD hS => ?_)
    obtain ⟨rfl, rfl⟩ := hB
    refine WG_eq (g2 := F0 m 16 ls [.int r_14]) rfl ?_
    obtain ⟨e1, e2⟩ := inj2 (Option.some.inj hf)
    exact end_i (w' := (wl [lfM ct a mo_15])) hx hb hr hlocks hK hP hD hS dX12_from_16  ⟨by rw [← e1], by rw [← e2]⟩
noncomputable def f_X12_isFigure (n : Nat) (v0 : Int32) : Option (Int32) :=
  bd (f_X12_in n ((v0 : Int32).toInt64) 48 57) fun r_1 =>
  gd (r_1 = 0 ∨ r_1 = 1) <| some r_1
set_option maxHeartbeats 4000000 in
set_option maxRecDepth 100000 in
theorem c_X12_isFigure (l : Launch) (G : va_G) (ct : Nat → ClassId) (sk sv : Nat → Nat)  (n : Nat) (v0 : Int32) {r : Int32} (hf : f_X12_isFigure n v0 = some r) : Ctr (l, G, ct, sk, sv) mX12_isFigure 1 25 [.int v0] (wl []) (wl []) (some (.int r)) := by
  refine ctr_intro (by decide) (Nat.le_of_ble_eq_true rfl) ?_
  intro p e s m args below meth c A C hP hD hS hA ls hl
  obtain ⟨hx, hb, hml, hown, hts, hr, hlocks, hK, hnm, hZ⟩ := C
  have hb : c.code = cX12_isFigure := hb
  have hml : c.maxLocals = 1 := hml
  have hown : s.vm.findClass "SignedOutsideModel" = some m.cls := hown
  have hr : meth.sig.returnType = some .boolean := hr
  have hP : va_P G classes (wl []) s.heap := hP
  have hD : va_D A (wl []) := hD
  have hK : va_K G classes (TYS ct) s := hK
  have hl : lv_has ls 1 [(0, .int v0)] := hl
  unfold f_X12_isFigure at hf
  show WG l G ct sk sv p e (RM 1 25 0 0) s m args below meth c A (Eq2 (some (.int r)) (wl [])) s.heap [] (F0 m 0 ls [])
  refine lv_iload_n hx hb dX12_isFigure_0 rfl (lv_at hl 0 rfl) ?_
  refine lv_i2l (v := (v0 : Int32).toInt64) hx hb dX12_isFigure_1 rfl ?_
  refine lv_ldc2 (v := 48) hx hb hown (hts _ kw1218) dX12_isFigure_2 ?_
  refine lv_ldc2 (v := 57) hx hb hown (hts _ kw1219) dX12_isFigure_5 ?_
  obtain ⟨r_1, hc1, hf⟩ := bd_e hf
  refine call_S (As := [.long ((v0 : Int32).toInt64), .long 48, .long 57]) (rest := []) hx hb hml hown hts hK hP hD hS hA hZ lkX12_65 (c_X12_in l G ct sk sv  n ((v0 : Int32).toInt64) 48 57 hc1) ⟨Nat.le_of_ble_eq_true rfl, Nat.le_of_ble_eq_true rfl⟩ rfl hl.1 rfl (Nat.le_of_ble_eq_true rfl) dX12_isFigure_8 ⟨Nat.le_of_ble_eq_true rfl, Nat.le_of_ble_eq_true rfl⟩ (fun r9 w9 H locs hB hP hD hS => ?_)
  obtain ⟨rfl, rfl⟩ := hB
  refine WG_eq (g2 := F0 m 11 ls [.int r_1]) rfl ?_
  obtain ⟨g_2, hf⟩ := gd_e hf
  have e1 := Option.some.inj hf
  exact end_z (w' := (wl [])) hx hb hr hlocks hK hP hD hS dX12_isFigure_11 g_2 ⟨by rw [← e1], rfl⟩
noncomputable def f_X12_isSmall (n : Nat) (v0 : Int32) : Option (Int32) :=
  bd (f_X12_in n ((v0 : Int32).toInt64) 97 122) fun r_1 =>
  gd (r_1 = 0 ∨ r_1 = 1) <| some r_1
set_option maxHeartbeats 4000000 in
set_option maxRecDepth 100000 in
theorem c_X12_isSmall (l : Launch) (G : va_G) (ct : Nat → ClassId) (sk sv : Nat → Nat)  (n : Nat) (v0 : Int32) {r : Int32} (hf : f_X12_isSmall n v0 = some r) : Ctr (l, G, ct, sk, sv) mX12_isSmall 1 25 [.int v0] (wl []) (wl []) (some (.int r)) := by
  refine ctr_intro (by decide) (Nat.le_of_ble_eq_true rfl) ?_
  intro p e s m args below meth c A C hP hD hS hA ls hl
  obtain ⟨hx, hb, hml, hown, hts, hr, hlocks, hK, hnm, hZ⟩ := C
  have hb : c.code = cX12_isSmall := hb
  have hml : c.maxLocals = 1 := hml
  have hown : s.vm.findClass "SignedOutsideModel" = some m.cls := hown
  have hr : meth.sig.returnType = some .boolean := hr
  have hP : va_P G classes (wl []) s.heap := hP
  have hD : va_D A (wl []) := hD
  have hK : va_K G classes (TYS ct) s := hK
  have hl : lv_has ls 1 [(0, .int v0)] := hl
  unfold f_X12_isSmall at hf
  show WG l G ct sk sv p e (RM 1 25 0 0) s m args below meth c A (Eq2 (some (.int r)) (wl [])) s.heap [] (F0 m 0 ls [])
  refine lv_iload_n hx hb dX12_isSmall_0 rfl (lv_at hl 0 rfl) ?_
  refine lv_i2l (v := (v0 : Int32).toInt64) hx hb dX12_isSmall_1 rfl ?_
  refine lv_ldc2 (v := 97) hx hb hown (hts _ kw1213) dX12_isSmall_2 ?_
  refine lv_ldc2 (v := 122) hx hb hown (hts _ kw1214) dX12_isSmall_5 ?_
  obtain ⟨r_1, hc1, hf⟩ := bd_e hf
  refine call_S (As := [.long ((v0 : Int32).toInt64), .long 97, .long 122]) (rest := []) hx hb hml hown hts hK hP hD hS hA hZ lkX12_65 (c_X12_in l G ct sk sv  n ((v0 : Int32).toInt64) 97 122 hc1) ⟨Nat.le_of_ble_eq_true rfl, Nat.le_of_ble_eq_true rfl⟩ rfl hl.1 rfl (Nat.le_of_ble_eq_true rfl) dX12_isSmall_8 ⟨Nat.le_of_ble_eq_true rfl, Nat.le_of_ble_eq_true rfl⟩ (fun r9 w9 H locs hB hP hD hS => ?_)
  obtain ⟨rfl, rfl⟩ := hB
  refine WG_eq (g2 := F0 m 11 ls [.int r_1]) rfl ?_
  obtain ⟨g_2, hf⟩ := gd_e hf
  have e1 := Option.some.inj hf
  exact end_z (w' := (wl [])) hx hb hr hlocks hK hP hD hS dX12_isSmall_11 g_2 ⟨by rw [← e1], rfl⟩
noncomputable def f_X12_lookAt_b5 (n : Nat) (mo : MV) : Option ((MV) ⊕ (MV)) :=
  bc ((mo.1 0) ≤ (mo.1 1)) (some (.inr mo))
  (gd (vp_in (mo.1 1) 150) <|
  bc ((mo.2.1 11 (ix (mo.1 1))) = 32) (bl (setS mo 1 ((mo.1 1) + 1)) fun mo_4 =>
  some (.inl mo_4))
  (some (.inr mo)))
noncomputable def f_X12_lookAt_l5 (fu : Nat) (n : Nat) (mo : MV)  : Option (MV) :=
  lp (fun q => f_X12_lookAt_b5 n q) fu mo
noncomputable def f_X12_lookAt_j208 (n : Nat) (mo : MV) (v3 : Int32) (s0 : Int32) (s1 : Int32) : Option ((Int32 × MV) ⊕ (MV)) :=
  bl (setS mo 2 (s1 + s0)) fun mo_5 =>
  some (.inl (v3, mo_5))
noncomputable def f_X12_lookAt_j193 (n : Nat) (mo : MV) (s0 : Int32) : Option ((Int32 × MV) ⊕ (MV)) :=
  bc (s0 = 0) (f_X12_lookAt_j208 n mo s0 0 (mo.1 2))
  (f_X12_lookAt_j208 n mo s0 1 (mo.1 2))
noncomputable def f_X12_lookAt_b136 (n : Nat) (mo : MV) (v3 : Int32) : Option ((Int32 × MV) ⊕ (MV)) :=
  bc (v3 = 0) (some (.inr mo))
  (bc ((mo.1 0) ≤ ((mo.1 1) + (mo.1 2))) (some (.inr mo))
  (gd (vp_in ((mo.1 1) + (mo.1 2)) 150) <|
  bl (mo.2.1 11 (ix ((mo.1 1) + (mo.1 2)))) fun v4_10 =>
  bc ((mo.1 3) = 1) (bd (f_X12_isSmall n v4_10) fun r_13 =>
  f_X12_lookAt_j193 n mo r_13)
  (bd (f_X12_isFigure n v4_10) fun r_12 =>
  f_X12_lookAt_j193 n mo r_12)))
noncomputable def f_X12_lookAt_l136 (fu : Nat) (n : Nat) (mo : MV) (v3 : Int32) : Option (MV) :=
  lp (fun q => f_X12_lookAt_b136 n q.2 q.1) fu (v3, mo)
noncomputable def f_X12_lookAt_b218 (n : Nat) (mo : MV) (v4 : Int32) : Option ((Int32 × MV) ⊕ (MV)) :=
  bc ((mo.1 2) ≤ v4) (some (.inr mo))
  (bc (2 ≤ v4) (some (.inr mo))
  (bc ((mo.1 3) = 2) (gd (vp_in ((mo.1 1) + v4) 150) <|
  bl (setS mo 4 (((10 * (mo.1 4)) + (mo.2.1 11 (ix ((mo.1 1) + v4)))) - 48)) fun mo_18 =>
  bl (v4 + 1) fun v4_19 =>
  some (.inl (v4_19, mo_18)))
  (some (.inr mo))))
noncomputable def f_X12_lookAt_l218 (fu : Nat) (n : Nat) (mo : MV) (v4 : Int32) : Option (MV) :=
  lp (fun q => f_X12_lookAt_b218 n q.2 q.1) fu (v4, mo)
noncomputable def f_X12_lookAt_j299 (n : Nat) (mo : MV) (s0 : Int32) : Option (MV) :=
  bl (setS mo 3 s0) fun mo_20 =>
  some mo_20
noncomputable def f_X12_lookAt_j295 (n : Nat) (mo : MV) : Option (MV) :=
  f_X12_lookAt_j299 n mo (mo.1 3)
noncomputable def f_X12_lookAt_j274 (n : Nat) (mo : MV) : Option (MV) :=
  bc ((mo.1 3) = 2) (bc ((mo.1 2) ≤ 2) (f_X12_lookAt_j295 n mo)
  (f_X12_lookAt_j299 n mo 4))
  (f_X12_lookAt_j295 n mo)
noncomputable def f_X12_lookAt_j215 (n : Nat) (mo : MV) : Option (MV) :=
  bd (f_X12_lookAt_l218 n n mo 0) fun mo_23 =>
  f_X12_lookAt_j274 n mo_23
noncomputable def f_X12_lookAt_j135 (n : Nat) (mo : MV) (s0 : Int32) : Option (MV) :=
  bd (f_X12_lookAt_l136 n n mo s0) fun mo_25 =>
  f_X12_lookAt_j215 n mo_25
noncomputable def f_X12_lookAt_j114 (n : Nat) (mo : MV) (s0 : Int32) : Option (MV) :=
  bl (setS mo 3 s0) fun mo_27 =>
  bl (setS mo_27 2 1) fun mo_28 =>
  bc (3 ≤ (mo_28.1 3)) (f_X12_lookAt_j135 n mo_28 0)
  (f_X12_lookAt_j135 n mo_28 1)
noncomputable def f_X12_lookAt_j43 (n : Nat) (mo : MV) : Option (MV) :=
  bl (setS mo 2 0) fun mo_30 =>
  bl (setS mo_30 3 0) fun mo_31 =>
  bl (setS mo_31 4 0) fun mo_32 =>
  bc ((mo_32.1 1) = (mo_32.1 0)) (some mo_32)
  (gd (vp_in (mo_32.1 1) 150) <|
  bl (mo_32.2.1 11 (ix (mo_32.1 1))) fun v2_35 =>
  bd (f_X12_isSmall n v2_35) fun r_36 =>
  bc (r_36 = 0) (bd (f_X12_isFigure n v2_35) fun r_38 =>
  bc (r_38 = 0) (bc (v2_35 = 59) (f_X12_lookAt_j114 n mo_32 3)
  (f_X12_lookAt_j114 n mo_32 4))
  (f_X12_lookAt_j114 n mo_32 2))
  (f_X12_lookAt_j114 n mo_32 1))
noncomputable def f_X12_lookAt (n : Nat) (mo : MV) (v1 : Int32) : Option (MV) :=
  bl (setS mo 1 v1) fun mo_41 =>
  bd (f_X12_lookAt_l5 n n mo_41) fun mo_42 =>
  f_X12_lookAt_j43 n mo_42
set_option maxHeartbeats 4000000 in
set_option maxRecDepth 100000 in
theorem c_X12_lookAt (l : Launch) (G : va_G) (ct : Nat → ClassId) (sk sv : Nat → Nat) (a : Nat → Nat) (n : Nat) (mo : MV) (v1 : Int32) {mo' : MV} (hf : f_X12_lookAt n mo v1 = some mo') : Ctr (l, G, ct, sk, sv) mX12_lookAt 2 45 [.ref (a 0), .int v1] (wl [lfM ct a mo]) (wl [lfM ct a mo']) (none) := by
  refine ctr_intro (by decide) (Nat.le_of_ble_eq_true rfl) ?_
  intro p e s m args below meth c A C hP hD hS hA ls hl
  obtain ⟨hx, hb, hml, hown, hts, hr, hlocks, hK, hnm, hZ⟩ := C
  have hb : c.code = cX12_lookAt := hb
  have hml : c.maxLocals = 5 := hml
  have hown : s.vm.findClass "SignedOutsideModel" = some m.cls := hown
  have hr : meth.sig.returnType = none := hr
  have hP : va_P G classes (wl [lfM ct a mo]) s.heap := hP
  have hD : va_D A (wl [lfM ct a mo]) := hD
  have hK : va_K G classes (TYS ct) s := hK
  have hl : lv_has ls 5 [(0, .ref (a 0)), (1, .int v1)] := hl
  have L5 : ∀ (fu : Nat) (mo : MV) (ex : MV) (H : Heap) (locs : List Loc) (ls : Array Slot), va_P G classes (wl [lfM ct a mo]) H → va_D A (wl [lfM ct a mo]) → va_S A s.heap H locs → lv_has ls 5 [(0, .ref (a 0))] → f_X12_lookAt_l5 fu n mo = some ex → (∀ (x : MV), ex = x → ∀ (H : Heap) (locs : List Loc) (ls : Array Slot), va_P G classes (wl [lfM ct a x]) H → va_D A (wl [lfM ct a x]) → va_S A s.heap H locs → lv_has ls 5 [(0, .ref (a 0))] → WG l G ct sk sv p e (RM 2 45 0 0) s m args below meth c A (Eq2 (none) (wl [lfM ct a mo'])) H locs (F0 m 43 ls [])) → WG l G ct sk sv p e (RM 2 45 0 0) s m args below meth c A (Eq2 (none) (wl [lfM ct a mo'])) H locs (F0 m 5 ls []) := by
    intro fu
    induction fu with
    | zero =>
      intro mo ex H locs ls hP hD hS hl hf
      exact absurd hf (by unfold f_X12_lookAt_l5 lp; exact fun h => by cases h)
    | succ fu ih =>
      intro mo ex H locs ls hP hD hS hl hf hE
      unfold f_X12_lookAt_l5 at hf
      obtain ⟨q, hf, hor⟩ := lp_e hf
      replace hf : f_X12_lookAt_b5 n mo = some q := hf
      unfold f_X12_lookAt_b5 at hf
      refine lv_aload_n hx hb dX12_lookAt_5 rfl (lv_at hl 0 rfl) ?_
      refine va_get (D := G) (C := RX12) (T := TX12) (N := 21) (v := .int (mo.1 1)) hx hb hts iu_X12 hown hK hP 0 rfl rfl 15 (by decide) (hts _ kw902) (fun _ h9 => h9) rfl dX12_lookAt_6 ?_
      refine lv_aload_n hx hb dX12_lookAt_9 rfl (lv_at hl 0 rfl) ?_
      refine va_get (D := G) (C := RX12) (T := TX12) (N := 21) (v := .int (mo.1 0)) hx hb hts iu_X12 hown hK hP 0 rfl rfl 14 (by decide) (hts _ kw901) (fun _ h9 => h9) rfl dX12_lookAt_10 ?_
      refine lv_icmp_ge (tgt := 43) hx hb dX12_lookAt_13 (by decide) (fun c_1 => ?_) (fun c_1 => ?_)
      · replace hf := bc_t hf c_1
        exact hE mo (lp_inr hor hf).symm _ _ _ hP hD hS hl
      · replace hf := bc_f hf c_1
        refine lv_aload_n hx hb dX12_lookAt_16 rfl (lv_at hl 0 rfl) ?_
        refine va_get (D := G) (C := RX12) (T := TX12) (N := 21) (v := .ref (a 12)) hx hb hts iu_X12 hown hK hP 0 rfl rfl 13 (by decide) (hts _ kw900) (fun _ h9 => h9) rfl dX12_lookAt_17 ?_
        refine lv_aload_n hx hb dX12_lookAt_20 rfl (lv_at hl 0 rfl) ?_
        refine va_get (D := G) (C := RX12) (T := TX12) (N := 21) (v := .int (mo.1 1)) hx hb hts iu_X12 hown hK hP 0 rfl rfl 15 (by decide) (hts _ kw902) (fun _ h9 => h9) rfl dX12_lookAt_21 ?_
        obtain ⟨g_2, hf⟩ := gd_e hf
        refine va_iald (f := mo.2.1 11) hx hb hK hP 12 0 rfl rfl g_2 dX12_lookAt_24 ?_
        refine lv_bipush (v := 32) hx hb dX12_lookAt_25 (by decide) ?_
        refine lv_icmp_ne (tgt := 43) hx hb dX12_lookAt_27 (by decide) (fun c_3 => ?_) (fun c_3 => ?_)
        · replace hf := bc_f hf c_3
          exact hE mo (lp_inr hor hf).symm _ _ _ hP hD hS hl
        · replace hf := bc_t hf c_3
          refine lv_aload_n hx hb dX12_lookAt_30 rfl (lv_at hl 0 rfl) ?_
          refine lv_dup hx hb dX12_lookAt_31 rfl ?_
          refine va_get (D := G) (C := RX12) (T := TX12) (N := 21) (v := .int (mo.1 1)) hx hb hts iu_X12 hown hK hP 0 rfl rfl 15 (by decide) (hts _ kw902) (fun _ h9 => h9) rfl dX12_lookAt_32 ?_
          refine lv_iconst (v := 1) hx hb dX12_lookAt_35 (by decide) ?_
          refine lv_iadd hx hb dX12_lookAt_36 ?_
          obtain ⟨mo_4, emo_4, hf⟩ := bl_e hf
          refine va_put (D := G) (C := RX12) (T := TX12) (N := 21) (ty := .int) hx hb hts iu_X12 tyX12 tyX12_ok nmX12 hown hK hP hD hS 0 rfl rfl 15 (by decide) (hts _ kw902) (fun _ h9 => h9) rfl (by decide +kernel) rfl rfl (Nat.le_of_ble_eq_true rfl) dX12_lookAt_37 (fun H locs hP hD hS => ?_)
          have hP : va_P G classes (wl [lfM ct a mo_4]) H := by rw [← emo_4]; exact hP
          have hD : va_D A (wl [lfM ct a mo_4]) := by rw [← emo_4]; exact hD
          refine lv_goto (tgt := 5) hx hb dX12_lookAt_40 (by decide) ?_
          exact ih mo_4 ex _ _ _ hP hD hS hl (lp_inl hor hf) hE
  have L136 : ∀ (fu : Nat) (mo : MV) (v3 : Int32) (ex : MV) (H : Heap) (locs : List Loc) (ls : Array Slot), va_P G classes (wl [lfM ct a mo]) H → va_D A (wl [lfM ct a mo]) → va_S A s.heap H locs → lv_has ls 5 [(3, .int v3), (0, .ref (a 0))] → f_X12_lookAt_l136 fu n mo v3 = some ex → (∀ (x : MV), ex = x → ∀ (H : Heap) (locs : List Loc) (ls : Array Slot), va_P G classes (wl [lfM ct a x]) H → va_D A (wl [lfM ct a x]) → va_S A s.heap H locs → lv_has ls 5 [(0, .ref (a 0))] → WG l G ct sk sv p e (RM 2 45 0 0) s m args below meth c A (Eq2 (none) (wl [lfM ct a mo'])) H locs (F0 m 215 ls [])) → WG l G ct sk sv p e (RM 2 45 0 0) s m args below meth c A (Eq2 (none) (wl [lfM ct a mo'])) H locs (F0 m 136 ls []) := by
    intro fu
    induction fu with
    | zero =>
      intro mo v3 ex H locs ls hP hD hS hl hf
      exact absurd hf (by unfold f_X12_lookAt_l136 lp; exact fun h => by cases h)
    | succ fu ih =>
      intro mo v3 ex H locs ls hP hD hS hl hf hE
      unfold f_X12_lookAt_l136 at hf
      obtain ⟨q, hf, hor⟩ := lp_e hf
      have J208 : ∀ (mo : MV) (v3 : Int32) (s0 : Int32) (s1 : Int32) (H : Heap) (locs : List Loc) (ls : Array Slot), va_P G classes (wl [lfM ct a mo]) H → va_D A (wl [lfM ct a mo]) → va_S A s.heap H locs → lv_has ls 5 [(3, .int v3), (0, .ref (a 0))] → f_X12_lookAt_j208 n mo v3 s0 s1 = some q → WG l G ct sk sv p e (RM 2 45 0 0) s m args below meth c A (Eq2 (none) (wl [lfM ct a mo'])) H locs (F0 m 208 ls [.int s0, .int s1, .ref (a 0)]) := by
        intro mo v3 s0 s1 H locs ls hP hD hS hl hf
        unfold f_X12_lookAt_j208 at hf
        refine lv_iadd hx hb dX12_lookAt_208 ?_
        obtain ⟨mo_5, emo_5, hf⟩ := bl_e hf
        refine va_put (D := G) (C := RX12) (T := TX12) (N := 21) (ty := .int) hx hb hts iu_X12 tyX12 tyX12_ok nmX12 hown hK hP hD hS 0 rfl rfl 16 (by decide) (hts _ kw903) (fun _ h9 => h9) rfl (by decide +kernel) rfl rfl (Nat.le_of_ble_eq_true rfl) dX12_lookAt_209 (fun H locs hP hD hS => ?_)
        have hP : va_P G classes (wl [lfM ct a mo_5]) H := by rw [← emo_5]; exact hP
        have hD : va_D A (wl [lfM ct a mo_5]) := by rw [← emo_5]; exact hD
        refine lv_goto (tgt := 136) hx hb dX12_lookAt_212 (by decide) ?_
        exact ih mo_5 v3 ex _ _ _ hP hD hS hl (lp_inl hor hf) hE
      have J193 : ∀ (mo : MV) (s0 : Int32) (H : Heap) (locs : List Loc) (ls : Array Slot), va_P G classes (wl [lfM ct a mo]) H → va_D A (wl [lfM ct a mo]) → va_S A s.heap H locs → lv_has ls 5 [(0, .ref (a 0))] → f_X12_lookAt_j193 n mo s0 = some q → WG l G ct sk sv p e (RM 2 45 0 0) s m args below meth c A (Eq2 (none) (wl [lfM ct a mo'])) H locs (F0 m 193 ls [.int s0]) := by
        intro mo s0 H locs ls hP hD hS hl hf
        unfold f_X12_lookAt_j193 at hf
        refine lv_istore_n (lv' := [(3, .int s0), (0, .ref (a 0))]) hx hb dX12_lookAt_193 rfl hl (by decide) rfl (fun ls hl => ?_)
        refine lv_aload_n hx hb dX12_lookAt_194 rfl (lv_at hl 1 rfl) ?_
        refine lv_dup hx hb dX12_lookAt_195 rfl ?_
        refine va_get (D := G) (C := RX12) (T := TX12) (N := 21) (v := .int (mo.1 2)) hx hb hts iu_X12 hown hK hP 0 rfl rfl 16 (by decide) (hts _ kw903) (fun _ h9 => h9) rfl dX12_lookAt_196 ?_
        refine lv_iload_n hx hb dX12_lookAt_199 rfl (lv_at hl 0 rfl) ?_
        refine lv_if_eq (tgt := 207) hx hb dX12_lookAt_200 (by decide) (fun c_6 => ?_) (fun c_6 => ?_)
        · replace hf := bc_t hf c_6
          refine lv_iconst (v := 0) hx hb dX12_lookAt_207 (by decide) ?_
          exact J208 mo s0 0 (mo.1 2) _ _ _ hP hD hS hl hf
        · replace hf := bc_f hf c_6
          refine lv_iconst (v := 1) hx hb dX12_lookAt_203 (by decide) ?_
          refine lv_goto (tgt := 208) hx hb dX12_lookAt_204 (by decide) ?_
          exact J208 mo s0 1 (mo.1 2) _ _ _ hP hD hS hl hf
      replace hf : f_X12_lookAt_b136 n mo v3 = some q := hf
      unfold f_X12_lookAt_b136 at hf
      refine lv_iload_n hx hb dX12_lookAt_136 rfl (lv_at hl 0 rfl) ?_
      refine lv_if_eq (tgt := 215) hx hb dX12_lookAt_137 (by decide) (fun c_7 => ?_) (fun c_7 => ?_)
      · replace hf := bc_t hf c_7
        exact hE mo (lp_inr hor hf).symm _ _ _ hP hD hS (lv_sub hl [1] rfl)
      · replace hf := bc_f hf c_7
        refine lv_aload_n hx hb dX12_lookAt_140 rfl (lv_at hl 1 rfl) ?_
        refine va_get (D := G) (C := RX12) (T := TX12) (N := 21) (v := .int (mo.1 1)) hx hb hts iu_X12 hown hK hP 0 rfl rfl 15 (by decide) (hts _ kw902) (fun _ h9 => h9) rfl dX12_lookAt_141 ?_
        refine lv_aload_n hx hb dX12_lookAt_144 rfl (lv_at hl 1 rfl) ?_
        refine va_get (D := G) (C := RX12) (T := TX12) (N := 21) (v := .int (mo.1 2)) hx hb hts iu_X12 hown hK hP 0 rfl rfl 16 (by decide) (hts _ kw903) (fun _ h9 => h9) rfl dX12_lookAt_145 ?_
        refine lv_iadd hx hb dX12_lookAt_148 ?_
        refine lv_aload_n hx hb dX12_lookAt_149 rfl (lv_at hl 1 rfl) ?_
        refine va_get (D := G) (C := RX12) (T := TX12) (N := 21) (v := .int (mo.1 0)) hx hb hts iu_X12 hown hK hP 0 rfl rfl 14 (by decide) (hts _ kw901) (fun _ h9 => h9) rfl dX12_lookAt_150 ?_
        refine lv_icmp_ge (tgt := 215) hx hb dX12_lookAt_153 (by decide) (fun c_8 => ?_) (fun c_8 => ?_)
        · replace hf := bc_t hf c_8
          exact hE mo (lp_inr hor hf).symm _ _ _ hP hD hS (lv_sub hl [1] rfl)
        · replace hf := bc_f hf c_8
          refine lv_aload_n hx hb dX12_lookAt_156 rfl (lv_at hl 1 rfl) ?_
          refine va_get (D := G) (C := RX12) (T := TX12) (N := 21) (v := .ref (a 12)) hx hb hts iu_X12 hown hK hP 0 rfl rfl 13 (by decide) (hts _ kw900) (fun _ h9 => h9) rfl dX12_lookAt_157 ?_
          refine lv_aload_n hx hb dX12_lookAt_160 rfl (lv_at hl 1 rfl) ?_
          refine va_get (D := G) (C := RX12) (T := TX12) (N := 21) (v := .int (mo.1 1)) hx hb hts iu_X12 hown hK hP 0 rfl rfl 15 (by decide) (hts _ kw902) (fun _ h9 => h9) rfl dX12_lookAt_161 ?_
          refine lv_aload_n hx hb dX12_lookAt_164 rfl (lv_at hl 1 rfl) ?_
          refine va_get (D := G) (C := RX12) (T := TX12) (N := 21) (v := .int (mo.1 2)) hx hb hts iu_X12 hown hK hP 0 rfl rfl 16 (by decide) (hts _ kw903) (fun _ h9 => h9) rfl dX12_lookAt_165 ?_
          refine lv_iadd hx hb dX12_lookAt_168 ?_
          obtain ⟨g_9, hf⟩ := gd_e hf
          refine va_iald (f := mo.2.1 11) hx hb hK hP 12 0 rfl rfl g_9 dX12_lookAt_169 ?_
          refine lv_topi (fun v4_10 ev4_10 => ?_)
          replace hf := bl_i hf ev4_10
          refine lv_istore (lv' := [(4, .int v4_10), (3, .int v3), (0, .ref (a 0))]) hx hb dX12_lookAt_170 hl (by decide) rfl (fun ls hl => ?_)
          refine lv_aload_n hx hb dX12_lookAt_172 rfl (lv_at hl 2 rfl) ?_
          refine va_get (D := G) (C := RX12) (T := TX12) (N := 21) (v := .int (mo.1 3)) hx hb hts iu_X12 hown hK hP 0 rfl rfl 17 (by decide) (hts _ kw904) (fun _ h9 => h9) rfl dX12_lookAt_173 ?_
          refine lv_iconst (v := 1) hx hb dX12_lookAt_176 (by decide) ?_
          refine lv_icmp_ne (tgt := 188) hx hb dX12_lookAt_177 (by decide) (fun c_11 => ?_) (fun c_11 => ?_)
          · replace hf := bc_f hf c_11
            refine lv_iload hx hb dX12_lookAt_188 (lv_at hl 0 rfl) ?_
            obtain ⟨r_12, hc12, hf⟩ := bd_e hf
            refine call_S (As := [.int v4_10]) (rest := []) hx hb hml hown hts hK hP hD hS hA hZ lkX12_240 (Ctr.upL (c_X12_isFigure l G ct sk sv  n v4_10 hc12) [lfM ct a mo] [lfM ct a mo] [lfM ct a mo] [0] 1 (by decide) rfl rfl rfl rfl) ⟨Nat.le_of_ble_eq_true rfl, Nat.le_of_ble_eq_true rfl⟩ rfl hl.1 rfl (Nat.le_of_ble_eq_true rfl) dX12_lookAt_190 ⟨Nat.le_of_ble_eq_true rfl, Nat.le_of_ble_eq_true rfl⟩ (fun r9 w9 H locs hB hP hD hS => ?_)
            obtain ⟨rfl, rfl⟩ := hB
            refine WG_eq (g2 := F0 m 193 ls [.int r_12]) rfl ?_
            exact J193 mo r_12 _ _ _ hP hD hS (lv_sub hl [2] rfl) hf
          · replace hf := bc_t hf c_11
            refine lv_iload hx hb dX12_lookAt_180 (lv_at hl 0 rfl) ?_
            obtain ⟨r_13, hc13, hf⟩ := bd_e hf
            refine call_S (As := [.int v4_10]) (rest := []) hx hb hml hown hts hK hP hD hS hA hZ lkX12_237 (Ctr.upL (c_X12_isSmall l G ct sk sv  n v4_10 hc13) [lfM ct a mo] [lfM ct a mo] [lfM ct a mo] [0] 1 (by decide) rfl rfl rfl rfl) ⟨Nat.le_of_ble_eq_true rfl, Nat.le_of_ble_eq_true rfl⟩ rfl hl.1 rfl (Nat.le_of_ble_eq_true rfl) dX12_lookAt_182 ⟨Nat.le_of_ble_eq_true rfl, Nat.le_of_ble_eq_true rfl⟩ (fun r9 w9 H locs hB hP hD hS => ?_)
            obtain ⟨rfl, rfl⟩ := hB
            refine WG_eq (g2 := F0 m 185 ls [.int r_13]) rfl ?_
            refine lv_goto (tgt := 193) hx hb dX12_lookAt_185 (by decide) ?_
            exact J193 mo r_13 _ _ _ hP hD hS (lv_sub hl [2] rfl) hf
  have L218 : ∀ (fu : Nat) (mo : MV) (v4 : Int32) (ex : MV) (H : Heap) (locs : List Loc) (ls : Array Slot), va_P G classes (wl [lfM ct a mo]) H → va_D A (wl [lfM ct a mo]) → va_S A s.heap H locs → lv_has ls 5 [(4, .int v4), (0, .ref (a 0))] → f_X12_lookAt_l218 fu n mo v4 = some ex → (∀ (x : MV), ex = x → ∀ (H : Heap) (locs : List Loc) (ls : Array Slot), va_P G classes (wl [lfM ct a x]) H → va_D A (wl [lfM ct a x]) → va_S A s.heap H locs → lv_has ls 5 [(0, .ref (a 0))] → WG l G ct sk sv p e (RM 2 45 0 0) s m args below meth c A (Eq2 (none) (wl [lfM ct a mo'])) H locs (F0 m 274 ls [])) → WG l G ct sk sv p e (RM 2 45 0 0) s m args below meth c A (Eq2 (none) (wl [lfM ct a mo'])) H locs (F0 m 218 ls []) := by
    intro fu
    induction fu with
    | zero =>
      intro mo v4 ex H locs ls hP hD hS hl hf
      exact absurd hf (by unfold f_X12_lookAt_l218 lp; exact fun h => by cases h)
    | succ fu ih =>
      intro mo v4 ex H locs ls hP hD hS hl hf hE
      unfold f_X12_lookAt_l218 at hf
      obtain ⟨q, hf, hor⟩ := lp_e hf
      replace hf : f_X12_lookAt_b218 n mo v4 = some q := hf
      unfold f_X12_lookAt_b218 at hf
      refine lv_iload hx hb dX12_lookAt_218 (lv_at hl 0 rfl) ?_
      refine lv_aload_n hx hb dX12_lookAt_220 rfl (lv_at hl 1 rfl) ?_
      refine va_get (D := G) (C := RX12) (T := TX12) (N := 21) (v := .int (mo.1 2)) hx hb hts iu_X12 hown hK hP 0 rfl rfl 16 (by decide) (hts _ kw903) (fun _ h9 => h9) rfl dX12_lookAt_221 ?_
      refine lv_icmp_ge (tgt := 274) hx hb dX12_lookAt_224 (by decide) (fun c_14 => ?_) (fun c_14 => ?_)
      · replace hf := bc_t hf c_14
        exact hE mo (lp_inr hor hf).symm _ _ _ hP hD hS (lv_sub hl [1] rfl)
      · replace hf := bc_f hf c_14
        refine lv_iload hx hb dX12_lookAt_227 (lv_at hl 0 rfl) ?_
        refine lv_iconst (v := 2) hx hb dX12_lookAt_229 (by decide) ?_
        refine lv_icmp_ge (tgt := 274) hx hb dX12_lookAt_230 (by decide) (fun c_15 => ?_) (fun c_15 => ?_)
        · replace hf := bc_t hf c_15
          exact hE mo (lp_inr hor hf).symm _ _ _ hP hD hS (lv_sub hl [1] rfl)
        · replace hf := bc_f hf c_15
          refine lv_aload_n hx hb dX12_lookAt_233 rfl (lv_at hl 1 rfl) ?_
          refine va_get (D := G) (C := RX12) (T := TX12) (N := 21) (v := .int (mo.1 3)) hx hb hts iu_X12 hown hK hP 0 rfl rfl 17 (by decide) (hts _ kw904) (fun _ h9 => h9) rfl dX12_lookAt_234 ?_
          refine lv_iconst (v := 2) hx hb dX12_lookAt_237 (by decide) ?_
          refine lv_icmp_ne (tgt := 274) hx hb dX12_lookAt_238 (by decide) (fun c_16 => ?_) (fun c_16 => ?_)
          · replace hf := bc_f hf c_16
            exact hE mo (lp_inr hor hf).symm _ _ _ hP hD hS (lv_sub hl [1] rfl)
          · replace hf := bc_t hf c_16
            refine lv_aload_n hx hb dX12_lookAt_241 rfl (lv_at hl 1 rfl) ?_
            refine lv_bipush (v := 10) hx hb dX12_lookAt_242 (by decide) ?_
            refine lv_aload_n hx hb dX12_lookAt_244 rfl (lv_at hl 1 rfl) ?_
            refine va_get (D := G) (C := RX12) (T := TX12) (N := 21) (v := .int (mo.1 4)) hx hb hts iu_X12 hown hK hP 0 rfl rfl 18 (by decide) (hts _ kw905) (fun _ h9 => h9) rfl dX12_lookAt_245 ?_
            refine lv_imul hx hb dX12_lookAt_248 ?_
            refine lv_aload_n hx hb dX12_lookAt_249 rfl (lv_at hl 1 rfl) ?_
            refine va_get (D := G) (C := RX12) (T := TX12) (N := 21) (v := .ref (a 12)) hx hb hts iu_X12 hown hK hP 0 rfl rfl 13 (by decide) (hts _ kw900) (fun _ h9 => h9) rfl dX12_lookAt_250 ?_
            refine lv_aload_n hx hb dX12_lookAt_253 rfl (lv_at hl 1 rfl) ?_
            refine va_get (D := G) (C := RX12) (T := TX12) (N := 21) (v := .int (mo.1 1)) hx hb hts iu_X12 hown hK hP 0 rfl rfl 15 (by decide) (hts _ kw902) (fun _ h9 => h9) rfl dX12_lookAt_254 ?_
            refine lv_iload hx hb dX12_lookAt_257 (lv_at hl 0 rfl) ?_
            refine lv_iadd hx hb dX12_lookAt_259 ?_
            obtain ⟨g_17, hf⟩ := gd_e hf
            refine va_iald (f := mo.2.1 11) hx hb hK hP 12 0 rfl rfl g_17 dX12_lookAt_260 ?_
            refine lv_iadd hx hb dX12_lookAt_261 ?_
            refine lv_bipush (v := 48) hx hb dX12_lookAt_262 (by decide) ?_
            refine lv_isub hx hb dX12_lookAt_264 ?_
            obtain ⟨mo_18, emo_18, hf⟩ := bl_e hf
            refine va_put (D := G) (C := RX12) (T := TX12) (N := 21) (ty := .int) hx hb hts iu_X12 tyX12 tyX12_ok nmX12 hown hK hP hD hS 0 rfl rfl 18 (by decide) (hts _ kw905) (fun _ h9 => h9) rfl (by decide +kernel) rfl rfl (Nat.le_of_ble_eq_true rfl) dX12_lookAt_265 (fun H locs hP hD hS => ?_)
            have hP : va_P G classes (wl [lfM ct a mo_18]) H := by rw [← emo_18]; exact hP
            have hD : va_D A (wl [lfM ct a mo_18]) := by rw [← emo_18]; exact hD
            obtain ⟨v4_19, ev4_19, hf⟩ := bl_e hf
            refine lv_iinc (v := v4_19) (lv' := [(4, .int v4_19), (0, .ref (a 0))]) hx hb dX12_lookAt_268 hl (k := 0) rfl ev4_19 (by decide) rfl (fun ls hl => ?_)
            refine lv_goto (tgt := 218) hx hb dX12_lookAt_271 (by decide) ?_
            exact ih mo_18 v4_19 ex _ _ _ hP hD hS hl (lp_inl hor hf) hE
  have J299 : ∀ (mo : MV) (s0 : Int32) (H : Heap) (locs : List Loc) (ls : Array Slot), va_P G classes (wl [lfM ct a mo]) H → va_D A (wl [lfM ct a mo]) → va_S A s.heap H locs → lv_has ls 5 [] → f_X12_lookAt_j299 n mo s0 = some mo' → WG l G ct sk sv p e (RM 2 45 0 0) s m args below meth c A (Eq2 (none) (wl [lfM ct a mo'])) H locs (F0 m 299 ls [.int s0, .ref (a 0)]) := by
    intro mo s0 H locs ls hP hD hS hl hf
    unfold f_X12_lookAt_j299 at hf
    obtain ⟨mo_20, emo_20, hf⟩ := bl_e hf
    refine va_put (D := G) (C := RX12) (T := TX12) (N := 21) (ty := .int) hx hb hts iu_X12 tyX12 tyX12_ok nmX12 hown hK hP hD hS 0 rfl rfl 17 (by decide) (hts _ kw904) (fun _ h9 => h9) rfl (by decide +kernel) rfl rfl (Nat.le_of_ble_eq_true rfl) dX12_lookAt_299 (fun H locs hP hD hS => ?_)
    have hP : va_P G classes (wl [lfM ct a mo_20]) H := by rw [← emo_20]; exact hP
    have hD : va_D A (wl [lfM ct a mo_20]) := by rw [← emo_20]; exact hD
    have e1 := Option.some.inj hf
    exact end_v (w' := (wl [lfM ct a mo_20])) hx hb hr hlocks hK hP hD hS dX12_lookAt_302  ⟨rfl, by rw [← e1]⟩
  have J295 : ∀ (mo : MV) (H : Heap) (locs : List Loc) (ls : Array Slot), va_P G classes (wl [lfM ct a mo]) H → va_D A (wl [lfM ct a mo]) → va_S A s.heap H locs → lv_has ls 5 [(0, .ref (a 0))] → f_X12_lookAt_j295 n mo = some mo' → WG l G ct sk sv p e (RM 2 45 0 0) s m args below meth c A (Eq2 (none) (wl [lfM ct a mo'])) H locs (F0 m 295 ls [.ref (a 0)]) := by
    intro mo H locs ls hP hD hS hl hf
    unfold f_X12_lookAt_j295 at hf
    refine lv_aload_n hx hb dX12_lookAt_295 rfl (lv_at hl 0 rfl) ?_
    refine va_get (D := G) (C := RX12) (T := TX12) (N := 21) (v := .int (mo.1 3)) hx hb hts iu_X12 hown hK hP 0 rfl rfl 17 (by decide) (hts _ kw904) (fun _ h9 => h9) rfl dX12_lookAt_296 ?_
    exact J299 mo (mo.1 3) _ _ _ hP hD hS (lv_sub hl [] rfl) hf
  have J274 : ∀ (mo : MV) (H : Heap) (locs : List Loc) (ls : Array Slot), va_P G classes (wl [lfM ct a mo]) H → va_D A (wl [lfM ct a mo]) → va_S A s.heap H locs → lv_has ls 5 [(0, .ref (a 0))] → f_X12_lookAt_j274 n mo = some mo' → WG l G ct sk sv p e (RM 2 45 0 0) s m args below meth c A (Eq2 (none) (wl [lfM ct a mo'])) H locs (F0 m 274 ls []) := by
    intro mo H locs ls hP hD hS hl hf
    unfold f_X12_lookAt_j274 at hf
    refine lv_aload_n hx hb dX12_lookAt_274 rfl (lv_at hl 0 rfl) ?_
    refine lv_aload_n hx hb dX12_lookAt_275 rfl (lv_at hl 0 rfl) ?_
    refine va_get (D := G) (C := RX12) (T := TX12) (N := 21) (v := .int (mo.1 3)) hx hb hts iu_X12 hown hK hP 0 rfl rfl 17 (by decide) (hts _ kw904) (fun _ h9 => h9) rfl dX12_lookAt_276 ?_
    refine lv_iconst (v := 2) hx hb dX12_lookAt_279 (by decide) ?_
    refine lv_icmp_ne (tgt := 295) hx hb dX12_lookAt_280 (by decide) (fun c_21 => ?_) (fun c_21 => ?_)
    · replace hf := bc_f hf c_21
      exact J295 mo _ _ _ hP hD hS hl hf
    · replace hf := bc_t hf c_21
      refine lv_aload_n hx hb dX12_lookAt_283 rfl (lv_at hl 0 rfl) ?_
      refine va_get (D := G) (C := RX12) (T := TX12) (N := 21) (v := .int (mo.1 2)) hx hb hts iu_X12 hown hK hP 0 rfl rfl 16 (by decide) (hts _ kw903) (fun _ h9 => h9) rfl dX12_lookAt_284 ?_
      refine lv_iconst (v := 2) hx hb dX12_lookAt_287 (by decide) ?_
      refine lv_icmp_le (tgt := 295) hx hb dX12_lookAt_288 (by decide) (fun c_22 => ?_) (fun c_22 => ?_)
      · replace hf := bc_t hf c_22
        exact J295 mo _ _ _ hP hD hS hl hf
      · replace hf := bc_f hf c_22
        refine lv_iconst (v := 4) hx hb dX12_lookAt_291 (by decide) ?_
        refine lv_goto (tgt := 299) hx hb dX12_lookAt_292 (by decide) ?_
        exact J299 mo 4 _ _ _ hP hD hS (lv_sub hl [] rfl) hf
  have J215 : ∀ (mo : MV) (H : Heap) (locs : List Loc) (ls : Array Slot), va_P G classes (wl [lfM ct a mo]) H → va_D A (wl [lfM ct a mo]) → va_S A s.heap H locs → lv_has ls 5 [(0, .ref (a 0))] → f_X12_lookAt_j215 n mo = some mo' → WG l G ct sk sv p e (RM 2 45 0 0) s m args below meth c A (Eq2 (none) (wl [lfM ct a mo'])) H locs (F0 m 215 ls []) := by
    intro mo H locs ls hP hD hS hl hf
    unfold f_X12_lookAt_j215 at hf
    refine lv_iconst (v := 0) hx hb dX12_lookAt_215 (by decide) ?_
    refine lv_istore (lv' := [(4, .int 0), (0, .ref (a 0))]) hx hb dX12_lookAt_216 hl (by decide) rfl (fun ls hl => ?_)
    obtain ⟨mo_23, hx_24, hf⟩ := bd_e hf
    refine L218 n mo 0 mo_23 _ _ _ hP hD hS hl hx_24 ?_
    intro x9 e9 H locs ls hP hD hS hl
    subst e9
    have hP : va_P G classes (wl [lfM ct a mo_23]) H := hP
    have hD : va_D A (wl [lfM ct a mo_23]) := hD
    have hl : lv_has ls 5 [(0, .ref (a 0))] := hl
    exact J274 mo_23 _ _ _ hP hD hS hl hf
  have J135 : ∀ (mo : MV) (s0 : Int32) (H : Heap) (locs : List Loc) (ls : Array Slot), va_P G classes (wl [lfM ct a mo]) H → va_D A (wl [lfM ct a mo]) → va_S A s.heap H locs → lv_has ls 5 [(0, .ref (a 0))] → f_X12_lookAt_j135 n mo s0 = some mo' → WG l G ct sk sv p e (RM 2 45 0 0) s m args below meth c A (Eq2 (none) (wl [lfM ct a mo'])) H locs (F0 m 135 ls [.int s0]) := by
    intro mo s0 H locs ls hP hD hS hl hf
    unfold f_X12_lookAt_j135 at hf
    refine lv_istore_n (lv' := [(3, .int s0), (0, .ref (a 0))]) hx hb dX12_lookAt_135 rfl hl (by decide) rfl (fun ls hl => ?_)
    obtain ⟨mo_25, hx_26, hf⟩ := bd_e hf
    refine L136 n mo s0 mo_25 _ _ _ hP hD hS hl hx_26 ?_
    intro x9 e9 H locs ls hP hD hS hl
    subst e9
    have hP : va_P G classes (wl [lfM ct a mo_25]) H := hP
    have hD : va_D A (wl [lfM ct a mo_25]) := hD
    have hl : lv_has ls 5 [(0, .ref (a 0))] := hl
    exact J215 mo_25 _ _ _ hP hD hS hl hf
  have J114 : ∀ (mo : MV) (s0 : Int32) (H : Heap) (locs : List Loc) (ls : Array Slot), va_P G classes (wl [lfM ct a mo]) H → va_D A (wl [lfM ct a mo]) → va_S A s.heap H locs → lv_has ls 5 [(0, .ref (a 0))] → f_X12_lookAt_j114 n mo s0 = some mo' → WG l G ct sk sv p e (RM 2 45 0 0) s m args below meth c A (Eq2 (none) (wl [lfM ct a mo'])) H locs (F0 m 114 ls [.int s0, .ref (a 0)]) := by
    intro mo s0 H locs ls hP hD hS hl hf
    unfold f_X12_lookAt_j114 at hf
    obtain ⟨mo_27, emo_27, hf⟩ := bl_e hf
    refine va_put (D := G) (C := RX12) (T := TX12) (N := 21) (ty := .int) hx hb hts iu_X12 tyX12 tyX12_ok nmX12 hown hK hP hD hS 0 rfl rfl 17 (by decide) (hts _ kw904) (fun _ h9 => h9) rfl (by decide +kernel) rfl rfl (Nat.le_of_ble_eq_true rfl) dX12_lookAt_114 (fun H locs hP hD hS => ?_)
    have hP : va_P G classes (wl [lfM ct a mo_27]) H := by rw [← emo_27]; exact hP
    have hD : va_D A (wl [lfM ct a mo_27]) := by rw [← emo_27]; exact hD
    refine lv_aload_n hx hb dX12_lookAt_117 rfl (lv_at hl 0 rfl) ?_
    refine lv_iconst (v := 1) hx hb dX12_lookAt_118 (by decide) ?_
    obtain ⟨mo_28, emo_28, hf⟩ := bl_e hf
    refine va_put (D := G) (C := RX12) (T := TX12) (N := 21) (ty := .int) hx hb hts iu_X12 tyX12 tyX12_ok nmX12 hown hK hP hD hS 0 rfl rfl 16 (by decide) (hts _ kw903) (fun _ h9 => h9) rfl (by decide +kernel) rfl rfl (Nat.le_of_ble_eq_true rfl) dX12_lookAt_119 (fun H locs hP hD hS => ?_)
    have hP : va_P G classes (wl [lfM ct a mo_28]) H := by rw [← emo_28]; exact hP
    have hD : va_D A (wl [lfM ct a mo_28]) := by rw [← emo_28]; exact hD
    refine lv_aload_n hx hb dX12_lookAt_122 rfl (lv_at hl 0 rfl) ?_
    refine va_get (D := G) (C := RX12) (T := TX12) (N := 21) (v := .int (mo_28.1 3)) hx hb hts iu_X12 hown hK hP 0 rfl rfl 17 (by decide) (hts _ kw904) (fun _ h9 => h9) rfl dX12_lookAt_123 ?_
    refine lv_iconst (v := 3) hx hb dX12_lookAt_126 (by decide) ?_
    refine lv_icmp_ge (tgt := 134) hx hb dX12_lookAt_127 (by decide) (fun c_29 => ?_) (fun c_29 => ?_)
    · replace hf := bc_t hf c_29
      refine lv_iconst (v := 0) hx hb dX12_lookAt_134 (by decide) ?_
      exact J135 mo_28 0 _ _ _ hP hD hS hl hf
    · replace hf := bc_f hf c_29
      refine lv_iconst (v := 1) hx hb dX12_lookAt_130 (by decide) ?_
      refine lv_goto (tgt := 135) hx hb dX12_lookAt_131 (by decide) ?_
      exact J135 mo_28 1 _ _ _ hP hD hS hl hf
  have J43 : ∀ (mo : MV) (H : Heap) (locs : List Loc) (ls : Array Slot), va_P G classes (wl [lfM ct a mo]) H → va_D A (wl [lfM ct a mo]) → va_S A s.heap H locs → lv_has ls 5 [(0, .ref (a 0))] → f_X12_lookAt_j43 n mo = some mo' → WG l G ct sk sv p e (RM 2 45 0 0) s m args below meth c A (Eq2 (none) (wl [lfM ct a mo'])) H locs (F0 m 43 ls []) := by
    intro mo H locs ls hP hD hS hl hf
    unfold f_X12_lookAt_j43 at hf
    refine lv_aload_n hx hb dX12_lookAt_43 rfl (lv_at hl 0 rfl) ?_
    refine lv_iconst (v := 0) hx hb dX12_lookAt_44 (by decide) ?_
    obtain ⟨mo_30, emo_30, hf⟩ := bl_e hf
    refine va_put (D := G) (C := RX12) (T := TX12) (N := 21) (ty := .int) hx hb hts iu_X12 tyX12 tyX12_ok nmX12 hown hK hP hD hS 0 rfl rfl 16 (by decide) (hts _ kw903) (fun _ h9 => h9) rfl (by decide +kernel) rfl rfl (Nat.le_of_ble_eq_true rfl) dX12_lookAt_45 (fun H locs hP hD hS => ?_)
    have hP : va_P G classes (wl [lfM ct a mo_30]) H := by rw [← emo_30]; exact hP
    have hD : va_D A (wl [lfM ct a mo_30]) := by rw [← emo_30]; exact hD
    refine lv_aload_n hx hb dX12_lookAt_48 rfl (lv_at hl 0 rfl) ?_
    refine lv_iconst (v := 0) hx hb dX12_lookAt_49 (by decide) ?_
    obtain ⟨mo_31, emo_31, hf⟩ := bl_e hf
    refine va_put (D := G) (C := RX12) (T := TX12) (N := 21) (ty := .int) hx hb hts iu_X12 tyX12 tyX12_ok nmX12 hown hK hP hD hS 0 rfl rfl 17 (by decide) (hts _ kw904) (fun _ h9 => h9) rfl (by decide +kernel) rfl rfl (Nat.le_of_ble_eq_true rfl) dX12_lookAt_50 (fun H locs hP hD hS => ?_)
    have hP : va_P G classes (wl [lfM ct a mo_31]) H := by rw [← emo_31]; exact hP
    have hD : va_D A (wl [lfM ct a mo_31]) := by rw [← emo_31]; exact hD
    refine lv_aload_n hx hb dX12_lookAt_53 rfl (lv_at hl 0 rfl) ?_
    refine lv_iconst (v := 0) hx hb dX12_lookAt_54 (by decide) ?_
    obtain ⟨mo_32, emo_32, hf⟩ := bl_e hf
    refine va_put (D := G) (C := RX12) (T := TX12) (N := 21) (ty := .int) hx hb hts iu_X12 tyX12 tyX12_ok nmX12 hown hK hP hD hS 0 rfl rfl 18 (by decide) (hts _ kw905) (fun _ h9 => h9) rfl (by decide +kernel) rfl rfl (Nat.le_of_ble_eq_true rfl) dX12_lookAt_55 (fun H locs hP hD hS => ?_)
    have hP : va_P G classes (wl [lfM ct a mo_32]) H := by rw [← emo_32]; exact hP
    have hD : va_D A (wl [lfM ct a mo_32]) := by rw [← emo_32]; exact hD
    refine lv_aload_n hx hb dX12_lookAt_58 rfl (lv_at hl 0 rfl) ?_
    refine va_get (D := G) (C := RX12) (T := TX12) (N := 21) (v := .int (mo_32.1 1)) hx hb hts iu_X12 hown hK hP 0 rfl rfl 15 (by decide) (hts _ kw902) (fun _ h9 => h9) rfl dX12_lookAt_59 ?_
    refine lv_aload_n hx hb dX12_lookAt_62 rfl (lv_at hl 0 rfl) ?_
    refine va_get (D := G) (C := RX12) (T := TX12) (N := 21) (v := .int (mo_32.1 0)) hx hb hts iu_X12 hown hK hP 0 rfl rfl 14 (by decide) (hts _ kw901) (fun _ h9 => h9) rfl dX12_lookAt_63 ?_
    refine lv_icmp_ne (tgt := 70) hx hb dX12_lookAt_66 (by decide) (fun c_33 => ?_) (fun c_33 => ?_)
    · replace hf := bc_f hf c_33
      refine lv_aload_n hx hb dX12_lookAt_70 rfl (lv_at hl 0 rfl) ?_
      refine va_get (D := G) (C := RX12) (T := TX12) (N := 21) (v := .ref (a 12)) hx hb hts iu_X12 hown hK hP 0 rfl rfl 13 (by decide) (hts _ kw900) (fun _ h9 => h9) rfl dX12_lookAt_71 ?_
      refine lv_aload_n hx hb dX12_lookAt_74 rfl (lv_at hl 0 rfl) ?_
      refine va_get (D := G) (C := RX12) (T := TX12) (N := 21) (v := .int (mo_32.1 1)) hx hb hts iu_X12 hown hK hP 0 rfl rfl 15 (by decide) (hts _ kw902) (fun _ h9 => h9) rfl dX12_lookAt_75 ?_
      obtain ⟨g_34, hf⟩ := gd_e hf
      refine va_iald (f := mo_32.2.1 11) hx hb hK hP 12 0 rfl rfl g_34 dX12_lookAt_78 ?_
      refine lv_topi (fun v2_35 ev2_35 => ?_)
      replace hf := bl_i hf ev2_35
      refine lv_istore_n (lv' := [(2, .int v2_35), (0, .ref (a 0))]) hx hb dX12_lookAt_79 rfl hl (by decide) rfl (fun ls hl => ?_)
      refine lv_aload_n hx hb dX12_lookAt_80 rfl (lv_at hl 1 rfl) ?_
      refine lv_iload_n hx hb dX12_lookAt_81 rfl (lv_at hl 0 rfl) ?_
      obtain ⟨r_36, hc36, hf⟩ := bd_e hf
      refine call_S (As := [.int v2_35]) (rest := [.ref (a 0)]) hx hb hml hown hts hK hP hD hS hA hZ lkX12_237 (Ctr.upL (c_X12_isSmall l G ct sk sv  n v2_35 hc36) [lfM ct a mo_32] [lfM ct a mo_32] [lfM ct a mo_32] [0] 1 (by decide) rfl rfl rfl rfl) ⟨Nat.le_of_ble_eq_true rfl, Nat.le_of_ble_eq_true rfl⟩ rfl hl.1 rfl (Nat.le_of_ble_eq_true rfl) dX12_lookAt_82 ⟨Nat.le_of_ble_eq_true rfl, Nat.le_of_ble_eq_true rfl⟩ (fun r9 w9 H locs hB hP hD hS => ?_)
      obtain ⟨rfl, rfl⟩ := hB
      refine WG_eq (g2 := F0 m 85 ls [.int r_36, .ref (a 0)]) rfl ?_
      refine lv_if_eq (tgt := 92) hx hb dX12_lookAt_85 (by decide) (fun c_37 => ?_) (fun c_37 => ?_)
      · replace hf := bc_t hf c_37
        refine lv_iload_n hx hb dX12_lookAt_92 rfl (lv_at hl 0 rfl) ?_
        obtain ⟨r_38, hc38, hf⟩ := bd_e hf
        refine call_S (As := [.int v2_35]) (rest := [.ref (a 0)]) hx hb hml hown hts hK hP hD hS hA hZ lkX12_240 (Ctr.upL (c_X12_isFigure l G ct sk sv  n v2_35 hc38) [lfM ct a mo_32] [lfM ct a mo_32] [lfM ct a mo_32] [0] 1 (by decide) rfl rfl rfl rfl) ⟨Nat.le_of_ble_eq_true rfl, Nat.le_of_ble_eq_true rfl⟩ rfl hl.1 rfl (Nat.le_of_ble_eq_true rfl) dX12_lookAt_93 ⟨Nat.le_of_ble_eq_true rfl, Nat.le_of_ble_eq_true rfl⟩ (fun r9 w9 H locs hB hP hD hS => ?_)
        obtain ⟨rfl, rfl⟩ := hB
        refine WG_eq (g2 := F0 m 96 ls [.int r_38, .ref (a 0)]) rfl ?_
        refine lv_if_eq (tgt := 103) hx hb dX12_lookAt_96 (by decide) (fun c_39 => ?_) (fun c_39 => ?_)
        · replace hf := bc_t hf c_39
          refine lv_iload_n hx hb dX12_lookAt_103 rfl (lv_at hl 0 rfl) ?_
          refine lv_bipush (v := 59) hx hb dX12_lookAt_104 (by decide) ?_
          refine lv_icmp_ne (tgt := 113) hx hb dX12_lookAt_106 (by decide) (fun c_40 => ?_) (fun c_40 => ?_)
          · replace hf := bc_f hf c_40
            refine lv_iconst (v := 4) hx hb dX12_lookAt_113 (by decide) ?_
            exact J114 mo_32 4 _ _ _ hP hD hS (lv_sub hl [1] rfl) hf
          · replace hf := bc_t hf c_40
            refine lv_iconst (v := 3) hx hb dX12_lookAt_109 (by decide) ?_
            refine lv_goto (tgt := 114) hx hb dX12_lookAt_110 (by decide) ?_
            exact J114 mo_32 3 _ _ _ hP hD hS (lv_sub hl [1] rfl) hf
        · replace hf := bc_f hf c_39
          refine lv_iconst (v := 2) hx hb dX12_lookAt_99 (by decide) ?_
          refine lv_goto (tgt := 114) hx hb dX12_lookAt_100 (by decide) ?_
          exact J114 mo_32 2 _ _ _ hP hD hS (lv_sub hl [1] rfl) hf
      · replace hf := bc_f hf c_37
        refine lv_iconst (v := 1) hx hb dX12_lookAt_88 (by decide) ?_
        refine lv_goto (tgt := 114) hx hb dX12_lookAt_89 (by decide) ?_
        exact J114 mo_32 1 _ _ _ hP hD hS (lv_sub hl [1] rfl) hf
    · replace hf := bc_t hf c_33
      have e1 := Option.some.inj hf
      exact end_v (w' := (wl [lfM ct a mo_32])) hx hb hr hlocks hK hP hD hS dX12_lookAt_69  ⟨rfl, by rw [← e1]⟩
  unfold f_X12_lookAt at hf
  show WG l G ct sk sv p e (RM 2 45 0 0) s m args below meth c A (Eq2 (none) (wl [lfM ct a mo'])) s.heap [] (F0 m 0 ls [])
  refine lv_aload_n hx hb dX12_lookAt_0 rfl (lv_at hl 0 rfl) ?_
  refine lv_iload_n hx hb dX12_lookAt_1 rfl (lv_at hl 1 rfl) ?_
  obtain ⟨mo_41, emo_41, hf⟩ := bl_e hf
  refine va_put (D := G) (C := RX12) (T := TX12) (N := 21) (ty := .int) hx hb hts iu_X12 tyX12 tyX12_ok nmX12 hown hK hP hD hS 0 rfl rfl 15 (by decide) (hts _ kw902) (fun _ h9 => h9) rfl (by decide +kernel) rfl rfl (Nat.le_of_ble_eq_true rfl) dX12_lookAt_2 (fun H locs hP hD hS => ?_)
  have hP : va_P G classes (wl [lfM ct a mo_41]) H := by rw [← emo_41]; exact hP
  have hD : va_D A (wl [lfM ct a mo_41]) := by rw [← emo_41]; exact hD
  obtain ⟨mo_42, hx_43, hf⟩ := bd_e hf
  refine L5 n mo_41 mo_42 _ _ _ hP hD hS (lv_sub hl [0] rfl) hx_43 ?_
  intro x9 e9 H locs ls hP hD hS hl
  subst e9
  have hP : va_P G classes (wl [lfM ct a mo_42]) H := hP
  have hD : va_D A (wl [lfM ct a mo_42]) := hD
  have hl : lv_has ls 5 [(0, .ref (a 0))] := hl
  exact J43 mo_42 _ _ _ hP hD hS hl hf
noncomputable def f_X12_goBehind (n : Nat) (mo : MV) : Option (MV) :=
  bd (f_X12_lookAt n mo ((mo.1 1) + (mo.1 2))) fun mo_1 =>
  some mo_1
set_option maxHeartbeats 4000000 in
set_option maxRecDepth 100000 in
theorem c_X12_goBehind (l : Launch) (G : va_G) (ct : Nat → ClassId) (sk sv : Nat → Nat) (a : Nat → Nat) (n : Nat) (mo : MV) {mo' : MV} (hf : f_X12_goBehind n mo = some mo') : Ctr (l, G, ct, sk, sv) mX12_goBehind 3 69 [.ref (a 0)] (wl [lfM ct a mo]) (wl [lfM ct a mo']) (none) := by
  refine ctr_intro (by decide) (Nat.le_of_ble_eq_true rfl) ?_
  intro p e s m args below meth c A C hP hD hS hA ls hl
  obtain ⟨hx, hb, hml, hown, hts, hr, hlocks, hK, hnm, hZ⟩ := C
  have hb : c.code = cX12_goBehind := hb
  have hml : c.maxLocals = 1 := hml
  have hown : s.vm.findClass "SignedOutsideModel" = some m.cls := hown
  have hr : meth.sig.returnType = none := hr
  have hP : va_P G classes (wl [lfM ct a mo]) s.heap := hP
  have hD : va_D A (wl [lfM ct a mo]) := hD
  have hK : va_K G classes (TYS ct) s := hK
  have hl : lv_has ls 1 [(0, .ref (a 0))] := hl
  unfold f_X12_goBehind at hf
  show WG l G ct sk sv p e (RM 3 69 0 0) s m args below meth c A (Eq2 (none) (wl [lfM ct a mo'])) s.heap [] (F0 m 0 ls [])
  refine lv_aload_n hx hb dX12_goBehind_0 rfl (lv_at hl 0 rfl) ?_
  refine lv_aload_n hx hb dX12_goBehind_1 rfl (lv_at hl 0 rfl) ?_
  refine va_get (D := G) (C := RX12) (T := TX12) (N := 21) (v := .int (mo.1 1)) hx hb hts iu_X12 hown hK hP 0 rfl rfl 15 (by decide) (hts _ kw902) (fun _ h9 => h9) rfl dX12_goBehind_2 ?_
  refine lv_aload_n hx hb dX12_goBehind_5 rfl (lv_at hl 0 rfl) ?_
  refine va_get (D := G) (C := RX12) (T := TX12) (N := 21) (v := .int (mo.1 2)) hx hb hts iu_X12 hown hK hP 0 rfl rfl 16 (by decide) (hts _ kw903) (fun _ h9 => h9) rfl dX12_goBehind_6 ?_
  refine lv_iadd hx hb dX12_goBehind_9 ?_
  obtain ⟨mo_1, hc1, hf⟩ := bd_e hf
  refine call_V (As := [.int ((mo.1 1) + (mo.1 2))]) (rest := []) hx hb hml hown hts hK hP hD hS hA hZ lkX12_243 (c_X12_lookAt l G ct sk sv a n mo ((mo.1 1) + (mo.1 2)) hc1) 0 rfl rfl ⟨Nat.le_of_ble_eq_true rfl, Nat.le_of_ble_eq_true rfl⟩ rfl hl.1 rfl (Nat.le_of_ble_eq_true rfl) dX12_goBehind_10 ⟨Nat.le_of_ble_eq_true rfl, Nat.le_of_ble_eq_true rfl⟩ (fun r9 w9 H locs hB hP hD hS => ?_)
  obtain ⟨rfl, rfl⟩ := hB
  refine WG_eq (g2 := F0 m 13 ls []) rfl ?_
  have e1 := Option.some.inj hf
  exact end_v (w' := (wl [lfM ct a mo_1])) hx hb hr hlocks hK hP hD hS dX12_goBehind_13  ⟨rfl, by rw [← e1]⟩
noncomputable def f_X12_house (n : Nat) (mo : MV) : Option (Int32 × MV) :=
  bd (f_X12_members n mo) fun r_1 =>
  bd (f_X12_begin n 235 (mo.2.1 0)) fun t_2 =>
  bl (setA mo 0 t_2) fun mo_3 =>
  some (r_1, mo_3)
set_option maxHeartbeats 4000000 in
set_option maxRecDepth 100000 in
theorem c_X12_house (l : Launch) (G : va_G) (ct : Nat → ClassId) (sk sv : Nat → Nat) (a : Nat → Nat) (n : Nat) (mo : MV) {r : Int32} {mo' : MV} (hf : f_X12_house n mo = some (r, mo')) : Ctr (l, G, ct, sk, sv) mX12_house 1 21 [.ref (a 0)] (wl [lfM ct a mo]) (wl [lfM ct a mo']) (some (.int r)) := by
  refine ctr_intro (by decide) (Nat.le_of_ble_eq_true rfl) ?_
  intro p e s m args below meth c A C hP hD hS hA ls hl
  obtain ⟨hx, hb, hml, hown, hts, hr, hlocks, hK, hnm, hZ⟩ := C
  have hb : c.code = cX12_house := hb
  have hml : c.maxLocals = 2 := hml
  have hown : s.vm.findClass "SignedOutsideModel" = some m.cls := hown
  have hr : meth.sig.returnType = some .int := hr
  have hP : va_P G classes (wl [lfM ct a mo]) s.heap := hP
  have hD : va_D A (wl [lfM ct a mo]) := hD
  have hK : va_K G classes (TYS ct) s := hK
  have hl : lv_has ls 2 [(0, .ref (a 0))] := hl
  unfold f_X12_house at hf
  show WG l G ct sk sv p e (RM 1 21 0 0) s m args below meth c A (Eq2 (some (.int r)) (wl [lfM ct a mo'])) s.heap [] (F0 m 0 ls [])
  refine lv_aload_n hx hb dX12_house_0 rfl (lv_at hl 0 rfl) ?_
  obtain ⟨r_1, hc1, hf⟩ := bd_e hf
  refine call_V (As := []) (rest := []) hx hb hml hown hts hK hP hD hS hA hZ lkX12_61 (c_X12_members l G ct sk sv a n mo hc1) 0 rfl rfl ⟨Nat.le_of_ble_eq_true rfl, Nat.le_of_ble_eq_true rfl⟩ rfl hl.1 rfl (Nat.le_of_ble_eq_true rfl) dX12_house_1 ⟨Nat.le_of_ble_eq_true rfl, Nat.le_of_ble_eq_true rfl⟩ (fun r9 w9 H locs hB hP hD hS => ?_)
  obtain ⟨rfl, rfl⟩ := hB
  refine WG_eq (g2 := F0 m 4 ls [.int r_1]) rfl ?_
  refine lv_istore_n (lv' := [(1, .int r_1), (0, .ref (a 0))]) hx hb dX12_house_4 rfl hl (by decide) rfl (fun ls hl => ?_)
  refine lv_aload_n hx hb dX12_house_5 rfl (lv_at hl 1 rfl) ?_
  refine va_get (D := G) (C := RX12) (T := TX12) (N := 21) (v := .ref (a 1)) hx hb hts iu_X12 hown hK hP 0 rfl rfl 0 (by decide) (hts _ kw887) (fun _ h9 => h9) rfl dX12_house_6 ?_
  obtain ⟨t_2, hc3, hf⟩ := bd_e hf
  obtain ⟨mo_3, emo_3, hf⟩ := bl_e hf
  refine call_S (As := [.ref (a 1)]) (rest := []) hx hb hml hown hts hK hP hD hS hA hZ lkX12_57 (Ctr.up (W := (wl [lfM ct a mo])) (W' := (wl [lfM ct a (setA mo 0 t_2)])) (c_X12_begin l G ct sk sv (fun _ => a 1) n 235 (mo.2.1 0) hc3) [1] [0, 2, 3, 4, 5, 6, 7, 8, 9, 10, 11, 12, 13, 14] [0, 14, 1, 2, 3, 4, 5, 6, 7, 8, 9, 10, 11, 12, 13] rfl rfl rfl rfl (by decide) rfl rfl) ⟨Nat.le_of_ble_eq_true rfl, Nat.le_of_ble_eq_true rfl⟩ rfl hl.1 rfl (Nat.le_of_ble_eq_true rfl) dX12_house_9 ⟨Nat.le_of_ble_eq_true rfl, Nat.le_of_ble_eq_true rfl⟩ (fun r9 w9 H locs hB hP hD hS => ?_)
  obtain ⟨rfl, rfl⟩ := hB
  have hP : va_P G classes (wl [lfM ct a mo_3]) H := by rw [← emo_3]; exact hP
  have hD : va_D A (wl [lfM ct a mo_3]) := by rw [← emo_3]; exact hD
  refine WG_eq (g2 := F0 m 12 ls []) rfl ?_
  refine lv_iload_n hx hb dX12_house_12 rfl (lv_at hl 0 rfl) ?_
  obtain ⟨e1, e2⟩ := inj2 (Option.some.inj hf)
  exact end_i (w' := (wl [lfM ct a mo_3])) hx hb hr hlocks hK hP hD hS dX12_house_13  ⟨by rw [← e1], by rw [← e2]⟩
noncomputable def f_X12_image_b19 (n : Nat) (mo : MV) (v2 : Int32) (v1 : Int32) : Option ((Int32 × MV) ⊕ (MV)) :=
  bc (235 ≤ v2) (some (.inr mo))
  (gd (vp_in v2 235) <|
  gd (vp_in ((235 * v1) + v2) 470) <|
  bl (setA mo 1 (upd (mo.2.1 1) (ix ((235 * v1) + v2)) (mo.2.1 0 (ix v2)))) fun mo_4 =>
  bl (v2 + 1) fun v2_5 =>
  some (.inl (v2_5, mo_4)))
noncomputable def f_X12_image_l19 (fu : Nat) (n : Nat) (mo : MV) (v1 : Int32) (v2 : Int32) : Option (MV) :=
  lp (fun q => f_X12_image_b19 n q.2 q.1 v1) fu (v2, mo)
noncomputable def f_X12_image (n : Nat) (mo : MV) (v1 : Int32) : Option (Int32 × MV) :=
  bd (f_X12_in n ((v1 : Int32).toInt64) 0 1) fun r_6 =>
  bc (r_6 = 0) (bd2 (f_X12_bad n mo (-2)) fun r_12 mo_13 =>
  some (r_12, mo_13))
  (bd (f_X12_image_l19 n n mo v1 0) fun mo_8 =>
  gd (vp_in v1 2) <|
  bl (setA mo_8 2 (upd (mo_8.2.1 2) (ix v1) (vp_nar .boolean 1))) fun mo_11 =>
  some (1, mo_11))
set_option maxHeartbeats 4000000 in
set_option maxRecDepth 100000 in
theorem c_X12_image (l : Launch) (G : va_G) (ct : Nat → ClassId) (sk sv : Nat → Nat) (a : Nat → Nat) (n : Nat) (mo : MV) (v1 : Int32) {r : Int32} {mo' : MV} (hf : f_X12_image n mo v1 = some (r, mo')) : Ctr (l, G, ct, sk, sv) mX12_image 1 25 [.ref (a 0), .int v1] (wl [lfM ct a mo]) (wl [lfM ct a mo']) (some (.int r)) := by
  refine ctr_intro (by decide) (Nat.le_of_ble_eq_true rfl) ?_
  intro p e s m args below meth c A C hP hD hS hA ls hl
  obtain ⟨hx, hb, hml, hown, hts, hr, hlocks, hK, hnm, hZ⟩ := C
  have hb : c.code = cX12_image := hb
  have hml : c.maxLocals = 3 := hml
  have hown : s.vm.findClass "SignedOutsideModel" = some m.cls := hown
  have hr : meth.sig.returnType = some .int := hr
  have hP : va_P G classes (wl [lfM ct a mo]) s.heap := hP
  have hD : va_D A (wl [lfM ct a mo]) := hD
  have hK : va_K G classes (TYS ct) s := hK
  have hl : lv_has ls 3 [(0, .ref (a 0)), (1, .int v1)] := hl
  have L19 : ∀ (fu : Nat) (mo : MV) (v1 : Int32) (v2 : Int32) (ex : MV) (H : Heap) (locs : List Loc) (ls : Array Slot), va_P G classes (wl [lfM ct a mo]) H → va_D A (wl [lfM ct a mo]) → va_S A s.heap H locs → lv_has ls 3 [(2, .int v2), (0, .ref (a 0)), (1, .int v1)] → f_X12_image_l19 fu n mo v1 v2 = some ex → (∀ (x : MV), ex = x → ∀ (H : Heap) (locs : List Loc) (ls : Array Slot), va_P G classes (wl [lfM ct a x]) H → va_D A (wl [lfM ct a x]) → va_S A s.heap H locs → lv_has ls 3 [(0, .ref (a 0)), (1, .int v1)] → WG l G ct sk sv p e (RM 1 25 0 0) s m args below meth c A (Eq2 (some (.int r)) (wl [lfM ct a mo'])) H locs (F0 m 50 ls [])) → WG l G ct sk sv p e (RM 1 25 0 0) s m args below meth c A (Eq2 (some (.int r)) (wl [lfM ct a mo'])) H locs (F0 m 19 ls []) := by
    intro fu
    induction fu with
    | zero =>
      intro mo v1 v2 ex H locs ls hP hD hS hl hf
      exact absurd hf (by unfold f_X12_image_l19 lp; exact fun h => by cases h)
    | succ fu ih =>
      intro mo v1 v2 ex H locs ls hP hD hS hl hf hE
      unfold f_X12_image_l19 at hf
      obtain ⟨q, hf, hor⟩ := lp_e hf
      replace hf : f_X12_image_b19 n mo v2 v1 = some q := hf
      unfold f_X12_image_b19 at hf
      refine lv_iload_n hx hb dX12_image_19 rfl (lv_at hl 0 rfl) ?_
      refine lv_sipush (v := 235) hx hb dX12_image_20 (by decide) ?_
      refine lv_icmp_ge (tgt := 50) hx hb dX12_image_23 (by decide) (fun c_1 => ?_) (fun c_1 => ?_)
      · replace hf := bc_t hf c_1
        exact hE mo (lp_inr hor hf).symm _ _ _ hP hD hS (lv_sub hl [1, 2] rfl)
      · replace hf := bc_f hf c_1
        refine lv_aload_n hx hb dX12_image_26 rfl (lv_at hl 1 rfl) ?_
        refine va_get (D := G) (C := RX12) (T := TX12) (N := 21) (v := .ref (a 2)) hx hb hts iu_X12 hown hK hP 0 rfl rfl 1 (by decide) (hts _ kw888) (fun _ h9 => h9) rfl dX12_image_27 ?_
        refine lv_sipush (v := 235) hx hb dX12_image_30 (by decide) ?_
        refine lv_iload_n hx hb dX12_image_33 rfl (lv_at hl 2 rfl) ?_
        refine lv_imul hx hb dX12_image_34 ?_
        refine lv_iload_n hx hb dX12_image_35 rfl (lv_at hl 0 rfl) ?_
        refine lv_iadd hx hb dX12_image_36 ?_
        refine lv_aload_n hx hb dX12_image_37 rfl (lv_at hl 1 rfl) ?_
        refine va_get (D := G) (C := RX12) (T := TX12) (N := 21) (v := .ref (a 1)) hx hb hts iu_X12 hown hK hP 0 rfl rfl 0 (by decide) (hts _ kw887) (fun _ h9 => h9) rfl dX12_image_38 ?_
        refine lv_iload_n hx hb dX12_image_41 rfl (lv_at hl 0 rfl) ?_
        obtain ⟨g_2, hf⟩ := gd_e hf
        refine va_iald (f := mo.2.1 0) hx hb hK hP 1 0 rfl rfl g_2 dX12_image_42 ?_
        obtain ⟨g_3, hf⟩ := gd_e hf
        obtain ⟨mo_4, emo_4, hf⟩ := bl_e hf
        refine va_iast hx hb hK hP hD hS 2 0 rfl rfl g_3 dX12_image_43 (fun H locs hP hD hS => ?_)
        have hP : va_P G classes (wl [lfM ct a mo_4]) H := by rw [← emo_4]; exact hP
        have hD : va_D A (wl [lfM ct a mo_4]) := by rw [← emo_4]; exact hD
        obtain ⟨v2_5, ev2_5, hf⟩ := bl_e hf
        refine lv_iinc (v := v2_5) (lv' := [(2, .int v2_5), (0, .ref (a 0)), (1, .int v1)]) hx hb dX12_image_44 hl (k := 0) rfl ev2_5 (by decide) rfl (fun ls hl => ?_)
        refine lv_goto (tgt := 19) hx hb dX12_image_47 (by decide) ?_
        exact ih mo_4 v1 v2_5 ex _ _ _ hP hD hS hl (lp_inl hor hf) hE
  unfold f_X12_image at hf
  show WG l G ct sk sv p e (RM 1 25 0 0) s m args below meth c A (Eq2 (some (.int r)) (wl [lfM ct a mo'])) s.heap [] (F0 m 0 ls [])
  refine lv_iload_n hx hb dX12_image_0 rfl (lv_at hl 1 rfl) ?_
  refine lv_i2l (v := (v1 : Int32).toInt64) hx hb dX12_image_1 rfl ?_
  refine lv_lconst (v := 0) hx hb dX12_image_2 (by decide) ?_
  refine lv_lconst (v := 1) hx hb dX12_image_3 (by decide) ?_
  obtain ⟨r_6, hc6, hf⟩ := bd_e hf
  refine call_S (As := [.long ((v1 : Int32).toInt64), .long 0, .long 1]) (rest := []) hx hb hml hown hts hK hP hD hS hA hZ lkX12_65 (Ctr.upL (c_X12_in l G ct sk sv  n ((v1 : Int32).toInt64) 0 1 hc6) [lfM ct a mo] [lfM ct a mo] [lfM ct a mo] [0] 1 (by decide) rfl rfl rfl rfl) ⟨Nat.le_of_ble_eq_true rfl, Nat.le_of_ble_eq_true rfl⟩ rfl hl.1 rfl (Nat.le_of_ble_eq_true rfl) dX12_image_4 ⟨Nat.le_of_ble_eq_true rfl, Nat.le_of_ble_eq_true rfl⟩ (fun r9 w9 H locs hB hP hD hS => ?_)
  obtain ⟨rfl, rfl⟩ := hB
  refine WG_eq (g2 := F0 m 7 ls [.int r_6]) rfl ?_
  refine lv_if_ne (tgt := 17) hx hb dX12_image_7 (by decide) (fun c_7 => ?_) (fun c_7 => ?_)
  · replace hf := bc_f hf c_7
    refine lv_iconst (v := 0) hx hb dX12_image_17 (by decide) ?_
    refine lv_istore_n (lv' := [(2, .int 0), (0, .ref (a 0)), (1, .int v1)]) hx hb dX12_image_18 rfl hl (by decide) rfl (fun ls hl => ?_)
    obtain ⟨mo_8, hx_9, hf⟩ := bd_e hf
    refine L19 n mo v1 0 mo_8 _ _ _ hP hD hS hl hx_9 ?_
    intro x9 e9 H locs ls hP hD hS hl
    subst e9
    have hP : va_P G classes (wl [lfM ct a mo_8]) H := hP
    have hD : va_D A (wl [lfM ct a mo_8]) := hD
    have hl : lv_has ls 3 [(0, .ref (a 0)), (1, .int v1)] := hl
    refine lv_aload_n hx hb dX12_image_50 rfl (lv_at hl 0 rfl) ?_
    refine va_get (D := G) (C := RX12) (T := TX12) (N := 21) (v := .ref (a 3)) hx hb hts iu_X12 hown hK hP 0 rfl rfl 2 (by decide) (hts _ kw889) (fun _ h9 => h9) rfl dX12_image_51 ?_
    refine lv_iload_n hx hb dX12_image_54 rfl (lv_at hl 1 rfl) ?_
    refine lv_iconst (v := 1) hx hb dX12_image_55 (by decide) ?_
    obtain ⟨g_10, hf⟩ := gd_e hf
    obtain ⟨mo_11, emo_11, hf⟩ := bl_e hf
    refine va_zast hx hb hK hP hD hS 3 1 rfl rfl g_10 dX12_image_56 (fun H locs hP hD hS => ?_)
    have hP : va_P G classes (wl [lfM ct a mo_11]) H := by rw [← emo_11]; exact hP
    have hD : va_D A (wl [lfM ct a mo_11]) := by rw [← emo_11]; exact hD
    refine lv_iconst (v := 1) hx hb dX12_image_57 (by decide) ?_
    obtain ⟨e1, e2⟩ := inj2 (Option.some.inj hf)
    exact end_i (w' := (wl [lfM ct a mo_11])) hx hb hr hlocks hK hP hD hS dX12_image_58  ⟨by rw [← e1], by rw [← e2]⟩
  · replace hf := bc_t hf c_7
    refine lv_aload_n hx hb dX12_image_10 rfl (lv_at hl 0 rfl) ?_
    refine lv_bipush (v := (-2)) hx hb dX12_image_11 (by decide) ?_
    obtain ⟨r_12, mo_13, hc13, hf⟩ := bd2_e hf
    refine call_V (As := [.int (-2)]) (rest := []) hx hb hml hown hts hK hP hD hS hA hZ lkX12_80 (c_X12_bad l G ct sk sv a n mo (-2) hc13) 0 rfl rfl ⟨Nat.le_of_ble_eq_true rfl, Nat.le_of_ble_eq_true rfl⟩ rfl hl.1 rfl (Nat.le_of_ble_eq_true rfl) dX12_image_13 ⟨Nat.le_of_ble_eq_true rfl, Nat.le_of_ble_eq_true rfl⟩ (fun r9 w9 H locs hB hP hD hS => ?_)
    obtain ⟨rfl, rfl⟩ := hB
    refine WG_eq (g2 := F0 m 16 ls [.int r_12]) rfl ?_
    obtain ⟨e1, e2⟩ := inj2 (Option.some.inj hf)
    exact end_i (w' := (wl [lfM ct a mo_13])) hx hb hr hlocks hK hP hD hS dX12_image_16  ⟨by rw [← e1], by rw [← e2]⟩
noncomputable def f_X12_is_j97 (n : Nat) (mo : MV) (v5 : Int32) (v3 : Int32) (v2 : Int32) (v1 : Int32) (s0 : Int32) : Option ((Int32 × Int32) ⊕ (Int32)) :=
  bl (v5 + 1) fun v5_1 =>
  some (.inl (v5_1, s0))
noncomputable def f_X12_is_j96 (n : Nat) (mo : MV) (v5 : Int32) (v3 : Int32) (v2 : Int32) (v1 : Int32) : Option ((Int32 × Int32) ⊕ (Int32)) :=
  f_X12_is_j97 n mo v5 v3 v2 v1 0
noncomputable def f_X12_is_j92 (n : Nat) (mo : MV) (v5 : Int32) (v3 : Int32) (v2 : Int32) (v1 : Int32) : Option ((Int32 × Int32) ⊕ (Int32)) :=
  f_X12_is_j97 n mo v5 v3 v2 v1 1
noncomputable def f_X12_is_b31 (n : Nat) (mo : MV) (v5 : Int32) (v4 : Int32) (v3 : Int32) (v2 : Int32) (v1 : Int32) : Option ((Int32 × Int32) ⊕ (Int32)) :=
  gd (vp_in 3 235) <|
  bc ((mo.2.1 0 (ix 3)) ≤ v5) (some (.inr v4))
  (bl (65 + (3 * v5)) fun v6_4 =>
  bc (v4 = 0) (f_X12_is_j96 n mo v5 v3 v2 v1)
  (gd (vp_in v6_4 235) <|
  bc ((mo.2.1 0 (ix v6_4)) = v1) (gd (vp_in (v6_4 + 1) 235) <|
  bd (f_X12_coversAs n v3 (mo.2.1 0 (ix (v6_4 + 1)))) fun r_9 =>
  gd (vp_in (v6_4 + 2) 235) <|
  bc (r_9 = (mo.2.1 0 (ix (v6_4 + 2)))) (f_X12_is_j92 n mo v5 v3 v2 v1)
  (f_X12_is_j96 n mo v5 v3 v2 v1))
  (f_X12_is_j92 n mo v5 v3 v2 v1)))
noncomputable def f_X12_is_l31 (fu : Nat) (n : Nat) (mo : MV) (v3 : Int32) (v2 : Int32) (v1 : Int32) (v5 : Int32) (v4 : Int32) : Option (Int32) :=
  lp (fun q => f_X12_is_b31 n mo q.1 q.2 v3 v2 v1) fu (v5, v4)
noncomputable def f_X12_is_j118 (n : Nat) (mo : MV) (v3 : Int32) (v1 : Int32) (s0 : Int32) (s1 : Int32) : Option ((Int32 × Int32) ⊕ (Int32)) :=
  bl (s1 ||| s0) fun v2_12 =>
  bl (v3 + 1) fun v3_13 =>
  some (.inl (v3_13, v2_12))
noncomputable def f_X12_is_b19 (n : Nat) (mo : MV) (v3 : Int32) (v2 : Int32) (v1 : Int32) : Option ((Int32 × Int32) ⊕ (Int32)) :=
  bc (6 ≤ v3) (some (.inr v2))
  (bd (f_X12_is_l31 n n mo v3 v2 v1 0 1) fun v4_15 =>
  bc (v4_15 = 0) (f_X12_is_j118 n mo v3 v1 0 v2)
  (f_X12_is_j118 n mo v3 v1 (1 <<< (v3 &&& 31)) v2))
noncomputable def f_X12_is_l19 (fu : Nat) (n : Nat) (mo : MV) (v1 : Int32) (v3 : Int32) (v2 : Int32) : Option (Int32) :=
  lp (fun q => f_X12_is_b19 n mo q.1 q.2 v1) fu (v3, v2)
noncomputable def f_X12_is (n : Nat) (mo : MV) (v1 : Int32) : Option (Int32 × MV) :=
  bd (f_X12_isMember n mo v1) fun r_18 =>
  bc (r_18 = 0) (bd2 (f_X12_bad n mo (-2)) fun r_22 mo_23 =>
  some (r_22, mo_23))
  (bd (f_X12_is_l19 n n mo v1 0 0) fun v2_20 =>
  some (v2_20, mo))
set_option maxHeartbeats 4000000 in
set_option maxRecDepth 100000 in
theorem c_X12_is (l : Launch) (G : va_G) (ct : Nat → ClassId) (sk sv : Nat → Nat) (a : Nat → Nat) (n : Nat) (mo : MV) (v1 : Int32) {r : Int32} {mo' : MV} (hf : f_X12_is n mo v1 = some (r, mo')) : Ctr (l, G, ct, sk, sv) mX12_is 2 46 [.ref (a 0), .int v1] (wl [lfM ct a mo]) (wl [lfM ct a mo']) (some (.int r)) := by
  refine ctr_intro (by decide) (Nat.le_of_ble_eq_true rfl) ?_
  intro p e s m args below meth c A C hP hD hS hA ls hl
  obtain ⟨hx, hb, hml, hown, hts, hr, hlocks, hK, hnm, hZ⟩ := C
  have hb : c.code = cX12_is := hb
  have hml : c.maxLocals = 7 := hml
  have hown : s.vm.findClass "SignedOutsideModel" = some m.cls := hown
  have hr : meth.sig.returnType = some .int := hr
  have hP : va_P G classes (wl [lfM ct a mo]) s.heap := hP
  have hD : va_D A (wl [lfM ct a mo]) := hD
  have hK : va_K G classes (TYS ct) s := hK
  have hl : lv_has ls 7 [(0, .ref (a 0)), (1, .int v1)] := hl
  have L31 : ∀ (fu : Nat) (mo : MV) (v3 : Int32) (v2 : Int32) (v1 : Int32) (v5 : Int32) (v4 : Int32) (ex : Int32) (H : Heap) (locs : List Loc) (ls : Array Slot), va_P G classes (wl [lfM ct a mo]) H → va_D A (wl [lfM ct a mo]) → va_S A s.heap H locs → lv_has ls 7 [(5, .int v5), (4, .int v4), (3, .int v3), (2, .int v2), (0, .ref (a 0)), (1, .int v1)] → f_X12_is_l31 fu n mo v3 v2 v1 v5 v4 = some ex → (∀ (x : Int32), ex = x → ∀ (H : Heap) (locs : List Loc) (ls : Array Slot), va_P G classes (wl [lfM ct a mo]) H → va_D A (wl [lfM ct a mo]) → va_S A s.heap H locs → lv_has ls 7 [(4, .int x), (3, .int v3), (2, .int v2), (0, .ref (a 0)), (1, .int v1)] → WG l G ct sk sv p e (RM 2 46 0 0) s m args below meth c A (Eq2 (some (.int r)) (wl [lfM ct a mo'])) H locs (F0 m 105 ls [])) → WG l G ct sk sv p e (RM 2 46 0 0) s m args below meth c A (Eq2 (some (.int r)) (wl [lfM ct a mo'])) H locs (F0 m 31 ls []) := by
    intro fu
    induction fu with
    | zero =>
      intro mo v3 v2 v1 v5 v4 ex H locs ls hP hD hS hl hf
      exact absurd hf (by unfold f_X12_is_l31 lp; exact fun h => by cases h)
    | succ fu ih =>
      intro mo v3 v2 v1 v5 v4 ex H locs ls hP hD hS hl hf hE
      unfold f_X12_is_l31 at hf
      obtain ⟨q, hf, hor⟩ := lp_e hf
      have J97 : ∀ (v5 : Int32) (s0 : Int32) (H : Heap) (locs : List Loc) (ls : Array Slot), va_P G classes (wl [lfM ct a mo]) H → va_D A (wl [lfM ct a mo]) → va_S A s.heap H locs → lv_has ls 7 [(5, .int v5), (3, .int v3), (2, .int v2), (0, .ref (a 0)), (1, .int v1)] → f_X12_is_j97 n mo v5 v3 v2 v1 s0 = some q → WG l G ct sk sv p e (RM 2 46 0 0) s m args below meth c A (Eq2 (some (.int r)) (wl [lfM ct a mo'])) H locs (F0 m 97 ls [.int s0]) := by
        intro v5 s0 H locs ls hP hD hS hl hf
        unfold f_X12_is_j97 at hf
        refine lv_istore (lv' := [(4, .int s0), (5, .int v5), (3, .int v3), (2, .int v2), (0, .ref (a 0)), (1, .int v1)]) hx hb dX12_is_97 hl (by decide) rfl (fun ls hl => ?_)
        obtain ⟨v5_1, ev5_1, hf⟩ := bl_e hf
        refine lv_iinc (v := v5_1) (lv' := [(5, .int v5_1), (4, .int s0), (3, .int v3), (2, .int v2), (0, .ref (a 0)), (1, .int v1)]) hx hb dX12_is_99 hl (k := 1) rfl ev5_1 (by decide) rfl (fun ls hl => ?_)
        refine lv_goto (tgt := 31) hx hb dX12_is_102 (by decide) ?_
        exact ih mo v3 v2 v1 v5_1 s0 ex _ _ _ hP hD hS hl (lp_inl hor hf) hE
      have J96 : ∀ (v5 : Int32) (H : Heap) (locs : List Loc) (ls : Array Slot), va_P G classes (wl [lfM ct a mo]) H → va_D A (wl [lfM ct a mo]) → va_S A s.heap H locs → lv_has ls 7 [(5, .int v5), (3, .int v3), (2, .int v2), (0, .ref (a 0)), (1, .int v1)] → f_X12_is_j96 n mo v5 v3 v2 v1 = some q → WG l G ct sk sv p e (RM 2 46 0 0) s m args below meth c A (Eq2 (some (.int r)) (wl [lfM ct a mo'])) H locs (F0 m 96 ls []) := by
        intro v5 H locs ls hP hD hS hl hf
        unfold f_X12_is_j96 at hf
        refine lv_iconst (v := 0) hx hb dX12_is_96 (by decide) ?_
        exact J97 v5 0 _ _ _ hP hD hS hl hf
      have J92 : ∀ (v5 : Int32) (H : Heap) (locs : List Loc) (ls : Array Slot), va_P G classes (wl [lfM ct a mo]) H → va_D A (wl [lfM ct a mo]) → va_S A s.heap H locs → lv_has ls 7 [(5, .int v5), (3, .int v3), (2, .int v2), (0, .ref (a 0)), (1, .int v1)] → f_X12_is_j92 n mo v5 v3 v2 v1 = some q → WG l G ct sk sv p e (RM 2 46 0 0) s m args below meth c A (Eq2 (some (.int r)) (wl [lfM ct a mo'])) H locs (F0 m 92 ls []) := by
        intro v5 H locs ls hP hD hS hl hf
        unfold f_X12_is_j92 at hf
        refine lv_iconst (v := 1) hx hb dX12_is_92 (by decide) ?_
        refine lv_goto (tgt := 97) hx hb dX12_is_93 (by decide) ?_
        exact J97 v5 1 _ _ _ hP hD hS hl hf
      replace hf : f_X12_is_b31 n mo v5 v4 v3 v2 v1 = some q := hf
      unfold f_X12_is_b31 at hf
      refine lv_iload hx hb dX12_is_31 (lv_at hl 0 rfl) ?_
      refine lv_aload_n hx hb dX12_is_33 rfl (lv_at hl 4 rfl) ?_
      refine va_get (D := G) (C := RX12) (T := TX12) (N := 21) (v := .ref (a 1)) hx hb hts iu_X12 hown hK hP 0 rfl rfl 0 (by decide) (hts _ kw887) (fun _ h9 => h9) rfl dX12_is_34 ?_
      refine lv_iconst (v := 3) hx hb dX12_is_37 (by decide) ?_
      obtain ⟨g_2, hf⟩ := gd_e hf
      refine va_iald (f := mo.2.1 0) hx hb hK hP 1 0 rfl rfl g_2 dX12_is_38 ?_
      refine lv_icmp_ge (tgt := 105) hx hb dX12_is_39 (by decide) (fun c_3 => ?_) (fun c_3 => ?_)
      · replace hf := bc_t hf c_3
        exact hE v4 (lp_inr hor hf).symm _ _ _ hP hD hS (lv_sub hl [1, 2, 3, 4, 5] rfl)
      · replace hf := bc_f hf c_3
        refine lv_bipush (v := 65) hx hb dX12_is_42 (by decide) ?_
        refine lv_iconst (v := 3) hx hb dX12_is_44 (by decide) ?_
        refine lv_iload hx hb dX12_is_45 (lv_at hl 0 rfl) ?_
        refine lv_imul hx hb dX12_is_47 ?_
        refine lv_iadd hx hb dX12_is_48 ?_
        refine lv_topi (fun v6_4 ev6_4 => ?_)
        replace hf := bl_i hf ev6_4
        refine lv_istore (lv' := [(6, .int v6_4), (5, .int v5), (4, .int v4), (3, .int v3), (2, .int v2), (0, .ref (a 0)), (1, .int v1)]) hx hb dX12_is_49 hl (by decide) rfl (fun ls hl => ?_)
        refine lv_iload hx hb dX12_is_51 (lv_at hl 2 rfl) ?_
        refine lv_if_eq (tgt := 96) hx hb dX12_is_53 (by decide) (fun c_5 => ?_) (fun c_5 => ?_)
        · replace hf := bc_t hf c_5
          exact J96 v5 _ _ _ hP hD hS (lv_sub hl [1, 3, 4, 5, 6] rfl) hf
        · replace hf := bc_f hf c_5
          refine lv_aload_n hx hb dX12_is_56 rfl (lv_at hl 5 rfl) ?_
          refine va_get (D := G) (C := RX12) (T := TX12) (N := 21) (v := .ref (a 1)) hx hb hts iu_X12 hown hK hP 0 rfl rfl 0 (by decide) (hts _ kw887) (fun _ h9 => h9) rfl dX12_is_57 ?_
          refine lv_iload hx hb dX12_is_60 (lv_at hl 0 rfl) ?_
          obtain ⟨g_6, hf⟩ := gd_e hf
          refine va_iald (f := mo.2.1 0) hx hb hK hP 1 0 rfl rfl g_6 dX12_is_62 ?_
          refine lv_iload_n hx hb dX12_is_63 rfl (lv_at hl 6 rfl) ?_
          refine lv_icmp_ne (tgt := 92) hx hb dX12_is_64 (by decide) (fun c_7 => ?_) (fun c_7 => ?_)
          · replace hf := bc_f hf c_7
            exact J92 v5 _ _ _ hP hD hS (lv_sub hl [1, 3, 4, 5, 6] rfl) hf
          · replace hf := bc_t hf c_7
            refine lv_iload_n hx hb dX12_is_67 rfl (lv_at hl 3 rfl) ?_
            refine lv_aload_n hx hb dX12_is_68 rfl (lv_at hl 5 rfl) ?_
            refine va_get (D := G) (C := RX12) (T := TX12) (N := 21) (v := .ref (a 1)) hx hb hts iu_X12 hown hK hP 0 rfl rfl 0 (by decide) (hts _ kw887) (fun _ h9 => h9) rfl dX12_is_69 ?_
            refine lv_iload hx hb dX12_is_72 (lv_at hl 0 rfl) ?_
            refine lv_iconst (v := 1) hx hb dX12_is_74 (by decide) ?_
            refine lv_iadd hx hb dX12_is_75 ?_
            obtain ⟨g_8, hf⟩ := gd_e hf
            refine va_iald (f := mo.2.1 0) hx hb hK hP 1 0 rfl rfl g_8 dX12_is_76 ?_
            obtain ⟨r_9, hc9, hf⟩ := bd_e hf
            refine call_S (As := [.int v3, .int (mo.2.1 0 (ix (v6_4 + 1)))]) (rest := []) hx hb hml hown hts hK hP hD hS hA hZ lkX12_108 (Ctr.upL (c_X12_coversAs l G ct sk sv  n v3 (mo.2.1 0 (ix (v6_4 + 1))) hc9) [lfM ct a mo] [lfM ct a mo] [lfM ct a mo] [0] 1 (by decide) rfl rfl rfl rfl) ⟨Nat.le_of_ble_eq_true rfl, Nat.le_of_ble_eq_true rfl⟩ rfl hl.1 rfl (Nat.le_of_ble_eq_true rfl) dX12_is_77 ⟨Nat.le_of_ble_eq_true rfl, Nat.le_of_ble_eq_true rfl⟩ (fun r9 w9 H locs hB hP hD hS => ?_)
            obtain ⟨rfl, rfl⟩ := hB
            refine WG_eq (g2 := F0 m 80 ls [.int r_9]) rfl ?_
            refine lv_aload_n hx hb dX12_is_80 rfl (lv_at hl 5 rfl) ?_
            refine va_get (D := G) (C := RX12) (T := TX12) (N := 21) (v := .ref (a 1)) hx hb hts iu_X12 hown hK hP 0 rfl rfl 0 (by decide) (hts _ kw887) (fun _ h9 => h9) rfl dX12_is_81 ?_
            refine lv_iload hx hb dX12_is_84 (lv_at hl 0 rfl) ?_
            refine lv_iconst (v := 2) hx hb dX12_is_86 (by decide) ?_
            refine lv_iadd hx hb dX12_is_87 ?_
            obtain ⟨g_10, hf⟩ := gd_e hf
            refine va_iald (f := mo.2.1 0) hx hb hK hP 1 0 rfl rfl g_10 dX12_is_88 ?_
            refine lv_icmp_ne (tgt := 96) hx hb dX12_is_89 (by decide) (fun c_11 => ?_) (fun c_11 => ?_)
            · replace hf := bc_f hf c_11
              exact J96 v5 _ _ _ hP hD hS (lv_sub hl [1, 3, 4, 5, 6] rfl) hf
            · replace hf := bc_t hf c_11
              exact J92 v5 _ _ _ hP hD hS (lv_sub hl [1, 3, 4, 5, 6] rfl) hf
  have L19 : ∀ (fu : Nat) (mo : MV) (v1 : Int32) (v3 : Int32) (v2 : Int32) (ex : Int32) (H : Heap) (locs : List Loc) (ls : Array Slot), va_P G classes (wl [lfM ct a mo]) H → va_D A (wl [lfM ct a mo]) → va_S A s.heap H locs → lv_has ls 7 [(3, .int v3), (2, .int v2), (0, .ref (a 0)), (1, .int v1)] → f_X12_is_l19 fu n mo v1 v3 v2 = some ex → (∀ (x : Int32), ex = x → ∀ (H : Heap) (locs : List Loc) (ls : Array Slot), va_P G classes (wl [lfM ct a mo]) H → va_D A (wl [lfM ct a mo]) → va_S A s.heap H locs → lv_has ls 7 [(2, .int x)] → WG l G ct sk sv p e (RM 2 46 0 0) s m args below meth c A (Eq2 (some (.int r)) (wl [lfM ct a mo'])) H locs (F0 m 126 ls [])) → WG l G ct sk sv p e (RM 2 46 0 0) s m args below meth c A (Eq2 (some (.int r)) (wl [lfM ct a mo'])) H locs (F0 m 19 ls []) := by
    intro fu
    induction fu with
    | zero =>
      intro mo v1 v3 v2 ex H locs ls hP hD hS hl hf
      exact absurd hf (by unfold f_X12_is_l19 lp; exact fun h => by cases h)
    | succ fu ih =>
      intro mo v1 v3 v2 ex H locs ls hP hD hS hl hf hE
      unfold f_X12_is_l19 at hf
      obtain ⟨q, hf, hor⟩ := lp_e hf
      have J118 : ∀ (v3 : Int32) (s0 : Int32) (s1 : Int32) (H : Heap) (locs : List Loc) (ls : Array Slot), va_P G classes (wl [lfM ct a mo]) H → va_D A (wl [lfM ct a mo]) → va_S A s.heap H locs → lv_has ls 7 [(3, .int v3), (0, .ref (a 0)), (1, .int v1)] → f_X12_is_j118 n mo v3 v1 s0 s1 = some q → WG l G ct sk sv p e (RM 2 46 0 0) s m args below meth c A (Eq2 (some (.int r)) (wl [lfM ct a mo'])) H locs (F0 m 118 ls [.int s0, .int s1]) := by
        intro v3 s0 s1 H locs ls hP hD hS hl hf
        unfold f_X12_is_j118 at hf
        refine lv_ior hx hb dX12_is_118 ?_
        refine lv_topi (fun v2_12 ev2_12 => ?_)
        replace hf := bl_i hf ev2_12
        refine lv_istore_n (lv' := [(2, .int v2_12), (3, .int v3), (0, .ref (a 0)), (1, .int v1)]) hx hb dX12_is_119 rfl hl (by decide) rfl (fun ls hl => ?_)
        obtain ⟨v3_13, ev3_13, hf⟩ := bl_e hf
        refine lv_iinc (v := v3_13) (lv' := [(3, .int v3_13), (2, .int v2_12), (0, .ref (a 0)), (1, .int v1)]) hx hb dX12_is_120 hl (k := 1) rfl ev3_13 (by decide) rfl (fun ls hl => ?_)
        refine lv_goto (tgt := 19) hx hb dX12_is_123 (by decide) ?_
        exact ih mo v1 v3_13 v2_12 ex _ _ _ hP hD hS hl (lp_inl hor hf) hE
      replace hf : f_X12_is_b19 n mo v3 v2 v1 = some q := hf
      unfold f_X12_is_b19 at hf
      refine lv_iload_n hx hb dX12_is_19 rfl (lv_at hl 0 rfl) ?_
      refine lv_bipush (v := 6) hx hb dX12_is_20 (by decide) ?_
      refine lv_icmp_ge (tgt := 126) hx hb dX12_is_22 (by decide) (fun c_14 => ?_) (fun c_14 => ?_)
      · replace hf := bc_t hf c_14
        exact hE v2 (lp_inr hor hf).symm _ _ _ hP hD hS (lv_sub hl [1] rfl)
      · replace hf := bc_f hf c_14
        refine lv_iconst (v := 1) hx hb dX12_is_25 (by decide) ?_
        refine lv_istore (lv' := [(4, .int 1), (3, .int v3), (2, .int v2), (0, .ref (a 0)), (1, .int v1)]) hx hb dX12_is_26 hl (by decide) rfl (fun ls hl => ?_)
        refine lv_iconst (v := 0) hx hb dX12_is_28 (by decide) ?_
        refine lv_istore (lv' := [(5, .int 0), (4, .int 1), (3, .int v3), (2, .int v2), (0, .ref (a 0)), (1, .int v1)]) hx hb dX12_is_29 hl (by decide) rfl (fun ls hl => ?_)
        obtain ⟨v4_15, hx_16, hf⟩ := bd_e hf
        refine L31 n mo v3 v2 v1 0 1 v4_15 _ _ _ hP hD hS hl hx_16 ?_
        intro x9 e9 H locs ls hP hD hS hl
        subst e9
        have hP : va_P G classes (wl [lfM ct a mo]) H := hP
        have hD : va_D A (wl [lfM ct a mo]) := hD
        have hl : lv_has ls 7 [(4, .int v4_15), (3, .int v3), (2, .int v2), (0, .ref (a 0)), (1, .int v1)] := hl
        refine lv_iload_n hx hb dX12_is_105 rfl (lv_at hl 2 rfl) ?_
        refine lv_iload hx hb dX12_is_106 (lv_at hl 0 rfl) ?_
        refine lv_if_eq (tgt := 117) hx hb dX12_is_108 (by decide) (fun c_17 => ?_) (fun c_17 => ?_)
        · replace hf := bc_t hf c_17
          refine lv_iconst (v := 0) hx hb dX12_is_117 (by decide) ?_
          exact J118 v3 0 v2 _ _ _ hP hD hS (lv_sub hl [1, 3, 4] rfl) hf
        · replace hf := bc_f hf c_17
          refine lv_iconst (v := 1) hx hb dX12_is_111 (by decide) ?_
          refine lv_iload_n hx hb dX12_is_112 rfl (lv_at hl 1 rfl) ?_
          refine lv_ishl hx hb dX12_is_113 ?_
          refine lv_goto (tgt := 118) hx hb dX12_is_114 (by decide) ?_
          exact J118 v3 (1 <<< (v3 &&& 31)) v2 _ _ _ hP hD hS (lv_sub hl [1, 3, 4] rfl) hf
  unfold f_X12_is at hf
  show WG l G ct sk sv p e (RM 2 46 0 0) s m args below meth c A (Eq2 (some (.int r)) (wl [lfM ct a mo'])) s.heap [] (F0 m 0 ls [])
  refine lv_aload_n hx hb dX12_is_0 rfl (lv_at hl 0 rfl) ?_
  refine lv_iload_n hx hb dX12_is_1 rfl (lv_at hl 1 rfl) ?_
  obtain ⟨r_18, hc18, hf⟩ := bd_e hf
  refine call_V (As := [.int v1]) (rest := []) hx hb hml hown hts hK hP hD hS hA hZ lkX12_117 (c_X12_isMember l G ct sk sv a n mo v1 hc18) 0 rfl rfl ⟨Nat.le_of_ble_eq_true rfl, Nat.le_of_ble_eq_true rfl⟩ rfl hl.1 rfl (Nat.le_of_ble_eq_true rfl) dX12_is_2 ⟨Nat.le_of_ble_eq_true rfl, Nat.le_of_ble_eq_true rfl⟩ (fun r9 w9 H locs hB hP hD hS => ?_)
  obtain ⟨rfl, rfl⟩ := hB
  refine WG_eq (g2 := F0 m 5 ls [.int r_18]) rfl ?_
  refine lv_if_ne (tgt := 15) hx hb dX12_is_5 (by decide) (fun c_19 => ?_) (fun c_19 => ?_)
  · replace hf := bc_f hf c_19
    refine lv_iconst (v := 0) hx hb dX12_is_15 (by decide) ?_
    refine lv_istore_n (lv' := [(2, .int 0), (0, .ref (a 0)), (1, .int v1)]) hx hb dX12_is_16 rfl hl (by decide) rfl (fun ls hl => ?_)
    refine lv_iconst (v := 0) hx hb dX12_is_17 (by decide) ?_
    refine lv_istore_n (lv' := [(3, .int 0), (2, .int 0), (0, .ref (a 0)), (1, .int v1)]) hx hb dX12_is_18 rfl hl (by decide) rfl (fun ls hl => ?_)
    obtain ⟨v2_20, hx_21, hf⟩ := bd_e hf
    refine L19 n mo v1 0 0 v2_20 _ _ _ hP hD hS hl hx_21 ?_
    intro x9 e9 H locs ls hP hD hS hl
    subst e9
    have hP : va_P G classes (wl [lfM ct a mo]) H := hP
    have hD : va_D A (wl [lfM ct a mo]) := hD
    have hl : lv_has ls 7 [(2, .int v2_20)] := hl
    refine lv_iload_n hx hb dX12_is_126 rfl (lv_at hl 0 rfl) ?_
    obtain ⟨e1, e2⟩ := inj2 (Option.some.inj hf)
    exact end_i (w' := (wl [lfM ct a mo])) hx hb hr hlocks hK hP hD hS dX12_is_127  ⟨by rw [← e1], by rw [← e2]⟩
  · replace hf := bc_t hf c_19
    refine lv_aload_n hx hb dX12_is_8 rfl (lv_at hl 0 rfl) ?_
    refine lv_bipush (v := (-2)) hx hb dX12_is_9 (by decide) ?_
    obtain ⟨r_22, mo_23, hc23, hf⟩ := bd2_e hf
    refine call_V (As := [.int (-2)]) (rest := []) hx hb hml hown hts hK hP hD hS hA hZ lkX12_80 (c_X12_bad l G ct sk sv a n mo (-2) hc23) 0 rfl rfl ⟨Nat.le_of_ble_eq_true rfl, Nat.le_of_ble_eq_true rfl⟩ rfl hl.1 rfl (Nat.le_of_ble_eq_true rfl) dX12_is_11 ⟨Nat.le_of_ble_eq_true rfl, Nat.le_of_ble_eq_true rfl⟩ (fun r9 w9 H locs hB hP hD hS => ?_)
    obtain ⟨rfl, rfl⟩ := hB
    refine WG_eq (g2 := F0 m 14 ls [.int r_22]) rfl ?_
    obtain ⟨e1, e2⟩ := inj2 (Option.some.inj hf)
    exact end_i (w' := (wl [lfM ct a mo_23])) hx hb hr hlocks hK hP hD hS dX12_is_14  ⟨by rw [← e1], by rw [← e2]⟩
noncomputable def f_X12_layLetter (n : Nat) (z : Nat) (t : (Nat → Int32)) (v1 : Int32) (v2 : Int32) (v3 : Int32) : Option ((Nat → Int32)) :=
  gd (vp_in 1 z) <|
  bl (t (ix 1)) fun v4_2 =>
  gd (vp_in ((29 + (3 * v4_2)) + 0) z) <|
  bl (upd t (ix ((29 + (3 * v4_2)) + 0)) v1) fun t_4 =>
  gd (vp_in ((29 + (3 * v4_2)) + 1) z) <|
  bl (upd t_4 (ix ((29 + (3 * v4_2)) + 1)) v2) fun t_6 =>
  gd (vp_in ((29 + (3 * v4_2)) + 2) z) <|
  bl (upd t_6 (ix ((29 + (3 * v4_2)) + 2)) v3) fun t_8 =>
  gd (vp_in (5 + v4_2) z) <|
  bl (upd t_8 (ix (5 + v4_2)) (-1)) fun t_10 =>
  gd (vp_in 1 z) <|
  gd (vp_in 1 z) <|
  bl (upd t_10 (ix 1) ((t_10 (ix 1)) + 1)) fun t_13 =>
  some t_13
set_option maxHeartbeats 4000000 in
set_option maxRecDepth 100000 in
theorem c_X12_layLetter (l : Launch) (G : va_G) (ct : Nat → ClassId) (sk sv : Nat → Nat) (a : Nat → Nat) (n : Nat) (z : Nat) (t : (Nat → Int32)) (v1 : Int32) (v2 : Int32) (v3 : Int32) {t' : (Nat → Int32)} (hf : f_X12_layLetter n z t v1 v2 v3 = some t') : Ctr (l, G, ct, sk, sv) mX12_layLetter 0 0 [.ref (a 0), .int v1, .int v2, .int v3] (wl [lfA ct a z t]) (wl [lfA ct a z t']) (none) := by
  refine ctr_intro (by decide) (Nat.le_of_ble_eq_true rfl) ?_
  intro p e s m args below meth c A C hP hD hS hA ls hl
  obtain ⟨hx, hb, hml, hown, hts, hr, hlocks, hK, hnm, hZ⟩ := C
  have hb : c.code = cX12_layLetter := hb
  have hml : c.maxLocals = 5 := hml
  have hown : s.vm.findClass "SignedOutsideModel" = some m.cls := hown
  have hr : meth.sig.returnType = none := hr
  have hP : va_P G classes (wl [lfA ct a z t]) s.heap := hP
  have hD : va_D A (wl [lfA ct a z t]) := hD
  have hK : va_K G classes (TYS ct) s := hK
  have hl : lv_has ls 5 [(0, .ref (a 0)), (1, .int v1), (2, .int v2), (3, .int v3)] := hl
  unfold f_X12_layLetter at hf
  show WG l G ct sk sv p e (RM 0 0 0 0) s m args below meth c A (Eq2 (none) (wl [lfA ct a z t'])) s.heap [] (F0 m 0 ls [])
  refine lv_aload_n hx hb dX12_layLetter_0 rfl (lv_at hl 0 rfl) ?_
  refine lv_iconst (v := 1) hx hb dX12_layLetter_1 (by decide) ?_
  obtain ⟨g_1, hf⟩ := gd_e hf
  refine va_iald (f := t) hx hb hK hP 0 0 rfl rfl g_1 dX12_layLetter_2 ?_
  refine lv_topi (fun v4_2 ev4_2 => ?_)
  replace hf := bl_i hf ev4_2
  refine lv_istore (lv' := [(4, .int v4_2), (0, .ref (a 0)), (1, .int v1), (2, .int v2), (3, .int v3)]) hx hb dX12_layLetter_3 hl (by decide) rfl (fun ls hl => ?_)
  refine lv_aload_n hx hb dX12_layLetter_5 rfl (lv_at hl 1 rfl) ?_
  refine lv_bipush (v := 29) hx hb dX12_layLetter_6 (by decide) ?_
  refine lv_iconst (v := 3) hx hb dX12_layLetter_8 (by decide) ?_
  refine lv_iload hx hb dX12_layLetter_9 (lv_at hl 0 rfl) ?_
  refine lv_imul hx hb dX12_layLetter_11 ?_
  refine lv_iadd hx hb dX12_layLetter_12 ?_
  refine lv_iconst (v := 0) hx hb dX12_layLetter_13 (by decide) ?_
  refine lv_iadd hx hb dX12_layLetter_14 ?_
  refine lv_iload_n hx hb dX12_layLetter_15 rfl (lv_at hl 2 rfl) ?_
  obtain ⟨g_3, hf⟩ := gd_e hf
  obtain ⟨t_4, et_4, hf⟩ := bl_e hf
  refine va_iast hx hb hK hP hD hS 0 0 rfl rfl g_3 dX12_layLetter_16 (fun H locs hP hD hS => ?_)
  have hP : va_P G classes (wl [lfA ct a z t_4]) H := by rw [← et_4]; exact hP
  have hD : va_D A (wl [lfA ct a z t_4]) := by rw [← et_4]; exact hD
  refine lv_aload_n hx hb dX12_layLetter_17 rfl (lv_at hl 1 rfl) ?_
  refine lv_bipush (v := 29) hx hb dX12_layLetter_18 (by decide) ?_
  refine lv_iconst (v := 3) hx hb dX12_layLetter_20 (by decide) ?_
  refine lv_iload hx hb dX12_layLetter_21 (lv_at hl 0 rfl) ?_
  refine lv_imul hx hb dX12_layLetter_23 ?_
  refine lv_iadd hx hb dX12_layLetter_24 ?_
  refine lv_iconst (v := 1) hx hb dX12_layLetter_25 (by decide) ?_
  refine lv_iadd hx hb dX12_layLetter_26 ?_
  refine lv_iload_n hx hb dX12_layLetter_27 rfl (lv_at hl 3 rfl) ?_
  obtain ⟨g_5, hf⟩ := gd_e hf
  obtain ⟨t_6, et_6, hf⟩ := bl_e hf
  refine va_iast hx hb hK hP hD hS 0 0 rfl rfl g_5 dX12_layLetter_28 (fun H locs hP hD hS => ?_)
  have hP : va_P G classes (wl [lfA ct a z t_6]) H := by rw [← et_6]; exact hP
  have hD : va_D A (wl [lfA ct a z t_6]) := by rw [← et_6]; exact hD
  refine lv_aload_n hx hb dX12_layLetter_29 rfl (lv_at hl 1 rfl) ?_
  refine lv_bipush (v := 29) hx hb dX12_layLetter_30 (by decide) ?_
  refine lv_iconst (v := 3) hx hb dX12_layLetter_32 (by decide) ?_
  refine lv_iload hx hb dX12_layLetter_33 (lv_at hl 0 rfl) ?_
  refine lv_imul hx hb dX12_layLetter_35 ?_
  refine lv_iadd hx hb dX12_layLetter_36 ?_
  refine lv_iconst (v := 2) hx hb dX12_layLetter_37 (by decide) ?_
  refine lv_iadd hx hb dX12_layLetter_38 ?_
  refine lv_iload_n hx hb dX12_layLetter_39 rfl (lv_at hl 4 rfl) ?_
  obtain ⟨g_7, hf⟩ := gd_e hf
  obtain ⟨t_8, et_8, hf⟩ := bl_e hf
  refine va_iast hx hb hK hP hD hS 0 0 rfl rfl g_7 dX12_layLetter_40 (fun H locs hP hD hS => ?_)
  have hP : va_P G classes (wl [lfA ct a z t_8]) H := by rw [← et_8]; exact hP
  have hD : va_D A (wl [lfA ct a z t_8]) := by rw [← et_8]; exact hD
  refine lv_aload_n hx hb dX12_layLetter_41 rfl (lv_at hl 1 rfl) ?_
  refine lv_iconst (v := 5) hx hb dX12_layLetter_42 (by decide) ?_
  refine lv_iload hx hb dX12_layLetter_43 (lv_at hl 0 rfl) ?_
  refine lv_iadd hx hb dX12_layLetter_45 ?_
  refine lv_iconst (v := (-1)) hx hb dX12_layLetter_46 (by decide) ?_
  obtain ⟨g_9, hf⟩ := gd_e hf
  obtain ⟨t_10, et_10, hf⟩ := bl_e hf
  refine va_iast hx hb hK hP hD hS 0 0 rfl rfl g_9 dX12_layLetter_47 (fun H locs hP hD hS => ?_)
  have hP : va_P G classes (wl [lfA ct a z t_10]) H := by rw [← et_10]; exact hP
  have hD : va_D A (wl [lfA ct a z t_10]) := by rw [← et_10]; exact hD
  refine lv_aload_n hx hb dX12_layLetter_48 rfl (lv_at hl 1 rfl) ?_
  refine lv_iconst (v := 1) hx hb dX12_layLetter_49 (by decide) ?_
  refine lv_dup2_11 hx hb dX12_layLetter_50 rfl rfl ?_
  obtain ⟨g_11, hf⟩ := gd_e hf
  refine va_iald (f := t_10) hx hb hK hP 0 0 rfl rfl g_11 dX12_layLetter_51 ?_
  refine lv_iconst (v := 1) hx hb dX12_layLetter_52 (by decide) ?_
  refine lv_iadd hx hb dX12_layLetter_53 ?_
  obtain ⟨g_12, hf⟩ := gd_e hf
  obtain ⟨t_13, et_13, hf⟩ := bl_e hf
  refine va_iast hx hb hK hP hD hS 0 0 rfl rfl g_12 dX12_layLetter_54 (fun H locs hP hD hS => ?_)
  have hP : va_P G classes (wl [lfA ct a z t_13]) H := by rw [← et_13]; exact hP
  have hD : va_D A (wl [lfA ct a z t_13]) := by rw [← et_13]; exact hD
  have e1 := Option.some.inj hf
  exact end_v (w' := (wl [lfA ct a z t_13])) hx hb hr hlocks hK hP hD hS dX12_layLetter_55  ⟨rfl, by rw [← e1]⟩
noncomputable def f_X12_layMember (n : Nat) (z : Nat) (t : (Nat → Int32)) (v1 : Int32) (v2 : Int32) : Option ((Nat → Int32)) :=
  gd (vp_in 0 z) <|
  bl (t (ix 0)) fun v3_2 =>
  gd (vp_in (24 + v3_2) z) <|
  bl (upd t (ix (24 + v3_2)) v1) fun t_4 =>
  gd (vp_in (16 + v3_2) z) <|
  bl (upd t_4 (ix (16 + v3_2)) v2) fun t_6 =>
  gd (vp_in (11 + v3_2) z) <|
  bl (upd t_6 (ix (11 + v3_2)) 0) fun t_8 =>
  gd (vp_in 0 z) <|
  gd (vp_in 0 z) <|
  bl (upd t_8 (ix 0) ((t_8 (ix 0)) + 1)) fun t_11 =>
  some t_11
set_option maxHeartbeats 4000000 in
set_option maxRecDepth 100000 in
theorem c_X12_layMember (l : Launch) (G : va_G) (ct : Nat → ClassId) (sk sv : Nat → Nat) (a : Nat → Nat) (n : Nat) (z : Nat) (t : (Nat → Int32)) (v1 : Int32) (v2 : Int32) {t' : (Nat → Int32)} (hf : f_X12_layMember n z t v1 v2 = some t') : Ctr (l, G, ct, sk, sv) mX12_layMember 0 0 [.ref (a 0), .int v1, .int v2] (wl [lfA ct a z t]) (wl [lfA ct a z t']) (none) := by
  refine ctr_intro (by decide) (Nat.le_of_ble_eq_true rfl) ?_
  intro p e s m args below meth c A C hP hD hS hA ls hl
  obtain ⟨hx, hb, hml, hown, hts, hr, hlocks, hK, hnm, hZ⟩ := C
  have hb : c.code = cX12_layMember := hb
  have hml : c.maxLocals = 4 := hml
  have hown : s.vm.findClass "SignedOutsideModel" = some m.cls := hown
  have hr : meth.sig.returnType = none := hr
  have hP : va_P G classes (wl [lfA ct a z t]) s.heap := hP
  have hD : va_D A (wl [lfA ct a z t]) := hD
  have hK : va_K G classes (TYS ct) s := hK
  have hl : lv_has ls 4 [(0, .ref (a 0)), (1, .int v1), (2, .int v2)] := hl
  unfold f_X12_layMember at hf
  show WG l G ct sk sv p e (RM 0 0 0 0) s m args below meth c A (Eq2 (none) (wl [lfA ct a z t'])) s.heap [] (F0 m 0 ls [])
  refine lv_aload_n hx hb dX12_layMember_0 rfl (lv_at hl 0 rfl) ?_
  refine lv_iconst (v := 0) hx hb dX12_layMember_1 (by decide) ?_
  obtain ⟨g_1, hf⟩ := gd_e hf
  refine va_iald (f := t) hx hb hK hP 0 0 rfl rfl g_1 dX12_layMember_2 ?_
  refine lv_topi (fun v3_2 ev3_2 => ?_)
  replace hf := bl_i hf ev3_2
  refine lv_istore_n (lv' := [(3, .int v3_2), (0, .ref (a 0)), (1, .int v1), (2, .int v2)]) hx hb dX12_layMember_3 rfl hl (by decide) rfl (fun ls hl => ?_)
  refine lv_aload_n hx hb dX12_layMember_4 rfl (lv_at hl 1 rfl) ?_
  refine lv_bipush (v := 24) hx hb dX12_layMember_5 (by decide) ?_
  refine lv_iload_n hx hb dX12_layMember_7 rfl (lv_at hl 0 rfl) ?_
  refine lv_iadd hx hb dX12_layMember_8 ?_
  refine lv_iload_n hx hb dX12_layMember_9 rfl (lv_at hl 2 rfl) ?_
  obtain ⟨g_3, hf⟩ := gd_e hf
  obtain ⟨t_4, et_4, hf⟩ := bl_e hf
  refine va_iast hx hb hK hP hD hS 0 0 rfl rfl g_3 dX12_layMember_10 (fun H locs hP hD hS => ?_)
  have hP : va_P G classes (wl [lfA ct a z t_4]) H := by rw [← et_4]; exact hP
  have hD : va_D A (wl [lfA ct a z t_4]) := by rw [← et_4]; exact hD
  refine lv_aload_n hx hb dX12_layMember_11 rfl (lv_at hl 1 rfl) ?_
  refine lv_bipush (v := 16) hx hb dX12_layMember_12 (by decide) ?_
  refine lv_iload_n hx hb dX12_layMember_14 rfl (lv_at hl 0 rfl) ?_
  refine lv_iadd hx hb dX12_layMember_15 ?_
  refine lv_iload_n hx hb dX12_layMember_16 rfl (lv_at hl 3 rfl) ?_
  obtain ⟨g_5, hf⟩ := gd_e hf
  obtain ⟨t_6, et_6, hf⟩ := bl_e hf
  refine va_iast hx hb hK hP hD hS 0 0 rfl rfl g_5 dX12_layMember_17 (fun H locs hP hD hS => ?_)
  have hP : va_P G classes (wl [lfA ct a z t_6]) H := by rw [← et_6]; exact hP
  have hD : va_D A (wl [lfA ct a z t_6]) := by rw [← et_6]; exact hD
  refine lv_aload_n hx hb dX12_layMember_18 rfl (lv_at hl 1 rfl) ?_
  refine lv_bipush (v := 11) hx hb dX12_layMember_19 (by decide) ?_
  refine lv_iload_n hx hb dX12_layMember_21 rfl (lv_at hl 0 rfl) ?_
  refine lv_iadd hx hb dX12_layMember_22 ?_
  refine lv_iconst (v := 0) hx hb dX12_layMember_23 (by decide) ?_
  obtain ⟨g_7, hf⟩ := gd_e hf
  obtain ⟨t_8, et_8, hf⟩ := bl_e hf
  refine va_iast hx hb hK hP hD hS 0 0 rfl rfl g_7 dX12_layMember_24 (fun H locs hP hD hS => ?_)
  have hP : va_P G classes (wl [lfA ct a z t_8]) H := by rw [← et_8]; exact hP
  have hD : va_D A (wl [lfA ct a z t_8]) := by rw [← et_8]; exact hD
  refine lv_aload_n hx hb dX12_layMember_25 rfl (lv_at hl 1 rfl) ?_
  refine lv_iconst (v := 0) hx hb dX12_layMember_26 (by decide) ?_
  refine lv_dup2_11 hx hb dX12_layMember_27 rfl rfl ?_
  obtain ⟨g_9, hf⟩ := gd_e hf
  refine va_iald (f := t_8) hx hb hK hP 0 0 rfl rfl g_9 dX12_layMember_28 ?_
  refine lv_iconst (v := 1) hx hb dX12_layMember_29 (by decide) ?_
  refine lv_iadd hx hb dX12_layMember_30 ?_
  obtain ⟨g_10, hf⟩ := gd_e hf
  obtain ⟨t_11, et_11, hf⟩ := bl_e hf
  refine va_iast hx hb hK hP hD hS 0 0 rfl rfl g_10 dX12_layMember_31 (fun H locs hP hD hS => ?_)
  have hP : va_P G classes (wl [lfA ct a z t_11]) H := by rw [← et_11]; exact hP
  have hD : va_D A (wl [lfA ct a z t_11]) := by rw [← et_11]; exact hD
  have e1 := Option.some.inj hf
  exact end_v (w' := (wl [lfA ct a z t_11])) hx hb hr hlocks hK hP hD hS dX12_layMember_32  ⟨rfl, by rw [← e1]⟩
noncomputable def f_X12_letter_j26 (n : Nat) (mo : MV) : Option (Int32 × MV) :=
  bd2 (f_X12_bad n mo (-2)) fun r_1 mo_2 =>
  some (r_1, mo_2)
noncomputable def f_X12_letter (n : Nat) (mo : MV) (v1 : Int32) (v2 : Int32) (v3 : Int32) : Option (Int32 × MV) :=
  bd (f_X12_isPlace n v1) fun r_3 =>
  bc (r_3 = 0) (f_X12_letter_j26 n mo)
  (bd (f_X12_isPlace n v2) fun r_5 =>
  bc (r_5 = 0) (f_X12_letter_j26 n mo)
  (bd (f_X12_in n ((v3 : Int32).toInt64) 1 9) fun r_7 =>
  bc (r_7 = 0) (f_X12_letter_j26 n mo)
  (bd (f_X12_letters n mo) fun r_9 =>
  bc (r_9 = 6) (bd2 (f_X12_full n mo) fun r_16 mo_17 =>
  some (r_16, mo_17))
  (bd (f_X12_layLetter n 235 (mo.2.1 0) v1 v2 v3) fun t_11 =>
  bl (setA mo 0 t_11) fun mo_12 =>
  gd (vp_in 4 235) <|
  bl (setA mo_12 0 (upd (mo_12.2.1 0) (ix 4) 0)) fun mo_14 =>
  bd (f_X12_letters n mo_14) fun r_15 =>
  some (r_15 - 1, mo_14)))))
set_option maxHeartbeats 4000000 in
set_option maxRecDepth 100000 in
theorem c_X12_letter (l : Launch) (G : va_G) (ct : Nat → ClassId) (sk sv : Nat → Nat) (a : Nat → Nat) (n : Nat) (mo : MV) (v1 : Int32) (v2 : Int32) (v3 : Int32) {r : Int32} {mo' : MV} (hf : f_X12_letter n mo v1 v2 v3 = some (r, mo')) : Ctr (l, G, ct, sk, sv) mX12_letter 2 45 [.ref (a 0), .int v1, .int v2, .int v3] (wl [lfM ct a mo]) (wl [lfM ct a mo']) (some (.int r)) := by
  refine ctr_intro (by decide) (Nat.le_of_ble_eq_true rfl) ?_
  intro p e s m args below meth c A C hP hD hS hA ls hl
  obtain ⟨hx, hb, hml, hown, hts, hr, hlocks, hK, hnm, hZ⟩ := C
  have hb : c.code = cX12_letter := hb
  have hml : c.maxLocals = 4 := hml
  have hown : s.vm.findClass "SignedOutsideModel" = some m.cls := hown
  have hr : meth.sig.returnType = some .int := hr
  have hP : va_P G classes (wl [lfM ct a mo]) s.heap := hP
  have hD : va_D A (wl [lfM ct a mo]) := hD
  have hK : va_K G classes (TYS ct) s := hK
  have hl : lv_has ls 4 [(0, .ref (a 0)), (1, .int v1), (2, .int v2), (3, .int v3)] := hl
  have J26 : ∀ (mo : MV) (H : Heap) (locs : List Loc) (ls : Array Slot), va_P G classes (wl [lfM ct a mo]) H → va_D A (wl [lfM ct a mo]) → va_S A s.heap H locs → lv_has ls 4 [(0, .ref (a 0))] → f_X12_letter_j26 n mo = some (r, mo') → WG l G ct sk sv p e (RM 2 45 0 0) s m args below meth c A (Eq2 (some (.int r)) (wl [lfM ct a mo'])) H locs (F0 m 26 ls []) := by
    intro mo H locs ls hP hD hS hl hf
    unfold f_X12_letter_j26 at hf
    refine lv_aload_n hx hb dX12_letter_26 rfl (lv_at hl 0 rfl) ?_
    refine lv_bipush (v := (-2)) hx hb dX12_letter_27 (by decide) ?_
    obtain ⟨r_1, mo_2, hc2, hf⟩ := bd2_e hf
    refine call_V (As := [.int (-2)]) (rest := []) hx hb hml hown hts hK hP hD hS hA hZ lkX12_80 (c_X12_bad l G ct sk sv a n mo (-2) hc2) 0 rfl rfl ⟨Nat.le_of_ble_eq_true rfl, Nat.le_of_ble_eq_true rfl⟩ rfl hl.1 rfl (Nat.le_of_ble_eq_true rfl) dX12_letter_29 ⟨Nat.le_of_ble_eq_true rfl, Nat.le_of_ble_eq_true rfl⟩ (fun r9 w9 H locs hB hP hD hS => ?_)
    obtain ⟨rfl, rfl⟩ := hB
    refine WG_eq (g2 := F0 m 32 ls [.int r_1]) rfl ?_
    obtain ⟨e1, e2⟩ := inj2 (Option.some.inj hf)
    exact end_i (w' := (wl [lfM ct a mo_2])) hx hb hr hlocks hK hP hD hS dX12_letter_32  ⟨by rw [← e1], by rw [← e2]⟩
  unfold f_X12_letter at hf
  show WG l G ct sk sv p e (RM 2 45 0 0) s m args below meth c A (Eq2 (some (.int r)) (wl [lfM ct a mo'])) s.heap [] (F0 m 0 ls [])
  refine lv_iload_n hx hb dX12_letter_0 rfl (lv_at hl 1 rfl) ?_
  obtain ⟨r_3, hc3, hf⟩ := bd_e hf
  refine call_S (As := [.int v1]) (rest := []) hx hb hml hown hts hK hP hD hS hA hZ lkX12_76 (Ctr.upL (c_X12_isPlace l G ct sk sv  n v1 hc3) [lfM ct a mo] [lfM ct a mo] [lfM ct a mo] [0] 1 (by decide) rfl rfl rfl rfl) ⟨Nat.le_of_ble_eq_true rfl, Nat.le_of_ble_eq_true rfl⟩ rfl hl.1 rfl (Nat.le_of_ble_eq_true rfl) dX12_letter_1 ⟨Nat.le_of_ble_eq_true rfl, Nat.le_of_ble_eq_true rfl⟩ (fun r9 w9 H locs hB hP hD hS => ?_)
  obtain ⟨rfl, rfl⟩ := hB
  refine WG_eq (g2 := F0 m 4 ls [.int r_3]) rfl ?_
  refine lv_if_eq (tgt := 26) hx hb dX12_letter_4 (by decide) (fun c_4 => ?_) (fun c_4 => ?_)
  · replace hf := bc_t hf c_4
    exact J26 mo _ _ _ hP hD hS (lv_sub hl [0] rfl) hf
  · replace hf := bc_f hf c_4
    refine lv_iload_n hx hb dX12_letter_7 rfl (lv_at hl 2 rfl) ?_
    obtain ⟨r_5, hc5, hf⟩ := bd_e hf
    refine call_S (As := [.int v2]) (rest := []) hx hb hml hown hts hK hP hD hS hA hZ lkX12_76 (Ctr.upL (c_X12_isPlace l G ct sk sv  n v2 hc5) [lfM ct a mo] [lfM ct a mo] [lfM ct a mo] [0] 1 (by decide) rfl rfl rfl rfl) ⟨Nat.le_of_ble_eq_true rfl, Nat.le_of_ble_eq_true rfl⟩ rfl hl.1 rfl (Nat.le_of_ble_eq_true rfl) dX12_letter_8 ⟨Nat.le_of_ble_eq_true rfl, Nat.le_of_ble_eq_true rfl⟩ (fun r9 w9 H locs hB hP hD hS => ?_)
    obtain ⟨rfl, rfl⟩ := hB
    refine WG_eq (g2 := F0 m 11 ls [.int r_5]) rfl ?_
    refine lv_if_eq (tgt := 26) hx hb dX12_letter_11 (by decide) (fun c_6 => ?_) (fun c_6 => ?_)
    · replace hf := bc_t hf c_6
      exact J26 mo _ _ _ hP hD hS (lv_sub hl [0] rfl) hf
    · replace hf := bc_f hf c_6
      refine lv_iload_n hx hb dX12_letter_14 rfl (lv_at hl 3 rfl) ?_
      refine lv_i2l (v := (v3 : Int32).toInt64) hx hb dX12_letter_15 rfl ?_
      refine lv_lconst (v := 1) hx hb dX12_letter_16 (by decide) ?_
      refine lv_ldc2 (v := 9) hx hb hown (hts _ kw986) dX12_letter_17 ?_
      obtain ⟨r_7, hc7, hf⟩ := bd_e hf
      refine call_S (As := [.long ((v3 : Int32).toInt64), .long 1, .long 9]) (rest := []) hx hb hml hown hts hK hP hD hS hA hZ lkX12_65 (Ctr.upL (c_X12_in l G ct sk sv  n ((v3 : Int32).toInt64) 1 9 hc7) [lfM ct a mo] [lfM ct a mo] [lfM ct a mo] [0] 1 (by decide) rfl rfl rfl rfl) ⟨Nat.le_of_ble_eq_true rfl, Nat.le_of_ble_eq_true rfl⟩ rfl hl.1 rfl (Nat.le_of_ble_eq_true rfl) dX12_letter_20 ⟨Nat.le_of_ble_eq_true rfl, Nat.le_of_ble_eq_true rfl⟩ (fun r9 w9 H locs hB hP hD hS => ?_)
      obtain ⟨rfl, rfl⟩ := hB
      refine WG_eq (g2 := F0 m 23 ls [.int r_7]) rfl ?_
      refine lv_if_ne (tgt := 33) hx hb dX12_letter_23 (by decide) (fun c_8 => ?_) (fun c_8 => ?_)
      · replace hf := bc_f hf c_8
        refine lv_aload_n hx hb dX12_letter_33 rfl (lv_at hl 0 rfl) ?_
        obtain ⟨r_9, hc9, hf⟩ := bd_e hf
        refine call_V (As := []) (rest := []) hx hb hml hown hts hK hP hD hS hA hZ lkX12_69 (c_X12_letters l G ct sk sv a n mo hc9) 0 rfl rfl ⟨Nat.le_of_ble_eq_true rfl, Nat.le_of_ble_eq_true rfl⟩ rfl hl.1 rfl (Nat.le_of_ble_eq_true rfl) dX12_letter_34 ⟨Nat.le_of_ble_eq_true rfl, Nat.le_of_ble_eq_true rfl⟩ (fun r9 w9 H locs hB hP hD hS => ?_)
        obtain ⟨rfl, rfl⟩ := hB
        refine WG_eq (g2 := F0 m 37 ls [.int r_9]) rfl ?_
        refine lv_bipush (v := 6) hx hb dX12_letter_37 (by decide) ?_
        refine lv_icmp_ne (tgt := 47) hx hb dX12_letter_39 (by decide) (fun c_10 => ?_) (fun c_10 => ?_)
        · replace hf := bc_f hf c_10
          refine lv_aload_n hx hb dX12_letter_47 rfl (lv_at hl 0 rfl) ?_
          refine va_get (D := G) (C := RX12) (T := TX12) (N := 21) (v := .ref (a 1)) hx hb hts iu_X12 hown hK hP 0 rfl rfl 0 (by decide) (hts _ kw887) (fun _ h9 => h9) rfl dX12_letter_48 ?_
          refine lv_iload_n hx hb dX12_letter_51 rfl (lv_at hl 1 rfl) ?_
          refine lv_iload_n hx hb dX12_letter_52 rfl (lv_at hl 2 rfl) ?_
          refine lv_iload_n hx hb dX12_letter_53 rfl (lv_at hl 3 rfl) ?_
          obtain ⟨t_11, hc12, hf⟩ := bd_e hf
          obtain ⟨mo_12, emo_12, hf⟩ := bl_e hf
          refine call_S (As := [.ref (a 1), .int v1, .int v2, .int v3]) (rest := []) hx hb hml hown hts hK hP hD hS hA hZ lkX12_93 (Ctr.up (W := (wl [lfM ct a mo])) (W' := (wl [lfM ct a (setA mo 0 t_11)])) (c_X12_layLetter l G ct sk sv (fun _ => a 1) n 235 (mo.2.1 0) v1 v2 v3 hc12) [1] [0, 2, 3, 4, 5, 6, 7, 8, 9, 10, 11, 12, 13, 14] [0, 14, 1, 2, 3, 4, 5, 6, 7, 8, 9, 10, 11, 12, 13] rfl rfl rfl rfl (by decide) rfl rfl) ⟨Nat.le_of_ble_eq_true rfl, Nat.le_of_ble_eq_true rfl⟩ rfl hl.1 rfl (Nat.le_of_ble_eq_true rfl) dX12_letter_54 ⟨Nat.le_of_ble_eq_true rfl, Nat.le_of_ble_eq_true rfl⟩ (fun r9 w9 H locs hB hP hD hS => ?_)
          obtain ⟨rfl, rfl⟩ := hB
          have hP : va_P G classes (wl [lfM ct a mo_12]) H := by rw [← emo_12]; exact hP
          have hD : va_D A (wl [lfM ct a mo_12]) := by rw [← emo_12]; exact hD
          refine WG_eq (g2 := F0 m 57 ls []) rfl ?_
          refine lv_aload_n hx hb dX12_letter_57 rfl (lv_at hl 0 rfl) ?_
          refine va_get (D := G) (C := RX12) (T := TX12) (N := 21) (v := .ref (a 1)) hx hb hts iu_X12 hown hK hP 0 rfl rfl 0 (by decide) (hts _ kw887) (fun _ h9 => h9) rfl dX12_letter_58 ?_
          refine lv_iconst (v := 4) hx hb dX12_letter_61 (by decide) ?_
          refine lv_iconst (v := 0) hx hb dX12_letter_62 (by decide) ?_
          obtain ⟨g_13, hf⟩ := gd_e hf
          obtain ⟨mo_14, emo_14, hf⟩ := bl_e hf
          refine va_iast hx hb hK hP hD hS 1 0 rfl rfl g_13 dX12_letter_63 (fun H locs hP hD hS => ?_)
          have hP : va_P G classes (wl [lfM ct a mo_14]) H := by rw [← emo_14]; exact hP
          have hD : va_D A (wl [lfM ct a mo_14]) := by rw [← emo_14]; exact hD
          refine lv_aload_n hx hb dX12_letter_64 rfl (lv_at hl 0 rfl) ?_
          obtain ⟨r_15, hc15, hf⟩ := bd_e hf
          refine call_V (As := []) (rest := []) hx hb hml hown hts hK hP hD hS hA hZ lkX12_69 (c_X12_letters l G ct sk sv a n mo_14 hc15) 0 rfl rfl ⟨Nat.le_of_ble_eq_true rfl, Nat.le_of_ble_eq_true rfl⟩ rfl hl.1 rfl (Nat.le_of_ble_eq_true rfl) dX12_letter_65 ⟨Nat.le_of_ble_eq_true rfl, Nat.le_of_ble_eq_true rfl⟩ (fun r9 w9 H locs hB hP hD hS => ?_)
          obtain ⟨rfl, rfl⟩ := hB
          refine WG_eq (g2 := F0 m 68 ls [.int r_15]) rfl ?_
          refine lv_iconst (v := 1) hx hb dX12_letter_68 (by decide) ?_
          refine lv_isub hx hb dX12_letter_69 ?_
          obtain ⟨e1, e2⟩ := inj2 (Option.some.inj hf)
          exact end_i (w' := (wl [lfM ct a mo_14])) hx hb hr hlocks hK hP hD hS dX12_letter_70  ⟨by rw [← e1], by rw [← e2]⟩
        · replace hf := bc_t hf c_10
          refine lv_aload_n hx hb dX12_letter_42 rfl (lv_at hl 0 rfl) ?_
          obtain ⟨r_16, mo_17, hc17, hf⟩ := bd2_e hf
          refine call_V (As := []) (rest := []) hx hb hml hown hts hK hP hD hS hA hZ lkX12_84 (c_X12_full l G ct sk sv a n mo hc17) 0 rfl rfl ⟨Nat.le_of_ble_eq_true rfl, Nat.le_of_ble_eq_true rfl⟩ rfl hl.1 rfl (Nat.le_of_ble_eq_true rfl) dX12_letter_43 ⟨Nat.le_of_ble_eq_true rfl, Nat.le_of_ble_eq_true rfl⟩ (fun r9 w9 H locs hB hP hD hS => ?_)
          obtain ⟨rfl, rfl⟩ := hB
          refine WG_eq (g2 := F0 m 46 ls [.int r_16]) rfl ?_
          obtain ⟨e1, e2⟩ := inj2 (Option.some.inj hf)
          exact end_i (w' := (wl [lfM ct a mo_17])) hx hb hr hlocks hK hP hD hS dX12_letter_46  ⟨by rw [← e1], by rw [← e2]⟩
      · replace hf := bc_t hf c_8
        exact J26 mo _ _ _ hP hD hS (lv_sub hl [0] rfl) hf
noncomputable def f_X12_look_j64 (n : Nat) (mo : MV) (v6 : Int32) (v5 : Int32) (v4 : Int32) (v1 : Int32) (v2 : Int32) (s0 : Int32) (s1 : Int32) : Option ((Int32 × Int32) ⊕ (Int32)) :=
  bl (s1 + s0) fun v3_1 =>
  bl (v6 + 1) fun v6_2 =>
  some (.inl (v6_2, v3_1))
noncomputable def f_X12_look_b39 (n : Nat) (mo : MV) (v6 : Int32) (v5 : Int32) (v4 : Int32) (v3 : Int32) (v1 : Int32) (v2 : Int32) : Option ((Int32 × Int32) ⊕ (Int32)) :=
  bc (100 ≤ v6) (some (.inr v3))
  (bd (f_X12_canBeAt n mo v1 v2 v6 0) fun r_4 =>
  bc (r_4 = 0) (f_X12_look_j64 n mo v6 v5 v4 v1 v2 0 v3)
  (f_X12_look_j64 n mo v6 v5 v4 v1 v2 1 v3))
noncomputable def f_X12_look_l39 (fu : Nat) (n : Nat) (mo : MV) (v5 : Int32) (v4 : Int32) (v1 : Int32) (v2 : Int32) (v6 : Int32) (v3 : Int32) : Option (Int32) :=
  lp (fun q => f_X12_look_b39 n mo q.1 v5 v4 q.2 v1 v2) fu (v6, v3)
noncomputable def f_X12_look_j140 (n : Nat) (mo : MV) (v8 : Int32) (v6 : Int32) (v5 : Int32) (v4 : Int32) (v3 : Int32) (v1 : Int32) (v2 : Int32) (s0 : Int32) (s1 : Int32) : Option ((Int32 × Int32) ⊕ (Int32)) :=
  bl (s1 + s0) fun v7_6 =>
  bl (v8 + 1) fun v8_7 =>
  some (.inl (v8_7, v7_6))
noncomputable def f_X12_look_j139 (n : Nat) (mo : MV) (v8 : Int32) (v6 : Int32) (v5 : Int32) (v4 : Int32) (v3 : Int32) (v1 : Int32) (v2 : Int32) (s0 : Int32) : Option ((Int32 × Int32) ⊕ (Int32)) :=
  f_X12_look_j140 n mo v8 v6 v5 v4 v3 v1 v2 0 s0
noncomputable def f_X12_look_b92 (n : Nat) (mo : MV) (v8 : Int32) (v7 : Int32) (v6 : Int32) (v5 : Int32) (v4 : Int32) (v3 : Int32) (v1 : Int32) (v2 : Int32) : Option ((Int32 × Int32) ⊕ (Int32)) :=
  bc (100 ≤ v8) (some (.inr v7))
  (bd (f_X12_miles n v6 v8) fun r_9 =>
  gd (vp_in (24 + v1) 235) <|
  bd (f_X12_reachAs n (mo.2.1 0 (ix (24 + v1)))) fun r_11 =>
  bc (r_11 < r_9) (f_X12_look_j139 n mo v8 v6 v5 v4 v3 v1 v2 v7)
  (bd (f_X12_canBeAt n mo v1 v2 v8 0) fun r_13 =>
  bc (r_13 = 0) (f_X12_look_j139 n mo v8 v6 v5 v4 v3 v1 v2 v7)
  (f_X12_look_j140 n mo v8 v6 v5 v4 v3 v1 v2 1 v7)))
noncomputable def f_X12_look_l92 (fu : Nat) (n : Nat) (mo : MV) (v6 : Int32) (v5 : Int32) (v4 : Int32) (v3 : Int32) (v1 : Int32) (v2 : Int32) (v8 : Int32) (v7 : Int32) : Option (Int32) :=
  lp (fun q => f_X12_look_b92 n mo q.1 q.2 v6 v5 v4 v3 v1 v2) fu (v8, v7)
noncomputable def f_X12_look_j198 (n : Nat) (mo : MV) (v4 : Int32) (v6 : Int32) (v3 : Int32) (v1 : Int32) (v2 : Int32) (s0 : Int32) : Option ((Int32 × Int32 × Int32) ⊕ (Int32)) :=
  bl (v6 + 1) fun v6_15 =>
  some (.inl (v6_15, s0, v4))
noncomputable def f_X12_look_j182 (n : Nat) (mo : MV) (v8 : Int32) (v6 : Int32) (v5 : Int32) (v3 : Int32) (v1 : Int32) (v2 : Int32) (s0 : Int32) : Option ((Int32 × Int32 × Int32) ⊕ (Int32)) :=
  bc (v5 ≤ v8) (f_X12_look_j198 n mo s0 v6 v3 v1 v2 v5)
  (f_X12_look_j198 n mo s0 v6 v3 v1 v2 v8)
noncomputable def f_X12_look_j166 (n : Nat) (mo : MV) (v6 : Int32) (v5 : Int32) (v4 : Int32) (v3 : Int32) (v1 : Int32) (v2 : Int32) (s0 : Int32) : Option ((Int32 × Int32 × Int32) ⊕ (Int32)) :=
  bc (v5 ≤ s0) (f_X12_look_j182 n mo s0 v6 v5 v3 v1 v2 v4)
  (f_X12_look_j182 n mo s0 v6 v5 v3 v1 v2 v6)
noncomputable def f_X12_look_b75 (n : Nat) (mo : MV) (v6 : Int32) (v5 : Int32) (v4 : Int32) (v3 : Int32) (v1 : Int32) (v2 : Int32) : Option ((Int32 × Int32 × Int32) ⊕ (Int32)) :=
  bc (100 ≤ v6) (some (.inr v4))
  (bc (v3 ≤ 0) (some (.inr v4))
  (bd (f_X12_look_l92 n n mo v6 v5 v4 v3 v1 v2 0 0) fun v7_20 =>
  bc ((2 * v7_20) ≤ v3) (f_X12_look_j166 n mo v6 v5 v4 v3 v1 v2 (v3 - v7_20))
  (f_X12_look_j166 n mo v6 v5 v4 v3 v1 v2 v7_20)))
noncomputable def f_X12_look_l75 (fu : Nat) (n : Nat) (mo : MV) (v3 : Int32) (v1 : Int32) (v2 : Int32) (v6 : Int32) (v5 : Int32) (v4 : Int32) : Option (Int32) :=
  lp (fun q => f_X12_look_b75 n mo q.1 q.2.1 q.2.2 v3 v1 v2) fu (v6, v5, v4)
noncomputable def f_X12_look_j206 (n : Nat) (mo : MV) (v4 : Int32) : Option (Int32 × MV) :=
  some (v4, mo)
noncomputable def f_X12_look_j20 (n : Nat) (mo : MV) : Option (Int32 × MV) :=
  bd2 (f_X12_bad n mo (-2)) fun r_23 mo_24 =>
  some (r_23, mo_24)
noncomputable def f_X12_look (n : Nat) (mo : MV) (v1 : Int32) (v2 : Int32) : Option (Int32 × MV) :=
  bd (f_X12_isMember n mo v1) fun r_25 =>
  bc (r_25 = 0) (f_X12_look_j20 n mo)
  (bd (f_X12_in n ((v2 : Int32).toInt64) 0 99) fun r_27 =>
  bc (r_27 = 0) (f_X12_look_j20 n mo)
  (bd (f_X12_look_l39 n n mo 1000000 (-1) v1 v2 0 0) fun v3_29 =>
  bd (f_X12_look_l75 n n mo v3_29 v1 v2 0 1000000 (-1)) fun v4_31 =>
  f_X12_look_j206 n mo v4_31))
set_option maxHeartbeats 4000000 in
set_option maxRecDepth 100000 in
theorem c_X12_look (l : Launch) (G : va_G) (ct : Nat → ClassId) (sk sv : Nat → Nat) (a : Nat → Nat) (n : Nat) (mo : MV) (v1 : Int32) (v2 : Int32) {r : Int32} {mo' : MV} (hf : f_X12_look n mo v1 v2 = some (r, mo')) : Ctr (l, G, ct, sk, sv) mX12_look 2 50 [.ref (a 0), .int v1, .int v2] (wl [lfM ct a mo]) (wl [lfM ct a mo']) (some (.int r)) := by
  refine ctr_intro (by decide) (Nat.le_of_ble_eq_true rfl) ?_
  intro p e s m args below meth c A C hP hD hS hA ls hl
  obtain ⟨hx, hb, hml, hown, hts, hr, hlocks, hK, hnm, hZ⟩ := C
  have hb : c.code = cX12_look := hb
  have hml : c.maxLocals = 9 := hml
  have hown : s.vm.findClass "SignedOutsideModel" = some m.cls := hown
  have hr : meth.sig.returnType = some .int := hr
  have hP : va_P G classes (wl [lfM ct a mo]) s.heap := hP
  have hD : va_D A (wl [lfM ct a mo]) := hD
  have hK : va_K G classes (TYS ct) s := hK
  have hl : lv_has ls 9 [(0, .ref (a 0)), (1, .int v1), (2, .int v2)] := hl
  have L39 : ∀ (fu : Nat) (mo : MV) (v5 : Int32) (v4 : Int32) (v1 : Int32) (v2 : Int32) (v6 : Int32) (v3 : Int32) (ex : Int32) (H : Heap) (locs : List Loc) (ls : Array Slot), va_P G classes (wl [lfM ct a mo]) H → va_D A (wl [lfM ct a mo]) → va_S A s.heap H locs → lv_has ls 9 [(6, .int v6), (5, .int v5), (4, .int v4), (3, .int v3), (0, .ref (a 0)), (1, .int v1), (2, .int v2)] → f_X12_look_l39 fu n mo v5 v4 v1 v2 v6 v3 = some ex → (∀ (x : Int32), ex = x → ∀ (H : Heap) (locs : List Loc) (ls : Array Slot), va_P G classes (wl [lfM ct a mo]) H → va_D A (wl [lfM ct a mo]) → va_S A s.heap H locs → lv_has ls 9 [(5, .int v5), (4, .int v4), (3, .int x), (0, .ref (a 0)), (1, .int v1), (2, .int v2)] → WG l G ct sk sv p e (RM 2 50 0 0) s m args below meth c A (Eq2 (some (.int r)) (wl [lfM ct a mo'])) H locs (F0 m 72 ls [])) → WG l G ct sk sv p e (RM 2 50 0 0) s m args below meth c A (Eq2 (some (.int r)) (wl [lfM ct a mo'])) H locs (F0 m 39 ls []) := by
    intro fu
    induction fu with
    | zero =>
      intro mo v5 v4 v1 v2 v6 v3 ex H locs ls hP hD hS hl hf
      exact absurd hf (by unfold f_X12_look_l39 lp; exact fun h => by cases h)
    | succ fu ih =>
      intro mo v5 v4 v1 v2 v6 v3 ex H locs ls hP hD hS hl hf hE
      unfold f_X12_look_l39 at hf
      obtain ⟨q, hf, hor⟩ := lp_e hf
      have J64 : ∀ (v6 : Int32) (s0 : Int32) (s1 : Int32) (H : Heap) (locs : List Loc) (ls : Array Slot), va_P G classes (wl [lfM ct a mo]) H → va_D A (wl [lfM ct a mo]) → va_S A s.heap H locs → lv_has ls 9 [(6, .int v6), (5, .int v5), (4, .int v4), (0, .ref (a 0)), (1, .int v1), (2, .int v2)] → f_X12_look_j64 n mo v6 v5 v4 v1 v2 s0 s1 = some q → WG l G ct sk sv p e (RM 2 50 0 0) s m args below meth c A (Eq2 (some (.int r)) (wl [lfM ct a mo'])) H locs (F0 m 64 ls [.int s0, .int s1]) := by
        intro v6 s0 s1 H locs ls hP hD hS hl hf
        unfold f_X12_look_j64 at hf
        refine lv_iadd hx hb dX12_look_64 ?_
        refine lv_topi (fun v3_1 ev3_1 => ?_)
        replace hf := bl_i hf ev3_1
        refine lv_istore_n (lv' := [(3, .int v3_1), (6, .int v6), (5, .int v5), (4, .int v4), (0, .ref (a 0)), (1, .int v1), (2, .int v2)]) hx hb dX12_look_65 rfl hl (by decide) rfl (fun ls hl => ?_)
        obtain ⟨v6_2, ev6_2, hf⟩ := bl_e hf
        refine lv_iinc (v := v6_2) (lv' := [(6, .int v6_2), (3, .int v3_1), (5, .int v5), (4, .int v4), (0, .ref (a 0)), (1, .int v1), (2, .int v2)]) hx hb dX12_look_66 hl (k := 1) rfl ev6_2 (by decide) rfl (fun ls hl => ?_)
        refine lv_goto (tgt := 39) hx hb dX12_look_69 (by decide) ?_
        exact ih mo v5 v4 v1 v2 v6_2 v3_1 ex _ _ _ hP hD hS (lv_sub hl [0, 2, 3, 1, 4, 5, 6] rfl) (lp_inl hor hf) hE
      replace hf : f_X12_look_b39 n mo v6 v5 v4 v3 v1 v2 = some q := hf
      unfold f_X12_look_b39 at hf
      refine lv_iload hx hb dX12_look_39 (lv_at hl 0 rfl) ?_
      refine lv_bipush (v := 100) hx hb dX12_look_41 (by decide) ?_
      refine lv_icmp_ge (tgt := 72) hx hb dX12_look_43 (by decide) (fun c_3 => ?_) (fun c_3 => ?_)
      · replace hf := bc_t hf c_3
        exact hE v3 (lp_inr hor hf).symm _ _ _ hP hD hS (lv_sub hl [1, 2, 3, 4, 5, 6] rfl)
      · replace hf := bc_f hf c_3
        refine lv_iload_n hx hb dX12_look_46 rfl (lv_at hl 3 rfl) ?_
        refine lv_aload_n hx hb dX12_look_47 rfl (lv_at hl 4 rfl) ?_
        refine lv_iload_n hx hb dX12_look_48 rfl (lv_at hl 5 rfl) ?_
        refine lv_iload_n hx hb dX12_look_49 rfl (lv_at hl 6 rfl) ?_
        refine lv_iload hx hb dX12_look_50 (lv_at hl 0 rfl) ?_
        refine lv_iconst (v := 0) hx hb dX12_look_52 (by decide) ?_
        obtain ⟨r_4, hc4, hf⟩ := bd_e hf
        refine call_V (As := [.int v1, .int v2, .int v6, .int 0]) (rest := [.int v3]) hx hb hml hown hts hK hP hD hS hA hZ lkX12_185 (c_X12_canBeAt l G ct sk sv a n mo v1 v2 v6 0 hc4) 0 rfl rfl ⟨Nat.le_of_ble_eq_true rfl, Nat.le_of_ble_eq_true rfl⟩ rfl hl.1 rfl (Nat.le_of_ble_eq_true rfl) dX12_look_53 ⟨Nat.le_of_ble_eq_true rfl, Nat.le_of_ble_eq_true rfl⟩ (fun r9 w9 H locs hB hP hD hS => ?_)
        obtain ⟨rfl, rfl⟩ := hB
        refine WG_eq (g2 := F0 m 56 ls [.int r_4, .int v3]) rfl ?_
        refine lv_if_eq (tgt := 63) hx hb dX12_look_56 (by decide) (fun c_5 => ?_) (fun c_5 => ?_)
        · replace hf := bc_t hf c_5
          refine lv_iconst (v := 0) hx hb dX12_look_63 (by decide) ?_
          exact J64 v6 0 v3 _ _ _ hP hD hS (lv_sub hl [0, 1, 2, 4, 5, 6] rfl) hf
        · replace hf := bc_f hf c_5
          refine lv_iconst (v := 1) hx hb dX12_look_59 (by decide) ?_
          refine lv_goto (tgt := 64) hx hb dX12_look_60 (by decide) ?_
          exact J64 v6 1 v3 _ _ _ hP hD hS (lv_sub hl [0, 1, 2, 4, 5, 6] rfl) hf
  have L92 : ∀ (fu : Nat) (mo : MV) (v6 : Int32) (v5 : Int32) (v4 : Int32) (v3 : Int32) (v1 : Int32) (v2 : Int32) (v8 : Int32) (v7 : Int32) (ex : Int32) (H : Heap) (locs : List Loc) (ls : Array Slot), va_P G classes (wl [lfM ct a mo]) H → va_D A (wl [lfM ct a mo]) → va_S A s.heap H locs → lv_has ls 9 [(8, .int v8), (7, .int v7), (6, .int v6), (5, .int v5), (4, .int v4), (3, .int v3), (0, .ref (a 0)), (1, .int v1), (2, .int v2)] → f_X12_look_l92 fu n mo v6 v5 v4 v3 v1 v2 v8 v7 = some ex → (∀ (x : Int32), ex = x → ∀ (H : Heap) (locs : List Loc) (ls : Array Slot), va_P G classes (wl [lfM ct a mo]) H → va_D A (wl [lfM ct a mo]) → va_S A s.heap H locs → lv_has ls 9 [(7, .int x), (6, .int v6), (5, .int v5), (4, .int v4), (3, .int v3), (0, .ref (a 0)), (1, .int v1), (2, .int v2)] → WG l G ct sk sv p e (RM 2 50 0 0) s m args below meth c A (Eq2 (some (.int r)) (wl [lfM ct a mo'])) H locs (F0 m 149 ls [])) → WG l G ct sk sv p e (RM 2 50 0 0) s m args below meth c A (Eq2 (some (.int r)) (wl [lfM ct a mo'])) H locs (F0 m 92 ls []) := by
    intro fu
    induction fu with
    | zero =>
      intro mo v6 v5 v4 v3 v1 v2 v8 v7 ex H locs ls hP hD hS hl hf
      exact absurd hf (by unfold f_X12_look_l92 lp; exact fun h => by cases h)
    | succ fu ih =>
      intro mo v6 v5 v4 v3 v1 v2 v8 v7 ex H locs ls hP hD hS hl hf hE
      unfold f_X12_look_l92 at hf
      obtain ⟨q, hf, hor⟩ := lp_e hf
      have J140 : ∀ (v8 : Int32) (s0 : Int32) (s1 : Int32) (H : Heap) (locs : List Loc) (ls : Array Slot), va_P G classes (wl [lfM ct a mo]) H → va_D A (wl [lfM ct a mo]) → va_S A s.heap H locs → lv_has ls 9 [(8, .int v8), (6, .int v6), (5, .int v5), (4, .int v4), (3, .int v3), (0, .ref (a 0)), (1, .int v1), (2, .int v2)] → f_X12_look_j140 n mo v8 v6 v5 v4 v3 v1 v2 s0 s1 = some q → WG l G ct sk sv p e (RM 2 50 0 0) s m args below meth c A (Eq2 (some (.int r)) (wl [lfM ct a mo'])) H locs (F0 m 140 ls [.int s0, .int s1]) := by
        intro v8 s0 s1 H locs ls hP hD hS hl hf
        unfold f_X12_look_j140 at hf
        refine lv_iadd hx hb dX12_look_140 ?_
        refine lv_topi (fun v7_6 ev7_6 => ?_)
        replace hf := bl_i hf ev7_6
        refine lv_istore (lv' := [(7, .int v7_6), (8, .int v8), (6, .int v6), (5, .int v5), (4, .int v4), (3, .int v3), (0, .ref (a 0)), (1, .int v1), (2, .int v2)]) hx hb dX12_look_141 hl (by decide) rfl (fun ls hl => ?_)
        obtain ⟨v8_7, ev8_7, hf⟩ := bl_e hf
        refine lv_iinc (v := v8_7) (lv' := [(8, .int v8_7), (7, .int v7_6), (6, .int v6), (5, .int v5), (4, .int v4), (3, .int v3), (0, .ref (a 0)), (1, .int v1), (2, .int v2)]) hx hb dX12_look_143 hl (k := 1) rfl ev8_7 (by decide) rfl (fun ls hl => ?_)
        refine lv_goto (tgt := 92) hx hb dX12_look_146 (by decide) ?_
        exact ih mo v6 v5 v4 v3 v1 v2 v8_7 v7_6 ex _ _ _ hP hD hS hl (lp_inl hor hf) hE
      have J139 : ∀ (v8 : Int32) (s0 : Int32) (H : Heap) (locs : List Loc) (ls : Array Slot), va_P G classes (wl [lfM ct a mo]) H → va_D A (wl [lfM ct a mo]) → va_S A s.heap H locs → lv_has ls 9 [(8, .int v8), (6, .int v6), (5, .int v5), (4, .int v4), (3, .int v3), (0, .ref (a 0)), (1, .int v1), (2, .int v2)] → f_X12_look_j139 n mo v8 v6 v5 v4 v3 v1 v2 s0 = some q → WG l G ct sk sv p e (RM 2 50 0 0) s m args below meth c A (Eq2 (some (.int r)) (wl [lfM ct a mo'])) H locs (F0 m 139 ls [.int s0]) := by
        intro v8 s0 H locs ls hP hD hS hl hf
        unfold f_X12_look_j139 at hf
        refine lv_iconst (v := 0) hx hb dX12_look_139 (by decide) ?_
        exact J140 v8 0 s0 _ _ _ hP hD hS hl hf
      replace hf : f_X12_look_b92 n mo v8 v7 v6 v5 v4 v3 v1 v2 = some q := hf
      unfold f_X12_look_b92 at hf
      refine lv_iload hx hb dX12_look_92 (lv_at hl 0 rfl) ?_
      refine lv_bipush (v := 100) hx hb dX12_look_94 (by decide) ?_
      refine lv_icmp_ge (tgt := 149) hx hb dX12_look_96 (by decide) (fun c_8 => ?_) (fun c_8 => ?_)
      · replace hf := bc_t hf c_8
        exact hE v7 (lp_inr hor hf).symm _ _ _ hP hD hS (lv_sub hl [1, 2, 3, 4, 5, 6, 7, 8] rfl)
      · replace hf := bc_f hf c_8
        refine lv_iload hx hb dX12_look_99 (lv_at hl 1 rfl) ?_
        refine lv_iload hx hb dX12_look_101 (lv_at hl 2 rfl) ?_
        refine lv_iload hx hb dX12_look_103 (lv_at hl 0 rfl) ?_
        obtain ⟨r_9, hc9, hf⟩ := bd_e hf
        refine call_S (As := [.int v6, .int v8]) (rest := [.int v7]) hx hb hml hown hts hK hP hD hS hA hZ lkX12_97 (Ctr.upL (c_X12_miles l G ct sk sv  n v6 v8 hc9) [lfM ct a mo] [lfM ct a mo] [lfM ct a mo] [0] 1 (by decide) rfl rfl rfl rfl) ⟨Nat.le_of_ble_eq_true rfl, Nat.le_of_ble_eq_true rfl⟩ rfl hl.1 rfl (Nat.le_of_ble_eq_true rfl) dX12_look_105 ⟨Nat.le_of_ble_eq_true rfl, Nat.le_of_ble_eq_true rfl⟩ (fun r9 w9 H locs hB hP hD hS => ?_)
        obtain ⟨rfl, rfl⟩ := hB
        refine WG_eq (g2 := F0 m 108 ls [.int r_9, .int v7]) rfl ?_
        refine lv_aload_n hx hb dX12_look_108 rfl (lv_at hl 6 rfl) ?_
        refine va_get (D := G) (C := RX12) (T := TX12) (N := 21) (v := .ref (a 1)) hx hb hts iu_X12 hown hK hP 0 rfl rfl 0 (by decide) (hts _ kw887) (fun _ h9 => h9) rfl dX12_look_109 ?_
        refine lv_bipush (v := 24) hx hb dX12_look_112 (by decide) ?_
        refine lv_iload_n hx hb dX12_look_114 rfl (lv_at hl 7 rfl) ?_
        refine lv_iadd hx hb dX12_look_115 ?_
        obtain ⟨g_10, hf⟩ := gd_e hf
        refine va_iald (f := mo.2.1 0) hx hb hK hP 1 0 rfl rfl g_10 dX12_look_116 ?_
        obtain ⟨r_11, hc11, hf⟩ := bd_e hf
        refine call_S (As := [.int (mo.2.1 0 (ix (24 + v1)))]) (rest := [.int r_9, .int v7]) hx hb hml hown hts hK hP hD hS hA hZ lkX12_105 (Ctr.upL (c_X12_reachAs l G ct sk sv  n (mo.2.1 0 (ix (24 + v1))) hc11) [lfM ct a mo] [lfM ct a mo] [lfM ct a mo] [0] 1 (by decide) rfl rfl rfl rfl) ⟨Nat.le_of_ble_eq_true rfl, Nat.le_of_ble_eq_true rfl⟩ rfl hl.1 rfl (Nat.le_of_ble_eq_true rfl) dX12_look_117 ⟨Nat.le_of_ble_eq_true rfl, Nat.le_of_ble_eq_true rfl⟩ (fun r9 w9 H locs hB hP hD hS => ?_)
        obtain ⟨rfl, rfl⟩ := hB
        refine WG_eq (g2 := F0 m 120 ls [.int r_11, .int r_9, .int v7]) rfl ?_
        refine lv_icmp_gt (tgt := 139) hx hb dX12_look_120 (by decide) (fun c_12 => ?_) (fun c_12 => ?_)
        · replace hf := bc_t hf c_12
          exact J139 v8 v7 _ _ _ hP hD hS (lv_sub hl [0, 2, 3, 4, 5, 6, 7, 8] rfl) hf
        · replace hf := bc_f hf c_12
          refine lv_aload_n hx hb dX12_look_123 rfl (lv_at hl 6 rfl) ?_
          refine lv_iload_n hx hb dX12_look_124 rfl (lv_at hl 7 rfl) ?_
          refine lv_iload_n hx hb dX12_look_125 rfl (lv_at hl 8 rfl) ?_
          refine lv_iload hx hb dX12_look_126 (lv_at hl 0 rfl) ?_
          refine lv_iconst (v := 0) hx hb dX12_look_128 (by decide) ?_
          obtain ⟨r_13, hc13, hf⟩ := bd_e hf
          refine call_V (As := [.int v1, .int v2, .int v8, .int 0]) (rest := [.int v7]) hx hb hml hown hts hK hP hD hS hA hZ lkX12_185 (c_X12_canBeAt l G ct sk sv a n mo v1 v2 v8 0 hc13) 0 rfl rfl ⟨Nat.le_of_ble_eq_true rfl, Nat.le_of_ble_eq_true rfl⟩ rfl hl.1 rfl (Nat.le_of_ble_eq_true rfl) dX12_look_129 ⟨Nat.le_of_ble_eq_true rfl, Nat.le_of_ble_eq_true rfl⟩ (fun r9 w9 H locs hB hP hD hS => ?_)
          obtain ⟨rfl, rfl⟩ := hB
          refine WG_eq (g2 := F0 m 132 ls [.int r_13, .int v7]) rfl ?_
          refine lv_if_eq (tgt := 139) hx hb dX12_look_132 (by decide) (fun c_14 => ?_) (fun c_14 => ?_)
          · replace hf := bc_t hf c_14
            exact J139 v8 v7 _ _ _ hP hD hS (lv_sub hl [0, 2, 3, 4, 5, 6, 7, 8] rfl) hf
          · replace hf := bc_f hf c_14
            refine lv_iconst (v := 1) hx hb dX12_look_135 (by decide) ?_
            refine lv_goto (tgt := 140) hx hb dX12_look_136 (by decide) ?_
            exact J140 v8 1 v7 _ _ _ hP hD hS (lv_sub hl [0, 2, 3, 4, 5, 6, 7, 8] rfl) hf
  have L75 : ∀ (fu : Nat) (mo : MV) (v3 : Int32) (v1 : Int32) (v2 : Int32) (v6 : Int32) (v5 : Int32) (v4 : Int32) (ex : Int32) (H : Heap) (locs : List Loc) (ls : Array Slot), va_P G classes (wl [lfM ct a mo]) H → va_D A (wl [lfM ct a mo]) → va_S A s.heap H locs → lv_has ls 9 [(6, .int v6), (5, .int v5), (4, .int v4), (3, .int v3), (0, .ref (a 0)), (1, .int v1), (2, .int v2)] → f_X12_look_l75 fu n mo v3 v1 v2 v6 v5 v4 = some ex → (∀ (x : Int32), ex = x → ∀ (H : Heap) (locs : List Loc) (ls : Array Slot), va_P G classes (wl [lfM ct a mo]) H → va_D A (wl [lfM ct a mo]) → va_S A s.heap H locs → lv_has ls 9 [(4, .int x)] → WG l G ct sk sv p e (RM 2 50 0 0) s m args below meth c A (Eq2 (some (.int r)) (wl [lfM ct a mo'])) H locs (F0 m 206 ls [])) → WG l G ct sk sv p e (RM 2 50 0 0) s m args below meth c A (Eq2 (some (.int r)) (wl [lfM ct a mo'])) H locs (F0 m 75 ls []) := by
    intro fu
    induction fu with
    | zero =>
      intro mo v3 v1 v2 v6 v5 v4 ex H locs ls hP hD hS hl hf
      exact absurd hf (by unfold f_X12_look_l75 lp; exact fun h => by cases h)
    | succ fu ih =>
      intro mo v3 v1 v2 v6 v5 v4 ex H locs ls hP hD hS hl hf hE
      unfold f_X12_look_l75 at hf
      obtain ⟨q, hf, hor⟩ := lp_e hf
      have J198 : ∀ (v4 : Int32) (v6 : Int32) (s0 : Int32) (H : Heap) (locs : List Loc) (ls : Array Slot), va_P G classes (wl [lfM ct a mo]) H → va_D A (wl [lfM ct a mo]) → va_S A s.heap H locs → lv_has ls 9 [(4, .int v4), (6, .int v6), (3, .int v3), (0, .ref (a 0)), (1, .int v1), (2, .int v2)] → f_X12_look_j198 n mo v4 v6 v3 v1 v2 s0 = some q → WG l G ct sk sv p e (RM 2 50 0 0) s m args below meth c A (Eq2 (some (.int r)) (wl [lfM ct a mo'])) H locs (F0 m 198 ls [.int s0]) := by
        intro v4 v6 s0 H locs ls hP hD hS hl hf
        unfold f_X12_look_j198 at hf
        refine lv_istore (lv' := [(5, .int s0), (4, .int v4), (6, .int v6), (3, .int v3), (0, .ref (a 0)), (1, .int v1), (2, .int v2)]) hx hb dX12_look_198 hl (by decide) rfl (fun ls hl => ?_)
        obtain ⟨v6_15, ev6_15, hf⟩ := bl_e hf
        refine lv_iinc (v := v6_15) (lv' := [(6, .int v6_15), (5, .int s0), (4, .int v4), (3, .int v3), (0, .ref (a 0)), (1, .int v1), (2, .int v2)]) hx hb dX12_look_200 hl (k := 2) rfl ev6_15 (by decide) rfl (fun ls hl => ?_)
        refine lv_goto (tgt := 75) hx hb dX12_look_203 (by decide) ?_
        exact ih mo v3 v1 v2 v6_15 s0 v4 ex _ _ _ hP hD hS hl (lp_inl hor hf) hE
      have J182 : ∀ (v8 : Int32) (v6 : Int32) (v5 : Int32) (s0 : Int32) (H : Heap) (locs : List Loc) (ls : Array Slot), va_P G classes (wl [lfM ct a mo]) H → va_D A (wl [lfM ct a mo]) → va_S A s.heap H locs → lv_has ls 9 [(8, .int v8), (6, .int v6), (5, .int v5), (3, .int v3), (0, .ref (a 0)), (1, .int v1), (2, .int v2)] → f_X12_look_j182 n mo v8 v6 v5 v3 v1 v2 s0 = some q → WG l G ct sk sv p e (RM 2 50 0 0) s m args below meth c A (Eq2 (some (.int r)) (wl [lfM ct a mo'])) H locs (F0 m 182 ls [.int s0]) := by
        intro v8 v6 v5 s0 H locs ls hP hD hS hl hf
        unfold f_X12_look_j182 at hf
        refine lv_istore (lv' := [(4, .int s0), (8, .int v8), (6, .int v6), (5, .int v5), (3, .int v3), (0, .ref (a 0)), (1, .int v1), (2, .int v2)]) hx hb dX12_look_182 hl (by decide) rfl (fun ls hl => ?_)
        refine lv_iload hx hb dX12_look_184 (lv_at hl 1 rfl) ?_
        refine lv_iload hx hb dX12_look_186 (lv_at hl 3 rfl) ?_
        refine lv_icmp_ge (tgt := 196) hx hb dX12_look_188 (by decide) (fun c_16 => ?_) (fun c_16 => ?_)
        · replace hf := bc_t hf c_16
          refine lv_iload hx hb dX12_look_196 (lv_at hl 3 rfl) ?_
          exact J198 s0 v6 v5 _ _ _ hP hD hS (lv_sub hl [0, 2, 4, 5, 6, 7] rfl) hf
        · replace hf := bc_f hf c_16
          refine lv_iload hx hb dX12_look_191 (lv_at hl 1 rfl) ?_
          refine lv_goto (tgt := 198) hx hb dX12_look_193 (by decide) ?_
          exact J198 s0 v6 v8 _ _ _ hP hD hS (lv_sub hl [0, 2, 4, 5, 6, 7] rfl) hf
      have J166 : ∀ (v6 : Int32) (v5 : Int32) (v4 : Int32) (s0 : Int32) (H : Heap) (locs : List Loc) (ls : Array Slot), va_P G classes (wl [lfM ct a mo]) H → va_D A (wl [lfM ct a mo]) → va_S A s.heap H locs → lv_has ls 9 [(6, .int v6), (5, .int v5), (4, .int v4), (3, .int v3), (0, .ref (a 0)), (1, .int v1), (2, .int v2)] → f_X12_look_j166 n mo v6 v5 v4 v3 v1 v2 s0 = some q → WG l G ct sk sv p e (RM 2 50 0 0) s m args below meth c A (Eq2 (some (.int r)) (wl [lfM ct a mo'])) H locs (F0 m 166 ls [.int s0]) := by
        intro v6 v5 v4 s0 H locs ls hP hD hS hl hf
        unfold f_X12_look_j166 at hf
        refine lv_istore (lv' := [(8, .int s0), (6, .int v6), (5, .int v5), (4, .int v4), (3, .int v3), (0, .ref (a 0)), (1, .int v1), (2, .int v2)]) hx hb dX12_look_166 hl (by decide) rfl (fun ls hl => ?_)
        refine lv_iload hx hb dX12_look_168 (lv_at hl 0 rfl) ?_
        refine lv_iload hx hb dX12_look_170 (lv_at hl 2 rfl) ?_
        refine lv_icmp_ge (tgt := 180) hx hb dX12_look_172 (by decide) (fun c_17 => ?_) (fun c_17 => ?_)
        · replace hf := bc_t hf c_17
          refine lv_iload hx hb dX12_look_180 (lv_at hl 3 rfl) ?_
          exact J182 s0 v6 v5 v4 _ _ _ hP hD hS (lv_sub hl [0, 1, 2, 4, 5, 6, 7] rfl) hf
        · replace hf := bc_f hf c_17
          refine lv_iload hx hb dX12_look_175 (lv_at hl 1 rfl) ?_
          refine lv_goto (tgt := 182) hx hb dX12_look_177 (by decide) ?_
          exact J182 s0 v6 v5 v6 _ _ _ hP hD hS (lv_sub hl [0, 1, 2, 4, 5, 6, 7] rfl) hf
      replace hf : f_X12_look_b75 n mo v6 v5 v4 v3 v1 v2 = some q := hf
      unfold f_X12_look_b75 at hf
      refine lv_iload hx hb dX12_look_75 (lv_at hl 0 rfl) ?_
      refine lv_bipush (v := 100) hx hb dX12_look_77 (by decide) ?_
      refine lv_icmp_ge (tgt := 206) hx hb dX12_look_79 (by decide) (fun c_18 => ?_) (fun c_18 => ?_)
      · replace hf := bc_t hf c_18
        exact hE v4 (lp_inr hor hf).symm _ _ _ hP hD hS (lv_sub hl [2] rfl)
      · replace hf := bc_f hf c_18
        refine lv_iload_n hx hb dX12_look_82 rfl (lv_at hl 3 rfl) ?_
        refine lv_if_le (tgt := 206) hx hb dX12_look_83 (by decide) (fun c_19 => ?_) (fun c_19 => ?_)
        · replace hf := bc_t hf c_19
          exact hE v4 (lp_inr hor hf).symm _ _ _ hP hD hS (lv_sub hl [2] rfl)
        · replace hf := bc_f hf c_19
          refine lv_iconst (v := 0) hx hb dX12_look_86 (by decide) ?_
          refine lv_istore (lv' := [(7, .int 0), (6, .int v6), (5, .int v5), (4, .int v4), (3, .int v3), (0, .ref (a 0)), (1, .int v1), (2, .int v2)]) hx hb dX12_look_87 hl (by decide) rfl (fun ls hl => ?_)
          refine lv_iconst (v := 0) hx hb dX12_look_89 (by decide) ?_
          refine lv_istore (lv' := [(8, .int 0), (7, .int 0), (6, .int v6), (5, .int v5), (4, .int v4), (3, .int v3), (0, .ref (a 0)), (1, .int v1), (2, .int v2)]) hx hb dX12_look_90 hl (by decide) rfl (fun ls hl => ?_)
          obtain ⟨v7_20, hx_21, hf⟩ := bd_e hf
          refine L92 n mo v6 v5 v4 v3 v1 v2 0 0 v7_20 _ _ _ hP hD hS hl hx_21 ?_
          intro x9 e9 H locs ls hP hD hS hl
          subst e9
          have hP : va_P G classes (wl [lfM ct a mo]) H := hP
          have hD : va_D A (wl [lfM ct a mo]) := hD
          have hl : lv_has ls 9 [(7, .int v7_20), (6, .int v6), (5, .int v5), (4, .int v4), (3, .int v3), (0, .ref (a 0)), (1, .int v1), (2, .int v2)] := hl
          refine lv_iconst (v := 2) hx hb dX12_look_149 (by decide) ?_
          refine lv_iload hx hb dX12_look_150 (lv_at hl 0 rfl) ?_
          refine lv_imul hx hb dX12_look_152 ?_
          refine lv_iload_n hx hb dX12_look_153 rfl (lv_at hl 4 rfl) ?_
          refine lv_icmp_le (tgt := 162) hx hb dX12_look_154 (by decide) (fun c_22 => ?_) (fun c_22 => ?_)
          · replace hf := bc_t hf c_22
            refine lv_iload_n hx hb dX12_look_162 rfl (lv_at hl 4 rfl) ?_
            refine lv_iload hx hb dX12_look_163 (lv_at hl 0 rfl) ?_
            refine lv_isub hx hb dX12_look_165 ?_
            exact J166 v6 v5 v4 (v3 - v7_20) _ _ _ hP hD hS (lv_sub hl [1, 2, 3, 4, 5, 6, 7] rfl) hf
          · replace hf := bc_f hf c_22
            refine lv_iload hx hb dX12_look_157 (lv_at hl 0 rfl) ?_
            refine lv_goto (tgt := 166) hx hb dX12_look_159 (by decide) ?_
            exact J166 v6 v5 v4 v7_20 _ _ _ hP hD hS (lv_sub hl [1, 2, 3, 4, 5, 6, 7] rfl) hf
  have J206 : ∀ (mo : MV) (v4 : Int32) (H : Heap) (locs : List Loc) (ls : Array Slot), va_P G classes (wl [lfM ct a mo]) H → va_D A (wl [lfM ct a mo]) → va_S A s.heap H locs → lv_has ls 9 [(4, .int v4)] → f_X12_look_j206 n mo v4 = some (r, mo') → WG l G ct sk sv p e (RM 2 50 0 0) s m args below meth c A (Eq2 (some (.int r)) (wl [lfM ct a mo'])) H locs (F0 m 206 ls []) := by
    intro mo v4 H locs ls hP hD hS hl hf
    unfold f_X12_look_j206 at hf
    refine lv_iload hx hb dX12_look_206 (lv_at hl 0 rfl) ?_
    obtain ⟨e1, e2⟩ := inj2 (Option.some.inj hf)
    exact end_i (w' := (wl [lfM ct a mo])) hx hb hr hlocks hK hP hD hS dX12_look_208  ⟨by rw [← e1], by rw [← e2]⟩
  have J20 : ∀ (mo : MV) (H : Heap) (locs : List Loc) (ls : Array Slot), va_P G classes (wl [lfM ct a mo]) H → va_D A (wl [lfM ct a mo]) → va_S A s.heap H locs → lv_has ls 9 [(0, .ref (a 0))] → f_X12_look_j20 n mo = some (r, mo') → WG l G ct sk sv p e (RM 2 50 0 0) s m args below meth c A (Eq2 (some (.int r)) (wl [lfM ct a mo'])) H locs (F0 m 20 ls []) := by
    intro mo H locs ls hP hD hS hl hf
    unfold f_X12_look_j20 at hf
    refine lv_aload_n hx hb dX12_look_20 rfl (lv_at hl 0 rfl) ?_
    refine lv_bipush (v := (-2)) hx hb dX12_look_21 (by decide) ?_
    obtain ⟨r_23, mo_24, hc24, hf⟩ := bd2_e hf
    refine call_V (As := [.int (-2)]) (rest := []) hx hb hml hown hts hK hP hD hS hA hZ lkX12_80 (c_X12_bad l G ct sk sv a n mo (-2) hc24) 0 rfl rfl ⟨Nat.le_of_ble_eq_true rfl, Nat.le_of_ble_eq_true rfl⟩ rfl hl.1 rfl (Nat.le_of_ble_eq_true rfl) dX12_look_23 ⟨Nat.le_of_ble_eq_true rfl, Nat.le_of_ble_eq_true rfl⟩ (fun r9 w9 H locs hB hP hD hS => ?_)
    obtain ⟨rfl, rfl⟩ := hB
    refine WG_eq (g2 := F0 m 26 ls [.int r_23]) rfl ?_
    obtain ⟨e1, e2⟩ := inj2 (Option.some.inj hf)
    exact end_i (w' := (wl [lfM ct a mo_24])) hx hb hr hlocks hK hP hD hS dX12_look_26  ⟨by rw [← e1], by rw [← e2]⟩
  unfold f_X12_look at hf
  show WG l G ct sk sv p e (RM 2 50 0 0) s m args below meth c A (Eq2 (some (.int r)) (wl [lfM ct a mo'])) s.heap [] (F0 m 0 ls [])
  refine lv_aload_n hx hb dX12_look_0 rfl (lv_at hl 0 rfl) ?_
  refine lv_iload_n hx hb dX12_look_1 rfl (lv_at hl 1 rfl) ?_
  obtain ⟨r_25, hc25, hf⟩ := bd_e hf
  refine call_V (As := [.int v1]) (rest := []) hx hb hml hown hts hK hP hD hS hA hZ lkX12_117 (c_X12_isMember l G ct sk sv a n mo v1 hc25) 0 rfl rfl ⟨Nat.le_of_ble_eq_true rfl, Nat.le_of_ble_eq_true rfl⟩ rfl hl.1 rfl (Nat.le_of_ble_eq_true rfl) dX12_look_2 ⟨Nat.le_of_ble_eq_true rfl, Nat.le_of_ble_eq_true rfl⟩ (fun r9 w9 H locs hB hP hD hS => ?_)
  obtain ⟨rfl, rfl⟩ := hB
  refine WG_eq (g2 := F0 m 5 ls [.int r_25]) rfl ?_
  refine lv_if_eq (tgt := 20) hx hb dX12_look_5 (by decide) (fun c_26 => ?_) (fun c_26 => ?_)
  · replace hf := bc_t hf c_26
    exact J20 mo _ _ _ hP hD hS (lv_sub hl [0] rfl) hf
  · replace hf := bc_f hf c_26
    refine lv_iload_n hx hb dX12_look_8 rfl (lv_at hl 2 rfl) ?_
    refine lv_i2l (v := (v2 : Int32).toInt64) hx hb dX12_look_9 rfl ?_
    refine lv_lconst (v := 0) hx hb dX12_look_10 (by decide) ?_
    refine lv_ldc2 (v := 99) hx hb hown (hts _ kw970) dX12_look_11 ?_
    obtain ⟨r_27, hc27, hf⟩ := bd_e hf
    refine call_S (As := [.long ((v2 : Int32).toInt64), .long 0, .long 99]) (rest := []) hx hb hml hown hts hK hP hD hS hA hZ lkX12_65 (Ctr.upL (c_X12_in l G ct sk sv  n ((v2 : Int32).toInt64) 0 99 hc27) [lfM ct a mo] [lfM ct a mo] [lfM ct a mo] [0] 1 (by decide) rfl rfl rfl rfl) ⟨Nat.le_of_ble_eq_true rfl, Nat.le_of_ble_eq_true rfl⟩ rfl hl.1 rfl (Nat.le_of_ble_eq_true rfl) dX12_look_14 ⟨Nat.le_of_ble_eq_true rfl, Nat.le_of_ble_eq_true rfl⟩ (fun r9 w9 H locs hB hP hD hS => ?_)
    obtain ⟨rfl, rfl⟩ := hB
    refine WG_eq (g2 := F0 m 17 ls [.int r_27]) rfl ?_
    refine lv_if_ne (tgt := 27) hx hb dX12_look_17 (by decide) (fun c_28 => ?_) (fun c_28 => ?_)
    · replace hf := bc_f hf c_28
      refine lv_iconst (v := 0) hx hb dX12_look_27 (by decide) ?_
      refine lv_istore_n (lv' := [(3, .int 0), (0, .ref (a 0)), (1, .int v1), (2, .int v2)]) hx hb dX12_look_28 rfl hl (by decide) rfl (fun ls hl => ?_)
      refine lv_iconst (v := (-1)) hx hb dX12_look_29 (by decide) ?_
      refine lv_istore (lv' := [(4, .int (-1)), (3, .int 0), (0, .ref (a 0)), (1, .int v1), (2, .int v2)]) hx hb dX12_look_30 hl (by decide) rfl (fun ls hl => ?_)
      refine lv_ldc (v := 1000000) hx hb hown (hts _ kw1159) dX12_look_32 ?_
      refine lv_istore (lv' := [(5, .int 1000000), (4, .int (-1)), (3, .int 0), (0, .ref (a 0)), (1, .int v1), (2, .int v2)]) hx hb dX12_look_34 hl (by decide) rfl (fun ls hl => ?_)
      refine lv_iconst (v := 0) hx hb dX12_look_36 (by decide) ?_
      refine lv_istore (lv' := [(6, .int 0), (5, .int 1000000), (4, .int (-1)), (3, .int 0), (0, .ref (a 0)), (1, .int v1), (2, .int v2)]) hx hb dX12_look_37 hl (by decide) rfl (fun ls hl => ?_)
      obtain ⟨v3_29, hx_30, hf⟩ := bd_e hf
      refine L39 n mo 1000000 (-1) v1 v2 0 0 v3_29 _ _ _ hP hD hS hl hx_30 ?_
      intro x9 e9 H locs ls hP hD hS hl
      subst e9
      have hP : va_P G classes (wl [lfM ct a mo]) H := hP
      have hD : va_D A (wl [lfM ct a mo]) := hD
      have hl : lv_has ls 9 [(5, .int 1000000), (4, .int (-1)), (3, .int v3_29), (0, .ref (a 0)), (1, .int v1), (2, .int v2)] := hl
      refine lv_iconst (v := 0) hx hb dX12_look_72 (by decide) ?_
      refine lv_istore (lv' := [(6, .int 0), (5, .int 1000000), (4, .int (-1)), (3, .int v3_29), (0, .ref (a 0)), (1, .int v1), (2, .int v2)]) hx hb dX12_look_73 hl (by decide) rfl (fun ls hl => ?_)
      obtain ⟨v4_31, hx_32, hf⟩ := bd_e hf
      refine L75 n mo v3_29 v1 v2 0 1000000 (-1) v4_31 _ _ _ hP hD hS hl hx_32 ?_
      intro x9 e9 H locs ls hP hD hS hl
      subst e9
      have hP : va_P G classes (wl [lfM ct a mo]) H := hP
      have hD : va_D A (wl [lfM ct a mo]) := hD
      have hl : lv_has ls 9 [(4, .int v4_31)] := hl
      exact J206 mo v4_31 _ _ _ hP hD hS hl hf
    · replace hf := bc_t hf c_28
      exact J20 mo _ _ _ hP hD hS (lv_sub hl [0] rfl) hf
noncomputable def f_X12_may_j47 (n : Nat) (mo : MV) (v3 : Int32) (v1 : Int32) (s0 : Int32) (s1 : Int32) : Option ((Int32 × Int32) ⊕ (Int32)) :=
  bl (s1 ||| s0) fun v2_1 =>
  bl (v3 + 1) fun v3_2 =>
  some (.inl (v3_2, v2_1))
noncomputable def f_X12_may_b19 (n : Nat) (mo : MV) (v3 : Int32) (v2 : Int32) (v1 : Int32) : Option ((Int32 × Int32) ⊕ (Int32)) :=
  bd (f_X12_members n mo) fun r_3 =>
  bc (r_3 ≤ v3) (some (.inr v2))
  (bd (f_X12_mayFrank n 235 (mo.2.1 0) v1 v3) fun r_5 =>
  bc (r_5 = 0) (f_X12_may_j47 n mo v3 v1 0 v2)
  (f_X12_may_j47 n mo v3 v1 (1 <<< (v3 &&& 31)) v2))
noncomputable def f_X12_may_l19 (fu : Nat) (n : Nat) (mo : MV) (v1 : Int32) (v3 : Int32) (v2 : Int32) : Option (Int32) :=
  lp (fun q => f_X12_may_b19 n mo q.1 q.2 v1) fu (v3, v2)
noncomputable def f_X12_may (n : Nat) (mo : MV) (v1 : Int32) : Option (Int32 × MV) :=
  bd (f_X12_isLetter n mo v1) fun r_7 =>
  bc (r_7 = 0) (bd2 (f_X12_bad n mo (-2)) fun r_11 mo_12 =>
  some (r_11, mo_12))
  (bd (f_X12_may_l19 n n mo v1 0 0) fun v2_9 =>
  some (v2_9, mo))
set_option maxHeartbeats 4000000 in
set_option maxRecDepth 100000 in
theorem c_X12_may (l : Launch) (G : va_G) (ct : Nat → ClassId) (sk sv : Nat → Nat) (a : Nat → Nat) (n : Nat) (mo : MV) (v1 : Int32) {r : Int32} {mo' : MV} (hf : f_X12_may n mo v1 = some (r, mo')) : Ctr (l, G, ct, sk, sv) mX12_may 2 47 [.ref (a 0), .int v1] (wl [lfM ct a mo]) (wl [lfM ct a mo']) (some (.int r)) := by
  refine ctr_intro (by decide) (Nat.le_of_ble_eq_true rfl) ?_
  intro p e s m args below meth c A C hP hD hS hA ls hl
  obtain ⟨hx, hb, hml, hown, hts, hr, hlocks, hK, hnm, hZ⟩ := C
  have hb : c.code = cX12_may := hb
  have hml : c.maxLocals = 4 := hml
  have hown : s.vm.findClass "SignedOutsideModel" = some m.cls := hown
  have hr : meth.sig.returnType = some .int := hr
  have hP : va_P G classes (wl [lfM ct a mo]) s.heap := hP
  have hD : va_D A (wl [lfM ct a mo]) := hD
  have hK : va_K G classes (TYS ct) s := hK
  have hl : lv_has ls 4 [(0, .ref (a 0)), (1, .int v1)] := hl
  have L19 : ∀ (fu : Nat) (mo : MV) (v1 : Int32) (v3 : Int32) (v2 : Int32) (ex : Int32) (H : Heap) (locs : List Loc) (ls : Array Slot), va_P G classes (wl [lfM ct a mo]) H → va_D A (wl [lfM ct a mo]) → va_S A s.heap H locs → lv_has ls 4 [(3, .int v3), (2, .int v2), (0, .ref (a 0)), (1, .int v1)] → f_X12_may_l19 fu n mo v1 v3 v2 = some ex → (∀ (x : Int32), ex = x → ∀ (H : Heap) (locs : List Loc) (ls : Array Slot), va_P G classes (wl [lfM ct a mo]) H → va_D A (wl [lfM ct a mo]) → va_S A s.heap H locs → lv_has ls 4 [(2, .int x)] → WG l G ct sk sv p e (RM 2 47 0 0) s m args below meth c A (Eq2 (some (.int r)) (wl [lfM ct a mo'])) H locs (F0 m 55 ls [])) → WG l G ct sk sv p e (RM 2 47 0 0) s m args below meth c A (Eq2 (some (.int r)) (wl [lfM ct a mo'])) H locs (F0 m 19 ls []) := by
    intro fu
    induction fu with
    | zero =>
      intro mo v1 v3 v2 ex H locs ls hP hD hS hl hf
      exact absurd hf (by unfold f_X12_may_l19 lp; exact fun h => by cases h)
    | succ fu ih =>
      intro mo v1 v3 v2 ex H locs ls hP hD hS hl hf hE
      unfold f_X12_may_l19 at hf
      obtain ⟨q, hf, hor⟩ := lp_e hf
      have J47 : ∀ (v3 : Int32) (s0 : Int32) (s1 : Int32) (H : Heap) (locs : List Loc) (ls : Array Slot), va_P G classes (wl [lfM ct a mo]) H → va_D A (wl [lfM ct a mo]) → va_S A s.heap H locs → lv_has ls 4 [(3, .int v3), (0, .ref (a 0)), (1, .int v1)] → f_X12_may_j47 n mo v3 v1 s0 s1 = some q → WG l G ct sk sv p e (RM 2 47 0 0) s m args below meth c A (Eq2 (some (.int r)) (wl [lfM ct a mo'])) H locs (F0 m 47 ls [.int s0, .int s1]) := by
        intro v3 s0 s1 H locs ls hP hD hS hl hf
        unfold f_X12_may_j47 at hf
        refine lv_ior hx hb dX12_may_47 ?_
        refine lv_topi (fun v2_1 ev2_1 => ?_)
        replace hf := bl_i hf ev2_1
        refine lv_istore_n (lv' := [(2, .int v2_1), (3, .int v3), (0, .ref (a 0)), (1, .int v1)]) hx hb dX12_may_48 rfl hl (by decide) rfl (fun ls hl => ?_)
        obtain ⟨v3_2, ev3_2, hf⟩ := bl_e hf
        refine lv_iinc (v := v3_2) (lv' := [(3, .int v3_2), (2, .int v2_1), (0, .ref (a 0)), (1, .int v1)]) hx hb dX12_may_49 hl (k := 1) rfl ev3_2 (by decide) rfl (fun ls hl => ?_)
        refine lv_goto (tgt := 19) hx hb dX12_may_52 (by decide) ?_
        exact ih mo v1 v3_2 v2_1 ex _ _ _ hP hD hS hl (lp_inl hor hf) hE
      replace hf : f_X12_may_b19 n mo v3 v2 v1 = some q := hf
      unfold f_X12_may_b19 at hf
      refine lv_iload_n hx hb dX12_may_19 rfl (lv_at hl 0 rfl) ?_
      refine lv_aload_n hx hb dX12_may_20 rfl (lv_at hl 2 rfl) ?_
      obtain ⟨r_3, hc3, hf⟩ := bd_e hf
      refine call_V (As := []) (rest := [.int v3]) hx hb hml hown hts hK hP hD hS hA hZ lkX12_61 (c_X12_members l G ct sk sv a n mo hc3) 0 rfl rfl ⟨Nat.le_of_ble_eq_true rfl, Nat.le_of_ble_eq_true rfl⟩ rfl hl.1 rfl (Nat.le_of_ble_eq_true rfl) dX12_may_21 ⟨Nat.le_of_ble_eq_true rfl, Nat.le_of_ble_eq_true rfl⟩ (fun r9 w9 H locs hB hP hD hS => ?_)
      obtain ⟨rfl, rfl⟩ := hB
      refine WG_eq (g2 := F0 m 24 ls [.int r_3, .int v3]) rfl ?_
      refine lv_icmp_ge (tgt := 55) hx hb dX12_may_24 (by decide) (fun c_4 => ?_) (fun c_4 => ?_)
      · replace hf := bc_t hf c_4
        exact hE v2 (lp_inr hor hf).symm _ _ _ hP hD hS (lv_sub hl [1] rfl)
      · replace hf := bc_f hf c_4
        refine lv_iload_n hx hb dX12_may_27 rfl (lv_at hl 1 rfl) ?_
        refine lv_aload_n hx hb dX12_may_28 rfl (lv_at hl 2 rfl) ?_
        refine va_get (D := G) (C := RX12) (T := TX12) (N := 21) (v := .ref (a 1)) hx hb hts iu_X12 hown hK hP 0 rfl rfl 0 (by decide) (hts _ kw887) (fun _ h9 => h9) rfl dX12_may_29 ?_
        refine lv_iload_n hx hb dX12_may_32 rfl (lv_at hl 3 rfl) ?_
        refine lv_iload_n hx hb dX12_may_33 rfl (lv_at hl 0 rfl) ?_
        obtain ⟨r_5, hc5, hf⟩ := bd_e hf
        refine call_S (As := [.ref (a 1), .int v1, .int v3]) (rest := [.int v2]) hx hb hml hown hts hK hP hD hS hA hZ lkX12_120 (Ctr.up (W := (wl [lfM ct a mo])) (W' := (wl [lfM ct a mo])) (c_X12_mayFrank l G ct sk sv (fun _ => a 1) n 235 (mo.2.1 0) v1 v3 hc5) [1] [0, 2, 3, 4, 5, 6, 7, 8, 9, 10, 11, 12, 13, 14] [0, 14, 1, 2, 3, 4, 5, 6, 7, 8, 9, 10, 11, 12, 13] rfl rfl rfl rfl (by decide) rfl rfl) ⟨Nat.le_of_ble_eq_true rfl, Nat.le_of_ble_eq_true rfl⟩ rfl hl.1 rfl (Nat.le_of_ble_eq_true rfl) dX12_may_34 ⟨Nat.le_of_ble_eq_true rfl, Nat.le_of_ble_eq_true rfl⟩ (fun r9 w9 H locs hB hP hD hS => ?_)
        obtain ⟨rfl, rfl⟩ := hB
        refine WG_eq (g2 := F0 m 37 ls [.int r_5, .int v2]) rfl ?_
        refine lv_if_eq (tgt := 46) hx hb dX12_may_37 (by decide) (fun c_6 => ?_) (fun c_6 => ?_)
        · replace hf := bc_t hf c_6
          refine lv_iconst (v := 0) hx hb dX12_may_46 (by decide) ?_
          exact J47 v3 0 v2 _ _ _ hP hD hS (lv_sub hl [0, 2, 3] rfl) hf
        · replace hf := bc_f hf c_6
          refine lv_iconst (v := 1) hx hb dX12_may_40 (by decide) ?_
          refine lv_iload_n hx hb dX12_may_41 rfl (lv_at hl 0 rfl) ?_
          refine lv_ishl hx hb dX12_may_42 ?_
          refine lv_goto (tgt := 47) hx hb dX12_may_43 (by decide) ?_
          exact J47 v3 (1 <<< (v3 &&& 31)) v2 _ _ _ hP hD hS (lv_sub hl [0, 2, 3] rfl) hf
  unfold f_X12_may at hf
  show WG l G ct sk sv p e (RM 2 47 0 0) s m args below meth c A (Eq2 (some (.int r)) (wl [lfM ct a mo'])) s.heap [] (F0 m 0 ls [])
  refine lv_aload_n hx hb dX12_may_0 rfl (lv_at hl 0 rfl) ?_
  refine lv_iload_n hx hb dX12_may_1 rfl (lv_at hl 1 rfl) ?_
  obtain ⟨r_7, hc7, hf⟩ := bd_e hf
  refine call_V (As := [.int v1]) (rest := []) hx hb hml hown hts hK hP hD hS hA hZ lkX12_114 (c_X12_isLetter l G ct sk sv a n mo v1 hc7) 0 rfl rfl ⟨Nat.le_of_ble_eq_true rfl, Nat.le_of_ble_eq_true rfl⟩ rfl hl.1 rfl (Nat.le_of_ble_eq_true rfl) dX12_may_2 ⟨Nat.le_of_ble_eq_true rfl, Nat.le_of_ble_eq_true rfl⟩ (fun r9 w9 H locs hB hP hD hS => ?_)
  obtain ⟨rfl, rfl⟩ := hB
  refine WG_eq (g2 := F0 m 5 ls [.int r_7]) rfl ?_
  refine lv_if_ne (tgt := 15) hx hb dX12_may_5 (by decide) (fun c_8 => ?_) (fun c_8 => ?_)
  · replace hf := bc_f hf c_8
    refine lv_iconst (v := 0) hx hb dX12_may_15 (by decide) ?_
    refine lv_istore_n (lv' := [(2, .int 0), (0, .ref (a 0)), (1, .int v1)]) hx hb dX12_may_16 rfl hl (by decide) rfl (fun ls hl => ?_)
    refine lv_iconst (v := 0) hx hb dX12_may_17 (by decide) ?_
    refine lv_istore_n (lv' := [(3, .int 0), (2, .int 0), (0, .ref (a 0)), (1, .int v1)]) hx hb dX12_may_18 rfl hl (by decide) rfl (fun ls hl => ?_)
    obtain ⟨v2_9, hx_10, hf⟩ := bd_e hf
    refine L19 n mo v1 0 0 v2_9 _ _ _ hP hD hS hl hx_10 ?_
    intro x9 e9 H locs ls hP hD hS hl
    subst e9
    have hP : va_P G classes (wl [lfM ct a mo]) H := hP
    have hD : va_D A (wl [lfM ct a mo]) := hD
    have hl : lv_has ls 4 [(2, .int v2_9)] := hl
    refine lv_iload_n hx hb dX12_may_55 rfl (lv_at hl 0 rfl) ?_
    obtain ⟨e1, e2⟩ := inj2 (Option.some.inj hf)
    exact end_i (w' := (wl [lfM ct a mo])) hx hb hr hlocks hK hP hD hS dX12_may_56  ⟨by rw [← e1], by rw [← e2]⟩
  · replace hf := bc_t hf c_8
    refine lv_aload_n hx hb dX12_may_8 rfl (lv_at hl 0 rfl) ?_
    refine lv_bipush (v := (-2)) hx hb dX12_may_9 (by decide) ?_
    obtain ⟨r_11, mo_12, hc12, hf⟩ := bd2_e hf
    refine call_V (As := [.int (-2)]) (rest := []) hx hb hml hown hts hK hP hD hS hA hZ lkX12_80 (c_X12_bad l G ct sk sv a n mo (-2) hc12) 0 rfl rfl ⟨Nat.le_of_ble_eq_true rfl, Nat.le_of_ble_eq_true rfl⟩ rfl hl.1 rfl (Nat.le_of_ble_eq_true rfl) dX12_may_11 ⟨Nat.le_of_ble_eq_true rfl, Nat.le_of_ble_eq_true rfl⟩ (fun r9 w9 H locs hB hP hD hS => ?_)
    obtain ⟨rfl, rfl⟩ := hB
    refine WG_eq (g2 := F0 m 14 ls [.int r_11]) rfl ?_
    obtain ⟨e1, e2⟩ := inj2 (Option.some.inj hf)
    exact end_i (w' := (wl [lfM ct a mo_12])) hx hb hr hlocks hK hP hD hS dX12_may_14  ⟨by rw [← e1], by rw [← e2]⟩
noncomputable def f_X12_member_j19 (n : Nat) (mo : MV) : Option (Int32 × MV) :=
  bd2 (f_X12_bad n mo (-2)) fun r_1 mo_2 =>
  some (r_1, mo_2)
noncomputable def f_X12_member (n : Nat) (mo : MV) (v1 : Int32) (v2 : Int32) : Option (Int32 × MV) :=
  bd (f_X12_in n ((v1 : Int32).toInt64) 0 5) fun r_3 =>
  bc (r_3 = 0) (f_X12_member_j19 n mo)
  (bd (f_X12_isPlace n v2) fun r_5 =>
  bc (r_5 = 0) (f_X12_member_j19 n mo)
  (bd (f_X12_members n mo) fun r_7 =>
  bc (r_7 = 5) (bd2 (f_X12_full n mo) fun r_14 mo_15 =>
  some (r_14, mo_15))
  (bd (f_X12_layMember n 235 (mo.2.1 0) v1 v2) fun t_9 =>
  bl (setA mo 0 t_9) fun mo_10 =>
  gd (vp_in 4 235) <|
  bl (setA mo_10 0 (upd (mo_10.2.1 0) (ix 4) 0)) fun mo_12 =>
  bd (f_X12_members n mo_12) fun r_13 =>
  some (r_13 - 1, mo_12))))
set_option maxHeartbeats 4000000 in
set_option maxRecDepth 100000 in
theorem c_X12_member (l : Launch) (G : va_G) (ct : Nat → ClassId) (sk sv : Nat → Nat) (a : Nat → Nat) (n : Nat) (mo : MV) (v1 : Int32) (v2 : Int32) {r : Int32} {mo' : MV} (hf : f_X12_member n mo v1 v2 = some (r, mo')) : Ctr (l, G, ct, sk, sv) mX12_member 2 45 [.ref (a 0), .int v1, .int v2] (wl [lfM ct a mo]) (wl [lfM ct a mo']) (some (.int r)) := by
  refine ctr_intro (by decide) (Nat.le_of_ble_eq_true rfl) ?_
  intro p e s m args below meth c A C hP hD hS hA ls hl
  obtain ⟨hx, hb, hml, hown, hts, hr, hlocks, hK, hnm, hZ⟩ := C
  have hb : c.code = cX12_member := hb
  have hml : c.maxLocals = 3 := hml
  have hown : s.vm.findClass "SignedOutsideModel" = some m.cls := hown
  have hr : meth.sig.returnType = some .int := hr
  have hP : va_P G classes (wl [lfM ct a mo]) s.heap := hP
  have hD : va_D A (wl [lfM ct a mo]) := hD
  have hK : va_K G classes (TYS ct) s := hK
  have hl : lv_has ls 3 [(0, .ref (a 0)), (1, .int v1), (2, .int v2)] := hl
  have J19 : ∀ (mo : MV) (H : Heap) (locs : List Loc) (ls : Array Slot), va_P G classes (wl [lfM ct a mo]) H → va_D A (wl [lfM ct a mo]) → va_S A s.heap H locs → lv_has ls 3 [(0, .ref (a 0))] → f_X12_member_j19 n mo = some (r, mo') → WG l G ct sk sv p e (RM 2 45 0 0) s m args below meth c A (Eq2 (some (.int r)) (wl [lfM ct a mo'])) H locs (F0 m 19 ls []) := by
    intro mo H locs ls hP hD hS hl hf
    unfold f_X12_member_j19 at hf
    refine lv_aload_n hx hb dX12_member_19 rfl (lv_at hl 0 rfl) ?_
    refine lv_bipush (v := (-2)) hx hb dX12_member_20 (by decide) ?_
    obtain ⟨r_1, mo_2, hc2, hf⟩ := bd2_e hf
    refine call_V (As := [.int (-2)]) (rest := []) hx hb hml hown hts hK hP hD hS hA hZ lkX12_80 (c_X12_bad l G ct sk sv a n mo (-2) hc2) 0 rfl rfl ⟨Nat.le_of_ble_eq_true rfl, Nat.le_of_ble_eq_true rfl⟩ rfl hl.1 rfl (Nat.le_of_ble_eq_true rfl) dX12_member_22 ⟨Nat.le_of_ble_eq_true rfl, Nat.le_of_ble_eq_true rfl⟩ (fun r9 w9 H locs hB hP hD hS => ?_)
    obtain ⟨rfl, rfl⟩ := hB
    refine WG_eq (g2 := F0 m 25 ls [.int r_1]) rfl ?_
    obtain ⟨e1, e2⟩ := inj2 (Option.some.inj hf)
    exact end_i (w' := (wl [lfM ct a mo_2])) hx hb hr hlocks hK hP hD hS dX12_member_25  ⟨by rw [← e1], by rw [← e2]⟩
  unfold f_X12_member at hf
  show WG l G ct sk sv p e (RM 2 45 0 0) s m args below meth c A (Eq2 (some (.int r)) (wl [lfM ct a mo'])) s.heap [] (F0 m 0 ls [])
  refine lv_iload_n hx hb dX12_member_0 rfl (lv_at hl 1 rfl) ?_
  refine lv_i2l (v := (v1 : Int32).toInt64) hx hb dX12_member_1 rfl ?_
  refine lv_lconst (v := 0) hx hb dX12_member_2 (by decide) ?_
  refine lv_ldc2 (v := 5) hx hb hown (hts _ kw963) dX12_member_3 ?_
  obtain ⟨r_3, hc3, hf⟩ := bd_e hf
  refine call_S (As := [.long ((v1 : Int32).toInt64), .long 0, .long 5]) (rest := []) hx hb hml hown hts hK hP hD hS hA hZ lkX12_65 (Ctr.upL (c_X12_in l G ct sk sv  n ((v1 : Int32).toInt64) 0 5 hc3) [lfM ct a mo] [lfM ct a mo] [lfM ct a mo] [0] 1 (by decide) rfl rfl rfl rfl) ⟨Nat.le_of_ble_eq_true rfl, Nat.le_of_ble_eq_true rfl⟩ rfl hl.1 rfl (Nat.le_of_ble_eq_true rfl) dX12_member_6 ⟨Nat.le_of_ble_eq_true rfl, Nat.le_of_ble_eq_true rfl⟩ (fun r9 w9 H locs hB hP hD hS => ?_)
  obtain ⟨rfl, rfl⟩ := hB
  refine WG_eq (g2 := F0 m 9 ls [.int r_3]) rfl ?_
  refine lv_if_eq (tgt := 19) hx hb dX12_member_9 (by decide) (fun c_4 => ?_) (fun c_4 => ?_)
  · replace hf := bc_t hf c_4
    exact J19 mo _ _ _ hP hD hS (lv_sub hl [0] rfl) hf
  · replace hf := bc_f hf c_4
    refine lv_iload_n hx hb dX12_member_12 rfl (lv_at hl 2 rfl) ?_
    obtain ⟨r_5, hc5, hf⟩ := bd_e hf
    refine call_S (As := [.int v2]) (rest := []) hx hb hml hown hts hK hP hD hS hA hZ lkX12_76 (Ctr.upL (c_X12_isPlace l G ct sk sv  n v2 hc5) [lfM ct a mo] [lfM ct a mo] [lfM ct a mo] [0] 1 (by decide) rfl rfl rfl rfl) ⟨Nat.le_of_ble_eq_true rfl, Nat.le_of_ble_eq_true rfl⟩ rfl hl.1 rfl (Nat.le_of_ble_eq_true rfl) dX12_member_13 ⟨Nat.le_of_ble_eq_true rfl, Nat.le_of_ble_eq_true rfl⟩ (fun r9 w9 H locs hB hP hD hS => ?_)
    obtain ⟨rfl, rfl⟩ := hB
    refine WG_eq (g2 := F0 m 16 ls [.int r_5]) rfl ?_
    refine lv_if_ne (tgt := 26) hx hb dX12_member_16 (by decide) (fun c_6 => ?_) (fun c_6 => ?_)
    · replace hf := bc_f hf c_6
      refine lv_aload_n hx hb dX12_member_26 rfl (lv_at hl 0 rfl) ?_
      obtain ⟨r_7, hc7, hf⟩ := bd_e hf
      refine call_V (As := []) (rest := []) hx hb hml hown hts hK hP hD hS hA hZ lkX12_61 (c_X12_members l G ct sk sv a n mo hc7) 0 rfl rfl ⟨Nat.le_of_ble_eq_true rfl, Nat.le_of_ble_eq_true rfl⟩ rfl hl.1 rfl (Nat.le_of_ble_eq_true rfl) dX12_member_27 ⟨Nat.le_of_ble_eq_true rfl, Nat.le_of_ble_eq_true rfl⟩ (fun r9 w9 H locs hB hP hD hS => ?_)
      obtain ⟨rfl, rfl⟩ := hB
      refine WG_eq (g2 := F0 m 30 ls [.int r_7]) rfl ?_
      refine lv_iconst (v := 5) hx hb dX12_member_30 (by decide) ?_
      refine lv_icmp_ne (tgt := 39) hx hb dX12_member_31 (by decide) (fun c_8 => ?_) (fun c_8 => ?_)
      · replace hf := bc_f hf c_8
        refine lv_aload_n hx hb dX12_member_39 rfl (lv_at hl 0 rfl) ?_
        refine va_get (D := G) (C := RX12) (T := TX12) (N := 21) (v := .ref (a 1)) hx hb hts iu_X12 hown hK hP 0 rfl rfl 0 (by decide) (hts _ kw887) (fun _ h9 => h9) rfl dX12_member_40 ?_
        refine lv_iload_n hx hb dX12_member_43 rfl (lv_at hl 1 rfl) ?_
        refine lv_iload_n hx hb dX12_member_44 rfl (lv_at hl 2 rfl) ?_
        obtain ⟨t_9, hc10, hf⟩ := bd_e hf
        obtain ⟨mo_10, emo_10, hf⟩ := bl_e hf
        refine call_S (As := [.ref (a 1), .int v1, .int v2]) (rest := []) hx hb hml hown hts hK hP hD hS hA hZ lkX12_87 (Ctr.up (W := (wl [lfM ct a mo])) (W' := (wl [lfM ct a (setA mo 0 t_9)])) (c_X12_layMember l G ct sk sv (fun _ => a 1) n 235 (mo.2.1 0) v1 v2 hc10) [1] [0, 2, 3, 4, 5, 6, 7, 8, 9, 10, 11, 12, 13, 14] [0, 14, 1, 2, 3, 4, 5, 6, 7, 8, 9, 10, 11, 12, 13] rfl rfl rfl rfl (by decide) rfl rfl) ⟨Nat.le_of_ble_eq_true rfl, Nat.le_of_ble_eq_true rfl⟩ rfl hl.1 rfl (Nat.le_of_ble_eq_true rfl) dX12_member_45 ⟨Nat.le_of_ble_eq_true rfl, Nat.le_of_ble_eq_true rfl⟩ (fun r9 w9 H locs hB hP hD hS => ?_)
        obtain ⟨rfl, rfl⟩ := hB
        have hP : va_P G classes (wl [lfM ct a mo_10]) H := by rw [← emo_10]; exact hP
        have hD : va_D A (wl [lfM ct a mo_10]) := by rw [← emo_10]; exact hD
        refine WG_eq (g2 := F0 m 48 ls []) rfl ?_
        refine lv_aload_n hx hb dX12_member_48 rfl (lv_at hl 0 rfl) ?_
        refine va_get (D := G) (C := RX12) (T := TX12) (N := 21) (v := .ref (a 1)) hx hb hts iu_X12 hown hK hP 0 rfl rfl 0 (by decide) (hts _ kw887) (fun _ h9 => h9) rfl dX12_member_49 ?_
        refine lv_iconst (v := 4) hx hb dX12_member_52 (by decide) ?_
        refine lv_iconst (v := 0) hx hb dX12_member_53 (by decide) ?_
        obtain ⟨g_11, hf⟩ := gd_e hf
        obtain ⟨mo_12, emo_12, hf⟩ := bl_e hf
        refine va_iast hx hb hK hP hD hS 1 0 rfl rfl g_11 dX12_member_54 (fun H locs hP hD hS => ?_)
        have hP : va_P G classes (wl [lfM ct a mo_12]) H := by rw [← emo_12]; exact hP
        have hD : va_D A (wl [lfM ct a mo_12]) := by rw [← emo_12]; exact hD
        refine lv_aload_n hx hb dX12_member_55 rfl (lv_at hl 0 rfl) ?_
        obtain ⟨r_13, hc13, hf⟩ := bd_e hf
        refine call_V (As := []) (rest := []) hx hb hml hown hts hK hP hD hS hA hZ lkX12_61 (c_X12_members l G ct sk sv a n mo_12 hc13) 0 rfl rfl ⟨Nat.le_of_ble_eq_true rfl, Nat.le_of_ble_eq_true rfl⟩ rfl hl.1 rfl (Nat.le_of_ble_eq_true rfl) dX12_member_56 ⟨Nat.le_of_ble_eq_true rfl, Nat.le_of_ble_eq_true rfl⟩ (fun r9 w9 H locs hB hP hD hS => ?_)
        obtain ⟨rfl, rfl⟩ := hB
        refine WG_eq (g2 := F0 m 59 ls [.int r_13]) rfl ?_
        refine lv_iconst (v := 1) hx hb dX12_member_59 (by decide) ?_
        refine lv_isub hx hb dX12_member_60 ?_
        obtain ⟨e1, e2⟩ := inj2 (Option.some.inj hf)
        exact end_i (w' := (wl [lfM ct a mo_12])) hx hb hr hlocks hK hP hD hS dX12_member_61  ⟨by rw [← e1], by rw [← e2]⟩
      · replace hf := bc_t hf c_8
        refine lv_aload_n hx hb dX12_member_34 rfl (lv_at hl 0 rfl) ?_
        obtain ⟨r_14, mo_15, hc15, hf⟩ := bd2_e hf
        refine call_V (As := []) (rest := []) hx hb hml hown hts hK hP hD hS hA hZ lkX12_84 (c_X12_full l G ct sk sv a n mo hc15) 0 rfl rfl ⟨Nat.le_of_ble_eq_true rfl, Nat.le_of_ble_eq_true rfl⟩ rfl hl.1 rfl (Nat.le_of_ble_eq_true rfl) dX12_member_35 ⟨Nat.le_of_ble_eq_true rfl, Nat.le_of_ble_eq_true rfl⟩ (fun r9 w9 H locs hB hP hD hS => ?_)
        obtain ⟨rfl, rfl⟩ := hB
        refine WG_eq (g2 := F0 m 38 ls [.int r_14]) rfl ?_
        obtain ⟨e1, e2⟩ := inj2 (Option.some.inj hf)
        exact end_i (w' := (wl [lfM ct a mo_15])) hx hb hr hlocks hK hP hD hS dX12_member_38  ⟨by rw [← e1], by rw [← e2]⟩
    · replace hf := bc_t hf c_6
      exact J19 mo _ _ _ hP hD hS (lv_sub hl [0] rfl) hf
