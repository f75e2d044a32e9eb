noncomputable def f_X11_sessions_j153 (n : Nat) (xo : MV) (h0 : MV) (h1 : MV) (nt0 : MV) (cv0 : MV) (nt1 : MV) (cv1 : MV) (ps0 : MV) (ps1 : MV) (v3 : Int64) (v5 : Int32) (v2 : Int32) : Option ((Int32 × Int64 × MV) ⊕ (MV)) :=
  bl (v5 + 1) fun v5_1 =>
  some (.inl (v5_1, v3, h1))
noncomputable def f_X11_sessions_j132 (n : Nat) (xo : MV) (h0 : MV) (h1 : MV) (nt0 : MV) (cv0 : MV) (nt1 : MV) (cv1 : MV) (ps0 : MV) (ps1 : MV) (v3 : Int64) (v5 : Int32) (v2 : Int32) : Option ((Int32 × Int64 × MV) ⊕ (MV)) :=
  bl (v3 / 1048576) fun w_2 =>
  bc ((lg_cmp (w_2 - w_2 / 4 * 4) 0) = 0) (bd (f_X1_passDay n h1) fun h1_4 =>
  f_X11_sessions_j153 n xo h0 h1_4 nt0 cv0 nt1 cv1 ps0 ps1 v3 v5 v2)
  (f_X11_sessions_j153 n xo h0 h1 nt0 cv0 nt1 cv1 ps0 ps1 v3 v5 v2)
noncomputable def f_X11_sessions_b43 (n : Nat) (xo : MV) (h0 : MV) (h1 : MV) (nt0 : MV) (cv0 : MV) (nt1 : MV) (cv1 : MV) (ps0 : MV) (ps1 : MV) (v5 : Int32) (v3 : Int64) (v2 : Int32) : Option ((Int32 × Int64 × MV) ⊕ (MV)) :=
  bc (v2 ≤ v5) (some (.inr h1))
  (bd (f_X11_nextX n v3) fun r_6 =>
  bl (r_6 / 65536) fun w_7 =>
  bl ((w_7 - w_7 / 6 * 6 : Int64).toInt32) fun v6_8 =>
  bd (f_X11_nextX n r_6) fun r_9 =>
  bl (r_9 / 65536) fun w_10 =>
  bl ((w_10 - w_10 / 5 * 5 : Int64).toInt32) fun v7_11 =>
  bc ((h1.1 1) ≤ v6_8) (f_X11_sessions_j132 n xo h0 h1 nt0 cv0 nt1 cv1 ps0 ps1 r_9 v5 v2)
  (bc ((h1.1 0) ≤ v7_11) (f_X11_sessions_j132 n xo h0 h1 nt0 cv0 nt1 cv1 ps0 ps1 r_9 v5 v2)
  (bd (f_X1_mayFrank n h1 v6_8 v7_11) fun r_14 =>
  bc (r_14 = 0) (f_X11_sessions_j132 n xo h0 h1 nt0 cv0 nt1 cv1 ps0 ps1 r_9 v5 v2)
  (bd (f_X1_sign n h1 v6_8 v7_11) fun h1_16 =>
  f_X11_sessions_j132 n xo h0 h1_16 nt0 cv0 nt1 cv1 ps0 ps1 r_9 v5 v2))))
noncomputable def f_X11_sessions_l43 (fu : Nat) (n : Nat) (xo : MV) (h0 : MV) (h1 : MV) (nt0 : MV) (cv0 : MV) (nt1 : MV) (cv1 : MV) (ps0 : MV) (ps1 : MV) (v2 : Int32) (v5 : Int32) (v3 : Int64) : Option (MV) :=
  lp (fun q => f_X11_sessions_b43 n xo h0 q.2.2 nt0 cv0 nt1 cv1 ps0 ps1 q.1 q.2.1 v2) fu (v5, v3, h1)
noncomputable def f_X11_sessions_j21 (n : Nat) (xo : MV) (h0 : MV) (h1 : MV) (nt0 : MV) (cv0 : MV) (nt1 : MV) (cv1 : MV) (ps0 : MV) (ps1 : MV) : Option (Int32 × MV × MV × MV × MV × MV) :=
  bd2 (f_X11_refuseBad n xo) fun r_17 xo_18 =>
  some (r_17, xo_18, h1, nt1, cv1, ps1)
noncomputable def f_X11_sessions (n : Nat) (xo : MV) (h0 : MV) (h1 : MV) (nt0 : MV) (cv0 : MV) (nt1 : MV) (cv1 : MV) (ps0 : MV) (ps1 : MV) (v1 : Int32) (v2 : Int32) : Option (Int32 × MV × MV × MV × MV × MV) :=
  bd (f_X11_within n v1 0 999999) fun r_19 =>
  bc (r_19 = 0) (f_X11_sessions_j21 n xo h0 h1 nt0 cv0 nt1 cv1 ps0 ps1)
  (bd (f_X11_within n v2 0 60) fun r_21 =>
  bc (r_21 = 0) (f_X11_sessions_j21 n xo h0 h1 nt0 cv0 nt1 cv1 ps0 ps1)
  (bd4 (f_X1_takeOver n h1 h0 nt1 cv1 nt0 cv0 ps1 ps0) fun h1_23 nt1_24 cv1_25 ps1_26 =>
  bl ((v1 : Int32).toInt64) fun v3_27 =>
  bd (f_X11_sessions_l43 n n xo h0 h1_23 nt0 cv0 nt1_24 cv1_25 ps0 ps1_26 v2 0 v3_27) fun h1_28 =>
  some ((h1_28.1 3) - (h0.1 3), xo, h1_28, nt1_24, cv1_25, ps1_26)))
set_option maxHeartbeats 4000000 in
set_option maxRecDepth 100000 in
theorem c_X11_sessions (l : Launch) (G : va_G) (ct : Nat → ClassId) (sk sv : Nat → Nat) (g : Nat → Nat) (n : Nat) (xo : MV) (h0 : MV) (h1 : MV) (nt0 : MV) (cv0 : MV) (nt1 : MV) (cv1 : MV) (ps0 : MV) (ps1 : MV) (v1 : Int32) (v2 : Int32) {r : Int32} {xo' : MV} {h1' : MV} {nt1' : MV} {cv1' : MV} {ps1' : MV} (hf : f_X11_sessions n xo h0 h1 nt0 cv0 nt1 cv1 ps0 ps1 v1 v2 = some (r, xo', h1', nt1', cv1', ps1')) : Ctr (l, G, ct, sk, sv) mX11_sessions 6 206 [.ref (g 7), .int v1, .int v2] (wl [lfX ct g xo, lfH ct (hsA g 0) g h0, lfH ct (hsA g 1) g h1, lfS ct (fun j => (hsA g 0) (12 + j)) nt0, lfS ct (fun j => (hsA g 0) (8 + j)) cv0, lfS ct (fun j => (hsA g 1) (12 + j)) nt1, lfS ct (fun j => (hsA g 1) (8 + j)) cv1, lfP ct (fun j => (hsA g 0) (16 + j)) ps0, lfP ct (fun j => (hsA g 1) (16 + j)) ps1, lfK ct g]) (wl [lfX ct g xo', lfH ct (hsA g 0) g h0, lfH ct (hsA g 1) g h1', lfS ct (fun j => (hsA g 0) (12 + j)) nt0, lfS ct (fun j => (hsA g 0) (8 + j)) cv0, lfS ct (fun j => (hsA g 1) (12 + j)) nt1', lfS ct (fun j => (hsA g 1) (8 + j)) cv1', lfP ct (fun j => (hsA g 0) (16 + j)) ps0, lfP ct (fun j => (hsA g 1) (16 + j)) ps1', lfK ct g]) (some (.int r)) := by
  refine ctr_intro (by decide) (Nat.le_of_ble_eq_true rfl) ?_
  intro p e s m args below meth c A C hP hD hS hA ls hl
  obtain ⟨hx, hb, hml, hown, hts, hr, hlocks, hK, hnm, hZ⟩ := C
  have hb : c.code = cX11_sessions := hb
  have hml : c.maxLocals = 8 := hml
  have hown : s.vm.findClass "SignedOutside" = some m.cls := hown
  have hr : meth.sig.returnType = some .int := hr
  have hP : va_P G classes (wl [lfX ct g xo, lfH ct (hsA g 0) g h0, lfH ct (hsA g 1) g h1, lfS ct (fun j => (hsA g 0) (12 + j)) nt0, lfS ct (fun j => (hsA g 0) (8 + j)) cv0, lfS ct (fun j => (hsA g 1) (12 + j)) nt1, lfS ct (fun j => (hsA g 1) (8 + j)) cv1, lfP ct (fun j => (hsA g 0) (16 + j)) ps0, lfP ct (fun j => (hsA g 1) (16 + j)) ps1, lfK ct g]) s.heap := hP
  have hD : va_D A (wl [lfX ct g xo, lfH ct (hsA g 0) g h0, lfH ct (hsA g 1) g h1, lfS ct (fun j => (hsA g 0) (12 + j)) nt0, lfS ct (fun j => (hsA g 0) (8 + j)) cv0, lfS ct (fun j => (hsA g 1) (12 + j)) nt1, lfS ct (fun j => (hsA g 1) (8 + j)) cv1, lfP ct (fun j => (hsA g 0) (16 + j)) ps0, lfP ct (fun j => (hsA g 1) (16 + j)) ps1, lfK ct g]) := hD
  have hK : va_K G classes (TYS ct) s := hK
  have hl : lv_has ls 8 [(0, .ref (g 7)), (1, .int v1), (2, .int v2)] := hl
  have L43 : ∀ (fu : Nat) (xo : MV) (h1 : MV) (nt1 : MV) (cv1 : MV) (ps1 : MV) (v2 : Int32) (v5 : Int32) (v3 : Int64) (ex : MV) (H : Heap) (locs : List Loc) (ls : Array Slot), va_P G classes (wl [lfX ct g xo, lfH ct (hsA g 0) g h0, lfH ct (hsA g 1) g h1, lfS ct (fun j => (hsA g 0) (12 + j)) nt0, lfS ct (fun j => (hsA g 0) (8 + j)) cv0, lfS ct (fun j => (hsA g 1) (12 + j)) nt1, lfS ct (fun j => (hsA g 1) (8 + j)) cv1, lfP ct (fun j => (hsA g 0) (16 + j)) ps0, lfP ct (fun j => (hsA g 1) (16 + j)) ps1, lfK ct g]) H → va_D A (wl [lfX ct g xo, lfH ct (hsA g 0) g h0, lfH ct (hsA g 1) g h1, lfS ct (fun j => (hsA g 0) (12 + j)) nt0, lfS ct (fun j => (hsA g 0) (8 + j)) cv0, lfS ct (fun j => (hsA g 1) (12 + j)) nt1, lfS ct (fun j => (hsA g 1) (8 + j)) cv1, lfP ct (fun j => (hsA g 0) (16 + j)) ps0, lfP ct (fun j => (hsA g 1) (16 + j)) ps1, lfK ct g]) → va_S A s.heap H locs → lv_has ls 8 [(5, .int v5), (3, .long v3), (0, .ref (g 7)), (2, .int v2)] → f_X11_sessions_l43 fu n xo h0 h1 nt0 cv0 nt1 cv1 ps0 ps1 v2 v5 v3 = some ex → (∀ (x : MV), ex = x → ∀ (H : Heap) (locs : List Loc) (ls : Array Slot), va_P G classes (wl [lfX ct g xo, lfH ct (hsA g 0) g h0, lfH ct (hsA g 1) g x, lfS ct (fun j => (hsA g 0) (12 + j)) nt0, lfS ct (fun j => (hsA g 0) (8 + j)) cv0, lfS ct (fun j => (hsA g 1) (12 + j)) nt1, lfS ct (fun j => (hsA g 1) (8 + j)) cv1, lfP ct (fun j => (hsA g 0) (16 + j)) ps0, lfP ct (fun j => (hsA g 1) (16 + j)) ps1, lfK ct g]) H → va_D A (wl [lfX ct g xo, lfH ct (hsA g 0) g h0, lfH ct (hsA g 1) g x, lfS ct (fun j => (hsA g 0) (12 + j)) nt0, lfS ct (fun j => (hsA g 0) (8 + j)) cv0, lfS ct (fun j => (hsA g 1) (12 + j)) nt1, lfS ct (fun j => (hsA g 1) (8 + j)) cv1, lfP ct (fun j => (hsA g 0) (16 + j)) ps0, lfP ct (fun j => (hsA g 1) (16 + j)) ps1, lfK ct g]) → va_S A s.heap H locs → lv_has ls 8 [(0, .ref (g 7))] → WG l G ct sk sv p e (RM 6 206 0 0) s m args below meth c A (Eq2 (some (.int r)) (wl [lfX ct g xo', lfH ct (hsA g 0) g h0, lfH ct (hsA g 1) g h1', lfS ct (fun j => (hsA g 0) (12 + j)) nt0, lfS ct (fun j => (hsA g 0) (8 + j)) cv0, lfS ct (fun j => (hsA g 1) (12 + j)) nt1', lfS ct (fun j => (hsA g 1) (8 + j)) cv1', lfP ct (fun j => (hsA g 0) (16 + j)) ps0, lfP ct (fun j => (hsA g 1) (16 + j)) ps1', lfK ct g])) H locs (F0 m 159 ls [])) → WG l G ct sk sv p e (RM 6 206 0 0) s m args below meth c A (Eq2 (some (.int r)) (wl [lfX ct g xo', lfH ct (hsA g 0) g h0, lfH ct (hsA g 1) g h1', lfS ct (fun j => (hsA g 0) (12 + j)) nt0, lfS ct (fun j => (hsA g 0) (8 + j)) cv0, lfS ct (fun j => (hsA g 1) (12 + j)) nt1', lfS ct (fun j => (hsA g 1) (8 + j)) cv1', lfP ct (fun j => (hsA g 0) (16 + j)) ps0, lfP ct (fun j => (hsA g 1) (16 + j)) ps1', lfK ct g])) H locs (F0 m 43 ls []) := by
    intro fu
    induction fu with
    | zero =>
      intro xo h1 nt1 cv1 ps1 v2 v5 v3 ex H locs ls hP hD hS hl hf
      exact absurd hf (by unfold f_X11_sessions_l43 lp; exact fun h => by cases h)
    | succ fu ih =>
      intro xo h1 nt1 cv1 ps1 v2 v5 v3 ex H locs ls hP hD hS hl hf hE
      unfold f_X11_sessions_l43 at hf
      obtain ⟨q, hf, hor⟩ := lp_e hf
      have J153 : ∀ (h1 : MV) (v3 : Int64) (v5 : Int32) (H : Heap) (locs : List Loc) (ls : Array Slot), va_P G classes (wl [lfX ct g xo, lfH ct (hsA g 0) g h0, lfH ct (hsA g 1) g h1, lfS ct (fun j => (hsA g 0) (12 + j)) nt0, lfS ct (fun j => (hsA g 0) (8 + j)) cv0, lfS ct (fun j => (hsA g 1) (12 + j)) nt1, lfS ct (fun j => (hsA g 1) (8 + j)) cv1, lfP ct (fun j => (hsA g 0) (16 + j)) ps0, lfP ct (fun j => (hsA g 1) (16 + j)) ps1, lfK ct g]) H → va_D A (wl [lfX ct g xo, lfH ct (hsA g 0) g h0, lfH ct (hsA g 1) g h1, lfS ct (fun j => (hsA g 0) (12 + j)) nt0, lfS ct (fun j => (hsA g 0) (8 + j)) cv0, lfS ct (fun j => (hsA g 1) (12 + j)) nt1, lfS ct (fun j => (hsA g 1) (8 + j)) cv1, lfP ct (fun j => (hsA g 0) (16 + j)) ps0, lfP ct (fun j => (hsA g 1) (16 + j)) ps1, lfK ct g]) → va_S A s.heap H locs → lv_has ls 8 [(3, .long v3), (5, .int v5), (0, .ref (g 7)), (2, .int v2)] → f_X11_sessions_j153 n xo h0 h1 nt0 cv0 nt1 cv1 ps0 ps1 v3 v5 v2 = some q → WG l G ct sk sv p e (RM 6 206 0 0) s m args below meth c A (Eq2 (some (.int r)) (wl [lfX ct g xo', lfH ct (hsA g 0) g h0, lfH ct (hsA g 1) g h1', lfS ct (fun j => (hsA g 0) (12 + j)) nt0, lfS ct (fun j => (hsA g 0) (8 + j)) cv0, lfS ct (fun j => (hsA g 1) (12 + j)) nt1', lfS ct (fun j => (hsA g 1) (8 + j)) cv1', lfP ct (fun j => (hsA g 0) (16 + j)) ps0, lfP ct (fun j => (hsA g 1) (16 + j)) ps1', lfK ct g])) H locs (F0 m 153 ls []) := by
        intro h1 v3 v5 H locs ls hP hD hS hl hf
        unfold f_X11_sessions_j153 at hf
        obtain ⟨v5_1, ev5_1, hf⟩ := bl_e hf
        refine lv_iinc (v := v5_1) (lv' := [(5, .int v5_1), (3, .long v3), (0, .ref (g 7)), (2, .int v2)]) hx hb dX11_sessions_153 hl (k := 1) rfl ev5_1 (by decide) rfl (fun ls hl => ?_)
        refine lv_goto (tgt := 43) hx hb dX11_sessions_156 (by decide) ?_
        exact ih xo h1 nt1 cv1 ps1 v2 v5_1 v3 ex _ _ _ hP hD hS hl (lp_inl hor hf) hE
      have J132 : ∀ (h1 : MV) (v3 : Int64) (v5 : Int32) (H : Heap) (locs : List Loc) (ls : Array Slot), va_P G classes (wl [lfX ct g xo, lfH ct (hsA g 0) g h0, lfH ct (hsA g 1) g h1, lfS ct (fun j => (hsA g 0) (12 + j)) nt0, lfS ct (fun j => (hsA g 0) (8 + j)) cv0, lfS ct (fun j => (hsA g 1) (12 + j)) nt1, lfS ct (fun j => (hsA g 1) (8 + j)) cv1, lfP ct (fun j => (hsA g 0) (16 + j)) ps0, lfP ct (fun j => (hsA g 1) (16 + j)) ps1, lfK ct g]) H → va_D A (wl [lfX ct g xo, lfH ct (hsA g 0) g h0, lfH ct (hsA g 1) g h1, lfS ct (fun j => (hsA g 0) (12 + j)) nt0, lfS ct (fun j => (hsA g 0) (8 + j)) cv0, lfS ct (fun j => (hsA g 1) (12 + j)) nt1, lfS ct (fun j => (hsA g 1) (8 + j)) cv1, lfP ct (fun j => (hsA g 0) (16 + j)) ps0, lfP ct (fun j => (hsA g 1) (16 + j)) ps1, lfK ct g]) → va_S A s.heap H locs → lv_has ls 8 [(3, .long v3), (5, .int v5), (0, .ref (g 7)), (2, .int v2)] → f_X11_sessions_j132 n xo h0 h1 nt0 cv0 nt1 cv1 ps0 ps1 v3 v5 v2 = some q → WG l G ct sk sv p e (RM 6 206 0 0) s m args below meth c A (Eq2 (some (.int r)) (wl [lfX ct g xo', lfH ct (hsA g 0) g h0, lfH ct (hsA g 1) g h1', lfS ct (fun j => (hsA g 0) (12 + j)) nt0, lfS ct (fun j => (hsA g 0) (8 + j)) cv0, lfS ct (fun j => (hsA g 1) (12 + j)) nt1', lfS ct (fun j => (hsA g 1) (8 + j)) cv1', lfP ct (fun j => (hsA g 0) (16 + j)) ps0, lfP ct (fun j => (hsA g 1) (16 + j)) ps1', lfK ct g])) H locs (F0 m 132 ls []) := by
        intro h1 v3 v5 H locs ls hP hD hS hl hf
        unfold f_X11_sessions_j132 at hf
        refine lv_lload_n hx hb dX11_sessions_132 rfl (lv_at hl 0 rfl) ?_
        refine lv_ldc2 (v := 1048576) hx hb hown (hts _ kw836) dX11_sessions_133 ?_
        refine lv_ldiv hx hb dX11_sessions_136 (by decide) ?_
        refine lv_ldc2 (v := 4) hx hb hown (hts _ kw837) dX11_sessions_137 ?_
        obtain ⟨w_2, ew_2, hf⟩ := bl_e hf
        refine W.eq (g2 := F0 m 140 ls ([.long 4, .long w_2])) (by rw [← ew_2]) ?_
        refine lv_lrem hx hb dX11_sessions_140 (by decide) ?_
        refine lv_lconst (v := 0) hx hb dX11_sessions_141 (by decide) ?_
        refine W.lcmp hx hb dX11_sessions_142 ?_
        refine lv_if_ne (tgt := 153) hx hb dX11_sessions_143 (by decide) (fun c_3 => ?_) (fun c_3 => ?_)
        · replace hf := bc_f hf c_3
          exact J153 h1 v3 v5 _ _ _ hP hD hS hl hf
        · replace hf := bc_t hf c_3
          refine lv_aload_n hx hb dX11_sessions_146 rfl (lv_at hl 2 rfl) ?_
          refine va_get (D := G) (C := RX11) (T := TX11) (N := 11) (v := .ref ((hsA g 1) 0)) hx hb hts iu_X11 hown hK hP 0 rfl rfl 1 (by decide) (hts _ kw263) (fun _ h9 => h9) rfl dX11_sessions_147 ?_
          obtain ⟨h1_4, hc4, hf⟩ := bd_e hf
          refine call_V (As := []) (rest := []) hx hb hml hown hts hK hP hD hS hA hZ lkX11_160 (Ctr.upL (c_X1_passDay l G ct sk sv (hsA g 1) g n h1 hc4) [lfX ct g xo, lfH ct (hsA g 0) g h0, lfS ct (fun j => (hsA g 0) (12 + j)) nt0, lfS ct (fun j => (hsA g 0) (8 + j)) cv0, lfS ct (fun j => (hsA g 1) (12 + j)) nt1, lfS ct (fun j => (hsA g 1) (8 + j)) cv1, lfP ct (fun j => (hsA g 0) (16 + j)) ps0, lfP ct (fun j => (hsA g 1) (16 + j)) ps1, lfK ct g] [lfX ct g xo, lfH ct (hsA g 0) g h0, lfH ct (hsA g 1) g h1, lfS ct (fun j => (hsA g 0) (12 + j)) nt0, lfS ct (fun j => (hsA g 0) (8 + j)) cv0, lfS ct (fun j => (hsA g 1) (12 + j)) nt1, lfS ct (fun j => (hsA g 1) (8 + j)) cv1, lfP ct (fun j => (hsA g 0) (16 + j)) ps0, lfP ct (fun j => (hsA g 1) (16 + j)) ps1, lfK ct g] [lfX ct g xo, lfH ct (hsA g 0) g h0, lfH ct (hsA g 1) g h1_4, lfS ct (fun j => (hsA g 0) (12 + j)) nt0, lfS ct (fun j => (hsA g 0) (8 + j)) cv0, lfS ct (fun j => (hsA g 1) (12 + j)) nt1, lfS ct (fun j => (hsA g 1) (8 + j)) cv1, lfP ct (fun j => (hsA g 0) (16 + j)) ps0, lfP ct (fun j => (hsA g 1) (16 + j)) ps1, lfK ct g] [2, 0, 1, 3, 4, 5, 6, 7, 8, 9] 10 (by decide) rfl rfl rfl rfl) 11 rfl rfl ⟨Nat.le_of_ble_eq_true rfl, Nat.le_of_ble_eq_true rfl⟩ rfl hl.1 rfl (Nat.le_of_ble_eq_true rfl) dX11_sessions_150 ⟨Nat.le_of_ble_eq_true rfl, Nat.le_of_ble_eq_true rfl⟩ (fun r9 w9 H locs hB hP hD hS => ?_)
          obtain ⟨rfl, rfl⟩ := hB
          refine WG_eq (g2 := F0 m 153 ls []) rfl ?_
          exact J153 h1_4 v3 v5 _ _ _ hP hD hS hl hf
      replace hf : f_X11_sessions_b43 n xo h0 h1 nt0 cv0 nt1 cv1 ps0 ps1 v5 v3 v2 = some q := hf
      unfold f_X11_sessions_b43 at hf
      refine lv_iload hx hb dX11_sessions_43 (lv_at hl 0 rfl) ?_
      refine lv_iload_n hx hb dX11_sessions_45 rfl (lv_at hl 3 rfl) ?_
      refine lv_icmp_ge (tgt := 159) hx hb dX11_sessions_46 (by decide) (fun c_5 => ?_) (fun c_5 => ?_)
      · replace hf := bc_t hf c_5
        exact hE h1 (lp_inr hor hf).symm _ _ _ hP hD hS (lv_sub hl [2] rfl)
      · replace hf := bc_f hf c_5
        refine lv_lload_n hx hb dX11_sessions_49 rfl (lv_at hl 1 rfl) ?_
        obtain ⟨r_6, hc6, hf⟩ := bd_e hf
        refine call_S (As := [.long v3]) (rest := []) hx hb hml hown hts hK hP hD hS hA hZ lkX11_299 (Ctr.upL (c_X11_nextX l G ct sk sv  n v3 hc6) [lfX ct g xo, lfH ct (hsA g 0) g h0, lfH ct (hsA g 1) g h1, lfS ct (fun j => (hsA g 0) (12 + j)) nt0, lfS ct (fun j => (hsA g 0) (8 + j)) cv0, lfS ct (fun j => (hsA g 1) (12 + j)) nt1, lfS ct (fun j => (hsA g 1) (8 + j)) cv1, lfP ct (fun j => (hsA g 0) (16 + j)) ps0, lfP ct (fun j => (hsA g 1) (16 + j)) ps1, lfK ct g] [lfX ct g xo, lfH ct (hsA g 0) g h0, lfH ct (hsA g 1) g h1, lfS ct (fun j => (hsA g 0) (12 + j)) nt0, lfS ct (fun j => (hsA g 0) (8 + j)) cv0, lfS ct (fun j => (hsA g 1) (12 + j)) nt1, lfS ct (fun j => (hsA g 1) (8 + j)) cv1, lfP ct (fun j => (hsA g 0) (16 + j)) ps0, lfP ct (fun j => (hsA g 1) (16 + j)) ps1, lfK ct g] [lfX ct g xo, lfH ct (hsA g 0) g h0, lfH ct (hsA g 1) g h1, lfS ct (fun j => (hsA g 0) (12 + j)) nt0, lfS ct (fun j => (hsA g 0) (8 + j)) cv0, lfS ct (fun j => (hsA g 1) (12 + j)) nt1, lfS ct (fun j => (hsA g 1) (8 + j)) cv1, lfP ct (fun j => (hsA g 0) (16 + j)) ps0, lfP ct (fun j => (hsA g 1) (16 + j)) ps1, lfK ct g] [0, 1, 2, 3, 4, 5, 6, 7, 8, 9] 10 (by decide) rfl rfl rfl rfl) ⟨Nat.le_of_ble_eq_true rfl, Nat.le_of_ble_eq_true rfl⟩ rfl hl.1 rfl (Nat.le_of_ble_eq_true rfl) dX11_sessions_50 ⟨Nat.le_of_ble_eq_true rfl, Nat.le_of_ble_eq_true rfl⟩ (fun r9 w9 H locs hB hP hD hS => ?_)
        obtain ⟨rfl, rfl⟩ := hB
        refine WG_eq (g2 := F0 m 53 ls [.long r_6]) rfl ?_
        refine lv_lstore_n (lv' := [(3, .long r_6), (5, .int v5), (0, .ref (g 7)), (2, .int v2)]) hx hb dX11_sessions_53 rfl hl (by decide) rfl (fun ls hl => ?_)
        refine lv_lload_n hx hb dX11_sessions_54 rfl (lv_at hl 0 rfl) ?_
        refine lv_ldc2 (v := 65536) hx hb hown (hts _ kw833) dX11_sessions_55 ?_
        refine lv_ldiv hx hb dX11_sessions_58 (by decide) ?_
        refine lv_ldc2 (v := 6) hx hb hown (hts _ kw834) dX11_sessions_59 ?_
        obtain ⟨w_7, ew_7, hf⟩ := bl_e hf
        refine W.eq (g2 := F0 m 62 ls ([.long 6, .long w_7])) (by rw [← ew_7]) ?_
        refine lv_lrem hx hb dX11_sessions_62 (by decide) ?_
        refine lv_l2i (v := (w_7 - w_7 / 6 * 6 : Int64).toInt32) hx hb dX11_sessions_63 rfl ?_
        refine lv_topi (fun v6_8 ev6_8 => ?_)
        replace hf := bl_i hf ev6_8
        refine lv_istore (lv' := [(6, .int v6_8), (3, .long r_6), (5, .int v5), (0, .ref (g 7)), (2, .int v2)]) hx hb dX11_sessions_64 hl (by decide) rfl (fun ls hl => ?_)
        refine lv_lload_n hx hb dX11_sessions_66 rfl (lv_at hl 1 rfl) ?_
        obtain ⟨r_9, hc9, hf⟩ := bd_e hf
        refine call_S (As := [.long r_6]) (rest := []) hx hb hml hown hts hK hP hD hS hA hZ lkX11_299 (Ctr.upL (c_X11_nextX l G ct sk sv  n r_6 hc9) [lfX ct g xo, lfH ct (hsA g 0) g h0, lfH ct (hsA g 1) g h1, lfS ct (fun j => (hsA g 0) (12 + j)) nt0, lfS ct (fun j => (hsA g 0) (8 + j)) cv0, lfS ct (fun j => (hsA g 1) (12 + j)) nt1, lfS ct (fun j => (hsA g 1) (8 + j)) cv1, lfP ct (fun j => (hsA g 0) (16 + j)) ps0, lfP ct (fun j => (hsA g 1) (16 + j)) ps1, lfK ct g] [lfX ct g xo, lfH ct (hsA g 0) g h0, lfH ct (hsA g 1) g h1, lfS ct (fun j => (hsA g 0) (12 + j)) nt0, lfS ct (fun j => (hsA g 0) (8 + j)) cv0, lfS ct (fun j => (hsA g 1) (12 + j)) nt1, lfS ct (fun j => (hsA g 1) (8 + j)) cv1, lfP ct (fun j => (hsA g 0) (16 + j)) ps0, lfP ct (fun j => (hsA g 1) (16 + j)) ps1, lfK ct g] [lfX ct g xo, lfH ct (hsA g 0) g h0, lfH ct (hsA g 1) g h1, lfS ct (fun j => (hsA g 0) (12 + j)) nt0, lfS ct (fun j => (hsA g 0) (8 + j)) cv0, lfS ct (fun j => (hsA g 1) (12 + j)) nt1, lfS ct (fun j => (hsA g 1) (8 + j)) cv1, lfP ct (fun j => (hsA g 0) (16 + j)) ps0, lfP ct (fun j => (hsA g 1) (16 + j)) ps1, lfK ct g] [0, 1, 2, 3, 4, 5, 6, 7, 8, 9] 10 (by decide) rfl rfl rfl rfl) ⟨Nat.le_of_ble_eq_true rfl, Nat.le_of_ble_eq_true rfl⟩ rfl hl.1 rfl (Nat.le_of_ble_eq_true rfl) dX11_sessions_67 ⟨Nat.le_of_ble_eq_true rfl, Nat.le_of_ble_eq_true rfl⟩ (fun r9 w9 H locs hB hP hD hS => ?_)
        obtain ⟨rfl, rfl⟩ := hB
        refine WG_eq (g2 := F0 m 70 ls [.long r_9]) rfl ?_
        refine lv_lstore_n (lv' := [(3, .long r_9), (6, .int v6_8), (5, .int v5), (0, .ref (g 7)), (2, .int v2)]) hx hb dX11_sessions_70 rfl hl (by decide) rfl (fun ls hl => ?_)
        refine lv_lload_n hx hb dX11_sessions_71 rfl (lv_at hl 0 rfl) ?_
        refine lv_ldc2 (v := 65536) hx hb hown (hts _ kw833) dX11_sessions_72 ?_
        refine lv_ldiv hx hb dX11_sessions_75 (by decide) ?_
        refine lv_ldc2 (v := 5) hx hb hown (hts _ kw835) dX11_sessions_76 ?_
        obtain ⟨w_10, ew_10, hf⟩ := bl_e hf
        refine W.eq (g2 := F0 m 79 ls ([.long 5, .long w_10])) (by rw [← ew_10]) ?_
        refine lv_lrem hx hb dX11_sessions_79 (by decide) ?_
        refine lv_l2i (v := (w_10 - w_10 / 5 * 5 : Int64).toInt32) hx hb dX11_sessions_80 rfl ?_
        refine lv_topi (fun v7_11 ev7_11 => ?_)
        replace hf := bl_i hf ev7_11
        refine lv_istore (lv' := [(7, .int v7_11), (3, .long r_9), (6, .int v6_8), (5, .int v5), (0, .ref (g 7)), (2, .int v2)]) hx hb dX11_sessions_81 hl (by decide) rfl (fun ls hl => ?_)
        refine lv_iload hx hb dX11_sessions_83 (lv_at hl 2 rfl) ?_
        refine lv_aload_n hx hb dX11_sessions_85 rfl (lv_at hl 4 rfl) ?_
        refine va_get (D := G) (C := RX11) (T := TX11) (N := 11) (v := .ref ((hsA g 1) 0)) hx hb hts iu_X11 hown hK hP 0 rfl rfl 1 (by decide) (hts _ kw263) (fun _ h9 => h9) rfl dX11_sessions_86 ?_
        refine va_get (D := G) (C := RX1) (T := TX1) (N := 16) (v := .int (h1.1 1)) hx hb hts iu_X1 hown hK hP 11 rfl rfl 5 (by decide) (hts _ kw137) (fun _ h9 => h9) rfl dX11_sessions_89 ?_
        refine lv_icmp_ge (tgt := 132) hx hb dX11_sessions_92 (by decide) (fun c_12 => ?_) (fun c_12 => ?_)
        · replace hf := bc_t hf c_12
          exact J132 h1 r_9 v5 _ _ _ hP hD hS (lv_sub hl [1, 3, 4, 5] rfl) hf
        · replace hf := bc_f hf c_12
          refine lv_iload hx hb dX11_sessions_95 (lv_at hl 0 rfl) ?_
          refine lv_aload_n hx hb dX11_sessions_97 rfl (lv_at hl 4 rfl) ?_
          refine va_get (D := G) (C := RX11) (T := TX11) (N := 11) (v := .ref ((hsA g 1) 0)) hx hb hts iu_X11 hown hK hP 0 rfl rfl 1 (by decide) (hts _ kw263) (fun _ h9 => h9) rfl dX11_sessions_98 ?_
          refine va_get (D := G) (C := RX1) (T := TX1) (N := 16) (v := .int (h1.1 0)) hx hb hts iu_X1 hown hK hP 11 rfl rfl 1 (by decide) (hts _ kw124) (fun _ h9 => h9) rfl dX11_sessions_101 ?_
          refine lv_icmp_ge (tgt := 132) hx hb dX11_sessions_104 (by decide) (fun c_13 => ?_) (fun c_13 => ?_)
          · replace hf := bc_t hf c_13
            exact J132 h1 r_9 v5 _ _ _ hP hD hS (lv_sub hl [1, 3, 4, 5] rfl) hf
          · replace hf := bc_f hf c_13
            refine lv_aload_n hx hb dX11_sessions_107 rfl (lv_at hl 4 rfl) ?_
            refine va_get (D := G) (C := RX11) (T := TX11) (N := 11) (v := .ref ((hsA g 1) 0)) hx hb hts iu_X11 hown hK hP 0 rfl rfl 1 (by decide) (hts _ kw263) (fun _ h9 => h9) rfl dX11_sessions_108 ?_
            refine lv_iload hx hb dX11_sessions_111 (lv_at hl 2 rfl) ?_
            refine lv_iload hx hb dX11_sessions_113 (lv_at hl 0 rfl) ?_
            obtain ⟨r_14, hc14, hf⟩ := bd_e hf
            refine call_V (As := [.int v6_8, .int v7_11]) (rest := []) hx hb hml hown hts hK hP hD hS hA hZ lkX11_131 (Ctr.upL (c_X1_mayFrank l G ct sk sv (hsA g 1) g n h1 v6_8 v7_11 hc14) [lfX ct g xo, lfH ct (hsA g 0) g h0, lfS ct (fun j => (hsA g 0) (12 + j)) nt0, lfS ct (fun j => (hsA g 0) (8 + j)) cv0, lfS ct (fun j => (hsA g 1) (12 + j)) nt1, lfS ct (fun j => (hsA g 1) (8 + j)) cv1, lfP ct (fun j => (hsA g 0) (16 + j)) ps0, lfP ct (fun j => (hsA g 1) (16 + j)) ps1] [lfX ct g xo, lfH ct (hsA g 0) g h0, lfH ct (hsA g 1) g h1, lfS ct (fun j => (hsA g 0) (12 + j)) nt0, lfS ct (fun j => (hsA g 0) (8 + j)) cv0, lfS ct (fun j => (hsA g 1) (12 + j)) nt1, lfS ct (fun j => (hsA g 1) (8 + j)) cv1, lfP ct (fun j => (hsA g 0) (16 + j)) ps0, lfP ct (fun j => (hsA g 1) (16 + j)) ps1, lfK ct g] [lfX ct g xo, lfH ct (hsA g 0) g h0, lfH ct (hsA g 1) g h1, lfS ct (fun j => (hsA g 0) (12 + j)) nt0, lfS ct (fun j => (hsA g 0) (8 + j)) cv0, lfS ct (fun j => (hsA g 1) (12 + j)) nt1, lfS ct (fun j => (hsA g 1) (8 + j)) cv1, lfP ct (fun j => (hsA g 0) (16 + j)) ps0, lfP ct (fun j => (hsA g 1) (16 + j)) ps1, lfK ct g] [2, 9, 0, 1, 3, 4, 5, 6, 7, 8] 10 (by decide) rfl rfl rfl rfl) 11 rfl rfl ⟨Nat.le_of_ble_eq_true rfl, Nat.le_of_ble_eq_true rfl⟩ rfl hl.1 rfl (Nat.le_of_ble_eq_true rfl) dX11_sessions_115 ⟨Nat.le_of_ble_eq_true rfl, Nat.le_of_ble_eq_true rfl⟩ (fun r9 w9 H locs hB hP hD hS => ?_)
            obtain ⟨rfl, rfl⟩ := hB
            refine WG_eq (g2 := F0 m 118 ls [.int r_14]) rfl ?_
            refine lv_if_eq (tgt := 132) hx hb dX11_sessions_118 (by decide) (fun c_15 => ?_) (fun c_15 => ?_)
            · replace hf := bc_t hf c_15
              exact J132 h1 r_9 v5 _ _ _ hP hD hS (lv_sub hl [1, 3, 4, 5] rfl) hf
            · replace hf := bc_f hf c_15
              refine lv_aload_n hx hb dX11_sessions_121 rfl (lv_at hl 4 rfl) ?_
              refine va_get (D := G) (C := RX11) (T := TX11) (N := 11) (v := .ref ((hsA g 1) 0)) hx hb hts iu_X11 hown hK hP 0 rfl rfl 1 (by decide) (hts _ kw263) (fun _ h9 => h9) rfl dX11_sessions_122 ?_
              refine lv_iload hx hb dX11_sessions_125 (lv_at hl 2 rfl) ?_
              refine lv_iload hx hb dX11_sessions_127 (lv_at hl 0 rfl) ?_
              obtain ⟨h1_16, hc16, hf⟩ := bd_e hf
              refine call_V (As := [.int v6_8, .int v7_11]) (rest := []) hx hb hml hown hts hK hP hD hS hA hZ lkX11_141 (Ctr.upL (c_X1_sign l G ct sk sv (hsA g 1) g n h1 v6_8 v7_11 hc16) [lfX ct g xo, lfH ct (hsA g 0) g h0, lfS ct (fun j => (hsA g 0) (12 + j)) nt0, lfS ct (fun j => (hsA g 0) (8 + j)) cv0, lfS ct (fun j => (hsA g 1) (12 + j)) nt1, lfS ct (fun j => (hsA g 1) (8 + j)) cv1, lfP ct (fun j => (hsA g 0) (16 + j)) ps0, lfP ct (fun j => (hsA g 1) (16 + j)) ps1, lfK ct g] [lfX ct g xo, lfH ct (hsA g 0) g h0, lfH ct (hsA g 1) g h1, lfS ct (fun j => (hsA g 0) (12 + j)) nt0, lfS ct (fun j => (hsA g 0) (8 + j)) cv0, lfS ct (fun j => (hsA g 1) (12 + j)) nt1, lfS ct (fun j => (hsA g 1) (8 + j)) cv1, lfP ct (fun j => (hsA g 0) (16 + j)) ps0, lfP ct (fun j => (hsA g 1) (16 + j)) ps1, lfK ct g] [lfX ct g xo, lfH ct (hsA g 0) g h0, lfH ct (hsA g 1) g h1_16, lfS ct (fun j => (hsA g 0) (12 + j)) nt0, lfS ct (fun j => (hsA g 0) (8 + j)) cv0, lfS ct (fun j => (hsA g 1) (12 + j)) nt1, lfS ct (fun j => (hsA g 1) (8 + j)) cv1, lfP ct (fun j => (hsA g 0) (16 + j)) ps0, lfP ct (fun j => (hsA g 1) (16 + j)) ps1, lfK ct g] [2, 0, 1, 3, 4, 5, 6, 7, 8, 9] 10 (by decide) rfl rfl rfl rfl) 11 rfl rfl ⟨Nat.le_of_ble_eq_true rfl, Nat.le_of_ble_eq_true rfl⟩ rfl hl.1 rfl (Nat.le_of_ble_eq_true rfl) dX11_sessions_129 ⟨Nat.le_of_ble_eq_true rfl, Nat.le_of_ble_eq_true rfl⟩ (fun r9 w9 H locs hB hP hD hS => ?_)
              obtain ⟨rfl, rfl⟩ := hB
              refine WG_eq (g2 := F0 m 132 ls []) rfl ?_
              exact J132 h1_16 r_9 v5 _ _ _ hP hD hS (lv_sub hl [1, 3, 4, 5] rfl) hf
  have J21 : ∀ (xo : MV) (h1 : MV) (nt1 : MV) (cv1 : MV) (ps1 : MV) (H : Heap) (locs : List Loc) (ls : Array Slot), va_P G classes (wl [lfX ct g xo, lfH ct (hsA g 0) g h0, lfH ct (hsA g 1) g h1, lfS ct (fun j => (hsA g 0) (12 + j)) nt0, lfS ct (fun j => (hsA g 0) (8 + j)) cv0, lfS ct (fun j => (hsA g 1) (12 + j)) nt1, lfS ct (fun j => (hsA g 1) (8 + j)) cv1, lfP ct (fun j => (hsA g 0) (16 + j)) ps0, lfP ct (fun j => (hsA g 1) (16 + j)) ps1, lfK ct g]) H → va_D A (wl [lfX ct g xo, lfH ct (hsA g 0) g h0, lfH ct (hsA g 1) g h1, lfS ct (fun j => (hsA g 0) (12 + j)) nt0, lfS ct (fun j => (hsA g 0) (8 + j)) cv0, lfS ct (fun j => (hsA g 1) (12 + j)) nt1, lfS ct (fun j => (hsA g 1) (8 + j)) cv1, lfP ct (fun j => (hsA g 0) (16 + j)) ps0, lfP ct (fun j => (hsA g 1) (16 + j)) ps1, lfK ct g]) → va_S A s.heap H locs → lv_has ls 8 [(0, .ref (g 7))] → f_X11_sessions_j21 n xo h0 h1 nt0 cv0 nt1 cv1 ps0 ps1 = some (r, xo', h1', nt1', cv1', ps1') → WG l G ct sk sv p e (RM 6 206 0 0) s m args below meth c A (Eq2 (some (.int r)) (wl [lfX ct g xo', lfH ct (hsA g 0) g h0, lfH ct (hsA g 1) g h1', lfS ct (fun j => (hsA g 0) (12 + j)) nt0, lfS ct (fun j => (hsA g 0) (8 + j)) cv0, lfS ct (fun j => (hsA g 1) (12 + j)) nt1', lfS ct (fun j => (hsA g 1) (8 + j)) cv1', lfP ct (fun j => (hsA g 0) (16 + j)) ps0, lfP ct (fun j => (hsA g 1) (16 + j)) ps1', lfK ct g])) H locs (F0 m 21 ls []) := by
    intro xo h1 nt1 cv1 ps1 H locs ls hP hD hS hl hf
    unfold f_X11_sessions_j21 at hf
    refine lv_aload_n hx hb dX11_sessions_21 rfl (lv_at hl 0 rfl) ?_
    obtain ⟨r_17, xo_18, hc18, hf⟩ := bd2_e hf
    refine call_V (As := []) (rest := []) hx hb hml hown hts hK hP hD hS hA hZ lkX11_83 (Ctr.upL (c_X11_refuseBad l G ct sk sv g n xo hc18) [lfH ct (hsA g 0) g h0, lfH ct (hsA g 1) g h1, lfS ct (fun j => (hsA g 0) (12 + j)) nt0, lfS ct (fun j => (hsA g 0) (8 + j)) cv0, lfS ct (fun j => (hsA g 1) (12 + j)) nt1, lfS ct (fun j => (hsA g 1) (8 + j)) cv1, lfP ct (fun j => (hsA g 0) (16 + j)) ps0, lfP ct (fun j => (hsA g 1) (16 + j)) ps1, lfK ct g] [lfX ct g xo, lfH ct (hsA g 0) g h0, lfH ct (hsA g 1) g h1, lfS ct (fun j => (hsA g 0) (12 + j)) nt0, lfS ct (fun j => (hsA g 0) (8 + j)) cv0, lfS ct (fun j => (hsA g 1) (12 + j)) nt1, lfS ct (fun j => (hsA g 1) (8 + j)) cv1, lfP ct (fun j => (hsA g 0) (16 + j)) ps0, lfP ct (fun j => (hsA g 1) (16 + j)) ps1, lfK ct g] [lfX ct g xo_18, lfH ct (hsA g 0) g h0, lfH ct (hsA g 1) g h1, lfS ct (fun j => (hsA g 0) (12 + j)) nt0, lfS ct (fun j => (hsA g 0) (8 + j)) cv0, lfS ct (fun j => (hsA g 1) (12 + j)) nt1, lfS ct (fun j => (hsA g 1) (8 + j)) cv1, lfP ct (fun j => (hsA g 0) (16 + j)) ps0, lfP ct (fun j => (hsA g 1) (16 + j)) ps1, lfK ct g] [0, 1, 2, 3, 4, 5, 6, 7, 8, 9] 10 (by decide) rfl rfl rfl rfl) 0 rfl rfl ⟨Nat.le_of_ble_eq_true rfl, Nat.le_of_ble_eq_true rfl⟩ rfl hl.1 rfl (Nat.le_of_ble_eq_true rfl) dX11_sessions_22 ⟨Nat.le_of_ble_eq_true rfl, Nat.le_of_ble_eq_true rfl⟩ (fun r9 w9 H locs hB hP hD hS => ?_)
    obtain ⟨rfl, rfl⟩ := hB
    refine WG_eq (g2 := F0 m 25 ls [.int r_17]) rfl ?_
    obtain ⟨e1, e2, e3, e4, e5, e6⟩ := inj6 (Option.some.inj hf)
    exact end_i (w' := (wl [lfX ct g xo_18, lfH ct (hsA g 0) g h0, lfH ct (hsA g 1) g h1, lfS ct (fun j => (hsA g 0) (12 + j)) nt0, lfS ct (fun j => (hsA g 0) (8 + j)) cv0, lfS ct (fun j => (hsA g 1) (12 + j)) nt1, lfS ct (fun j => (hsA g 1) (8 + j)) cv1, lfP ct (fun j => (hsA g 0) (16 + j)) ps0, lfP ct (fun j => (hsA g 1) (16 + j)) ps1, lfK ct g])) hx hb hr hlocks hK hP hD hS dX11_sessions_25  ⟨by rw [← e1], by rw [← e2, ← e3, ← e4, ← e5, ← e6]⟩
  unfold f_X11_sessions at hf
  show WG l G ct sk sv p e (RM 6 206 0 0) s m args below meth c A (Eq2 (some (.int r)) (wl [lfX ct g xo', lfH ct (hsA g 0) g h0, lfH ct (hsA g 1) g h1', lfS ct (fun j => (hsA g 0) (12 + j)) nt0, lfS ct (fun j => (hsA g 0) (8 + j)) cv0, lfS ct (fun j => (hsA g 1) (12 + j)) nt1', lfS ct (fun j => (hsA g 1) (8 + j)) cv1', lfP ct (fun j => (hsA g 0) (16 + j)) ps0, lfP ct (fun j => (hsA g 1) (16 + j)) ps1', lfK ct g])) s.heap [] (F0 m 0 ls [])
  refine lv_iload_n hx hb dX11_sessions_0 rfl (lv_at hl 1 rfl) ?_
  refine lv_iconst (v := 0) hx hb dX11_sessions_1 (by decide) ?_
  refine lv_ldcw (v := 999999) hx hb hown (hts _ kw826) dX11_sessions_2 ?_
  obtain ⟨r_19, hc19, hf⟩ := bd_e hf
  refine call_S (As := [.int v1, .int 0, .int 999999]) (rest := []) hx hb hml hown hts hK hP hD hS hA hZ lkX11_75 (Ctr.upL (c_X11_within l G ct sk sv  n v1 0 999999 hc19) [lfX ct g xo, lfH ct (hsA g 0) g h0, lfH ct (hsA g 1) g h1, lfS ct (fun j => (hsA g 0) (12 + j)) nt0, lfS ct (fun j => (hsA g 0) (8 + j)) cv0, lfS ct (fun j => (hsA g 1) (12 + j)) nt1, lfS ct (fun j => (hsA g 1) (8 + j)) cv1, lfP ct (fun j => (hsA g 0) (16 + j)) ps0, lfP ct (fun j => (hsA g 1) (16 + j)) ps1, lfK ct g] [lfX ct g xo, lfH ct (hsA g 0) g h0, lfH ct (hsA g 1) g h1, lfS ct (fun j => (hsA g 0) (12 + j)) nt0, lfS ct (fun j => (hsA g 0) (8 + j)) cv0, lfS ct (fun j => (hsA g 1) (12 + j)) nt1, lfS ct (fun j => (hsA g 1) (8 + j)) cv1, lfP ct (fun j => (hsA g 0) (16 + j)) ps0, lfP ct (fun j => (hsA g 1) (16 + j)) ps1, lfK ct g] [lfX ct g xo, lfH ct (hsA g 0) g h0, lfH ct (hsA g 1) g h1, lfS ct (fun j => (hsA g 0) (12 + j)) nt0, lfS ct (fun j => (hsA g 0) (8 + j)) cv0, lfS ct (fun j => (hsA g 1) (12 + j)) nt1, lfS ct (fun j => (hsA g 1) (8 + j)) cv1, lfP ct (fun j => (hsA g 0) (16 + j)) ps0, lfP ct (fun j => (hsA g 1) (16 + j)) ps1, lfK ct g] [0, 1, 2, 3, 4, 5, 6, 7, 8, 9] 10 (by decide) rfl rfl rfl rfl) ⟨Nat.le_of_ble_eq_true rfl, Nat.le_of_ble_eq_true rfl⟩ rfl hl.1 rfl (Nat.le_of_ble_eq_true rfl) dX11_sessions_5 ⟨Nat.le_of_ble_eq_true rfl, Nat.le_of_ble_eq_true rfl⟩ (fun r9 w9 H locs hB hP hD hS => ?_)
  obtain ⟨rfl, rfl⟩ := hB
  refine WG_eq (g2 := F0 m 8 ls [.int r_19]) rfl ?_
  refine lv_if_eq (tgt := 21) hx hb dX11_sessions_8 (by decide) (fun c_20 => ?_) (fun c_20 => ?_)
  · replace hf := bc_t hf c_20
    exact J21 xo h1 nt1 cv1 ps1 _ _ _ hP hD hS (lv_sub hl [0] rfl) hf
  · replace hf := bc_f hf c_20
    refine lv_iload_n hx hb dX11_sessions_11 rfl (lv_at hl 2 rfl) ?_
    refine lv_iconst (v := 0) hx hb dX11_sessions_12 (by decide) ?_
    refine lv_bipush (v := 60) hx hb dX11_sessions_13 (by decide) ?_
    obtain ⟨r_21, hc21, hf⟩ := bd_e hf
    refine call_S (As := [.int v2, .int 0, .int 60]) (rest := []) hx hb hml hown hts hK hP hD hS hA hZ lkX11_75 (Ctr.upL (c_X11_within l G ct sk sv  n v2 0 60 hc21) [lfX ct g xo, lfH ct (hsA g 0) g h0, lfH ct (hsA g 1) g h1, lfS ct (fun j => (hsA g 0) (12 + j)) nt0, lfS ct (fun j => (hsA g 0) (8 + j)) cv0, lfS ct (fun j => (hsA g 1) (12 + j)) nt1, lfS ct (fun j => (hsA g 1) (8 + j)) cv1, lfP ct (fun j => (hsA g 0) (16 + j)) ps0, lfP ct (fun j => (hsA g 1) (16 + j)) ps1, lfK ct g] [lfX ct g xo, lfH ct (hsA g 0) g h0, lfH ct (hsA g 1) g h1, lfS ct (fun j => (hsA g 0) (12 + j)) nt0, lfS ct (fun j => (hsA g 0) (8 + j)) cv0, lfS ct (fun j => (hsA g 1) (12 + j)) nt1, lfS ct (fun j => (hsA g 1) (8 + j)) cv1, lfP ct (fun j => (hsA g 0) (16 + j)) ps0, lfP ct (fun j => (hsA g 1) (16 + j)) ps1, lfK ct g] [lfX ct g xo, lfH ct (hsA g 0) g h0, lfH ct (hsA g 1) g h1, lfS ct (fun j => (hsA g 0) (12 + j)) nt0, lfS ct (fun j => (hsA g 0) (8 + j)) cv0, lfS ct (fun j => (hsA g 1) (12 + j)) nt1, lfS ct (fun j => (hsA g 1) (8 + j)) cv1, lfP ct (fun j => (hsA g 0) (16 + j)) ps0, lfP ct (fun j => (hsA g 1) (16 + j)) ps1, lfK ct g] [0, 1, 2, 3, 4, 5, 6, 7, 8, 9] 10 (by decide) rfl rfl rfl rfl) ⟨Nat.le_of_ble_eq_true rfl, Nat.le_of_ble_eq_true rfl⟩ rfl hl.1 rfl (Nat.le_of_ble_eq_true rfl) dX11_sessions_15 ⟨Nat.le_of_ble_eq_true rfl, Nat.le_of_ble_eq_true rfl⟩ (fun r9 w9 H locs hB hP hD hS => ?_)
    obtain ⟨rfl, rfl⟩ := hB
    refine WG_eq (g2 := F0 m 18 ls [.int r_21]) rfl ?_
    refine lv_if_ne (tgt := 26) hx hb dX11_sessions_18 (by decide) (fun c_22 => ?_) (fun c_22 => ?_)
    · replace hf := bc_f hf c_22
      refine lv_aload_n hx hb dX11_sessions_26 rfl (lv_at hl 0 rfl) ?_
      refine va_get (D := G) (C := RX11) (T := TX11) (N := 11) (v := .ref ((hsA g 1) 0)) hx hb hts iu_X11 hown hK hP 0 rfl rfl 1 (by decide) (hts _ kw263) (fun _ h9 => h9) rfl dX11_sessions_27 ?_
      refine lv_aload_n hx hb dX11_sessions_30 rfl (lv_at hl 0 rfl) ?_
      refine va_get (D := G) (C := RX11) (T := TX11) (N := 11) (v := .ref ((hsA g 0) 0)) hx hb hts iu_X11 hown hK hP 0 rfl rfl 0 (by decide) (hts _ kw262) (fun _ h9 => h9) rfl dX11_sessions_31 ?_
      obtain ⟨h1_23, nt1_24, cv1_25, ps1_26, hc26, hf⟩ := bd4_e hf
      refine call_V (As := [.ref ((hsA g 0) 0)]) (rest := []) hx hb hml hown hts hK hP hD hS hA hZ lkX11_121 (Ctr.upL (c_X1_takeOver l G ct sk sv (hsA g 1) (hsA g 0) g n h1 h0 nt1 cv1 nt0 cv0 ps1 ps0 hc26) [lfX ct g xo, lfK ct g] [lfX ct g xo, lfH ct (hsA g 0) g h0, lfH ct (hsA g 1) g h1, lfS ct (fun j => (hsA g 0) (12 + j)) nt0, lfS ct (fun j => (hsA g 0) (8 + j)) cv0, lfS ct (fun j => (hsA g 1) (12 + j)) nt1, lfS ct (fun j => (hsA g 1) (8 + j)) cv1, lfP ct (fun j => (hsA g 0) (16 + j)) ps0, lfP ct (fun j => (hsA g 1) (16 + j)) ps1, lfK ct g] [lfX ct g xo, lfH ct (hsA g 0) g h0, lfH ct (hsA g 1) g h1_23, lfS ct (fun j => (hsA g 0) (12 + j)) nt0, lfS ct (fun j => (hsA g 0) (8 + j)) cv0, lfS ct (fun j => (hsA g 1) (12 + j)) nt1_24, lfS ct (fun j => (hsA g 1) (8 + j)) cv1_25, lfP ct (fun j => (hsA g 0) (16 + j)) ps0, lfP ct (fun j => (hsA g 1) (16 + j)) ps1_26, lfK ct g] [2, 1, 5, 6, 3, 4, 8, 7, 0, 9] 10 (by decide) rfl rfl rfl rfl) 11 rfl rfl ⟨Nat.le_of_ble_eq_true rfl, Nat.le_of_ble_eq_true rfl⟩ rfl hl.1 rfl (Nat.le_of_ble_eq_true rfl) dX11_sessions_34 ⟨Nat.le_of_ble_eq_true rfl, Nat.le_of_ble_eq_true rfl⟩ (fun r9 w9 H locs hB hP hD hS => ?_)
      obtain ⟨rfl, rfl⟩ := hB
      refine WG_eq (g2 := F0 m 37 ls []) rfl ?_
      refine lv_iload_n hx hb dX11_sessions_37 rfl (lv_at hl 1 rfl) ?_
      refine lv_i2l (v := (v1 : Int32).toInt64) hx hb dX11_sessions_38 rfl ?_
      refine lv_topl (fun v3_27 ev3_27 => ?_)
      replace hf := bl_i hf ev3_27
      refine lv_lstore_n (lv' := [(3, .long v3_27), (0, .ref (g 7)), (1, .int v1), (2, .int v2)]) hx hb dX11_sessions_39 rfl hl (by decide) rfl (fun ls hl => ?_)
      refine lv_iconst (v := 0) hx hb dX11_sessions_40 (by decide) ?_
      refine lv_istore (lv' := [(5, .int 0), (3, .long v3_27), (0, .ref (g 7)), (1, .int v1), (2, .int v2)]) hx hb dX11_sessions_41 hl (by decide) rfl (fun ls hl => ?_)
      obtain ⟨h1_28, hx_29, hf⟩ := bd_e hf
      refine L43 n xo h1_23 nt1_24 cv1_25 ps1_26 v2 0 v3_27 h1_28 _ _ _ hP hD hS (lv_sub hl [0, 1, 2, 4] rfl) hx_29 ?_
      intro x9 e9 H locs ls hP hD hS hl
      subst e9
      have hP : va_P G classes (wl [lfX ct g xo, lfH ct (hsA g 0) g h0, lfH ct (hsA g 1) g h1_28, lfS ct (fun j => (hsA g 0) (12 + j)) nt0, lfS ct (fun j => (hsA g 0) (8 + j)) cv0, lfS ct (fun j => (hsA g 1) (12 + j)) nt1_24, lfS ct (fun j => (hsA g 1) (8 + j)) cv1_25, lfP ct (fun j => (hsA g 0) (16 + j)) ps0, lfP ct (fun j => (hsA g 1) (16 + j)) ps1_26, lfK ct g]) H := hP
      have hD : va_D A (wl [lfX ct g xo, lfH ct (hsA g 0) g h0, lfH ct (hsA g 1) g h1_28, lfS ct (fun j => (hsA g 0) (12 + j)) nt0, lfS ct (fun j => (hsA g 0) (8 + j)) cv0, lfS ct (fun j => (hsA g 1) (12 + j)) nt1_24, lfS ct (fun j => (hsA g 1) (8 + j)) cv1_25, lfP ct (fun j => (hsA g 0) (16 + j)) ps0, lfP ct (fun j => (hsA g 1) (16 + j)) ps1_26, lfK ct g]) := hD
      have hl : lv_has ls 8 [(0, .ref (g 7))] := hl
      refine lv_aload_n hx hb dX11_sessions_159 rfl (lv_at hl 0 rfl) ?_
      refine va_get (D := G) (C := RX11) (T := TX11) (N := 11) (v := .ref ((hsA g 1) 0)) hx hb hts iu_X11 hown hK hP 0 rfl rfl 1 (by decide) (hts _ kw263) (fun _ h9 => h9) rfl dX11_sessions_160 ?_
      refine va_get (D := G) (C := RX1) (T := TX1) (N := 16) (v := .int (h1_28.1 3)) hx hb hts iu_X1 hown hK hP 11 rfl rfl 11 (by decide) (hts _ kw153) (fun _ h9 => h9) rfl dX11_sessions_163 ?_
      refine lv_aload_n hx hb dX11_sessions_166 rfl (lv_at hl 0 rfl) ?_
      refine va_get (D := G) (C := RX11) (T := TX11) (N := 11) (v := .ref ((hsA g 0) 0)) hx hb hts iu_X11 hown hK hP 0 rfl rfl 0 (by decide) (hts _ kw262) (fun _ h9 => h9) rfl dX11_sessions_167 ?_
      refine va_get (D := G) (C := RX1) (T := TX1) (N := 16) (v := .int (h0.1 3)) hx hb hts iu_X1 hown hK hP 3 rfl rfl 11 (by decide) (hts _ kw153) (fun _ h9 => h9) rfl dX11_sessions_170 ?_
      refine lv_isub hx hb dX11_sessions_173 ?_
      obtain ⟨e1, e2, e3, e4, e5, e6⟩ := inj6 (Option.some.inj hf)
      exact end_i (w' := (wl [lfX ct g xo, lfH ct (hsA g 0) g h0, lfH ct (hsA g 1) g h1_28, lfS ct (fun j => (hsA g 0) (12 + j)) nt0, lfS ct (fun j => (hsA g 0) (8 + j)) cv0, lfS ct (fun j => (hsA g 1) (12 + j)) nt1_24, lfS ct (fun j => (hsA g 1) (8 + j)) cv1_25, lfP ct (fun j => (hsA g 0) (16 + j)) ps0, lfP ct (fun j => (hsA g 1) (16 + j)) ps1_26, lfK ct g])) hx hb hr hlocks hK hP hD hS dX11_sessions_174  ⟨by rw [← e1], by rw [← e2, ← e3, ← e4, ← e5, ← e6]⟩
    · replace hf := bc_t hf c_22
      exact J21 xo h1 nt1 cv1 ps1 _ _ _ hP hD hS (lv_sub hl [0] rfl) hf
