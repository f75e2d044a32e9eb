def z0 : MV := (fun _ => 0, fun _ _ => 0, fun _ => 0)
def adl (xs : List Nat) : Nat → Nat := fun j => xs.getD j 0
theorem RA_inj {s : State} {cA cB : ClassId} {ty : FieldType} (h1 : va_RA s cA ty) (h2 : va_RA s cB ty) (hp : refKind ty = false) : cA = cB := by
  cases ty <;> first | (exact Option.some.inj (h1.symm.trans h2)) | (cases hp)
theorem RA_injO {s : State} {cA cB : ClassId} {C : String} (h1 : va_RA s cA (.object C)) (h2 : va_RA s cB (.object C)) : cA = cB := by
  obtain ⟨_, _, _, _, _, e1⟩ := h1
  obtain ⟨_, _, _, _, _, e2⟩ := h2
  exact Option.some.inj (e1.symm.trans e2)
theorem P_perm {D : va_G} {cl : List vw_C} {w W : va_W} {H : Heap} (h : va_P D cl w H) (hp : w.Perm W) : va_P D cl W H := P_mem.mpr (fun q hq => P_mem.mp h q (hp.mem_iff.mpr hq))
theorem CtrG.upL {E : EV} {M : MI} {fr lo mc ms : Nat} {av : List Value} {A : List va_W} {B : Option Value → va_W → Prop} (h : CtrG E M fr lo mc ms av (wl A) B) (R X : List va_W) (is : List Nat) (n : Nat) (h1 : is.Perm (List.range n)) (n1 : X.length = n) (e1 : is.map (fun i => X.getD i []) = A ++ R) : CtrG E M fr lo mc ms av (wl X) (fun r W' => ∃ w', B r w' ∧ W' = w' ++ wl R) := by
  refine CtrG.perm (CtrG.frame (wl R) h) ?_ (fun r w' hb => ⟨w', hb, List.Perm.refl _⟩)
  have := (perm_ix X is (n1 ▸ h1) e1).flatten
  rwa [List.flatten_append] at this
def lkI (own : String) (idx : Nat) (M : MI) (n : Nat) : Prop := Cond.methodLink own idx M.1 ∈ WALL ∧ Cond.instanceMethod M.1 ∈ WALL ∧ Cond.initialized M.1.cls ∈ WALL ∧ Cond.code M.1 M.2.1 M.2.2.1 M.2.2.2 ∈ WALL ∧ M.1.cls ≠ "java/lang/invoke/MethodHandle" ∧ M.1.cls ≠ "java/lang/invoke/VarHandle" ∧ (parseMethodDescriptor M.1.desc).map (fun d => d.parameters.length) = some n
theorem call_I {p : Program} {l : Launch} {e : Env} {R : Room} {s : State} {m : MethodId} {args : Array Value} {below : List Frame} {meth : Method} {c : Code} {H : Heap} {locs : List Loc} {cells slots : Nat} {Q : State → Prop} {pc : Nat} {ls : Array Slot} {rest st0 : List Value} {A : Nat → Prop} {mc ms : Nat} {G : va_G} {ct : Nat → ClassId} {sk sv : Nat → Nat} {cc : ByteArray} {w : va_W} {B : Option Value → va_W → Prop} {own : String} {idx n fr lo nL : Nat} {M : MI} {b : Addr} {As : List Value} (hx : p.tables.exec = Jvm.exec) (hb : c.code = cc) (hml : c.maxLocals = nL) (hown : s.vm.findClass own = some m.cls) (hts : ∀ w ∈ WALL, w.before args s = true) (hK : va_K G classes (TYS ct) s) (hP : va_P G classes w H) (hD : va_D A w) (hS : va_S A s.heap H locs) (hA : ∀ q, s.heap.size ≤ q → A q) (hZ : ENV (l, G, ct, sk, sv) A s)
    (lk : lkI own idx M n) (hret : M.2.2.2 = none) (hnm : M.1.name = "<init>") (hM : CtrG (l, G, ct, sk, sv) M fr lo mc ms (.ref b :: As) w B) (hR : fr + 1 ≤ R.frames ∧ 8 + (M.2.2.1 + 11) + lo ≤ R.locals) (hn : As.length = n) (hl : ls.size = nL) (hst : st0 = As.reverse ++ .ref b :: rest) (hW : (rest.map fun v => v.category).sum ≤ 8) (hdg : decode cc pc = .ok (.invokespecial idx, 3)) (hf : cells + mc ≤ R.cells ∧ slots + ms ≤ R.slots)
    (kk : ∀ (r : Option Value) (w' : va_W) (H1 : Heap) (locs1 : List Loc), B r w' → va_P G classes w' H1 → va_D A w' → va_S A s.heap H1 locs1 → W p l e R s m args below meth c H1 locs1 (cells + mc) (slots + ms) Q (F0 m (pc + 3) ls (r.toList ++ rest))) : W p l e R s m args below meth c H locs cells slots Q (F0 m pc ls st0) := by
  obtain ⟨k1, k2, k3, k4, k5⟩ := lk
  obtain ⟨y, bytes, mx, rt⟩ := M
  have hret : rt = none := hret
  subst hret
  refine call_go (w := w) (B := B) (va_runI (As := As) (rest := rest) (b := b) ⟨hx, hb, hml, hown, hts⟩ (hM H.size) (cwI n hts (good_WS (M := (y, bytes, mx, none)) k4) rfl rfl rfl (hts _ k3) (hts _ k1) (hts _ k2) hnm k5 hR) ⟨pre_blind, pre_now hK hP hD hZ hS hA⟩ rfl hn hl hst (lv_room hW) hdg hf) hD hS hA kk

theorem lkIX1_35 : lkN "SignedOutside$House" 35 "SignedOutside" mX8_init 0 ∧ Cond.instanceMethod mX8_init.1 ∈ WALL := ⟨⟨List.mem_of_getElem? (i := 11) rfl, kw9, kw83, by decide +kernel⟩, kw82⟩
theorem lkIX1_45 : lkN "SignedOutside$House" 45 "SignedOutside" mX4_init 0 ∧ Cond.instanceMethod mX4_init.1 ∈ WALL := ⟨⟨List.mem_of_getElem? (i := 12) rfl, kw10, kw108, by decide +kernel⟩, kw107⟩
set_option maxHeartbeats 4000000 in
theorem c_X5_init (l : Launch) (G : va_G) (ct : Nat → ClassId) (sk sv : Nat → Nat) (h0 ci : Nat) : CtrG (l, G, ct, sk, sv) mX5_init 1 24 0 0 [.ref h0] (wl [[(h0, .inr (ci, []))]]) (fun r w => r = none ∧ w = wl [[(h0, .inr (ci, []))]]) := by
  refine ctr_intro (by decide) (Nat.le_of_ble_eq_true rfl) ?_
  intro p e s m args below meth c A C hP hD hS hA ls hl
  obtain ⟨hx, hb, hml, hown, hts, hr, hlocks, hK, hnm, hZ⟩ := C
  have hb : c.code = cX5_init := hb
  have hml : c.maxLocals = 1 := hml
  have hown : s.vm.findClass "SignedOutside$Plain" = some m.cls := hown
  have hr : meth.sig.returnType = none := hr
  have hP : va_P G classes (wl [[(h0, .inr (ci, []))]]) s.heap := hP
  have hD : va_D A (wl [[(h0, .inr (ci, []))]]) := hD
  have hK : va_K G classes (TYS ct) s := hK
  have hl : lv_has ls 1 [(0, .ref h0)] := hl
  refine lv_aload_n hx hb dX5_init_0 rfl (lv_at hl 0 rfl) ?_
  refine W.objInit hx hb hown (hts _ kw36) (hts _ kw28) (hts _ kw29) rfl (by rw [hml]; exact hl.1) rfl dX5_init_1 (Nat.le_of_ble_eq_true rfl) (Nat.le_of_ble_eq_true rfl) ?_
  refine W.eq (g2 := F0 m 4 ls []) rfl ?_
  exact end_v (w' := wl [[(h0, .inr (ci, []))]]) hx hb hr hlocks hK hP hD hS dX5_init_4 ⟨rfl, rfl⟩
theorem lkIX2_1 : lkN "SignedOutside$Lord" 1 "SignedOutside" mX5_init 0 ∧ Cond.instanceMethod mX5_init.1 ∈ WALL := ⟨⟨List.mem_of_getElem? (i := 2) rfl, kw2, kw35, by decide +kernel⟩, kw34⟩
set_option maxHeartbeats 4000000 in
theorem c_X2_init (l : Launch) (G : va_G) (ct : Nat → ClassId) (sk sv : Nat → Nat) (h0 ci : Nat) : CtrG (l, G, ct, sk, sv) mX2_init 2 44 0 0 [.ref h0] (wl [[(h0, .inr (ci, []))]]) (fun r w => r = none ∧ w = wl [[(h0, .inr (ci, []))]]) := by
  refine ctr_intro (by decide) (Nat.le_of_ble_eq_true rfl) ?_
  intro p e s m args below meth c A C hP hD hS hA ls hl
  obtain ⟨hx, hb, hml, hown, hts, hr, hlocks, hK, hnm, hZ⟩ := C
  have hb : c.code = cX2_init := hb
  have hml : c.maxLocals = 1 := hml
  have hown : s.vm.findClass "SignedOutside$Lord" = some m.cls := hown
  have hr : meth.sig.returnType = none := hr
  have hP : va_P G classes (wl [[(h0, .inr (ci, []))]]) s.heap := hP
  have hD : va_D A (wl [[(h0, .inr (ci, []))]]) := hD
  have hK : va_K G classes (TYS ct) s := hK
  have hl : lv_has ls 1 [(0, .ref h0)] := hl
  refine lv_aload_n hx hb dX2_init_0 rfl (lv_at hl 0 rfl) ?_
  refine call_IN (As := []) (rest := []) hx hb hml hown hts hK hP hD hS hA hZ lkIX2_1 rfl rfl (c_X5_init l G ct sk sv h0 ci) ⟨Nat.le_of_ble_eq_true rfl, Nat.le_of_ble_eq_true rfl⟩ rfl hl.1 rfl (Nat.le_of_ble_eq_true rfl) dX2_init_1 ⟨Nat.le_of_ble_eq_true rfl, Nat.le_of_ble_eq_true rfl⟩ (fun r9 w9 H locs hB hP hD hS => ?_)
  obtain ⟨rfl, rfl⟩ := hB
  refine W.eq (g2 := F0 m 4 ls []) rfl ?_
  refine W.widen (k := 0) (n := 0) (Nat.le_of_ble_eq_true rfl) (Nat.le_of_ble_eq_true rfl) ?_
  exact end_v (w' := wl [[(h0, .inr (ci, []))]]) hx hb hr hlocks hK hP hD hS dX2_init_4 ⟨rfl, rfl⟩
theorem lkIX7_1 : lkN "SignedOutside$Sick" 1 "SignedOutside" mX5_init 0 ∧ Cond.instanceMethod mX5_init.1 ∈ WALL := ⟨⟨List.mem_of_getElem? (i := 4) rfl, kw2, kw35, by decide +kernel⟩, kw34⟩
set_option maxHeartbeats 4000000 in
theorem c_X7_init (l : Launch) (G : va_G) (ct : Nat → ClassId) (sk sv : Nat → Nat) (h0 ci : Nat) : CtrG (l, G, ct, sk, sv) mX7_init 2 44 0 0 [.ref h0] (wl [[(h0, .inr (ci, []))]]) (fun r w => r = none ∧ w = wl [[(h0, .inr (ci, []))]]) := by
  refine ctr_intro (by decide) (Nat.le_of_ble_eq_true rfl) ?_
  intro p e s m args below meth c A C hP hD hS hA ls hl
  obtain ⟨hx, hb, hml, hown, hts, hr, hlocks, hK, hnm, hZ⟩ := C
  have hb : c.code = cX7_init := hb
  have hml : c.maxLocals = 1 := hml
  have hown : s.vm.findClass "SignedOutside$Sick" = some m.cls := hown
  have hr : meth.sig.returnType = none := hr
  have hP : va_P G classes (wl [[(h0, .inr (ci, []))]]) s.heap := hP
  have hD : va_D A (wl [[(h0, .inr (ci, []))]]) := hD
  have hK : va_K G classes (TYS ct) s := hK
  have hl : lv_has ls 1 [(0, .ref h0)] := hl
  refine lv_aload_n hx hb dX7_init_0 rfl (lv_at hl 0 rfl) ?_
  refine call_IN (As := []) (rest := []) hx hb hml hown hts hK hP hD hS hA hZ lkIX7_1 rfl rfl (c_X5_init l G ct sk sv h0 ci) ⟨Nat.le_of_ble_eq_true rfl, Nat.le_of_ble_eq_true rfl⟩ rfl hl.1 rfl (Nat.le_of_ble_eq_true rfl) dX7_init_1 ⟨Nat.le_of_ble_eq_true rfl, Nat.le_of_ble_eq_true rfl⟩ (fun r9 w9 H locs hB hP hD hS => ?_)
  obtain ⟨rfl, rfl⟩ := hB
  refine W.eq (g2 := F0 m 4 ls []) rfl ?_
  refine W.widen (k := 0) (n := 0) (Nat.le_of_ble_eq_true rfl) (Nat.le_of_ble_eq_true rfl) ?_
  exact end_v (w' := wl [[(h0, .inr (ci, []))]]) hx hb hr hlocks hK hP hD hS dX7_init_4 ⟨rfl, rfl⟩
theorem lkIX10_1 : lkN "SignedOutside$Travels" 1 "SignedOutside" mX5_init 0 ∧ Cond.instanceMethod mX5_init.1 ∈ WALL := ⟨⟨List.mem_of_getElem? (i := 6) rfl, kw2, kw35, by decide +kernel⟩, kw34⟩
set_option maxHeartbeats 4000000 in
theorem c_X10_init (l : Launch) (G : va_G) (ct : Nat → ClassId) (sk sv : Nat → Nat) (h0 ci : Nat) : CtrG (l, G, ct, sk, sv) mX10_init 2 44 0 0 [.ref h0] (wl [[(h0, .inr (ci, []))]]) (fun r w => r = none ∧ w = wl [[(h0, .inr (ci, []))]]) := by
  refine ctr_intro (by decide) (Nat.le_of_ble_eq_true rfl) ?_
  intro p e s m args below meth c A C hP hD hS hA ls hl
  obtain ⟨hx, hb, hml, hown, hts, hr, hlocks, hK, hnm, hZ⟩ := C
  have hb : c.code = cX10_init := hb
  have hml : c.maxLocals = 1 := hml
  have hown : s.vm.findClass "SignedOutside$Travels" = some m.cls := hown
  have hr : meth.sig.returnType = none := hr
  have hP : va_P G classes (wl [[(h0, .inr (ci, []))]]) s.heap := hP
  have hD : va_D A (wl [[(h0, .inr (ci, []))]]) := hD
  have hK : va_K G classes (TYS ct) s := hK
  have hl : lv_has ls 1 [(0, .ref h0)] := hl
  refine lv_aload_n hx hb dX10_init_0 rfl (lv_at hl 0 rfl) ?_
  refine call_IN (As := []) (rest := []) hx hb hml hown hts hK hP hD hS hA hZ lkIX10_1 rfl rfl (c_X5_init l G ct sk sv h0 ci) ⟨Nat.le_of_ble_eq_true rfl, Nat.le_of_ble_eq_true rfl⟩ rfl hl.1 rfl (Nat.le_of_ble_eq_true rfl) dX10_init_1 ⟨Nat.le_of_ble_eq_true rfl, Nat.le_of_ble_eq_true rfl⟩ (fun r9 w9 H locs hB hP hD hS => ?_)
  obtain ⟨rfl, rfl⟩ := hB
  refine W.eq (g2 := F0 m 4 ls []) rfl ?_
  refine W.widen (k := 0) (n := 0) (Nat.le_of_ble_eq_true rfl) (Nat.le_of_ble_eq_true rfl) ?_
  exact end_v (w' := wl [[(h0, .inr (ci, []))]]) hx hb hr hlocks hK hP hD hS dX10_init_4 ⟨rfl, rfl⟩
theorem lkIX0_1 : lkN "SignedOutside$Dead" 1 "SignedOutside" mX7_init 0 ∧ Cond.instanceMethod mX7_init.1 ∈ WALL := ⟨⟨List.mem_of_getElem? (i := 8) rfl, kw4, kw49, by decide +kernel⟩, kw48⟩
set_option maxHeartbeats 4000000 in
theorem c_X0_init (l : Launch) (G : va_G) (ct : Nat → ClassId) (sk sv : Nat → Nat) (h0 ci : Nat) : CtrG (l, G, ct, sk, sv) mX0_init 3 64 0 0 [.ref h0] (wl [[(h0, .inr (ci, []))]]) (fun r w => r = none ∧ w = wl [[(h0, .inr (ci, []))]]) := by
  refine ctr_intro (by decide) (Nat.le_of_ble_eq_true rfl) ?_
  intro p e s m args below meth c A C hP hD hS hA ls hl
  obtain ⟨hx, hb, hml, hown, hts, hr, hlocks, hK, hnm, hZ⟩ := C
  have hb : c.code = cX0_init := hb
  have hml : c.maxLocals = 1 := hml
  have hown : s.vm.findClass "SignedOutside$Dead" = some m.cls := hown
  have hr : meth.sig.returnType = none := hr
  have hP : va_P G classes (wl [[(h0, .inr (ci, []))]]) s.heap := hP
  have hD : va_D A (wl [[(h0, .inr (ci, []))]]) := hD
  have hK : va_K G classes (TYS ct) s := hK
  have hl : lv_has ls 1 [(0, .ref h0)] := hl
  refine lv_aload_n hx hb dX0_init_0 rfl (lv_at hl 0 rfl) ?_
  refine call_IN (As := []) (rest := []) hx hb hml hown hts hK hP hD hS hA hZ lkIX0_1 rfl rfl (c_X7_init l G ct sk sv h0 ci) ⟨Nat.le_of_ble_eq_true rfl, Nat.le_of_ble_eq_true rfl⟩ rfl hl.1 rfl (Nat.le_of_ble_eq_true rfl) dX0_init_1 ⟨Nat.le_of_ble_eq_true rfl, Nat.le_of_ble_eq_true rfl⟩ (fun r9 w9 H locs hB hP hD hS => ?_)
  obtain ⟨rfl, rfl⟩ := hB
  refine W.eq (g2 := F0 m 4 ls []) rfl ?_
  refine W.widen (k := 0) (n := 0) (Nat.le_of_ble_eq_true rfl) (Nat.le_of_ble_eq_true rfl) ?_
  exact end_v (w' := wl [[(h0, .inr (ci, []))]]) hx hb hr hlocks hK hP hD hS dX0_init_4 ⟨rfl, rfl⟩
theorem lkIX9_1 : lkN "SignedOutside$Steward" 1 "SignedOutside" mX2_init 0 ∧ Cond.instanceMethod mX2_init.1 ∈ WALL := ⟨⟨List.mem_of_getElem? (i := 10) rfl, kw3, kw42, by decide +kernel⟩, kw41⟩
set_option maxHeartbeats 4000000 in
theorem c_X9_init (l : Launch) (G : va_G) (ct : Nat → ClassId) (sk sv : Nat → Nat) (h0 ci : Nat) : CtrG (l, G, ct, sk, sv) mX9_init 3 64 0 0 [.ref h0] (wl [[(h0, .inr (ci, []))]]) (fun r w => r = none ∧ w = wl [[(h0, .inr (ci, []))]]) := by
  refine ctr_intro (by decide) (Nat.le_of_ble_eq_true rfl) ?_
  intro p e s m args below meth c A C hP hD hS hA ls hl
  obtain ⟨hx, hb, hml, hown, hts, hr, hlocks, hK, hnm, hZ⟩ := C
  have hb : c.code = cX9_init := hb
  have hml : c.maxLocals = 1 := hml
  have hown : s.vm.findClass "SignedOutside$Steward" = some m.cls := hown
  have hr : meth.sig.returnType = none := hr
  have hP : va_P G classes (wl [[(h0, .inr (ci, []))]]) s.heap := hP
  have hD : va_D A (wl [[(h0, .inr (ci, []))]]) := hD
  have hK : va_K G classes (TYS ct) s := hK
  have hl : lv_has ls 1 [(0, .ref h0)] := hl
  refine lv_aload_n hx hb dX9_init_0 rfl (lv_at hl 0 rfl) ?_
  refine call_IN (As := []) (rest := []) hx hb hml hown hts hK hP hD hS hA hZ lkIX9_1 rfl rfl (c_X2_init l G ct sk sv h0 ci) ⟨Nat.le_of_ble_eq_true rfl, Nat.le_of_ble_eq_true rfl⟩ rfl hl.1 rfl (Nat.le_of_ble_eq_true rfl) dX9_init_1 ⟨Nat.le_of_ble_eq_true rfl, Nat.le_of_ble_eq_true rfl⟩ (fun r9 w9 H locs hB hP hD hS => ?_)
  obtain ⟨rfl, rfl⟩ := hB
  refine W.eq (g2 := F0 m 4 ls []) rfl ?_
  refine W.widen (k := 0) (n := 0) (Nat.le_of_ble_eq_true rfl) (Nat.le_of_ble_eq_true rfl) ?_
  exact end_v (w' := wl [[(h0, .inr (ci, []))]]) hx hb hr hlocks hK hP hD hS dX9_init_4 ⟨rfl, rfl⟩
set_option maxHeartbeats 4000000 in
set_option maxRecDepth 100000 in
theorem c_X8_init (l : Launch) (G : va_G) (ct : Nat → ClassId) (sk sv : Nat → Nat) (h0 : Nat) : CtrG (l, G, ct, sk, sv) mX8_init 1 24 3 18 [.ref h0] (wl [[(h0, .inr (8, [.int 0, .null, .null, .null]))]]) (fun r w => r = none ∧ ∃ a : Nat → Nat, a 0 = h0 ∧ w = wl [lfS ct a z0]) := by
  refine ctr_intro (by decide) (Nat.le_of_ble_eq_true rfl) ?_
  intro p e s m args below meth c A C hP hD hS hA ls hl
  obtain ⟨hx, hb, hml, hown, hts, hr, hlocks, hK, hnm, hZ⟩ := C
  have hb : c.code = cX8_init := hb
  have hml : c.maxLocals = 1 := hml
  have hown : s.vm.findClass "SignedOutside$Slips" = some m.cls := hown
  have hr : meth.sig.returnType = none := hr
  have hnm : meth.name = "<init>" := hnm
  have hP : va_P G classes (wl [[(h0, .inr (8, [.int 0, .null, .null, .null]))]]) s.heap := hP
  have hD : va_D A (wl [[(h0, .inr (8, [.int 0, .null, .null, .null]))]]) := hD
  have hK : va_K G classes (TYS ct) s := hK
  have hl : lv_has ls 1 [(0, .ref h0)] := hl
  show W p l e (RM 1 24 3 18) s m args below meth c s.heap [] 0 0 (MQ below (POST (l, G, ct, sk, sv) A (fun r w => r = none ∧ ∃ a : Nat → Nat, a 0 = h0 ∧ w = wl [lfS ct a z0])) args s 3 18 A) (F0 m 0 ls [])
  refine lv_aload_n hx hb dX8_init_0 rfl (lv_at hl 0 rfl) ?_
  refine W.objInit hx hb hown (hts _ kw84) (hts _ kw28) (hts _ kw29) rfl (by rw [hml]; exact hl.1) rfl dX8_init_1 (Nat.le_of_ble_eq_true rfl) (Nat.le_of_ble_eq_true rfl) ?_
  refine W.eq (g2 := F0 m 4 ls []) rfl ?_
  refine lv_aload_n hx hb dX8_init_4 rfl (lv_at hl 0 rfl) ?_
  refine lv_bipush (v := 6) hx hb dX8_init_5 (by decide) ?_
  refine va_newa (ty := .int) (a0 := (6, .inl (fun _ => 0))) (N' := 6) hx hb (hts _ kw103) rfl hK hP hD hS hA (fun _ => rfl) (by decide) (by decide) (by decide) (Nat.le_of_ble_eq_true rfl) (Nat.le_of_ble_eq_true rfl) dX8_init_7 (fun q1 cA H hK2 hP hD hS => ?_)
  obtain rfl : ct 0 = cA := RA_inj (hK.2 0 _ rfl).2 (hK2.2 5 _ rfl).2 rfl
  have hP : va_P G classes (wl [[(h0, .inr (8, [.int 0, .null, .null, .null])), (q1, .inl (ct 0, 6, .inl (fun _ => 0)))]]) H := hP
  have hD : va_D A (wl [[(h0, .inr (8, [.int 0, .null, .null, .null])), (q1, .inl (ct 0, 6, .inl (fun _ => 0)))]]) := hD
  refine W.widen (k := 1) (n := 6) (Nat.le_of_ble_eq_true rfl) (Nat.le_of_ble_eq_true rfl) ?_
  refine va_putF (D := G) (C := RX8) (T := TX8) (N := 4) (ty := .array .int) hx hb hts iu_X8 tyX8 tyX8_ok nmX8 hown hK hP hD hS 0 rfl rfl 1 (by decide) (hts _ kw88) (fun _ h9 => h9) rfl hnm rfl (by decide +kernel) rfl rfl (Nat.le_of_ble_eq_true rfl) dX8_init_9 (fun H locs hP hD hS => ?_)
  have hP : va_P G classes (wl [[(h0, .inr (8, [.int 0, .ref q1, .null, .null])), (q1, .inl (ct 0, 6, .inl (fun _ => 0)))]]) H := hP
  have hD : va_D A (wl [[(h0, .inr (8, [.int 0, .ref q1, .null, .null])), (q1, .inl (ct 0, 6, .inl (fun _ => 0)))]]) := hD
  refine lv_aload_n hx hb dX8_init_12 rfl (lv_at hl 0 rfl) ?_
  refine lv_bipush (v := 6) hx hb dX8_init_13 (by decide) ?_
  refine va_newa (ty := .int) (a0 := (6, .inl (fun _ => 0))) (N' := 6) hx hb (hts _ kw103) rfl hK hP hD hS hA (fun _ => rfl) (by decide) (by decide) (by decide) (Nat.le_of_ble_eq_true rfl) (Nat.le_of_ble_eq_true rfl) dX8_init_15 (fun q2 cA H hK2 hP hD hS => ?_)
  obtain rfl : ct 0 = cA := RA_inj (hK.2 0 _ rfl).2 (hK2.2 5 _ rfl).2 rfl
  have hP : va_P G classes (wl [[(h0, .inr (8, [.int 0, .ref q1, .null, .null])), (q1, .inl (ct 0, 6, .inl (fun _ => 0))), (q2, .inl (ct 0, 6, .inl (fun _ => 0)))]]) H := hP
  have hD : va_D A (wl [[(h0, .inr (8, [.int 0, .ref q1, .null, .null])), (q1, .inl (ct 0, 6, .inl (fun _ => 0))), (q2, .inl (ct 0, 6, .inl (fun _ => 0)))]]) := hD
  refine W.widen (k := 2) (n := 12) (Nat.le_of_ble_eq_true rfl) (Nat.le_of_ble_eq_true rfl) ?_
  refine va_putF (D := G) (C := RX8) (T := TX8) (N := 4) (ty := .array .int) hx hb hts iu_X8 tyX8 tyX8_ok nmX8 hown hK hP hD hS 0 rfl rfl 2 (by decide) (hts _ kw90) (fun _ h9 => h9) rfl hnm rfl (by decide +kernel) rfl rfl (Nat.le_of_ble_eq_true rfl) dX8_init_17 (fun H locs hP hD hS => ?_)
  have hP : va_P G classes (wl [[(h0, .inr (8, [.int 0, .ref q1, .ref q2, .null])), (q1, .inl (ct 0, 6, .inl (fun _ => 0))), (q2, .inl (ct 0, 6, .inl (fun _ => 0)))]]) H := hP
  have hD : va_D A (wl [[(h0, .inr (8, [.int 0, .ref q1, .ref q2, .null])), (q1, .inl (ct 0, 6, .inl (fun _ => 0))), (q2, .inl (ct 0, 6, .inl (fun _ => 0)))]]) := hD
  refine lv_aload_n hx hb dX8_init_20 rfl (lv_at hl 0 rfl) ?_
  refine lv_bipush (v := 6) hx hb dX8_init_21 (by decide) ?_
  refine va_newa (ty := .int) (a0 := (6, .inl (fun _ => 0))) (N' := 6) hx hb (hts _ kw103) rfl hK hP hD hS hA (fun _ => rfl) (by decide) (by decide) (by decide) (Nat.le_of_ble_eq_true rfl) (Nat.le_of_ble_eq_true rfl) dX8_init_23 (fun q3 cA H hK2 hP hD hS => ?_)
  obtain rfl : ct 0 = cA := RA_inj (hK.2 0 _ rfl).2 (hK2.2 5 _ rfl).2 rfl
  have hP : va_P G classes (wl [[(h0, .inr (8, [.int 0, .ref q1, .ref q2, .null])), (q1, .inl (ct 0, 6, .inl (fun _ => 0))), (q2, .inl (ct 0, 6, .inl (fun _ => 0))), (q3, .inl (ct 0, 6, .inl (fun _ => 0)))]]) H := hP
  have hD : va_D A (wl [[(h0, .inr (8, [.int 0, .ref q1, .ref q2, .null])), (q1, .inl (ct 0, 6, .inl (fun _ => 0))), (q2, .inl (ct 0, 6, .inl (fun _ => 0))), (q3, .inl (ct 0, 6, .inl (fun _ => 0)))]]) := hD
  refine W.widen (k := 3) (n := 18) (Nat.le_of_ble_eq_true rfl) (Nat.le_of_ble_eq_true rfl) ?_
  refine va_putF (D := G) (C := RX8) (T := TX8) (N := 4) (ty := .array .int) hx hb hts iu_X8 tyX8 tyX8_ok nmX8 hown hK hP hD hS 0 rfl rfl 3 (by decide) (hts _ kw92) (fun _ h9 => h9) rfl hnm rfl (by decide +kernel) rfl rfl (Nat.le_of_ble_eq_true rfl) dX8_init_25 (fun H locs hP hD hS => ?_)
  have hP : va_P G classes (wl [[(h0, .inr (8, [.int 0, .ref q1, .ref q2, .ref q3])), (q1, .inl (ct 0, 6, .inl (fun _ => 0))), (q2, .inl (ct 0, 6, .inl (fun _ => 0))), (q3, .inl (ct 0, 6, .inl (fun _ => 0)))]]) H := hP
  have hD : va_D A (wl [[(h0, .inr (8, [.int 0, .ref q1, .ref q2, .ref q3])), (q1, .inl (ct 0, 6, .inl (fun _ => 0))), (q2, .inl (ct 0, 6, .inl (fun _ => 0))), (q3, .inl (ct 0, 6, .inl (fun _ => 0)))]]) := hD
  exact end_v (w' := (wl [lfS ct (adl [h0, q1, q2, q3]) z0])) hx hb hr hlocks hK hP hD hS dX8_init_28 ⟨rfl, (adl [h0, q1, q2, q3]), rfl, rfl⟩
set_option maxHeartbeats 4000000 in
set_option maxRecDepth 100000 in
theorem c_X4_init (l : Launch) (G : va_G) (ct : Nat → ClassId) (sk sv : Nat → Nat) (h0 : Nat) : CtrG (l, G, ct, sk, sv) mX4_init 1 24 1 152 [.ref h0] (wl [[(h0, .inr (4, [.null, .int 0, .int 0]))]]) (fun r w => r = none ∧ ∃ a : Nat → Nat, a 0 = h0 ∧ w = wl [lfP ct a z0]) := by
  refine ctr_intro (by decide) (Nat.le_of_ble_eq_true rfl) ?_
  intro p e s m args below meth c A C hP hD hS hA ls hl
  obtain ⟨hx, hb, hml, hown, hts, hr, hlocks, hK, hnm, hZ⟩ := C
  have hb : c.code = cX4_init := hb
  have hml : c.maxLocals = 1 := hml
  have hown : s.vm.findClass "SignedOutside$Past" = some m.cls := hown
  have hr : meth.sig.returnType = none := hr
  have hnm : meth.name = "<init>" := hnm
  have hP : va_P G classes (wl [[(h0, .inr (4, [.null, .int 0, .int 0]))]]) s.heap := hP
  have hD : va_D A (wl [[(h0, .inr (4, [.null, .int 0, .int 0]))]]) := hD
  have hK : va_K G classes (TYS ct) s := hK
  have hl : lv_has ls 1 [(0, .ref h0)] := hl
  show W p l e (RM 1 24 1 152) s m args below meth c s.heap [] 0 0 (MQ below (POST (l, G, ct, sk, sv) A (fun r w => r = none ∧ ∃ a : Nat → Nat, a 0 = h0 ∧ w = wl [lfP ct a z0])) args s 1 152 A) (F0 m 0 ls [])
  refine lv_aload_n hx hb dX4_init_0 rfl (lv_at hl 0 rfl) ?_
  refine W.objInit hx hb hown (hts _ kw109) (hts _ kw28) (hts _ kw29) rfl (by rw [hml]; exact hl.1) rfl dX4_init_1 (Nat.le_of_ble_eq_true rfl) (Nat.le_of_ble_eq_true rfl) ?_
  refine W.eq (g2 := F0 m 4 ls []) rfl ?_
  refine lv_aload_n hx hb dX4_init_4 rfl (lv_at hl 0 rfl) ?_
  refine lv_sipush (v := 152) hx hb dX4_init_5 (by decide) ?_
  refine va_newa (ty := .int) (a0 := (152, .inl (fun _ => 0))) (N' := 152) hx hb (hts _ kw103) rfl hK hP hD hS hA (fun _ => rfl) (by decide) (by decide) (by decide) (Nat.le_of_ble_eq_true rfl) (Nat.le_of_ble_eq_true rfl) dX4_init_8 (fun q1 cA H hK2 hP hD hS => ?_)
  obtain rfl : ct 0 = cA := RA_inj (hK.2 0 _ rfl).2 (hK2.2 5 _ rfl).2 rfl
  have hP : va_P G classes (wl [[(h0, .inr (4, [.null, .int 0, .int 0])), (q1, .inl (ct 0, 152, .inl (fun _ => 0)))]]) H := hP
  have hD : va_D A (wl [[(h0, .inr (4, [.null, .int 0, .int 0])), (q1, .inl (ct 0, 152, .inl (fun _ => 0)))]]) := hD
  refine W.widen (k := 1) (n := 152) (Nat.le_of_ble_eq_true rfl) (Nat.le_of_ble_eq_true rfl) ?_
  refine va_putF (D := G) (C := RX4) (T := TX4) (N := 3) (ty := .array .int) hx hb hts iu_X4 tyX4 tyX4_ok nmX4 hown hK hP hD hS 0 rfl rfl 0 (by decide) (hts _ kw110) (fun _ h9 => h9) rfl hnm rfl (by decide +kernel) rfl rfl (Nat.le_of_ble_eq_true rfl) dX4_init_10 (fun H locs hP hD hS => ?_)
  have hP : va_P G classes (wl [[(h0, .inr (4, [.ref q1, .int 0, .int 0])), (q1, .inl (ct 0, 152, .inl (fun _ => 0)))]]) H := hP
  have hD : va_D A (wl [[(h0, .inr (4, [.ref q1, .int 0, .int 0])), (q1, .inl (ct 0, 152, .inl (fun _ => 0)))]]) := hD
  exact end_v (w' := (wl [lfP ct (adl [h0, q1]) z0])) hx hb hr hlocks hK hP hD hS dX4_init_13 ⟨rfl, (adl [h0, q1]), rfl, rfl⟩
set_option maxHeartbeats 4000000 in
set_option maxRecDepth 100000 in
theorem c_X3_init (l : Launch) (G : va_G) (ct : Nat → ClassId) (sk sv : Nat → Nat) (h0 : Nat) : CtrG (l, G, ct, sk, sv) mX3_init 1 24 7 41 [.ref h0] (wl [[(h0, .inr (3, [.int 0, .null, .null, .null, .null, .null, .null, .null, .int 0]))]]) (fun r w => r = none ∧ ∃ a : Nat → Nat, a 0 = h0 ∧ w = wl [lfN ct a z0]) := by
  refine ctr_intro (by decide) (Nat.le_of_ble_eq_true rfl) ?_
  intro p e s m args below meth c A C hP hD hS hA ls hl
  obtain ⟨hx, hb, hml, hown, hts, hr, hlocks, hK, hnm, hZ⟩ := C
  have hb : c.code = cX3_init := hb
  have hml : c.maxLocals = 1 := hml
  have hown : s.vm.findClass "SignedOutside$Names" = some m.cls := hown
  have hr : meth.sig.returnType = none := hr
  have hnm : meth.name = "<init>" := hnm
  have hP : va_P G classes (wl [[(h0, .inr (3, [.int 0, .null, .null, .null, .null, .null, .null, .null, .int 0]))]]) s.heap := hP
  have hD : va_D A (wl [[(h0, .inr (3, [.int 0, .null, .null, .null, .null, .null, .null, .null, .int 0]))]]) := hD
  have hK : va_K G classes (TYS ct) s := hK
  have hl : lv_has ls 1 [(0, .ref h0)] := hl
  show W p l e (RM 1 24 7 41) s m args below meth c s.heap [] 0 0 (MQ below (POST (l, G, ct, sk, sv) A (fun r w => r = none ∧ ∃ a : Nat → Nat, a 0 = h0 ∧ w = wl [lfN ct a z0])) args s 7 41 A) (F0 m 0 ls [])
  refine lv_aload_n hx hb dX3_init_0 rfl (lv_at hl 0 rfl) ?_
  refine W.objInit hx hb hown (hts _ kw202) (hts _ kw28) (hts _ kw29) rfl (by rw [hml]; exact hl.1) rfl dX3_init_1 (Nat.le_of_ble_eq_true rfl) (Nat.le_of_ble_eq_true rfl) ?_
  refine W.eq (g2 := F0 m 4 ls []) rfl ?_
  refine lv_aload_n hx hb dX3_init_4 rfl (lv_at hl 0 rfl) ?_
  refine lv_bipush (v := 6) hx hb dX3_init_5 (by decide) ?_
  refine va_newa (ty := .int) (a0 := (6, .inl (fun _ => 0))) (N' := 6) hx hb (hts _ kw103) rfl hK hP hD hS hA (fun _ => rfl) (by decide) (by decide) (by decide) (Nat.le_of_ble_eq_true rfl) (Nat.le_of_ble_eq_true rfl) dX3_init_7 (fun q1 cA H hK2 hP hD hS => ?_)
  obtain rfl : ct 0 = cA := RA_inj (hK.2 0 _ rfl).2 (hK2.2 5 _ rfl).2 rfl
  have hP : va_P G classes (wl [[(h0, .inr (3, [.int 0, .null, .null, .null, .null, .null, .null, .null, .int 0])), (q1, .inl (ct 0, 6, .inl (fun _ => 0)))]]) H := hP
  have hD : va_D A (wl [[(h0, .inr (3, [.int 0, .null, .null, .null, .null, .null, .null, .null, .int 0])), (q1, .inl (ct 0, 6, .inl (fun _ => 0)))]]) := hD
  refine W.widen (k := 1) (n := 6) (Nat.le_of_ble_eq_true rfl) (Nat.le_of_ble_eq_true rfl) ?_
  refine va_putF (D := G) (C := RX3) (T := TX3) (N := 9) (ty := .array .int) hx hb hts iu_X3 tyX3 tyX3_ok nmX3 hown hK hP hD hS 0 rfl rfl 1 (by decide) (hts _ kw204) (fun _ h9 => h9) rfl hnm rfl (by decide +kernel) rfl rfl (Nat.le_of_ble_eq_true rfl) dX3_init_9 (fun H locs hP hD hS => ?_)
  have hP : va_P G classes (wl [[(h0, .inr (3, [.int 0, .ref q1, .null, .null, .null, .null, .null, .null, .int 0])), (q1, .inl (ct 0, 6, .inl (fun _ => 0)))]]) H := hP
  have hD : va_D A (wl [[(h0, .inr (3, [.int 0, .ref q1, .null, .null, .null, .null, .null, .null, .int 0])), (q1, .inl (ct 0, 6, .inl (fun _ => 0)))]]) := hD
  refine lv_aload_n hx hb dX3_init_12 rfl (lv_at hl 0 rfl) ?_
  refine lv_bipush (v := 6) hx hb dX3_init_13 (by decide) ?_
  refine va_newa (ty := .int) (a0 := (6, .inl (fun _ => 0))) (N' := 6) hx hb (hts _ kw103) rfl hK hP hD hS hA (fun _ => rfl) (by decide) (by decide) (by decide) (Nat.le_of_ble_eq_true rfl) (Nat.le_of_ble_eq_true rfl) dX3_init_15 (fun q2 cA H hK2 hP hD hS => ?_)
  obtain rfl : ct 0 = cA := RA_inj (hK.2 0 _ rfl).2 (hK2.2 5 _ rfl).2 rfl
  have hP : va_P G classes (wl [[(h0, .inr (3, [.int 0, .ref q1, .null, .null, .null, .null, .null, .null, .int 0])), (q1, .inl (ct 0, 6, .inl (fun _ => 0))), (q2, .inl (ct 0, 6, .inl (fun _ => 0)))]]) H := hP
  have hD : va_D A (wl [[(h0, .inr (3, [.int 0, .ref q1, .null, .null, .null, .null, .null, .null, .int 0])), (q1, .inl (ct 0, 6, .inl (fun _ => 0))), (q2, .inl (ct 0, 6, .inl (fun _ => 0)))]]) := hD
  refine W.widen (k := 2) (n := 12) (Nat.le_of_ble_eq_true rfl) (Nat.le_of_ble_eq_true rfl) ?_
  refine va_putF (D := G) (C := RX3) (T := TX3) (N := 9) (ty := .array .int) hx hb hts iu_X3 tyX3 tyX3_ok nmX3 hown hK hP hD hS 0 rfl rfl 2 (by decide) (hts _ kw205) (fun _ h9 => h9) rfl hnm rfl (by decide +kernel) rfl rfl (Nat.le_of_ble_eq_true rfl) dX3_init_17 (fun H locs hP hD hS => ?_)
  have hP : va_P G classes (wl [[(h0, .inr (3, [.int 0, .ref q1, .ref q2, .null, .null, .null, .null, .null, .int 0])), (q1, .inl (ct 0, 6, .inl (fun _ => 0))), (q2, .inl (ct 0, 6, .inl (fun _ => 0)))]]) H := hP
  have hD : va_D A (wl [[(h0, .inr (3, [.int 0, .ref q1, .ref q2, .null, .null, .null, .null, .null, .int 0])), (q1, .inl (ct 0, 6, .inl (fun _ => 0))), (q2, .inl (ct 0, 6, .inl (fun _ => 0)))]]) := hD
  refine lv_aload_n hx hb dX3_init_20 rfl (lv_at hl 0 rfl) ?_
  refine lv_bipush (v := 6) hx hb dX3_init_21 (by decide) ?_
  refine va_newa (ty := .boolean) (a0 := (6, .inl (fun _ => 0))) (N' := 6) hx hb (hts _ kw233) rfl hK hP hD hS hA (fun _ => rfl) (by decide) (by decide) (by decide) (Nat.le_of_ble_eq_true rfl) (Nat.le_of_ble_eq_true rfl) dX3_init_23 (fun q3 cA H hK2 hP hD hS => ?_)
  obtain rfl : ct 1 = cA := RA_inj (hK.2 1 _ rfl).2 (hK2.2 5 _ rfl).2 rfl
  have hP : va_P G classes (wl [[(h0, .inr (3, [.int 0, .ref q1, .ref q2, .null, .null, .null, .null, .null, .int 0])), (q1, .inl (ct 0, 6, .inl (fun _ => 0))), (q2, .inl (ct 0, 6, .inl (fun _ => 0))), (q3, .inl (ct 1, 6, .inl (fun _ => 0)))]]) H := hP
  have hD : va_D A (wl [[(h0, .inr (3, [.int 0, .ref q1, .ref q2, .null, .null, .null, .null, .null, .int 0])), (q1, .inl (ct 0, 6, .inl (fun _ => 0))), (q2, .inl (ct 0, 6, .inl (fun _ => 0))), (q3, .inl (ct 1, 6, .inl (fun _ => 0)))]]) := hD
  refine W.widen (k := 3) (n := 18) (Nat.le_of_ble_eq_true rfl) (Nat.le_of_ble_eq_true rfl) ?_
  refine va_putF (D := G) (C := RX3) (T := TX3) (N := 9) (ty := .array .boolean) hx hb hts iu_X3 tyX3 tyX3_ok nmX3 hown hK hP hD hS 0 rfl rfl 3 (by decide) (hts _ kw206) (fun _ h9 => h9) rfl hnm rfl (by decide +kernel) rfl rfl (Nat.le_of_ble_eq_true rfl) dX3_init_25 (fun H locs hP hD hS => ?_)
  have hP : va_P G classes (wl [[(h0, .inr (3, [.int 0, .ref q1, .ref q2, .ref q3, .null, .null, .null, .null, .int 0])), (q1, .inl (ct 0, 6, .inl (fun _ => 0))), (q2, .inl (ct 0, 6, .inl (fun _ => 0))), (q3, .inl (ct 1, 6, .inl (fun _ => 0)))]]) H := hP
  have hD : va_D A (wl [[(h0, .inr (3, [.int 0, .ref q1, .ref q2, .ref q3, .null, .null, .null, .null, .int 0])), (q1, .inl (ct 0, 6, .inl (fun _ => 0))), (q2, .inl (ct 0, 6, .inl (fun _ => 0))), (q3, .inl (ct 1, 6, .inl (fun _ => 0)))]]) := hD
  refine lv_aload_n hx hb dX3_init_28 rfl (lv_at hl 0 rfl) ?_
  refine lv_iconst (v := 5) hx hb dX3_init_29 (by decide) ?_
  refine va_newa (ty := .int) (a0 := (5, .inl (fun _ => 0))) (N' := 5) hx hb (hts _ kw103) rfl hK hP hD hS hA (fun _ => rfl) (by decide) (by decide) (by decide) (Nat.le_of_ble_eq_true rfl) (Nat.le_of_ble_eq_true rfl) dX3_init_30 (fun q4 cA H hK2 hP hD hS => ?_)
  obtain rfl : ct 0 = cA := RA_inj (hK.2 0 _ rfl).2 (hK2.2 5 _ rfl).2 rfl
  have hP : va_P G classes (wl [[(h0, .inr (3, [.int 0, .ref q1, .ref q2, .ref q3, .null, .null, .null, .null, .int 0])), (q1, .inl (ct 0, 6, .inl (fun _ => 0))), (q2, .inl (ct 0, 6, .inl (fun _ => 0))), (q3, .inl (ct 1, 6, .inl (fun _ => 0))), (q4, .inl (ct 0, 5, .inl (fun _ => 0)))]]) H := hP
  have hD : va_D A (wl [[(h0, .inr (3, [.int 0, .ref q1, .ref q2, .ref q3, .null, .null, .null, .null, .int 0])), (q1, .inl (ct 0, 6, .inl (fun _ => 0))), (q2, .inl (ct 0, 6, .inl (fun _ => 0))), (q3, .inl (ct 1, 6, .inl (fun _ => 0))), (q4, .inl (ct 0, 5, .inl (fun _ => 0)))]]) := hD
  refine W.widen (k := 4) (n := 23) (Nat.le_of_ble_eq_true rfl) (Nat.le_of_ble_eq_true rfl) ?_
  refine va_putF (D := G) (C := RX3) (T := TX3) (N := 9) (ty := .array .int) hx hb hts iu_X3 tyX3 tyX3_ok nmX3 hown hK hP hD hS 0 rfl rfl 4 (by decide) (hts _ kw207) (fun _ h9 => h9) rfl hnm rfl (by decide +kernel) rfl rfl (Nat.le_of_ble_eq_true rfl) dX3_init_32 (fun H locs hP hD hS => ?_)
  have hP : va_P G classes (wl [[(h0, .inr (3, [.int 0, .ref q1, .ref q2, .ref q3, .ref q4, .null, .null, .null, .int 0])), (q1, .inl (ct 0, 6, .inl (fun _ => 0))), (q2, .inl (ct 0, 6, .inl (fun _ => 0))), (q3, .inl (ct 1, 6, .inl (fun _ => 0))), (q4, .inl (ct 0, 5, .inl (fun _ => 0)))]]) H := hP
  have hD : va_D A (wl [[(h0, .inr (3, [.int 0, .ref q1, .ref q2, .ref q3, .ref q4, .null, .null, .null, .int 0])), (q1, .inl (ct 0, 6, .inl (fun _ => 0))), (q2, .inl (ct 0, 6, .inl (fun _ => 0))), (q3, .inl (ct 1, 6, .inl (fun _ => 0))), (q4, .inl (ct 0, 5, .inl (fun _ => 0)))]]) := hD
  refine lv_aload_n hx hb dX3_init_35 rfl (lv_at hl 0 rfl) ?_
  refine lv_bipush (v := 6) hx hb dX3_init_36 (by decide) ?_
  refine va_newa (ty := .int) (a0 := (6, .inl (fun _ => 0))) (N' := 6) hx hb (hts _ kw103) rfl hK hP hD hS hA (fun _ => rfl) (by decide) (by decide) (by decide) (Nat.le_of_ble_eq_true rfl) (Nat.le_of_ble_eq_true rfl) dX3_init_38 (fun q5 cA H hK2 hP hD hS => ?_)
  obtain rfl : ct 0 = cA := RA_inj (hK.2 0 _ rfl).2 (hK2.2 5 _ rfl).2 rfl
  have hP : va_P G classes (wl [[(h0, .inr (3, [.int 0, .ref q1, .ref q2, .ref q3, .ref q4, .null, .null, .null, .int 0])), (q1, .inl (ct 0, 6, .inl (fun _ => 0))), (q2, .inl (ct 0, 6, .inl (fun _ => 0))), (q3, .inl (ct 1, 6, .inl (fun _ => 0))), (q4, .inl (ct 0, 5, .inl (fun _ => 0))), (q5, .inl (ct 0, 6, .inl (fun _ => 0)))]]) H := hP
  have hD : va_D A (wl [[(h0, .inr (3, [.int 0, .ref q1, .ref q2, .ref q3, .ref q4, .null, .null, .null, .int 0])), (q1, .inl (ct 0, 6, .inl (fun _ => 0))), (q2, .inl (ct 0, 6, .inl (fun _ => 0))), (q3, .inl (ct 1, 6, .inl (fun _ => 0))), (q4, .inl (ct 0, 5, .inl (fun _ => 0))), (q5, .inl (ct 0, 6, .inl (fun _ => 0)))]]) := hD
  refine W.widen (k := 5) (n := 29) (Nat.le_of_ble_eq_true rfl) (Nat.le_of_ble_eq_true rfl) ?_
  refine va_putF (D := G) (C := RX3) (T := TX3) (N := 9) (ty := .array .int) hx hb hts iu_X3 tyX3 tyX3_ok nmX3 hown hK hP hD hS 0 rfl rfl 5 (by decide) (hts _ kw208) (fun _ h9 => h9) rfl hnm rfl (by decide +kernel) rfl rfl (Nat.le_of_ble_eq_true rfl) dX3_init_40 (fun H locs hP hD hS => ?_)
  have hP : va_P G classes (wl [[(h0, .inr (3, [.int 0, .ref q1, .ref q2, .ref q3, .ref q4, .ref q5, .null, .null, .int 0])), (q1, .inl (ct 0, 6, .inl (fun _ => 0))), (q2, .inl (ct 0, 6, .inl (fun _ => 0))), (q3, .inl (ct 1, 6, .inl (fun _ => 0))), (q4, .inl (ct 0, 5, .inl (fun _ => 0))), (q5, .inl (ct 0, 6, .inl (fun _ => 0)))]]) H := hP
  have hD : va_D A (wl [[(h0, .inr (3, [.int 0, .ref q1, .ref q2, .ref q3, .ref q4, .ref q5, .null, .null, .int 0])), (q1, .inl (ct 0, 6, .inl (fun _ => 0))), (q2, .inl (ct 0, 6, .inl (fun _ => 0))), (q3, .inl (ct 1, 6, .inl (fun _ => 0))), (q4, .inl (ct 0, 5, .inl (fun _ => 0))), (q5, .inl (ct 0, 6, .inl (fun _ => 0)))]]) := hD
  refine lv_aload_n hx hb dX3_init_43 rfl (lv_at hl 0 rfl) ?_
  refine lv_bipush (v := 6) hx hb dX3_init_44 (by decide) ?_
  refine va_newa (ty := .int) (a0 := (6, .inl (fun _ => 0))) (N' := 6) hx hb (hts _ kw103) rfl hK hP hD hS hA (fun _ => rfl) (by decide) (by decide) (by decide) (Nat.le_of_ble_eq_true rfl) (Nat.le_of_ble_eq_true rfl) dX3_init_46 (fun q6 cA H hK2 hP hD hS => ?_)
  obtain rfl : ct 0 = cA := RA_inj (hK.2 0 _ rfl).2 (hK2.2 5 _ rfl).2 rfl
  have hP : va_P G classes (wl [[(h0, .inr (3, [.int 0, .ref q1, .ref q2, .ref q3, .ref q4, .ref q5, .null, .null, .int 0])), (q1, .inl (ct 0, 6, .inl (fun _ => 0))), (q2, .inl (ct 0, 6, .inl (fun _ => 0))), (q3, .inl (ct 1, 6, .inl (fun _ => 0))), (q4, .inl (ct 0, 5, .inl (fun _ => 0))), (q5, .inl (ct 0, 6, .inl (fun _ => 0))), (q6, .inl (ct 0, 6, .inl (fun _ => 0)))]]) H := hP
  have hD : va_D A (wl [[(h0, .inr (3, [.int 0, .ref q1, .ref q2, .ref q3, .ref q4, .ref q5, .null, .null, .int 0])), (q1, .inl (ct 0, 6, .inl (fun _ => 0))), (q2, .inl (ct 0, 6, .inl (fun _ => 0))), (q3, .inl (ct 1, 6, .inl (fun _ => 0))), (q4, .inl (ct 0, 5, .inl (fun _ => 0))), (q5, .inl (ct 0, 6, .inl (fun _ => 0))), (q6, .inl (ct 0, 6, .inl (fun _ => 0)))]]) := hD
  refine W.widen (k := 6) (n := 35) (Nat.le_of_ble_eq_true rfl) (Nat.le_of_ble_eq_true rfl) ?_
  refine va_putF (D := G) (C := RX3) (T := TX3) (N := 9) (ty := .array .int) hx hb hts iu_X3 tyX3 tyX3_ok nmX3 hown hK hP hD hS 0 rfl rfl 6 (by decide) (hts _ kw209) (fun _ h9 => h9) rfl hnm rfl (by decide +kernel) rfl rfl (Nat.le_of_ble_eq_true rfl) dX3_init_48 (fun H locs hP hD hS => ?_)
  have hP : va_P G classes (wl [[(h0, .inr (3, [.int 0, .ref q1, .ref q2, .ref q3, .ref q4, .ref q5, .ref q6, .null, .int 0])), (q1, .inl (ct 0, 6, .inl (fun _ => 0))), (q2, .inl (ct 0, 6, .inl (fun _ => 0))), (q3, .inl (ct 1, 6, .inl (fun _ => 0))), (q4, .inl (ct 0, 5, .inl (fun _ => 0))), (q5, .inl (ct 0, 6, .inl (fun _ => 0))), (q6, .inl (ct 0, 6, .inl (fun _ => 0)))]]) H := hP
  have hD : va_D A (wl [[(h0, .inr (3, [.int 0, .ref q1, .ref q2, .ref q3, .ref q4, .ref q5, .ref q6, .null, .int 0])), (q1, .inl (ct 0, 6, .inl (fun _ => 0))), (q2, .inl (ct 0, 6, .inl (fun _ => 0))), (q3, .inl (ct 1, 6, .inl (fun _ => 0))), (q4, .inl (ct 0, 5, .inl (fun _ => 0))), (q5, .inl (ct 0, 6, .inl (fun _ => 0))), (q6, .inl (ct 0, 6, .inl (fun _ => 0)))]]) := hD
  refine lv_aload_n hx hb dX3_init_51 rfl (lv_at hl 0 rfl) ?_
  refine lv_bipush (v := 6) hx hb dX3_init_52 (by decide) ?_
  refine va_newa (ty := .int) (a0 := (6, .inl (fun _ => 0))) (N' := 6) hx hb (hts _ kw103) rfl hK hP hD hS hA (fun _ => rfl) (by decide) (by decide) (by decide) (Nat.le_of_ble_eq_true rfl) (Nat.le_of_ble_eq_true rfl) dX3_init_54 (fun q7 cA H hK2 hP hD hS => ?_)
  obtain rfl : ct 0 = cA := RA_inj (hK.2 0 _ rfl).2 (hK2.2 5 _ rfl).2 rfl
  have hP : va_P G classes (wl [[(h0, .inr (3, [.int 0, .ref q1, .ref q2, .ref q3, .ref q4, .ref q5, .ref q6, .null, .int 0])), (q1, .inl (ct 0, 6, .inl (fun _ => 0))), (q2, .inl (ct 0, 6, .inl (fun _ => 0))), (q3, .inl (ct 1, 6, .inl (fun _ => 0))), (q4, .inl (ct 0, 5, .inl (fun _ => 0))), (q5, .inl (ct 0, 6, .inl (fun _ => 0))), (q6, .inl (ct 0, 6, .inl (fun _ => 0))), (q7, .inl (ct 0, 6, .inl (fun _ => 0)))]]) H := hP
  have hD : va_D A (wl [[(h0, .inr (3, [.int 0, .ref q1, .ref q2, .ref q3, .ref q4, .ref q5, .ref q6, .null, .int 0])), (q1, .inl (ct 0, 6, .inl (fun _ => 0))), (q2, .inl (ct 0, 6, .inl (fun _ => 0))), (q3, .inl (ct 1, 6, .inl (fun _ => 0))), (q4, .inl (ct 0, 5, .inl (fun _ => 0))), (q5, .inl (ct 0, 6, .inl (fun _ => 0))), (q6, .inl (ct 0, 6, .inl (fun _ => 0))), (q7, .inl (ct 0, 6, .inl (fun _ => 0)))]]) := hD
  refine W.widen (k := 7) (n := 41) (Nat.le_of_ble_eq_true rfl) (Nat.le_of_ble_eq_true rfl) ?_
  refine va_putF (D := G) (C := RX3) (T := TX3) (N := 9) (ty := .array .int) hx hb hts iu_X3 tyX3 tyX3_ok nmX3 hown hK hP hD hS 0 rfl rfl 7 (by decide) (hts _ kw211) (fun _ h9 => h9) rfl hnm rfl (by decide +kernel) rfl rfl (Nat.le_of_ble_eq_true rfl) dX3_init_56 (fun H locs hP hD hS => ?_)
  have hP : va_P G classes (wl [[(h0, .inr (3, [.int 0, .ref q1, .ref q2, .ref q3, .ref q4, .ref q5, .ref q6, .ref q7, .int 0])), (q1, .inl (ct 0, 6, .inl (fun _ => 0))), (q2, .inl (ct 0, 6, .inl (fun _ => 0))), (q3, .inl (ct 1, 6, .inl (fun _ => 0))), (q4, .inl (ct 0, 5, .inl (fun _ => 0))), (q5, .inl (ct 0, 6, .inl (fun _ => 0))), (q6, .inl (ct 0, 6, .inl (fun _ => 0))), (q7, .inl (ct 0, 6, .inl (fun _ => 0)))]]) H := hP
  have hD : va_D A (wl [[(h0, .inr (3, [.int 0, .ref q1, .ref q2, .ref q3, .ref q4, .ref q5, .ref q6, .ref q7, .int 0])), (q1, .inl (ct 0, 6, .inl (fun _ => 0))), (q2, .inl (ct 0, 6, .inl (fun _ => 0))), (q3, .inl (ct 1, 6, .inl (fun _ => 0))), (q4, .inl (ct 0, 5, .inl (fun _ => 0))), (q5, .inl (ct 0, 6, .inl (fun _ => 0))), (q6, .inl (ct 0, 6, .inl (fun _ => 0))), (q7, .inl (ct 0, 6, .inl (fun _ => 0)))]]) := hD
  exact end_v (w' := (wl [lfN ct (adl [h0, q1, q2, q3, q4, q5, q6, q7]) z0])) hx hb hr hlocks hK hP hD hS dX3_init_59 ⟨rfl, (adl [h0, q1, q2, q3, q4, q5, q6, q7]), rfl, rfl⟩
set_option maxHeartbeats 4000000 in
set_option maxRecDepth 100000 in
theorem c_X6_init (l : Launch) (G : va_G) (ct : Nat → ClassId) (sk sv : Nat → Nat) (h0 : Nat) : CtrG (l, G, ct, sk, sv) mX6_init 1 24 1 150 [.ref h0] (wl [[(h0, .inr (6, [.null, .int 0, .int 0, .int 0, .int 0, .int 0]))]]) (fun r w => r = none ∧ ∃ a : Nat → Nat, a 0 = h0 ∧ w = wl [lfR ct a z0]) := by
  refine ctr_intro (by decide) (Nat.le_of_ble_eq_true rfl) ?_
  intro p e s m args below meth c A C hP hD hS hA ls hl
  obtain ⟨hx, hb, hml, hown, hts, hr, hlocks, hK, hnm, hZ⟩ := C
  have hb : c.code = cX6_init := hb
  have hml : c.maxLocals = 1 := hml
  have hown : s.vm.findClass "SignedOutside$Reader" = some m.cls := hown
  have hr : meth.sig.returnType = none := hr
  have hnm : meth.name = "<init>" := hnm
  have hP : va_P G classes (wl [[(h0, .inr (6, [.null, .int 0, .int 0, .int 0, .int 0, .int 0]))]]) s.heap := hP
  have hD : va_D A (wl [[(h0, .inr (6, [.null, .int 0, .int 0, .int 0, .int 0, .int 0]))]]) := hD
  have hK : va_K G classes (TYS ct) s := hK
  have hl : lv_has ls 1 [(0, .ref h0)] := hl
  show W p l e (RM 1 24 1 150) s m args below meth c s.heap [] 0 0 (MQ below (POST (l, G, ct, sk, sv) A (fun r w => r = none ∧ ∃ a : Nat → Nat, a 0 = h0 ∧ w = wl [lfR ct a z0])) args s 1 150 A) (F0 m 0 ls [])
  refine lv_aload_n hx hb dX6_init_0 rfl (lv_at hl 0 rfl) ?_
  refine W.objInit hx hb hown (hts _ kw239) (hts _ kw28) (hts _ kw29) rfl (by rw [hml]; exact hl.1) rfl dX6_init_1 (Nat.le_of_ble_eq_true rfl) (Nat.le_of_ble_eq_true rfl) ?_
  refine W.eq (g2 := F0 m 4 ls []) rfl ?_
  refine lv_aload_n hx hb dX6_init_4 rfl (lv_at hl 0 rfl) ?_
  refine lv_sipush (v := 150) hx hb dX6_init_5 (by decide) ?_
  refine va_newa (ty := .byte) (a0 := (150, .inl (fun _ => 0))) (N' := 150) hx hb (hts _ kw261) rfl hK hP hD hS hA (fun _ => rfl) (by decide) (by decide) (by decide) (Nat.le_of_ble_eq_true rfl) (Nat.le_of_ble_eq_true rfl) dX6_init_8 (fun q1 cA H hK2 hP hD hS => ?_)
  obtain rfl : ct 2 = cA := RA_inj (hK.2 2 _ rfl).2 (hK2.2 5 _ rfl).2 rfl
  have hP : va_P G classes (wl [[(h0, .inr (6, [.null, .int 0, .int 0, .int 0, .int 0, .int 0])), (q1, .inl (ct 2, 150, .inl (fun _ => 0)))]]) H := hP
  have hD : va_D A (wl [[(h0, .inr (6, [.null, .int 0, .int 0, .int 0, .int 0, .int 0])), (q1, .inl (ct 2, 150, .inl (fun _ => 0)))]]) := hD
  refine W.widen (k := 1) (n := 150) (Nat.le_of_ble_eq_true rfl) (Nat.le_of_ble_eq_true rfl) ?_
  refine va_putF (D := G) (C := RX6) (T := TX6) (N := 6) (ty := .array .byte) hx hb hts iu_X6 tyX6 tyX6_ok nmX6 hown hK hP hD hS 0 rfl rfl 0 (by decide) (hts _ kw240) (fun _ h9 => h9) rfl hnm rfl (by decide +kernel) rfl rfl (Nat.le_of_ble_eq_true rfl) dX6_init_10 (fun H locs hP hD hS => ?_)
  have hP : va_P G classes (wl [[(h0, .inr (6, [.ref q1, .int 0, .int 0, .int 0, .int 0, .int 0])), (q1, .inl (ct 2, 150, .inl (fun _ => 0)))]]) H := hP
  have hD : va_D A (wl [[(h0, .inr (6, [.ref q1, .int 0, .int 0, .int 0, .int 0, .int 0])), (q1, .inl (ct 2, 150, .inl (fun _ => 0)))]]) := hD
  exact end_v (w' := (wl [lfR ct (adl [h0, q1]) z0])) hx hb hr hlocks hK hP hD hS dX6_init_13 ⟨rfl, (adl [h0, q1]), rfl, rfl⟩
set_option maxHeartbeats 4000000 in
set_option maxRecDepth 100000 in
theorem c_X1_init (l : Launch) (G : va_G) (ct : Nat → ClassId) (sk sv : Nat → Nat) (h0 : Nat) (k : Nat → Nat) : CtrG (l, G, ct, sk, sv) mX1_init 2 44 17 238 [.ref h0, .ref (k 0)] (wl [[(h0, .inr (1, [.null, .int 0, .null, .null, .null, .int 0, .null, .null, .null, .null, .int 0, .int 0, .int 0, .null, .null, .null]))]]) (fun r w => r = none ∧ ∃ a : Nat → Nat, a 0 = h0 ∧ w = wl [lfH ct a k z0, lfS ct (fun j => a (12 + j)) z0, lfS ct (fun j => a (8 + j)) z0, lfP ct (fun j => a (16 + j)) z0]) := by
  refine ctr_intro (by decide) (Nat.le_of_ble_eq_true rfl) ?_
  intro p e s m args below meth c A C hP hD hS hA ls hl
  obtain ⟨hx, hb, hml, hown, hts, hr, hlocks, hK, hnm, hZ⟩ := C
  have hb : c.code = cX1_init := hb
  have hml : c.maxLocals = 2 := hml
  have hown : s.vm.findClass "SignedOutside$House" = some m.cls := hown
  have hr : meth.sig.returnType = none := hr
  have hnm : meth.name = "<init>" := hnm
  have hP : va_P G classes (wl [[(h0, .inr (1, [.null, .int 0, .null, .null, .null, .int 0, .null, .null, .null, .null, .int 0, .int 0, .int 0, .null, .null, .null]))]]) s.heap := hP
  have hD : va_D A (wl [[(h0, .inr (1, [.null, .int 0, .null, .null, .null, .int 0, .null, .null, .null, .null, .int 0, .int 0, .int 0, .null, .null, .null]))]]) := hD
  have hK : va_K G classes (TYS ct) s := hK
  have hl : lv_has ls 2 [(0, .ref h0), (1, .ref (k 0))] := hl
  show W p l e (RM 2 44 17 238) s m args below meth c s.heap [] 0 0 (MQ below (POST (l, G, ct, sk, sv) A (fun r w => r = none ∧ ∃ a : Nat → Nat, a 0 = h0 ∧ w = wl [lfH ct a k z0, lfS ct (fun j => a (12 + j)) z0, lfS ct (fun j => a (8 + j)) z0, lfP ct (fun j => a (16 + j)) z0])) args s 17 238 A) (F0 m 0 ls [])
  refine lv_aload_n hx hb dX1_init_0 rfl (lv_at hl 0 rfl) ?_
  refine W.objInit hx hb hown (hts _ kw78) (hts _ kw28) (hts _ kw29) rfl (by rw [hml]; exact hl.1) rfl dX1_init_1 (Nat.le_of_ble_eq_true rfl) (Nat.le_of_ble_eq_true rfl) ?_
  refine W.eq (g2 := F0 m 4 ls []) rfl ?_
  refine lv_aload_n hx hb dX1_init_4 rfl (lv_at hl 0 rfl) ?_
  refine lv_iconst (v := 5) hx hb dX1_init_5 (by decide) ?_
  refine va_newa (ty := .int) (a0 := (5, .inl (fun _ => 0))) (N' := 5) hx hb (hts _ kw103) rfl hK hP hD hS hA (fun _ => rfl) (by decide) (by decide) (by decide) (Nat.le_of_ble_eq_true rfl) (Nat.le_of_ble_eq_true rfl) dX1_init_6 (fun q1 cA H hK2 hP hD hS => ?_)
  obtain rfl : ct 0 = cA := RA_inj (hK.2 0 _ rfl).2 (hK2.2 5 _ rfl).2 rfl
  have hP : va_P G classes (wl [[(h0, .inr (1, [.null, .int 0, .null, .null, .null, .int 0, .null, .null, .null, .null, .int 0, .int 0, .int 0, .null, .null, .null])), (q1, .inl (ct 0, 5, .inl (fun _ => 0)))]]) H := hP
  have hD : va_D A (wl [[(h0, .inr (1, [.null, .int 0, .null, .null, .null, .int 0, .null, .null, .null, .null, .int 0, .int 0, .int 0, .null, .null, .null])), (q1, .inl (ct 0, 5, .inl (fun _ => 0)))]]) := hD
  refine W.widen (k := 1) (n := 5) (Nat.le_of_ble_eq_true rfl) (Nat.le_of_ble_eq_true rfl) ?_
  refine va_putF (D := G) (C := RX1) (T := TX1) (N := 16) (ty := .array .int) hx hb hts iu_X1 tyX1 tyX1_ok nmX1 hown hK hP hD hS 0 rfl rfl 2 (by decide) (hts _ kw127) (fun _ h9 => h9) rfl hnm rfl (by decide +kernel) rfl rfl (Nat.le_of_ble_eq_true rfl) dX1_init_8 (fun H locs hP hD hS => ?_)
  have hP : va_P G classes (wl [[(h0, .inr (1, [.null, .int 0, .ref q1, .null, .null, .int 0, .null, .null, .null, .null, .int 0, .int 0, .int 0, .null, .null, .null])), (q1, .inl (ct 0, 5, .inl (fun _ => 0)))]]) H := hP
  have hD : va_D A (wl [[(h0, .inr (1, [.null, .int 0, .ref q1, .null, .null, .int 0, .null, .null, .null, .null, .int 0, .int 0, .int 0, .null, .null, .null])), (q1, .inl (ct 0, 5, .inl (fun _ => 0)))]]) := hD
  refine lv_aload_n hx hb dX1_init_11 rfl (lv_at hl 0 rfl) ?_
  refine lv_iconst (v := 5) hx hb dX1_init_12 (by decide) ?_
  refine va_newa (ty := .int) (a0 := (5, .inl (fun _ => 0))) (N' := 5) hx hb (hts _ kw103) rfl hK hP hD hS hA (fun _ => rfl) (by decide) (by decide) (by decide) (Nat.le_of_ble_eq_true rfl) (Nat.le_of_ble_eq_true rfl) dX1_init_13 (fun q2 cA H hK2 hP hD hS => ?_)
  obtain rfl : ct 0 = cA := RA_inj (hK.2 0 _ rfl).2 (hK2.2 5 _ rfl).2 rfl
  have hP : va_P G classes (wl [[(h0, .inr (1, [.null, .int 0, .ref q1, .null, .null, .int 0, .null, .null, .null, .null, .int 0, .int 0, .int 0, .null, .null, .null])), (q1, .inl (ct 0, 5, .inl (fun _ => 0))), (q2, .inl (ct 0, 5, .inl (fun _ => 0)))]]) H := hP
  have hD : va_D A (wl [[(h0, .inr (1, [.null, .int 0, .ref q1, .null, .null, .int 0, .null, .null, .null, .null, .int 0, .int 0, .int 0, .null, .null, .null])), (q1, .inl (ct 0, 5, .inl (fun _ => 0))), (q2, .inl (ct 0, 5, .inl (fun _ => 0)))]]) := hD
  refine W.widen (k := 2) (n := 10) (Nat.le_of_ble_eq_true rfl) (Nat.le_of_ble_eq_true rfl) ?_
  refine va_putF (D := G) (C := RX1) (T := TX1) (N := 16) (ty := .array .int) hx hb hts iu_X1 tyX1 tyX1_ok nmX1 hown hK hP hD hS 0 rfl rfl 3 (by decide) (hts _ kw129) (fun _ h9 => h9) rfl hnm rfl (by decide +kernel) rfl rfl (Nat.le_of_ble_eq_true rfl) dX1_init_15 (fun H locs hP hD hS => ?_)
  have hP : va_P G classes (wl [[(h0, .inr (1, [.null, .int 0, .ref q1, .ref q2, .null, .int 0, .null, .null, .null, .null, .int 0, .int 0, .int 0, .null, .null, .null])), (q1, .inl (ct 0, 5, .inl (fun _ => 0))), (q2, .inl (ct 0, 5, .inl (fun _ => 0)))]]) H := hP
  have hD : va_D A (wl [[(h0, .inr (1, [.null, .int 0, .ref q1, .ref q2, .null, .int 0, .null, .null, .null, .null, .int 0, .int 0, .int 0, .null, .null, .null])), (q1, .inl (ct 0, 5, .inl (fun _ => 0))), (q2, .inl (ct 0, 5, .inl (fun _ => 0)))]]) := hD
  refine lv_aload_n hx hb dX1_init_18 rfl (lv_at hl 0 rfl) ?_
  refine lv_iconst (v := 5) hx hb dX1_init_19 (by decide) ?_
  refine va_newa (ty := .int) (a0 := (5, .inl (fun _ => 0))) (N' := 5) hx hb (hts _ kw103) rfl hK hP hD hS hA (fun _ => rfl) (by decide) (by decide) (by decide) (Nat.le_of_ble_eq_true rfl) (Nat.le_of_ble_eq_true rfl) dX1_init_20 (fun q3 cA H hK2 hP hD hS => ?_)
  obtain rfl : ct 0 = cA := RA_inj (hK.2 0 _ rfl).2 (hK2.2 5 _ rfl).2 rfl
  have hP : va_P G classes (wl [[(h0, .inr (1, [.null, .int 0, .ref q1, .ref q2, .null, .int 0, .null, .null, .null, .null, .int 0, .int 0, .int 0, .null, .null, .null])), (q1, .inl (ct 0, 5, .inl (fun _ => 0))), (q2, .inl (ct 0, 5, .inl (fun _ => 0))), (q3, .inl (ct 0, 5, .inl (fun _ => 0)))]]) H := hP
  have hD : va_D A (wl [[(h0, .inr (1, [.null, .int 0, .ref q1, .ref q2, .null, .int 0, .null, .null, .null, .null, .int 0, .int 0, .int 0, .null, .null, .null])), (q1, .inl (ct 0, 5, .inl (fun _ => 0))), (q2, .inl (ct 0, 5, .inl (fun _ => 0))), (q3, .inl (ct 0, 5, .inl (fun _ => 0)))]]) := hD
  refine W.widen (k := 3) (n := 15) (Nat.le_of_ble_eq_true rfl) (Nat.le_of_ble_eq_true rfl) ?_
  refine va_putF (D := G) (C := RX1) (T := TX1) (N := 16) (ty := .array .int) hx hb hts iu_X1 tyX1 tyX1_ok nmX1 hown hK hP hD hS 0 rfl rfl 4 (by decide) (hts _ kw132) (fun _ h9 => h9) rfl hnm rfl (by decide +kernel) rfl rfl (Nat.le_of_ble_eq_true rfl) dX1_init_22 (fun H locs hP hD hS => ?_)
  have hP : va_P G classes (wl [[(h0, .inr (1, [.null, .int 0, .ref q1, .ref q2, .ref q3, .int 0, .null, .null, .null, .null, .int 0, .int 0, .int 0, .null, .null, .null])), (q1, .inl (ct 0, 5, .inl (fun _ => 0))), (q2, .inl (ct 0, 5, .inl (fun _ => 0))), (q3, .inl (ct 0, 5, .inl (fun _ => 0)))]]) H := hP
  have hD : va_D A (wl [[(h0, .inr (1, [.null, .int 0, .ref q1, .ref q2, .ref q3, .int 0, .null, .null, .null, .null, .int 0, .int 0, .int 0, .null, .null, .null])), (q1, .inl (ct 0, 5, .inl (fun _ => 0))), (q2, .inl (ct 0, 5, .inl (fun _ => 0))), (q3, .inl (ct 0, 5, .inl (fun _ => 0)))]]) := hD
  refine lv_aload_n hx hb dX1_init_25 rfl (lv_at hl 0 rfl) ?_
  refine lv_bipush (v := 6) hx hb dX1_init_26 (by decide) ?_
  refine va_newa (ty := .int) (a0 := (6, .inl (fun _ => 0))) (N' := 6) hx hb (hts _ kw103) rfl hK hP hD hS hA (fun _ => rfl) (by decide) (by decide) (by decide) (Nat.le_of_ble_eq_true rfl) (Nat.le_of_ble_eq_true rfl) dX1_init_28 (fun q4 cA H hK2 hP hD hS => ?_)
  obtain rfl : ct 0 = cA := RA_inj (hK.2 0 _ rfl).2 (hK2.2 5 _ rfl).2 rfl
  have hP : va_P G classes (wl [[(h0, .inr (1, [.null, .int 0, .ref q1, .ref q2, .ref q3, .int 0, .null, .null, .null, .null, .int 0, .int 0, .int 0, .null, .null, .null])), (q1, .inl (ct 0, 5, .inl (fun _ => 0))), (q2, .inl (ct 0, 5, .inl (fun _ => 0))), (q3, .inl (ct 0, 5, .inl (fun _ => 0))), (q4, .inl (ct 0, 6, .inl (fun _ => 0)))]]) H := hP
  have hD : va_D A (wl [[(h0, .inr (1, [.null, .int 0, .ref q1, .ref q2, .ref q3, .int 0, .null, .null, .null, .null, .int 0, .int 0, .int 0, .null, .null, .null])), (q1, .inl (ct 0, 5, .inl (fun _ => 0))), (q2, .inl (ct 0, 5, .inl (fun _ => 0))), (q3, .inl (ct 0, 5, .inl (fun _ => 0))), (q4, .inl (ct 0, 6, .inl (fun _ => 0)))]]) := hD
  refine W.widen (k := 4) (n := 21) (Nat.le_of_ble_eq_true rfl) (Nat.le_of_ble_eq_true rfl) ?_
  refine va_putF (D := G) (C := RX1) (T := TX1) (N := 16) (ty := .array .int) hx hb hts iu_X1 tyX1 tyX1_ok nmX1 hown hK hP hD hS 0 rfl rfl 6 (by decide) (hts _ kw139) (fun _ h9 => h9) rfl hnm rfl (by decide +kernel) rfl rfl (Nat.le_of_ble_eq_true rfl) dX1_init_30 (fun H locs hP hD hS => ?_)
  have hP : va_P G classes (wl [[(h0, .inr (1, [.null, .int 0, .ref q1, .ref q2, .ref q3, .int 0, .ref q4, .null, .null, .null, .int 0, .int 0, .int 0, .null, .null, .null])), (q1, .inl (ct 0, 5, .inl (fun _ => 0))), (q2, .inl (ct 0, 5, .inl (fun _ => 0))), (q3, .inl (ct 0, 5, .inl (fun _ => 0))), (q4, .inl (ct 0, 6, .inl (fun _ => 0)))]]) H := hP
  have hD : va_D A (wl [[(h0, .inr (1, [.null, .int 0, .ref q1, .ref q2, .ref q3, .int 0, .ref q4, .null, .null, .null, .int 0, .int 0, .int 0, .null, .null, .null])), (q1, .inl (ct 0, 5, .inl (fun _ => 0))), (q2, .inl (ct 0, 5, .inl (fun _ => 0))), (q3, .inl (ct 0, 5, .inl (fun _ => 0))), (q4, .inl (ct 0, 6, .inl (fun _ => 0)))]]) := hD
  refine lv_aload_n hx hb dX1_init_33 rfl (lv_at hl 0 rfl) ?_
  refine lv_bipush (v := 6) hx hb dX1_init_34 (by decide) ?_
  refine va_newa (ty := .int) (a0 := (6, .inl (fun _ => 0))) (N' := 6) hx hb (hts _ kw103) rfl hK hP hD hS hA (fun _ => rfl) (by decide) (by decide) (by decide) (Nat.le_of_ble_eq_true rfl) (Nat.le_of_ble_eq_true rfl) dX1_init_36 (fun q5 cA H hK2 hP hD hS => ?_)
  obtain rfl : ct 0 = cA := RA_inj (hK.2 0 _ rfl).2 (hK2.2 5 _ rfl).2 rfl
  have hP : va_P G classes (wl [[(h0, .inr (1, [.null, .int 0, .ref q1, .ref q2, .ref q3, .int 0, .ref q4, .null, .null, .null, .int 0, .int 0, .int 0, .null, .null, .null])), (q1, .inl (ct 0, 5, .inl (fun _ => 0))), (q2, .inl (ct 0, 5, .inl (fun _ => 0))), (q3, .inl (ct 0, 5, .inl (fun _ => 0))), (q4, .inl (ct 0, 6, .inl (fun _ => 0))), (q5, .inl (ct 0, 6, .inl (fun _ => 0)))]]) H := hP
  have hD : va_D A (wl [[(h0, .inr (1, [.null, .int 0, .ref q1, .ref q2, .ref q3, .int 0, .ref q4, .null, .null, .null, .int 0, .int 0, .int 0, .null, .null, .null])), (q1, .inl (ct 0, 5, .inl (fun _ => 0))), (q2, .inl (ct 0, 5, .inl (fun _ => 0))), (q3, .inl (ct 0, 5, .inl (fun _ => 0))), (q4, .inl (ct 0, 6, .inl (fun _ => 0))), (q5, .inl (ct 0, 6, .inl (fun _ => 0)))]]) := hD
  refine W.widen (k := 5) (n := 27) (Nat.le_of_ble_eq_true rfl) (Nat.le_of_ble_eq_true rfl) ?_
  refine va_putF (D := G) (C := RX1) (T := TX1) (N := 16) (ty := .array .int) hx hb hts iu_X1 tyX1 tyX1_ok nmX1 hown hK hP hD hS 0 rfl rfl 7 (by decide) (hts _ kw141) (fun _ h9 => h9) rfl hnm rfl (by decide +kernel) rfl rfl (Nat.le_of_ble_eq_true rfl) dX1_init_38 (fun H locs hP hD hS => ?_)
  have hP : va_P G classes (wl [[(h0, .inr (1, [.null, .int 0, .ref q1, .ref q2, .ref q3, .int 0, .ref q4, .ref q5, .null, .null, .int 0, .int 0, .int 0, .null, .null, .null])), (q1, .inl (ct 0, 5, .inl (fun _ => 0))), (q2, .inl (ct 0, 5, .inl (fun _ => 0))), (q3, .inl (ct 0, 5, .inl (fun _ => 0))), (q4, .inl (ct 0, 6, .inl (fun _ => 0))), (q5, .inl (ct 0, 6, .inl (fun _ => 0)))]]) H := hP
  have hD : va_D A (wl [[(h0, .inr (1, [.null, .int 0, .ref q1, .ref q2, .ref q3, .int 0, .ref q4, .ref q5, .null, .null, .int 0, .int 0, .int 0, .null, .null, .null])), (q1, .inl (ct 0, 5, .inl (fun _ => 0))), (q2, .inl (ct 0, 5, .inl (fun _ => 0))), (q3, .inl (ct 0, 5, .inl (fun _ => 0))), (q4, .inl (ct 0, 6, .inl (fun _ => 0))), (q5, .inl (ct 0, 6, .inl (fun _ => 0)))]]) := hD
  refine lv_aload_n hx hb dX1_init_41 rfl (lv_at hl 0 rfl) ?_
  refine lv_bipush (v := 6) hx hb dX1_init_42 (by decide) ?_
  refine va_newa (ty := .int) (a0 := (6, .inl (fun _ => 0))) (N' := 6) hx hb (hts _ kw103) rfl hK hP hD hS hA (fun _ => rfl) (by decide) (by decide) (by decide) (Nat.le_of_ble_eq_true rfl) (Nat.le_of_ble_eq_true rfl) dX1_init_44 (fun q6 cA H hK2 hP hD hS => ?_)
  obtain rfl : ct 0 = cA := RA_inj (hK.2 0 _ rfl).2 (hK2.2 5 _ rfl).2 rfl
  have hP : va_P G classes (wl [[(h0, .inr (1, [.null, .int 0, .ref q1, .ref q2, .ref q3, .int 0, .ref q4, .ref q5, .null, .null, .int 0, .int 0, .int 0, .null, .null, .null])), (q1, .inl (ct 0, 5, .inl (fun _ => 0))), (q2, .inl (ct 0, 5, .inl (fun _ => 0))), (q3, .inl (ct 0, 5, .inl (fun _ => 0))), (q4, .inl (ct 0, 6, .inl (fun _ => 0))), (q5, .inl (ct 0, 6, .inl (fun _ => 0))), (q6, .inl (ct 0, 6, .inl (fun _ => 0)))]]) H := hP
  have hD : va_D A (wl [[(h0, .inr (1, [.null, .int 0, .ref q1, .ref q2, .ref q3, .int 0, .ref q4, .ref q5, .null, .null, .int 0, .int 0, .int 0, .null, .null, .null])), (q1, .inl (ct 0, 5, .inl (fun _ => 0))), (q2, .inl (ct 0, 5, .inl (fun _ => 0))), (q3, .inl (ct 0, 5, .inl (fun _ => 0))), (q4, .inl (ct 0, 6, .inl (fun _ => 0))), (q5, .inl (ct 0, 6, .inl (fun _ => 0))), (q6, .inl (ct 0, 6, .inl (fun _ => 0)))]]) := hD
  refine W.widen (k := 6) (n := 33) (Nat.le_of_ble_eq_true rfl) (Nat.le_of_ble_eq_true rfl) ?_
  refine va_putF (D := G) (C := RX1) (T := TX1) (N := 16) (ty := .array .int) hx hb hts iu_X1 tyX1 tyX1_ok nmX1 hown hK hP hD hS 0 rfl rfl 8 (by decide) (hts _ kw143) (fun _ h9 => h9) rfl hnm rfl (by decide +kernel) rfl rfl (Nat.le_of_ble_eq_true rfl) dX1_init_46 (fun H locs hP hD hS => ?_)
  have hP : va_P G classes (wl [[(h0, .inr (1, [.null, .int 0, .ref q1, .ref q2, .ref q3, .int 0, .ref q4, .ref q5, .ref q6, .null, .int 0, .int 0, .int 0, .null, .null, .null])), (q1, .inl (ct 0, 5, .inl (fun _ => 0))), (q2, .inl (ct 0, 5, .inl (fun _ => 0))), (q3, .inl (ct 0, 5, .inl (fun _ => 0))), (q4, .inl (ct 0, 6, .inl (fun _ => 0))), (q5, .inl (ct 0, 6, .inl (fun _ => 0))), (q6, .inl (ct 0, 6, .inl (fun _ => 0)))]]) H := hP
  have hD : va_D A (wl [[(h0, .inr (1, [.null, .int 0, .ref q1, .ref q2, .ref q3, .int 0, .ref q4, .ref q5, .ref q6, .null, .int 0, .int 0, .int 0, .null, .null, .null])), (q1, .inl (ct 0, 5, .inl (fun _ => 0))), (q2, .inl (ct 0, 5, .inl (fun _ => 0))), (q3, .inl (ct 0, 5, .inl (fun _ => 0))), (q4, .inl (ct 0, 6, .inl (fun _ => 0))), (q5, .inl (ct 0, 6, .inl (fun _ => 0))), (q6, .inl (ct 0, 6, .inl (fun _ => 0)))]]) := hD
  refine lv_aload_n hx hb dX1_init_49 rfl (lv_at hl 0 rfl) ?_
  refine lv_bipush (v := 6) hx hb dX1_init_50 (by decide) ?_
  refine va_newa (ty := .int) (a0 := (6, .inl (fun _ => 0))) (N' := 6) hx hb (hts _ kw103) rfl hK hP hD hS hA (fun _ => rfl) (by decide) (by decide) (by decide) (Nat.le_of_ble_eq_true rfl) (Nat.le_of_ble_eq_true rfl) dX1_init_52 (fun q7 cA H hK2 hP hD hS => ?_)
  obtain rfl : ct 0 = cA := RA_inj (hK.2 0 _ rfl).2 (hK2.2 5 _ rfl).2 rfl
  have hP : va_P G classes (wl [[(h0, .inr (1, [.null, .int 0, .ref q1, .ref q2, .ref q3, .int 0, .ref q4, .ref q5, .ref q6, .null, .int 0, .int 0, .int 0, .null, .null, .null])), (q1, .inl (ct 0, 5, .inl (fun _ => 0))), (q2, .inl (ct 0, 5, .inl (fun _ => 0))), (q3, .inl (ct 0, 5, .inl (fun _ => 0))), (q4, .inl (ct 0, 6, .inl (fun _ => 0))), (q5, .inl (ct 0, 6, .inl (fun _ => 0))), (q6, .inl (ct 0, 6, .inl (fun _ => 0))), (q7, .inl (ct 0, 6, .inl (fun _ => 0)))]]) H := hP
  have hD : va_D A (wl [[(h0, .inr (1, [.null, .int 0, .ref q1, .ref q2, .ref q3, .int 0, .ref q4, .ref q5, .ref q6, .null, .int 0, .int 0, .int 0, .null, .null, .null])), (q1, .inl (ct 0, 5, .inl (fun _ => 0))), (q2, .inl (ct 0, 5, .inl (fun _ => 0))), (q3, .inl (ct 0, 5, .inl (fun _ => 0))), (q4, .inl (ct 0, 6, .inl (fun _ => 0))), (q5, .inl (ct 0, 6, .inl (fun _ => 0))), (q6, .inl (ct 0, 6, .inl (fun _ => 0))), (q7, .inl (ct 0, 6, .inl (fun _ => 0)))]]) := hD
  refine W.widen (k := 7) (n := 39) (Nat.le_of_ble_eq_true rfl) (Nat.le_of_ble_eq_true rfl) ?_
  refine va_putF (D := G) (C := RX1) (T := TX1) (N := 16) (ty := .array .int) hx hb hts iu_X1 tyX1 tyX1_ok nmX1 hown hK hP hD hS 0 rfl rfl 9 (by decide) (hts _ kw145) (fun _ h9 => h9) rfl hnm rfl (by decide +kernel) rfl rfl (Nat.le_of_ble_eq_true rfl) dX1_init_54 (fun H locs hP hD hS => ?_)
  have hP : va_P G classes (wl [[(h0, .inr (1, [.null, .int 0, .ref q1, .ref q2, .ref q3, .int 0, .ref q4, .ref q5, .ref q6, .ref q7, .int 0, .int 0, .int 0, .null, .null, .null])), (q1, .inl (ct 0, 5, .inl (fun _ => 0))), (q2, .inl (ct 0, 5, .inl (fun _ => 0))), (q3, .inl (ct 0, 5, .inl (fun _ => 0))), (q4, .inl (ct 0, 6, .inl (fun _ => 0))), (q5, .inl (ct 0, 6, .inl (fun _ => 0))), (q6, .inl (ct 0, 6, .inl (fun _ => 0))), (q7, .inl (ct 0, 6, .inl (fun _ => 0)))]]) H := hP
  have hD : va_D A (wl [[(h0, .inr (1, [.null, .int 0, .ref q1, .ref q2, .ref q3, .int 0, .ref q4, .ref q5, .ref q6, .ref q7, .int 0, .int 0, .int 0, .null, .null, .null])), (q1, .inl (ct 0, 5, .inl (fun _ => 0))), (q2, .inl (ct 0, 5, .inl (fun _ => 0))), (q3, .inl (ct 0, 5, .inl (fun _ => 0))), (q4, .inl (ct 0, 6, .inl (fun _ => 0))), (q5, .inl (ct 0, 6, .inl (fun _ => 0))), (q6, .inl (ct 0, 6, .inl (fun _ => 0))), (q7, .inl (ct 0, 6, .inl (fun _ => 0)))]]) := hD
  refine lv_aload_n hx hb dX1_init_57 rfl (lv_at hl 0 rfl) ?_
  refine va_new (ci := 8) (fs := [.int 0, .null, .null, .null]) (C := RX8) (T := TX8) (N := 4) hx hb hts iu_X8 tyX8 tyX8_ok hown (hts _ kw79) (hts _ kw80) (hts _ kw9) hK hP hD hS hA rfl (fun j hj => by rcases (show j = 0 ∨ j = 1 ∨ j = 2 ∨ j = 3 by omega) with rfl | rfl | rfl | rfl <;> rfl) (Nat.le_of_ble_eq_true rfl) (Nat.le_of_ble_eq_true rfl) dX1_init_58 (fun q8 H hP hD hS => ?_)
  have hP : va_P G classes (wl [[(h0, .inr (1, [.null, .int 0, .ref q1, .ref q2, .ref q3, .int 0, .ref q4, .ref q5, .ref q6, .ref q7, .int 0, .int 0, .int 0, .null, .null, .null])), (q1, .inl (ct 0, 5, .inl (fun _ => 0))), (q2, .inl (ct 0, 5, .inl (fun _ => 0))), (q3, .inl (ct 0, 5, .inl (fun _ => 0))), (q4, .inl (ct 0, 6, .inl (fun _ => 0))), (q5, .inl (ct 0, 6, .inl (fun _ => 0))), (q6, .inl (ct 0, 6, .inl (fun _ => 0))), (q7, .inl (ct 0, 6, .inl (fun _ => 0)))], [(q8, .inr (8, [.int 0, .null, .null, .null]))]]) H := hP
  have hD : va_D A (wl [[(h0, .inr (1, [.null, .int 0, .ref q1, .ref q2, .ref q3, .int 0, .ref q4, .ref q5, .ref q6, .ref q7, .int 0, .int 0, .int 0, .null, .null, .null])), (q1, .inl (ct 0, 5, .inl (fun _ => 0))), (q2, .inl (ct 0, 5, .inl (fun _ => 0))), (q3, .inl (ct 0, 5, .inl (fun _ => 0))), (q4, .inl (ct 0, 6, .inl (fun _ => 0))), (q5, .inl (ct 0, 6, .inl (fun _ => 0))), (q6, .inl (ct 0, 6, .inl (fun _ => 0))), (q7, .inl (ct 0, 6, .inl (fun _ => 0)))], [(q8, .inr (8, [.int 0, .null, .null, .null]))]]) := hD
  refine W.widen (k := 8) (n := 43) (Nat.le_of_ble_eq_true rfl) (Nat.le_of_ble_eq_true rfl) ?_
  refine lv_dup hx hb dX1_init_61 rfl ?_
  refine call_IN (As := []) (rest := [.ref q8, .ref h0]) hx hb hml hown hts hK hP hD hS hA hZ lkIX1_35 rfl rfl (CtrG.upL (c_X8_init l G ct sk sv q8) [[(h0, .inr (1, [.null, .int 0, .ref q1, .ref q2, .ref q3, .int 0, .ref q4, .ref q5, .ref q6, .ref q7, .int 0, .int 0, .int 0, .null, .null, .null])), (q1, .inl (ct 0, 5, .inl (fun _ => 0))), (q2, .inl (ct 0, 5, .inl (fun _ => 0))), (q3, .inl (ct 0, 5, .inl (fun _ => 0))), (q4, .inl (ct 0, 6, .inl (fun _ => 0))), (q5, .inl (ct 0, 6, .inl (fun _ => 0))), (q6, .inl (ct 0, 6, .inl (fun _ => 0))), (q7, .inl (ct 0, 6, .inl (fun _ => 0)))]] [[(h0, .inr (1, [.null, .int 0, .ref q1, .ref q2, .ref q3, .int 0, .ref q4, .ref q5, .ref q6, .ref q7, .int 0, .int 0, .int 0, .null, .null, .null])), (q1, .inl (ct 0, 5, .inl (fun _ => 0))), (q2, .inl (ct 0, 5, .inl (fun _ => 0))), (q3, .inl (ct 0, 5, .inl (fun _ => 0))), (q4, .inl (ct 0, 6, .inl (fun _ => 0))), (q5, .inl (ct 0, 6, .inl (fun _ => 0))), (q6, .inl (ct 0, 6, .inl (fun _ => 0))), (q7, .inl (ct 0, 6, .inl (fun _ => 0)))], [(q8, .inr (8, [.int 0, .null, .null, .null]))]] [1, 0] 2 (by decide) rfl rfl) ⟨Nat.le_of_ble_eq_true rfl, Nat.le_of_ble_eq_true rfl⟩ rfl hl.1 rfl (Nat.le_of_ble_eq_true rfl) dX1_init_62 ⟨Nat.le_of_ble_eq_true rfl, Nat.le_of_ble_eq_true rfl⟩ (fun r9 w9 H locs hB hP hD hS => ?_)
  obtain ⟨w8, ⟨rfl, ad9, rfl, rfl⟩, rfl⟩ := hB
  have hpm : (wl [[(h0, .inr (1, [.null, .int 0, .ref q1, .ref q2, .ref q3, .int 0, .ref q4, .ref q5, .ref q6, .ref q7, .int 0, .int 0, .int 0, .null, .null, .null])), (q1, .inl (ct 0, 5, .inl (fun _ => 0))), (q2, .inl (ct 0, 5, .inl (fun _ => 0))), (q3, .inl (ct 0, 5, .inl (fun _ => 0))), (q4, .inl (ct 0, 6, .inl (fun _ => 0))), (q5, .inl (ct 0, 6, .inl (fun _ => 0))), (q6, .inl (ct 0, 6, .inl (fun _ => 0))), (q7, .inl (ct 0, 6, .inl (fun _ => 0)))], lfS ct ad9 z0]).Perm (wl [lfS ct ad9 z0, [(h0, .inr (1, [.null, .int 0, .ref q1, .ref q2, .ref q3, .int 0, .ref q4, .ref q5, .ref q6, .ref q7, .int 0, .int 0, .int 0, .null, .null, .null])), (q1, .inl (ct 0, 5, .inl (fun _ => 0))), (q2, .inl (ct 0, 5, .inl (fun _ => 0))), (q3, .inl (ct 0, 5, .inl (fun _ => 0))), (q4, .inl (ct 0, 6, .inl (fun _ => 0))), (q5, .inl (ct 0, 6, .inl (fun _ => 0))), (q6, .inl (ct 0, 6, .inl (fun _ => 0))), (q7, .inl (ct 0, 6, .inl (fun _ => 0)))]]) := (perm_ix (d := []) _ [1, 0] (by decide) rfl).flatten
  have hP : va_P G classes (wl [[(h0, .inr (1, [.null, .int 0, .ref q1, .ref q2, .ref q3, .int 0, .ref q4, .ref q5, .ref q6, .ref q7, .int 0, .int 0, .int 0, .null, .null, .null])), (q1, .inl (ct 0, 5, .inl (fun _ => 0))), (q2, .inl (ct 0, 5, .inl (fun _ => 0))), (q3, .inl (ct 0, 5, .inl (fun _ => 0))), (q4, .inl (ct 0, 6, .inl (fun _ => 0))), (q5, .inl (ct 0, 6, .inl (fun _ => 0))), (q6, .inl (ct 0, 6, .inl (fun _ => 0))), (q7, .inl (ct 0, 6, .inl (fun _ => 0)))], lfS ct ad9 z0]) H := P_perm hP hpm.symm
  have hD : va_D A (wl [[(h0, .inr (1, [.null, .int 0, .ref q1, .ref q2, .ref q3, .int 0, .ref q4, .ref q5, .ref q6, .ref q7, .int 0, .int 0, .int 0, .null, .null, .null])), (q1, .inl (ct 0, 5, .inl (fun _ => 0))), (q2, .inl (ct 0, 5, .inl (fun _ => 0))), (q3, .inl (ct 0, 5, .inl (fun _ => 0))), (q4, .inl (ct 0, 6, .inl (fun _ => 0))), (q5, .inl (ct 0, 6, .inl (fun _ => 0))), (q6, .inl (ct 0, 6, .inl (fun _ => 0))), (q7, .inl (ct 0, 6, .inl (fun _ => 0)))], lfS ct ad9 z0]) := D_perm hD hpm.symm
  refine W.widen (k := 11) (n := 61) (Nat.le_of_ble_eq_true rfl) (Nat.le_of_ble_eq_true rfl) ?_
  refine W.eq (g2 := F0 m 65 ls [.ref (ad9 0), .ref h0]) rfl ?_
  refine va_putF (D := G) (C := RX1) (T := TX1) (N := 16) (ty := .object "SignedOutside$Slips") hx hb hts iu_X1 tyX1 tyX1_ok nmX1 hown hK hP hD hS 0 rfl rfl 13 (by decide) (hts _ kw157) (fun _ h9 => h9) rfl hnm rfl (by decide +kernel) rfl rfl (Nat.le_of_ble_eq_true rfl) dX1_init_65 (fun H locs hP hD hS => ?_)
  have hP : va_P G classes (wl [[(h0, .inr (1, [.null, .int 0, .ref q1, .ref q2, .ref q3, .int 0, .ref q4, .ref q5, .ref q6, .ref q7, .int 0, .int 0, .int 0, .ref (ad9 0), .null, .null])), (q1, .inl (ct 0, 5, .inl (fun _ => 0))), (q2, .inl (ct 0, 5, .inl (fun _ => 0))), (q3, .inl (ct 0, 5, .inl (fun _ => 0))), (q4, .inl (ct 0, 6, .inl (fun _ => 0))), (q5, .inl (ct 0, 6, .inl (fun _ => 0))), (q6, .inl (ct 0, 6, .inl (fun _ => 0))), (q7, .inl (ct 0, 6, .inl (fun _ => 0)))], lfS ct ad9 z0]) H := hP
  have hD : va_D A (wl [[(h0, .inr (1, [.null, .int 0, .ref q1, .ref q2, .ref q3, .int 0, .ref q4, .ref q5, .ref q6, .ref q7, .int 0, .int 0, .int 0, .ref (ad9 0), .null, .null])), (q1, .inl (ct 0, 5, .inl (fun _ => 0))), (q2, .inl (ct 0, 5, .inl (fun _ => 0))), (q3, .inl (ct 0, 5, .inl (fun _ => 0))), (q4, .inl (ct 0, 6, .inl (fun _ => 0))), (q5, .inl (ct 0, 6, .inl (fun _ => 0))), (q6, .inl (ct 0, 6, .inl (fun _ => 0))), (q7, .inl (ct 0, 6, .inl (fun _ => 0)))], lfS ct ad9 z0]) := hD
  refine lv_aload_n hx hb dX1_init_68 rfl (lv_at hl 0 rfl) ?_
  refine va_new (ci := 8) (fs := [.int 0, .null, .null, .null]) (C := RX8) (T := TX8) (N := 4) hx hb hts iu_X8 tyX8 tyX8_ok hown (hts _ kw79) (hts _ kw80) (hts _ kw9) hK hP hD hS hA rfl (fun j hj => by rcases (show j = 0 ∨ j = 1 ∨ j = 2 ∨ j = 3 by omega) with rfl | rfl | rfl | rfl <;> rfl) (Nat.le_of_ble_eq_true rfl) (Nat.le_of_ble_eq_true rfl) dX1_init_69 (fun q10 H hP hD hS => ?_)
  have hP : va_P G classes (wl [[(h0, .inr (1, [.null, .int 0, .ref q1, .ref q2, .ref q3, .int 0, .ref q4, .ref q5, .ref q6, .ref q7, .int 0, .int 0, .int 0, .ref (ad9 0), .null, .null])), (q1, .inl (ct 0, 5, .inl (fun _ => 0))), (q2, .inl (ct 0, 5, .inl (fun _ => 0))), (q3, .inl (ct 0, 5, .inl (fun _ => 0))), (q4, .inl (ct 0, 6, .inl (fun _ => 0))), (q5, .inl (ct 0, 6, .inl (fun _ => 0))), (q6, .inl (ct 0, 6, .inl (fun _ => 0))), (q7, .inl (ct 0, 6, .inl (fun _ => 0)))], lfS ct ad9 z0, [(q10, .inr (8, [.int 0, .null, .null, .null]))]]) H := hP
  have hD : va_D A (wl [[(h0, .inr (1, [.null, .int 0, .ref q1, .ref q2, .ref q3, .int 0, .ref q4, .ref q5, .ref q6, .ref q7, .int 0, .int 0, .int 0, .ref (ad9 0), .null, .null])), (q1, .inl (ct 0, 5, .inl (fun _ => 0))), (q2, .inl (ct 0, 5, .inl (fun _ => 0))), (q3, .inl (ct 0, 5, .inl (fun _ => 0))), (q4, .inl (ct 0, 6, .inl (fun _ => 0))), (q5, .inl (ct 0, 6, .inl (fun _ => 0))), (q6, .inl (ct 0, 6, .inl (fun _ => 0))), (q7, .inl (ct 0, 6, .inl (fun _ => 0)))], lfS ct ad9 z0, [(q10, .inr (8, [.int 0, .null, .null, .null]))]]) := hD
  refine W.widen (k := 12) (n := 65) (Nat.le_of_ble_eq_true rfl) (Nat.le_of_ble_eq_true rfl) ?_
  refine lv_dup hx hb dX1_init_72 rfl ?_
  refine call_IN (As := []) (rest := [.ref q10, .ref h0]) hx hb hml hown hts hK hP hD hS hA hZ lkIX1_35 rfl rfl (CtrG.upL (c_X8_init l G ct sk sv q10) [[(h0, .inr (1, [.null, .int 0, .ref q1, .ref q2, .ref q3, .int 0, .ref q4, .ref q5, .ref q6, .ref q7, .int 0, .int 0, .int 0, .ref (ad9 0), .null, .null])), (q1, .inl (ct 0, 5, .inl (fun _ => 0))), (q2, .inl (ct 0, 5, .inl (fun _ => 0))), (q3, .inl (ct 0, 5, .inl (fun _ => 0))), (q4, .inl (ct 0, 6, .inl (fun _ => 0))), (q5, .inl (ct 0, 6, .inl (fun _ => 0))), (q6, .inl (ct 0, 6, .inl (fun _ => 0))), (q7, .inl (ct 0, 6, .inl (fun _ => 0)))], lfS ct ad9 z0] [[(h0, .inr (1, [.null, .int 0, .ref q1, .ref q2, .ref q3, .int 0, .ref q4, .ref q5, .ref q6, .ref q7, .int 0, .int 0, .int 0, .ref (ad9 0), .null, .null])), (q1, .inl (ct 0, 5, .inl (fun _ => 0))), (q2, .inl (ct 0, 5, .inl (fun _ => 0))), (q3, .inl (ct 0, 5, .inl (fun _ => 0))), (q4, .inl (ct 0, 6, .inl (fun _ => 0))), (q5, .inl (ct 0, 6, .inl (fun _ => 0))), (q6, .inl (ct 0, 6, .inl (fun _ => 0))), (q7, .inl (ct 0, 6, .inl (fun _ => 0)))], lfS ct ad9 z0, [(q10, .inr (8, [.int 0, .null, .null, .null]))]] [2, 0, 1] 3 (by decide) rfl rfl) ⟨Nat.le_of_ble_eq_true rfl, Nat.le_of_ble_eq_true rfl⟩ rfl hl.1 rfl (Nat.le_of_ble_eq_true rfl) dX1_init_73 ⟨Nat.le_of_ble_eq_true rfl, Nat.le_of_ble_eq_true rfl⟩ (fun r9 w9 H locs hB hP hD hS => ?_)
  obtain ⟨w8, ⟨rfl, ad11, rfl, rfl⟩, rfl⟩ := hB
  have hpm : (wl [[(h0, .inr (1, [.null, .int 0, .ref q1, .ref q2, .ref q3, .int 0, .ref q4, .ref q5, .ref q6, .ref q7, .int 0, .int 0, .int 0, .ref (ad9 0), .null, .null])), (q1, .inl (ct 0, 5, .inl (fun _ => 0))), (q2, .inl (ct 0, 5, .inl (fun _ => 0))), (q3, .inl (ct 0, 5, .inl (fun _ => 0))), (q4, .inl (ct 0, 6, .inl (fun _ => 0))), (q5, .inl (ct 0, 6, .inl (fun _ => 0))), (q6, .inl (ct 0, 6, .inl (fun _ => 0))), (q7, .inl (ct 0, 6, .inl (fun _ => 0)))], lfS ct ad9 z0, lfS ct ad11 z0]).Perm (wl [lfS ct ad11 z0, [(h0, .inr (1, [.null, .int 0, .ref q1, .ref q2, .ref q3, .int 0, .ref q4, .ref q5, .ref q6, .ref q7, .int 0, .int 0, .int 0, .ref (ad9 0), .null, .null])), (q1, .inl (ct 0, 5, .inl (fun _ => 0))), (q2, .inl (ct 0, 5, .inl (fun _ => 0))), (q3, .inl (ct 0, 5, .inl (fun _ => 0))), (q4, .inl (ct 0, 6, .inl (fun _ => 0))), (q5, .inl (ct 0, 6, .inl (fun _ => 0))), (q6, .inl (ct 0, 6, .inl (fun _ => 0))), (q7, .inl (ct 0, 6, .inl (fun _ => 0)))], lfS ct ad9 z0]) := (perm_ix (d := []) _ [2, 0, 1] (by decide) rfl).flatten
  have hP : va_P G classes (wl [[(h0, .inr (1, [.null, .int 0, .ref q1, .ref q2, .ref q3, .int 0, .ref q4, .ref q5, .ref q6, .ref q7, .int 0, .int 0, .int 0, .ref (ad9 0), .null, .null])), (q1, .inl (ct 0, 5, .inl (fun _ => 0))), (q2, .inl (ct 0, 5, .inl (fun _ => 0))), (q3, .inl (ct 0, 5, .inl (fun _ => 0))), (q4, .inl (ct 0, 6, .inl (fun _ => 0))), (q5, .inl (ct 0, 6, .inl (fun _ => 0))), (q6, .inl (ct 0, 6, .inl (fun _ => 0))), (q7, .inl (ct 0, 6, .inl (fun _ => 0)))], lfS ct ad9 z0, lfS ct ad11 z0]) H := P_perm hP hpm.symm
  have hD : va_D A (wl [[(h0, .inr (1, [.null, .int 0, .ref q1, .ref q2, .ref q3, .int 0, .ref q4, .ref q5, .ref q6, .ref q7, .int 0, .int 0, .int 0, .ref (ad9 0), .null, .null])), (q1, .inl (ct 0, 5, .inl (fun _ => 0))), (q2, .inl (ct 0, 5, .inl (fun _ => 0))), (q3, .inl (ct 0, 5, .inl (fun _ => 0))), (q4, .inl (ct 0, 6, .inl (fun _ => 0))), (q5, .inl (ct 0, 6, .inl (fun _ => 0))), (q6, .inl (ct 0, 6, .inl (fun _ => 0))), (q7, .inl (ct 0, 6, .inl (fun _ => 0)))], lfS ct ad9 z0, lfS ct ad11 z0]) := D_perm hD hpm.symm
  refine W.widen (k := 15) (n := 83) (Nat.le_of_ble_eq_true rfl) (Nat.le_of_ble_eq_true rfl) ?_
  refine W.eq (g2 := F0 m 76 ls [.ref (ad11 0), .ref h0]) rfl ?_
  refine va_putF (D := G) (C := RX1) (T := TX1) (N := 16) (ty := .object "SignedOutside$Slips") hx hb hts iu_X1 tyX1 tyX1_ok nmX1 hown hK hP hD hS 0 rfl rfl 14 (by decide) (hts _ kw159) (fun _ h9 => h9) rfl hnm rfl (by decide +kernel) rfl rfl (Nat.le_of_ble_eq_true rfl) dX1_init_76 (fun H locs hP hD hS => ?_)
  have hP : va_P G classes (wl [[(h0, .inr (1, [.null, .int 0, .ref q1, .ref q2, .ref q3, .int 0, .ref q4, .ref q5, .ref q6, .ref q7, .int 0, .int 0, .int 0, .ref (ad9 0), .ref (ad11 0), .null])), (q1, .inl (ct 0, 5, .inl (fun _ => 0))), (q2, .inl (ct 0, 5, .inl (fun _ => 0))), (q3, .inl (ct 0, 5, .inl (fun _ => 0))), (q4, .inl (ct 0, 6, .inl (fun _ => 0))), (q5, .inl (ct 0, 6, .inl (fun _ => 0))), (q6, .inl (ct 0, 6, .inl (fun _ => 0))), (q7, .inl (ct 0, 6, .inl (fun _ => 0)))], lfS ct ad9 z0, lfS ct ad11 z0]) H := hP
  have hD : va_D A (wl [[(h0, .inr (1, [.null, .int 0, .ref q1, .ref q2, .ref q3, .int 0, .ref q4, .ref q5, .ref q6, .ref q7, .int 0, .int 0, .int 0, .ref (ad9 0), .ref (ad11 0), .null])), (q1, .inl (ct 0, 5, .inl (fun _ => 0))), (q2, .inl (ct 0, 5, .inl (fun _ => 0))), (q3, .inl (ct 0, 5, .inl (fun _ => 0))), (q4, .inl (ct 0, 6, .inl (fun _ => 0))), (q5, .inl (ct 0, 6, .inl (fun _ => 0))), (q6, .inl (ct 0, 6, .inl (fun _ => 0))), (q7, .inl (ct 0, 6, .inl (fun _ => 0)))], lfS ct ad9 z0, lfS ct ad11 z0]) := hD
  refine lv_aload_n hx hb dX1_init_79 rfl (lv_at hl 0 rfl) ?_
  refine va_new (ci := 4) (fs := [.null, .int 0, .int 0]) (C := RX4) (T := TX4) (N := 3) hx hb hts iu_X4 tyX4 tyX4_ok hown (hts _ kw104) (hts _ kw105) (hts _ kw10) hK hP hD hS hA rfl (fun j hj => by rcases (show j = 0 ∨ j = 1 ∨ j = 2 by omega) with rfl | rfl | rfl <;> rfl) (Nat.le_of_ble_eq_true rfl) (Nat.le_of_ble_eq_true rfl) dX1_init_80 (fun q12 H hP hD hS => ?_)
  have hP : va_P G classes (wl [[(h0, .inr (1, [.null, .int 0, .ref q1, .ref q2, .ref q3, .int 0, .ref q4, .ref q5, .ref q6, .ref q7, .int 0, .int 0, .int 0, .ref (ad9 0), .ref (ad11 0), .null])), (q1, .inl (ct 0, 5, .inl (fun _ => 0))), (q2, .inl (ct 0, 5, .inl (fun _ => 0))), (q3, .inl (ct 0, 5, .inl (fun _ => 0))), (q4, .inl (ct 0, 6, .inl (fun _ => 0))), (q5, .inl (ct 0, 6, .inl (fun _ => 0))), (q6, .inl (ct 0, 6, .inl (fun _ => 0))), (q7, .inl (ct 0, 6, .inl (fun _ => 0)))], lfS ct ad9 z0, lfS ct ad11 z0, [(q12, .inr (4, [.null, .int 0, .int 0]))]]) H := hP
  have hD : va_D A (wl [[(h0, .inr (1, [.null, .int 0, .ref q1, .ref q2, .ref q3, .int 0, .ref q4, .ref q5, .ref q6, .ref q7, .int 0, .int 0, .int 0, .ref (ad9 0), .ref (ad11 0), .null])), (q1, .inl (ct 0, 5, .inl (fun _ => 0))), (q2, .inl (ct 0, 5, .inl (fun _ => 0))), (q3, .inl (ct 0, 5, .inl (fun _ => 0))), (q4, .inl (ct 0, 6, .inl (fun _ => 0))), (q5, .inl (ct 0, 6, .inl (fun _ => 0))), (q6, .inl (ct 0, 6, .inl (fun _ => 0))), (q7, .inl (ct 0, 6, .inl (fun _ => 0)))], lfS ct ad9 z0, lfS ct ad11 z0, [(q12, .inr (4, [.null, .int 0, .int 0]))]]) := hD
  refine W.widen (k := 16) (n := 86) (Nat.le_of_ble_eq_true rfl) (Nat.le_of_ble_eq_true rfl) ?_
  refine lv_dup hx hb dX1_init_83 rfl ?_
  refine call_IN (As := []) (rest := [.ref q12, .ref h0]) hx hb hml hown hts hK hP hD hS hA hZ lkIX1_45 rfl rfl (CtrG.upL (c_X4_init l G ct sk sv q12) [[(h0, .inr (1, [.null, .int 0, .ref q1, .ref q2, .ref q3, .int 0, .ref q4, .ref q5, .ref q6, .ref q7, .int 0, .int 0, .int 0, .ref (ad9 0), .ref (ad11 0), .null])), (q1, .inl (ct 0, 5, .inl (fun _ => 0))), (q2, .inl (ct 0, 5, .inl (fun _ => 0))), (q3, .inl (ct 0, 5, .inl (fun _ => 0))), (q4, .inl (ct 0, 6, .inl (fun _ => 0))), (q5, .inl (ct 0, 6, .inl (fun _ => 0))), (q6, .inl (ct 0, 6, .inl (fun _ => 0))), (q7, .inl (ct 0, 6, .inl (fun _ => 0)))], lfS ct ad9 z0, lfS ct ad11 z0] [[(h0, .inr (1, [.null, .int 0, .ref q1, .ref q2, .ref q3, .int 0, .ref q4, .ref q5, .ref q6, .ref q7, .int 0, .int 0, .int 0, .ref (ad9 0), .ref (ad11 0), .null])), (q1, .inl (ct 0, 5, .inl (fun _ => 0))), (q2, .inl (ct 0, 5, .inl (fun _ => 0))), (q3, .inl (ct 0, 5, .inl (fun _ => 0))), (q4, .inl (ct 0, 6, .inl (fun _ => 0))), (q5, .inl (ct 0, 6, .inl (fun _ => 0))), (q6, .inl (ct 0, 6, .inl (fun _ => 0))), (q7, .inl (ct 0, 6, .inl (fun _ => 0)))], lfS ct ad9 z0, lfS ct ad11 z0, [(q12, .inr (4, [.null, .int 0, .int 0]))]] [3, 0, 1, 2] 4 (by decide) rfl rfl) ⟨Nat.le_of_ble_eq_true rfl, Nat.le_of_ble_eq_true rfl⟩ rfl hl.1 rfl (Nat.le_of_ble_eq_true rfl) dX1_init_84 ⟨Nat.le_of_ble_eq_true rfl, Nat.le_of_ble_eq_true rfl⟩ (fun r9 w9 H locs hB hP hD hS => ?_)
  obtain ⟨w8, ⟨rfl, ad13, rfl, rfl⟩, rfl⟩ := hB
  have hpm : (wl [[(h0, .inr (1, [.null, .int 0, .ref q1, .ref q2, .ref q3, .int 0, .ref q4, .ref q5, .ref q6, .ref q7, .int 0, .int 0, .int 0, .ref (ad9 0), .ref (ad11 0), .null])), (q1, .inl (ct 0, 5, .inl (fun _ => 0))), (q2, .inl (ct 0, 5, .inl (fun _ => 0))), (q3, .inl (ct 0, 5, .inl (fun _ => 0))), (q4, .inl (ct 0, 6, .inl (fun _ => 0))), (q5, .inl (ct 0, 6, .inl (fun _ => 0))), (q6, .inl (ct 0, 6, .inl (fun _ => 0))), (q7, .inl (ct 0, 6, .inl (fun _ => 0)))], lfS ct ad9 z0, lfS ct ad11 z0, lfP ct ad13 z0]).Perm (wl [lfP ct ad13 z0, [(h0, .inr (1, [.null, .int 0, .ref q1, .ref q2, .ref q3, .int 0, .ref q4, .ref q5, .ref q6, .ref q7, .int 0, .int 0, .int 0, .ref (ad9 0), .ref (ad11 0), .null])), (q1, .inl (ct 0, 5, .inl (fun _ => 0))), (q2, .inl (ct 0, 5, .inl (fun _ => 0))), (q3, .inl (ct 0, 5, .inl (fun _ => 0))), (q4, .inl (ct 0, 6, .inl (fun _ => 0))), (q5, .inl (ct 0, 6, .inl (fun _ => 0))), (q6, .inl (ct 0, 6, .inl (fun _ => 0))), (q7, .inl (ct 0, 6, .inl (fun _ => 0)))], lfS ct ad9 z0, lfS ct ad11 z0]) := (perm_ix (d := []) _ [3, 0, 1, 2] (by decide) rfl).flatten
  have hP : va_P G classes (wl [[(h0, .inr (1, [.null, .int 0, .ref q1, .ref q2, .ref q3, .int 0, .ref q4, .ref q5, .ref q6, .ref q7, .int 0, .int 0, .int 0, .ref (ad9 0), .ref (ad11 0), .null])), (q1, .inl (ct 0, 5, .inl (fun _ => 0))), (q2, .inl (ct 0, 5, .inl (fun _ => 0))), (q3, .inl (ct 0, 5, .inl (fun _ => 0))), (q4, .inl (ct 0, 6, .inl (fun _ => 0))), (q5, .inl (ct 0, 6, .inl (fun _ => 0))), (q6, .inl (ct 0, 6, .inl (fun _ => 0))), (q7, .inl (ct 0, 6, .inl (fun _ => 0)))], lfS ct ad9 z0, lfS ct ad11 z0, lfP ct ad13 z0]) H := P_perm hP hpm.symm
  have hD : va_D A (wl [[(h0, .inr (1, [.null, .int 0, .ref q1, .ref q2, .ref q3, .int 0, .ref q4, .ref q5, .ref q6, .ref q7, .int 0, .int 0, .int 0, .ref (ad9 0), .ref (ad11 0), .null])), (q1, .inl (ct 0, 5, .inl (fun _ => 0))), (q2, .inl (ct 0, 5, .inl (fun _ => 0))), (q3, .inl (ct 0, 5, .inl (fun _ => 0))), (q4, .inl (ct 0, 6, .inl (fun _ => 0))), (q5, .inl (ct 0, 6, .inl (fun _ => 0))), (q6, .inl (ct 0, 6, .inl (fun _ => 0))), (q7, .inl (ct 0, 6, .inl (fun _ => 0)))], lfS ct ad9 z0, lfS ct ad11 z0, lfP ct ad13 z0]) := D_perm hD hpm.symm
  refine W.widen (k := 17) (n := 238) (Nat.le_of_ble_eq_true rfl) (Nat.le_of_ble_eq_true rfl) ?_
  refine W.eq (g2 := F0 m 87 ls [.ref (ad13 0), .ref h0]) rfl ?_
  refine va_putF (D := G) (C := RX1) (T := TX1) (N := 16) (ty := .object "SignedOutside$Past") hx hb hts iu_X1 tyX1 tyX1_ok nmX1 hown hK hP hD hS 0 rfl rfl 15 (by decide) (hts _ kw161) (fun _ h9 => h9) rfl hnm rfl (by decide +kernel) rfl rfl (Nat.le_of_ble_eq_true rfl) dX1_init_87 (fun H locs hP hD hS => ?_)
  have hP : va_P G classes (wl [[(h0, .inr (1, [.null, .int 0, .ref q1, .ref q2, .ref q3, .int 0, .ref q4, .ref q5, .ref q6, .ref q7, .int 0, .int 0, .int 0, .ref (ad9 0), .ref (ad11 0), .ref (ad13 0)])), (q1, .inl (ct 0, 5, .inl (fun _ => 0))), (q2, .inl (ct 0, 5, .inl (fun _ => 0))), (q3, .inl (ct 0, 5, .inl (fun _ => 0))), (q4, .inl (ct 0, 6, .inl (fun _ => 0))), (q5, .inl (ct 0, 6, .inl (fun _ => 0))), (q6, .inl (ct 0, 6, .inl (fun _ => 0))), (q7, .inl (ct 0, 6, .inl (fun _ => 0)))], lfS ct ad9 z0, lfS ct ad11 z0, lfP ct ad13 z0]) H := hP
  have hD : va_D A (wl [[(h0, .inr (1, [.null, .int 0, .ref q1, .ref q2, .ref q3, .int 0, .ref q4, .ref q5, .ref q6, .ref q7, .int 0, .int 0, .int 0, .ref (ad9 0), .ref (ad11 0), .ref (ad13 0)])), (q1, .inl (ct 0, 5, .inl (fun _ => 0))), (q2, .inl (ct 0, 5, .inl (fun _ => 0))), (q3, .inl (ct 0, 5, .inl (fun _ => 0))), (q4, .inl (ct 0, 6, .inl (fun _ => 0))), (q5, .inl (ct 0, 6, .inl (fun _ => 0))), (q6, .inl (ct 0, 6, .inl (fun _ => 0))), (q7, .inl (ct 0, 6, .inl (fun _ => 0)))], lfS ct ad9 z0, lfS ct ad11 z0, lfP ct ad13 z0]) := hD
  refine lv_aload_n hx hb dX1_init_90 rfl (lv_at hl 0 rfl) ?_
  refine lv_aload_n hx hb dX1_init_91 rfl (lv_at hl 1 rfl) ?_
  refine va_putF (D := G) (C := RX1) (T := TX1) (N := 16) (ty := .array (.object "SignedOutside$Plain")) hx hb hts iu_X1 tyX1 tyX1_ok nmX1 hown hK hP hD hS 0 rfl rfl 0 (by decide) (hts _ kw121) (fun _ h9 => h9) rfl hnm rfl (by decide +kernel) rfl rfl (Nat.le_of_ble_eq_true rfl) dX1_init_92 (fun H locs hP hD hS => ?_)
  have hP : va_P G classes (wl [[(h0, .inr (1, [.ref (k 0), .int 0, .ref q1, .ref q2, .ref q3, .int 0, .ref q4, .ref q5, .ref q6, .ref q7, .int 0, .int 0, .int 0, .ref (ad9 0), .ref (ad11 0), .ref (ad13 0)])), (q1, .inl (ct 0, 5, .inl (fun _ => 0))), (q2, .inl (ct 0, 5, .inl (fun _ => 0))), (q3, .inl (ct 0, 5, .inl (fun _ => 0))), (q4, .inl (ct 0, 6, .inl (fun _ => 0))), (q5, .inl (ct 0, 6, .inl (fun _ => 0))), (q6, .inl (ct 0, 6, .inl (fun _ => 0))), (q7, .inl (ct 0, 6, .inl (fun _ => 0)))], lfS ct ad9 z0, lfS ct ad11 z0, lfP ct ad13 z0]) H := hP
  have hD : va_D A (wl [[(h0, .inr (1, [.ref (k 0), .int 0, .ref q1, .ref q2, .ref q3, .int 0, .ref q4, .ref q5, .ref q6, .ref q7, .int 0, .int 0, .int 0, .ref (ad9 0), .ref (ad11 0), .ref (ad13 0)])), (q1, .inl (ct 0, 5, .inl (fun _ => 0))), (q2, .inl (ct 0, 5, .inl (fun _ => 0))), (q3, .inl (ct 0, 5, .inl (fun _ => 0))), (q4, .inl (ct 0, 6, .inl (fun _ => 0))), (q5, .inl (ct 0, 6, .inl (fun _ => 0))), (q6, .inl (ct 0, 6, .inl (fun _ => 0))), (q7, .inl (ct 0, 6, .inl (fun _ => 0)))], lfS ct ad9 z0, lfS ct ad11 z0, lfP ct ad13 z0]) := hD
  obtain ⟨aa, eaa⟩ : ∃ aa : Nat → Nat, aa = (fun j => if j < 8 then (adl [h0, q1, q2, q3, q4, q5, q6, q7]) j else if j < 12 then ad9 (j - 8) else if j < 16 then ad11 (j - 12) else ad13 (j - 16)) := ⟨_, rfl⟩
  have hpm : (wl [lfH ct aa k z0, lfS ct (fun j => aa (12 + j)) z0, lfS ct (fun j => aa (8 + j)) z0, lfP ct (fun j => aa (16 + j)) z0] : va_W).Perm (wl [[(h0, .inr (1, [.ref (k 0), .int 0, .ref q1, .ref q2, .ref q3, .int 0, .ref q4, .ref q5, .ref q6, .ref q7, .int 0, .int 0, .int 0, .ref (ad9 0), .ref (ad11 0), .ref (ad13 0)])), (q1, .inl (ct 0, 5, .inl (fun _ => 0))), (q2, .inl (ct 0, 5, .inl (fun _ => 0))), (q3, .inl (ct 0, 5, .inl (fun _ => 0))), (q4, .inl (ct 0, 6, .inl (fun _ => 0))), (q5, .inl (ct 0, 6, .inl (fun _ => 0))), (q6, .inl (ct 0, 6, .inl (fun _ => 0))), (q7, .inl (ct 0, 6, .inl (fun _ => 0)))], lfS ct ad9 z0, lfS ct ad11 z0, lfP ct ad13 z0]) := by
    rw [eaa]
    exact (perm_ix (d := []) [lfH ct (fun j => if j < 8 then (adl [h0, q1, q2, q3, q4, q5, q6, q7]) j else if j < 12 then ad9 (j - 8) else if j < 16 then ad11 (j - 12) else ad13 (j - 16)) k z0, lfS ct (fun j => (fun j => if j < 8 then (adl [h0, q1, q2, q3, q4, q5, q6, q7]) j else if j < 12 then ad9 (j - 8) else if j < 16 then ad11 (j - 12) else ad13 (j - 16)) (12 + j)) z0, lfS ct (fun j => (fun j => if j < 8 then (adl [h0, q1, q2, q3, q4, q5, q6, q7]) j else if j < 12 then ad9 (j - 8) else if j < 16 then ad11 (j - 12) else ad13 (j - 16)) (8 + j)) z0, lfP ct (fun j => (fun j => if j < 8 then (adl [h0, q1, q2, q3, q4, q5, q6, q7]) j else if j < 12 then ad9 (j - 8) else if j < 16 then ad11 (j - 12) else ad13 (j - 16)) (16 + j)) z0] [0, 2, 1, 3] (by decide) rfl).flatten
  exact end_v (w' := wl [lfH ct aa k z0, lfS ct (fun j => aa (12 + j)) z0, lfS ct (fun j => aa (8 + j)) z0, lfP ct (fun j => aa (16 + j)) z0]) hx hb hr hlocks hK (P_perm hP hpm.symm) (D_perm hD hpm.symm) hS dX1_init_95 ⟨rfl, aa, by rw [eaa]; rfl, rfl⟩
