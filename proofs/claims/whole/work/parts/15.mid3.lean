/-! super calls, virtual calls on one of the kinds -/
theorem mem5 {a b c d e : Cond} (h1 : a ∈ WALL) (h2 : b ∈ WALL) (h3 : c ∈ WALL) (h4 : d ∈ WALL) (h5 : e ∈ WALL) : ∀ w ∈ ([a, b, c, d, e] : List Cond), w ∈ WALL := by
  intro w hw
  simp only [List.mem_cons, List.not_mem_nil, or_false] at hw
  rcases hw with rfl | rfl | rfl | rfl | rfl <;> assumption
theorem mem6 {a b c d e f : Cond} (h1 : a ∈ WALL) (h2 : b ∈ WALL) (h3 : c ∈ WALL) (h4 : d ∈ WALL) (h5 : e ∈ WALL) (h6 : f ∈ WALL) : ∀ w ∈ ([a, b, c, d, e, f] : List Cond), w ∈ WALL := by
  intro w hw
  simp only [List.mem_cons, List.not_mem_nil, or_false] at hw
  rcases hw with rfl | rfl | rfl | rfl | rfl | rfl <;> assumption
/-- a contract over one cell that stays holds over any world with that cell -/
theorem Ctr.any {E : EV} {M : MI} {fr lo : Nat} {av : List Value} {W : va_W} {r : Option Value} {cl : Nat × va_E} (h : Ctr E M fr lo av [cl] [cl] r) (q : Nat) (hq : W[q]? = some cl) : Ctr E M fr lo av W W r := by
  intro sz
  refine MetFree.mono (h sz) ?_ (fun _ _ _ _ _ h => h) ?_
  · rintro a s ⟨h1, h2, h3, h4, h5, h6⟩
    refine ⟨h1, h2, P_pick h3 [q] (by simp [hq]), h4, h5.sub [q] rfl (by simp [hq]), h6.narrow (va_A_sub [q] (by simp [hq]))⟩
  · rintro a s o t ⟨-, h2, h3, h4, h5, -⟩ ⟨⟨⟨r', w', e1, ⟨e2, e3⟩, e4, e5, e6⟩, e7⟩, L, e8, e9⟩
    subst e3
    have hF : ∀ x, va_A [cl] sz x → va_A W sz x := va_A_sub [q] (by simp [hq])
    refine ⟨⟨⟨r', W, e1, ⟨e2, rfl⟩, fun k x hk => ?_, e5, h5.self⟩, e7.1, fun x q1 q2 => e7.2 x q1 (fun z => q2 (hF x z))⟩, L, e8, fun x hx => hF _ (e9 x hx)⟩
    by_cases hkq : k = q
    · subst hkq
      rw [hq] at hk
      cases hk
      exact e4 0 _ rfl
    · refine (h3 k x hk).kept (e7.2 x.1 ((h3 k x hk).lt) ?_)
      rintro (⟨j, e', hj⟩ | hj)
      · cases j with
        | zero =>
          have hj : some cl = some (x.1, e') := hj
          have hxe : cl = (x.1, e') := Option.some.inj hj
          exact hkq (h5.1 k q x cl hk hq (by rw [hxe]))
        | succ j => cases hj
      · have := (h3 k x hk).lt
        omega
section MIDY
variable {p : Program} {l : Launch} {e : Env} {R : Room} {s : State} {m : MethodId} {args : Array Value} {below : List Frame} {meth : Method} {c : Code} {H : Heap} {locs : List Loc} {cells slots : Nat} {Q : State → Prop}
variable {pc : Nat} {ls : Array Slot} {rest st0 : List Value} {a : Array Value} {A : Nat → Prop} {H0 : Heap} {mc ms : Nat} {G : va_G} {ct : Nat → ClassId} {sk sv : Nat → Nat} {cc : ByteArray} {w w' : va_W} {B : Option Value → va_W → Prop}
def lkU (own : String) (idx : Nat) (C : String) (x : MethodName) (M : MI) (n : Nat) : Prop := (∀ w ∈ va_wsO own idx C x.cls x M.1 [], w ∈ WALL) ∧ Cond.code M.1 M.2.1 M.2.2.1 M.2.2.2 ∈ WALL ∧ (∃ b0 m0 r0, Cond.code ⟨x.cls, x.name, x.desc⟩ b0 m0 r0 ∈ WALL) ∧ x.cls ≠ "java/lang/invoke/MethodHandle" ∧ x.cls ≠ "java/lang/invoke/VarHandle" ∧ (parseMethodDescriptor x.desc).map (fun d => d.parameters.length) = some n
theorem lkU_mk {own : String} {idx n : Nat} {C : String} {x : MethodName} {M : MI} {b0 : ByteArray} {m0 : Nat} {r0 : Option FieldType} (h1 : Cond.methodLink own idx x ∈ WALL) (h2 : Cond.sameMethod x.cls x.cls x.name x.desc ∈ WALL) (h3 : Cond.instanceMethod ⟨x.cls, x.name, x.desc⟩ ∈ WALL) (h4 : Cond.selects C x M.1 ∈ WALL) (h5 : Cond.instanceMethod M.1 ∈ WALL) (h6 : Cond.initialized M.1.cls ∈ WALL) (h7 : Cond.code M.1 M.2.1 M.2.2.1 M.2.2.2 ∈ WALL) (h8 : Cond.code ⟨x.cls, x.name, x.desc⟩ b0 m0 r0 ∈ WALL) (h9 : x.cls ≠ "java/lang/invoke/MethodHandle" ∧ x.cls ≠ "java/lang/invoke/VarHandle" ∧ (parseMethodDescriptor x.desc).map (fun d => d.parameters.length) = some n) : lkU own idx C x M n :=
  ⟨by
    have h := mem6 h1 h2 h3 h4 h5 h6
    intro w hw
    rw [va_wsO, List.append_nil] at hw
    exact h w hw, h7, ⟨b0, m0, r0, h8⟩, h9⟩
theorem call_Vr {own : String} {idx n fr lo nL : Nat} {M : MI} {b : Addr} {As : List Value} (hx : p.tables.exec = Jvm.exec) (hb : c.code = cc) (hml : c.maxLocals = nL) (hown : s.vm.findClass own = some m.cls) (hts : ∀ w ∈ WALL, w.before args s = true) (hK : va_K G classes (TYS ct) s) (hP : va_P G classes w H) (hD : va_D A w) (hS : va_S A s.heap H locs) (hA : ∀ q, s.heap.size ≤ q → A q) (hZ : ENV (l, G, ct, sk, sv) A s)
    (lk : lkV own idx M n) (hM : CtrG (l, G, ct, sk, sv) M fr lo mc ms (.ref b :: As) w B) (hrec : ∃ cell : Cell, H[b]? = some cell ∧ cell.vm.isStatics = false ∧ s.vm.findClass M.1.cls = some cell.cls) (hR : fr + 1 ≤ R.frames ∧ 8 + (M.2.2.1 + 11) + lo ≤ R.locals) (hn : As.length = n) (hl : ls.size = nL) (hst : st0 = As.reverse ++ .ref b :: rest) (hW : (rest.map fun v => v.category).sum ≤ 8) (hdg : decode cc pc = .ok (.invokevirtual idx, 3)) (hf : cells + mc ≤ R.cells ∧ slots + ms ≤ R.slots)
    (kk : ∀ (r : Option Value) (w' : va_W) (H1 : Heap) (locs1 : List Loc), B r w' → va_P G classes w' H1 → va_D A w' → va_S A s.heap H1 locs1 → W p l e R s m args below meth c H1 locs1 (cells + mc) (slots + ms) Q (F0 m (pc + 3) ls (r.toList ++ rest))) : W p l e R s m args below meth c H locs cells slots Q (F0 m pc ls st0) := by
  obtain ⟨k1, k2, k3, k4⟩ := lk
  refine call_go (w := w) (B := B) (va_runV (C := M.1.cls) (As := As) (rest := rest) (b := b) ⟨hx, hb, hml, hown, hts⟩ (hM H.size) (cwV n hts (good_app k1 (good_WS k2)) rfl rfl rfl ⟨k3, k4⟩ hR) ⟨pre_blind, hrec, pre_now hK hP hD hZ hS hA⟩ rfl hn hl hst (lv_room hW) hdg hf) hD hS hA kk
theorem end_n {v : Int32} {ty : FieldType} (hx : p.tables.exec = Jvm.exec) (hb : c.code = cc) (hr : meth.sig.returnType = some ty) (hlocks : meth.locks = false) (hK : va_K G classes (TYS ct) s) (hP : va_P G classes w' H) (hD : va_D A w') (hS : va_S A s.heap H locs) (hdg : decode cc pc = .ok (.ireturn, 1)) (hv : narrow ty (.int v) = .int v) (hB : B (some (.int v)) w') : W p l e R s m args below meth c H locs cells slots (MQ below (POST (l, G, ct, sk, sv) A B) args s cells slots A) (F0 m pc ls [.int v]) :=
  W.zret (v := v) hx hb hr hv (fun t ht hW => ⟨⟨_, w', rfl, hB, by rw [ht]; exact hP, va_K.moved hW.alike hK, hD⟩, hS.F ht⟩) hS.2.2 hdg hlocks
theorem call_U {own C : String} {idx n fr lo nL : Nat} {x : MethodName} {M : MI} {b : Addr} {As : List Value} {ci : Nat} {fs : List Value} {T : u_T} {N : Nat} (hx : p.tables.exec = Jvm.exec) (hb : c.code = cc) (hml : c.maxLocals = nL) (hown : s.vm.findClass own = some m.cls) (hts : ∀ w ∈ WALL, w.before args s = true) (hK : va_K G classes (TYS ct) s) (hP : va_P G classes w H) (hD : va_D A w) (hS : va_S A s.heap H locs) (hA : ∀ q, s.heap.size ≤ q → A q) (hZ : ENV (l, G, ct, sk, sv) A s)
    (lk : lkU own idx C x M n) (hM : CtrG (l, G, ct, sk, sv) M fr lo mc ms (.ref b :: As) w B) (q0 : Nat) (he : w[q0]? = some (b, .inr (ci, fs))) (hc : classes[ci]? = some (C, T, N)) (hR : fr + 1 ≤ R.frames ∧ 8 + (M.2.2.1 + 11) + lo ≤ R.locals) (hn : As.length = n) (hl : ls.size = nL) (hst : st0 = As.reverse ++ .ref b :: rest) (hW : (rest.map fun v => v.category).sum ≤ 8) (hdg : decode cc pc = .ok (.invokevirtual idx, 3)) (hf : cells + mc ≤ R.cells ∧ slots + ms ≤ R.slots)
    (kk : ∀ (r : Option Value) (w' : va_W) (H1 : Heap) (locs1 : List Loc), B r w' → va_P G classes w' H1 → va_D A w' → va_S A s.heap H1 locs1 → W p l e R s m args below meth c H1 locs1 (cells + mc) (slots + ms) Q (F0 m (pc + 3) ls (r.toList ++ rest))) : W p l e R s m args below meth c H locs cells slots Q (F0 m pc ls st0) := by
  obtain ⟨k1, k2, ⟨b0, m0, r0, k3⟩, k4⟩ := lk
  have hg : GoodIn WALL (va_wsO own idx C x.cls x M.1 (WS M)) := by
    have h := good_app (a := va_wsO own idx C x.cls x M.1 []) k1 (good_WS k2)
    rw [va_wsO, List.append_nil] at h
    exact h
  refine call_go (w := w) (B := B) (va_runU (C := C) (As := As) (rest := rest) (b := b) ⟨hx, hb, hml, hown, hts⟩ (hM H.size) (va_cwO n hts hg rfl rfl rfl k3 k4 hR) ⟨pre_blind, va_recv hK hP hc he, pre_now hK hP hD hZ hS hA⟩ rfl hn hl hst (lv_room hW) hdg hf) hD hS hA kk
theorem call_SU {own : String} {idx n fr lo nL : Nat} {M : MI} {b : Addr} {As : List Value} {ci : Nat} {fs : List Value} {q : vw_C} (hx : p.tables.exec = Jvm.exec) (hb : c.code = cc) (hml : c.maxLocals = nL) (hown : s.vm.findClass own = some m.cls) (hts : ∀ w ∈ WALL, w.before args s = true) (hK : va_K G classes (TYS ct) s) (hP : va_P G classes w H) (hD : va_D A w) (hS : va_S A s.heap H locs) (hA : ∀ q, s.heap.size ≤ q → A q) (hZ : ENV (l, G, ct, sk, sv) A s)
    (k1 : Cond.methodLink own idx M.1 ∈ WALL) (k2 : Cond.sameMethod M.1.cls M.1.cls M.1.name M.1.desc ∈ WALL) (k3 : Cond.superclass own M.1.cls ∈ WALL) (k4 : Cond.instanceMethod M.1 ∈ WALL) (k5 : Cond.initialized M.1.cls ∈ WALL) (k6 : Cond.code M.1 M.2.1 M.2.2.1 M.2.2.2 ∈ WALL) (hd : M.1.name ≠ "<init>" ∧ (parseMethodDescriptor M.1.desc).map (fun d => d.parameters.length) = some n)
    (hM : CtrG (l, G, ct, sk, sv) M fr lo mc ms (.ref b :: As) w B) (q0 : Nat) (he : w[q0]? = some (b, .inr (ci, fs))) (hc : classes[ci]? = some q) (hR : fr + 1 ≤ R.frames ∧ 8 + (M.2.2.1 + 11) + lo ≤ R.locals) (hn : As.length = n) (hl : ls.size = nL) (hst : st0 = As.reverse ++ .ref b :: rest) (hW : (rest.map fun v => v.category).sum ≤ 8) (hdg : decode cc pc = .ok (.invokespecial idx, 3)) (hf : cells + mc ≤ R.cells ∧ slots + ms ≤ R.slots)
    (kk : ∀ (r : Option Value) (w' : va_W) (H1 : Heap) (locs1 : List Loc), B r w' → va_P G classes w' H1 → va_D A w' → va_S A s.heap H1 locs1 → W p l e R s m args below meth c H1 locs1 (cells + mc) (slots + ms) Q (F0 m (pc + 3) ls (r.toList ++ rest))) : W p l e R s m args below meth c H locs cells slots Q (F0 m pc ls st0) := by
  have hg : GoodIn WALL (va_wsSU own idx M.1 (WS M)) := by
    unfold va_wsSU
    exact good_app (mem5 k1 k2 k3 k4 k5) (good_WS k6)
  refine call_go (w := w) (B := B) (va_runSU (C := q.1) (As := As) (rest := rest) (b := b) (hK.1 ci q hc).2 ⟨hx, hb, hml, hown, hts⟩ (hM H.size) (va_cwSU n hts hg rfl rfl rfl hd hR) ⟨pre_blind, va_recv hK hP hc he, pre_now hK hP hD hZ hS hA⟩ rfl hn hl hst (lv_room hW) hdg hf) hD hS hA kk
/-- super.m(..), where the superclass has m from above -/
theorem run_SU2 {x y : MethodName} {bytes : ByteArray} {maxL nL mc ms n index : Nat} {ret : Option FieldType} {ws : List Cond} {rm : Room} {Pc : Array Value → State → Prop} {Qc : Array Value → State → Outcome → State → Prop} {free : Addr → Prop} {own C : String} {cC : ClassId} {b : Addr} {As rest : List Value}
    (hat : ClassAt s C cC) (hx : p.tables.exec = Jvm.exec) (hb : c.code = cc) (hml : c.maxLocals = nL) (ho : s.vm.findClass own = some m.cls) (hts : ∀ w ∈ WALL, w.before args s = true) (hM : Met l y ws rm Pc Qc mc ms free) (hG : GoodIn WALL ws) (hw : Cond.code y bytes maxL ret ∈ ws) (hrc : rm.cells = mc) (hrs : rm.slots = ms) (hR : rm.frames + 1 ≤ R.frames ∧ 8 + (maxL + 11) + rm.locals ≤ R.locals)
    (k1 : Cond.methodLink own index x ∈ WALL) (k2 : Cond.sameMethod x.cls y.cls x.name x.desc ∈ WALL) (k3 : Cond.superclass own x.cls ∈ WALL) (k3' : Cond.superclass x.cls y.cls ∈ WALL) (k4 : Cond.instanceMethod y ∈ WALL) (k5 : Cond.initialized y.cls ∈ WALL) (hyx : y = ⟨y.cls, x.name, x.desc⟩) (hno : x.name ≠ "<init>") (hd : (parseMethodDescriptor y.desc).map (fun d => d.parameters.length) = some n) (hp : PreV s H C b Pc As)
    (hn : As.length = n) (hsize : ls.size = nL) (hstack : st0 = As.reverse ++ .ref b :: rest) (hW : (rest.map fun v => v.category).sum ≤ 8) (hdg : decode cc pc = .ok (.invokespecial index, 3)) (hf : cells + mc ≤ R.cells ∧ slots + ms ≤ R.slots) :
    va_Run p l e R s m args below meth c H locs cells slots mc ms (F0 m pc ls st0) rest (Qc (Value.ref b :: As).toArray) (free) := by
  have hws := pay_in hts hG
  have hini := hts _ k5
  have hcode := hts _ (hG _ hw).1
  have hK : Back l R p e below s args y 3 8 (PreOf R mc ms Pc) (PostOf Qc mc ms free) := back_of (bytes := bytes) (maxL := maxL) (ret := ret) hM hp.1 hrc hrs hR.1 hR.2 hws hw (fun a' U hW => word_at hW (Or.inl (by first | rfl | simp [Cond.onTables, Cond.keeps, Cond.steady])) hini)
  obtain ⟨-, ⟨cellB, hcB, hoB, hclB⟩, hPc⟩ := hp
  obtain ⟨hfc, kB, hkB, -⟩ := hat
  cases hfc.symm.trans hclB
  obtain ⟨mk, methM, hnamed, hmethM, hstM, habM⟩ := Cond.instanceMethod_spec (hts _ k4)
  obtain ⟨methM', cM, hmethM', -, -, -, -, -, -, hsigM⟩ := Cond.code_spec hnamed hcode
  cases hmethM.symm.trans hmethM'
  obtain ⟨ps, dk, kp, hps, hdk, hkp, hsuper, -, -, hnid⟩ := Cond.superclass_spec ho (hts _ k3)
  obtain ⟨ps2, dk2, kp2, hps2, hdk2, hkp2, hsuper2, -, -, -⟩ := Cond.superclass_spec hps (hts _ k3')
  have hnm : s.methodNamed? ⟨y.cls, x.name, x.desc⟩ = some mk := by rw [← hyx]; exact hnamed
  have hpm : ps2 = mk.cls := Option.some.inj (hps2.symm.trans (findClass_of_methodNamed hnamed))
  have hsz : 0 < s.vm.classes.size := by
    have h := (Array.getElem?_eq_some_iff.mp hdk2).1
    omega
  have hsub : s.vm.isSubclass ps mk.cls = true := by
    obtain ⟨z, hz⟩ : ∃ z, s.vm.classes.size = z + 1 := ⟨s.vm.classes.size - 1, by omega⟩
    rw [← hpm]
    unfold Vm.isSubclass
    rw [hz]
    simp [Vm.isSubclassAux, hdk2, hsuper2]
  intro T hT X
  obtain ⟨vm₁, X₁, hstep₁⟩ := X.invokespecialUp hx ho (hts _ k1) (hts _ k2) hnm hmethM hstM habM hno hdk hnid hps hsuper hsub (a := b) (cell := cellB) (by rw [hT]; exact hcB)
    (fun z h => by rw [h] at hoB; cases hoB) hkB (g := F0 m pc ls st0) rfl (argsL := As) (rest := rest) (by
      rw [hsigM] at hd
      exact hn.trans (Option.some.inj hd).symm) hstack (by rw [hb]; exact hdg)
  obtain ⟨v, ⟨U', l2, c2, s2⟩, X', ⟨g', mk', t, L, e1, e2, hq, h1, hL, h2, h3⟩, hsteps⟩ := hK m meth c ⟨T.setVm vm₁, locs, cells, slots⟩ { (F0 m pc ls st0) with stack := rest } (.invokespecial index) mk (Value.ref b :: As).toArray X₁ rfl (hsize.trans hml.symm) (by rw [hb]; exact hdg) (lv_room hW) (X₁.named hnamed) ⟨hf.1, hf.2, hPc (T.setVm vm₁) hT X₁.warmed⟩
  dsimp only [Pt.U, Pt.locs, Pt.cells, Pt.slots] at X' e1 e2 h1 h2 h3 hsteps
  subst h1; subst h2; subst h3
  exact ⟨v, (T.setVm vm₁).calling g' mk' (Value.ref b :: As).toArray, t, U', L, hT, X', hL, e1, e2, hq, fun target h => hstep₁ _ (by rw [doInvoke_state]; exact hsteps.trans h)⟩
theorem call_SU2 {own : String} {idx n fr lo nL : Nat} {x : MethodName} {M : MI} {b : Addr} {As : List Value} {ci : Nat} {fs : List Value} {q : vw_C} (hx : p.tables.exec = Jvm.exec) (hb : c.code = cc) (hml : c.maxLocals = nL) (hown : s.vm.findClass own = some m.cls) (hts : ∀ w ∈ WALL, w.before args s = true) (hK : va_K G classes (TYS ct) s) (hP : va_P G classes w H) (hD : va_D A w) (hS : va_S A s.heap H locs) (hA : ∀ q, s.heap.size ≤ q → A q) (hZ : ENV (l, G, ct, sk, sv) A s)
    (k1 : Cond.methodLink own idx x ∈ WALL) (k2 : Cond.sameMethod x.cls M.1.cls x.name x.desc ∈ WALL) (k3 : Cond.superclass own x.cls ∈ WALL) (k3' : Cond.superclass x.cls M.1.cls ∈ WALL) (k4 : Cond.instanceMethod M.1 ∈ WALL) (k5 : Cond.initialized M.1.cls ∈ WALL) (k6 : Cond.code M.1 M.2.1 M.2.2.1 M.2.2.2 ∈ WALL) (hyx : M.1 = ⟨M.1.cls, x.name, x.desc⟩) (hno : x.name ≠ "<init>") (hd : (parseMethodDescriptor M.1.desc).map (fun d => d.parameters.length) = some n)
    (hM : CtrG (l, G, ct, sk, sv) M fr lo mc ms (.ref b :: As) w B) (q0 : Nat) (he : w[q0]? = some (b, .inr (ci, fs))) (hc : classes[ci]? = some q) (hR : fr + 1 ≤ R.frames ∧ 8 + (M.2.2.1 + 11) + lo ≤ R.locals) (hn : As.length = n) (hl : ls.size = nL) (hst : st0 = As.reverse ++ .ref b :: rest) (hW : (rest.map fun v => v.category).sum ≤ 8) (hdg : decode cc pc = .ok (.invokespecial idx, 3)) (hf : cells + mc ≤ R.cells ∧ slots + ms ≤ R.slots)
    (kk : ∀ (r : Option Value) (w' : va_W) (H1 : Heap) (locs1 : List Loc), B r w' → va_P G classes w' H1 → va_D A w' → va_S A s.heap H1 locs1 → W p l e R s m args below meth c H1 locs1 (cells + mc) (slots + ms) Q (F0 m (pc + 3) ls (r.toList ++ rest))) : W p l e R s m args below meth c H locs cells slots Q (F0 m pc ls st0) :=
  call_go (w := w) (B := B) (run_SU2 (C := q.1) (As := As) (rest := rest) (b := b) (x := x) (y := M.1) (bytes := M.2.1) (maxL := M.2.2.1) (ret := M.2.2.2) (hK.1 ci q hc).2 hx hb hml hown hts (hM H.size) (good_WS k6) List.mem_cons_self rfl rfl hR k1 k2 k3 k3' k4 k5 hyx hno hd ⟨pre_blind, va_recv hK hP hc he, pre_now hK hP hD hZ hS hA⟩ hn hl hst hW hdg hf) hD hS hA kk
def lkN (own : String) (idx : Nat) (host : String) (M : MI) (n : Nat) : Prop := Cond.methodLinkNest own idx M.1 host ∈ NWL ∧ Cond.initialized M.1.cls ∈ WALL ∧ Cond.code M.1 M.2.1 M.2.2.1 M.2.2.2 ∈ WALL ∧ M.1.cls ≠ "java/lang/invoke/MethodHandle" ∧ M.1.cls ≠ "java/lang/invoke/VarHandle" ∧ (parseMethodDescriptor M.1.desc).map (fun d => d.parameters.length) = some n
theorem call_SN {own host : String} {idx n fr lo nL : Nat} {M : MI} {As : List Value} (hx : p.tables.exec = Jvm.exec) (hb : c.code = cc) (hml : c.maxLocals = nL) (hown : s.vm.findClass own = some m.cls) (hts : ∀ w ∈ WALL, w.before args s = true) (hK : va_K G classes (TYS ct) s) (hP : va_P G classes w H) (hD : va_D A w) (hS : va_S A s.heap H locs) (hA : ∀ q, s.heap.size ≤ q → A q) (hZ : ENV (l, G, ct, sk, sv) A s)
    (lk : lkN own idx host M n ∧ Cond.static M.1 ∈ WALL) (hM : CtrG (l, G, ct, sk, sv) M fr lo mc ms As w B) (hR : fr + 1 ≤ R.frames ∧ 8 + (M.2.2.1 + 11) + lo ≤ R.locals) (hn : As.length = n) (hl : ls.size = nL) (hst : st0 = As.reverse ++ rest) (hW : (rest.map fun v => v.category).sum ≤ 8) (hdg : decode cc pc = .ok (.invokestatic idx, 3)) (hf : cells + mc ≤ R.cells ∧ slots + ms ≤ R.slots)
    (kk : ∀ (r : Option Value) (w' : va_W) (H1 : Heap) (locs1 : List Loc), B r w' → va_P G classes w' H1 → va_D A w' → va_S A s.heap H1 locs1 → W p l e R s m args below meth c H1 locs1 (cells + mc) (slots + ms) Q (F0 m (pc + 3) ls (r.toList ++ rest))) : W p l e R s m args below meth c H locs cells slots Q (F0 m pc ls st0) := by
  obtain ⟨⟨k1, k2, k3, k4⟩, k5⟩ := lk
  refine call_go (w := w) (B := B) (va_runSN (As := As) (rest := rest) ⟨hx, hb, hml, hown, hts⟩ (hM H.size) ⟨va_cnB n hts (good_WS k3) rfl rfl rfl (hZ.1 _ k1) (hts _ k2) k4 hR, hts _ k5, trivial⟩ ⟨pre_blind, pre_now hK hP hD hZ hS hA⟩ rfl hn hl hst (lv_room hW) hdg hf) hD hS hA kk
theorem call_IN {own host : String} {idx n fr lo nL : Nat} {M : MI} {b : Addr} {As : List Value} (hx : p.tables.exec = Jvm.exec) (hb : c.code = cc) (hml : c.maxLocals = nL) (hown : s.vm.findClass own = some m.cls) (hts : ∀ w ∈ WALL, w.before args s = true) (hK : va_K G classes (TYS ct) s) (hP : va_P G classes w H) (hD : va_D A w) (hS : va_S A s.heap H locs) (hA : ∀ q, s.heap.size ≤ q → A q) (hZ : ENV (l, G, ct, sk, sv) A s)
    (lk : lkN own idx host M n ∧ Cond.instanceMethod M.1 ∈ WALL) (hret : M.2.2.2 = none) (hnm : M.1.name = "<init>") (hM : CtrG (l, G, ct, sk, sv) M fr lo mc ms (.ref b :: As) w B) (hR : fr + 1 ≤ R.frames ∧ 8 + (M.2.2.1 + 11) + lo ≤ R.locals) (hn : As.length = n) (hl : ls.size = nL) (hst : st0 = As.reverse ++ .ref b :: rest) (hW : (rest.map fun v => v.category).sum ≤ 8) (hdg : decode cc pc = .ok (.invokespecial idx, 3)) (hf : cells + mc ≤ R.cells ∧ slots + ms ≤ R.slots)
    (kk : ∀ (r : Option Value) (w' : va_W) (H1 : Heap) (locs1 : List Loc), B r w' → va_P G classes w' H1 → va_D A w' → va_S A s.heap H1 locs1 → W p l e R s m args below meth c H1 locs1 (cells + mc) (slots + ms) Q (F0 m (pc + 3) ls (r.toList ++ rest))) : W p l e R s m args below meth c H locs cells slots Q (F0 m pc ls st0) := by
  obtain ⟨⟨k1, k2, k3, k4⟩, k5⟩ := lk
  obtain ⟨y, bytes, mx, rt⟩ := M
  have hret : rt = none := hret
  subst hret
  refine call_go (w := w) (B := B) (va_runIN (As := As) (rest := rest) (b := b) ⟨hx, hb, hml, hown, hts⟩ (hM H.size) ⟨va_cnB n hts (good_WS (M := (y, bytes, mx, none)) k3) rfl rfl rfl (hZ.1 _ k1) (hts _ k2) k4 hR, hnm, hts _ k5⟩ ⟨pre_blind, pre_now hK hP hD hZ hS hA⟩ rfl hn hl hst (lv_room hW) hdg hf) hD hS hA kk
end MIDY
