abbrev MI : Type := MethodName × ByteArray × Nat × Option FieldType
abbrev EV : Type := Launch × va_G × (Nat → ClassId) × (Nat → Nat) × (Nat → Nat)
abbrev MV : Type := (Nat → Int32) × (Nat → Nat → Int32) × (Nat → Int64)
abbrev WS (M : MI) : List Cond := Cond.code M.1 M.2.1 M.2.2.1 M.2.2.2 :: WALL
theorem good_WS {M : MI} (hc : Cond.code M.1 M.2.1 M.2.2.1 M.2.2.2 ∈ WALL) : GoodIn WALL (WS M) := fun w hw => by
  rcases List.mem_cons.mp hw with rfl | h
  · exact ⟨hc, good_of_word (wall_good hc)⟩
  · exact ⟨h, good_of_word (wall_good h)⟩
theorem good_app {a b : List Cond} (ha : ∀ w ∈ a, w ∈ WALL) (hb : GoodIn WALL b) : GoodIn WALL (a ++ b) := fun w h => (List.mem_append.mp h).elim (fun h => ⟨ha w h, good_of_word (wall_good (ha w h))⟩) (hb w)
abbrev classes : List vw_C := [(RX0, TX0, 0), (RX1, TX1, 16), (RX2, TX2, 0), (RX3, TX3, 9), (RX4, TX4, 3), (RX5, TX5, 0), (RX6, TX6, 6), (RX7, TX7, 0), (RX8, TX8, 4), (RX9, TX9, 0), (RX10, TX10, 0), (RX11, TX11, 11), (RX12, TX12, 21)]
def TYS (ct : Nat → ClassId) : List (ClassId × FieldType) := [(ct 0, .int), (ct 1, .boolean), (ct 2, .byte), (ct 3, .object "SignedOutside$Plain"), (ct 4, .object "SignedOutside$House")]
/-- what every method may use and none changes: links to private members of the nest, the text constants, two statics of the JDK -/
def NWL : List Cond := [(Jvm.Cond.methodLinkNest "SignedOutside" (9 : Nat) ({ cls := "SignedOutside$Plain", name := "<init>", desc := "()V" } : Jvm.MethodName) "SignedOutside"), (Jvm.Cond.methodLinkNest "SignedOutside" (12 : Nat) ({ cls := "SignedOutside$Lord", name := "<init>", desc := "()V" } : Jvm.MethodName) "SignedOutside"), (Jvm.Cond.methodLinkNest "SignedOutside$Lord" (1 : Nat) ({ cls := "SignedOutside$Plain", name := "<init>", desc := "()V" } : Jvm.MethodName) "SignedOutside"), (Jvm.Cond.methodLinkNest "SignedOutside" (15 : Nat) ({ cls := "SignedOutside$Sick", name := "<init>", desc := "()V" } : Jvm.MethodName) "SignedOutside"), (Jvm.Cond.methodLinkNest "SignedOutside$Sick" (1 : Nat) ({ cls := "SignedOutside$Plain", name := "<init>", desc := "()V" } : Jvm.MethodName) "SignedOutside"), (Jvm.Cond.methodLinkNest "SignedOutside" (18 : Nat) ({ cls := "SignedOutside$Travels", name := "<init>", desc := "()V" } : Jvm.MethodName) "SignedOutside"), (Jvm.Cond.methodLinkNest "SignedOutside$Travels" (1 : Nat) ({ cls := "SignedOutside$Plain", name := "<init>", desc := "()V" } : Jvm.MethodName) "SignedOutside"), (Jvm.Cond.methodLinkNest "SignedOutside" (21 : Nat) ({ cls := "SignedOutside$Dead", name := "<init>", desc := "()V" } : Jvm.MethodName) "SignedOutside"), (Jvm.Cond.methodLinkNest "SignedOutside$Dead" (1 : Nat) ({ cls := "SignedOutside$Sick", name := "<init>", desc := "()V" } : Jvm.MethodName) "SignedOutside"), (Jvm.Cond.methodLinkNest "SignedOutside" (24 : Nat) ({ cls := "SignedOutside$Steward", name := "<init>", desc := "()V" } : Jvm.MethodName) "SignedOutside"), (Jvm.Cond.methodLinkNest "SignedOutside$Steward" (1 : Nat) ({ cls := "SignedOutside$Lord", name := "<init>", desc := "()V" } : Jvm.MethodName) "SignedOutside"), (Jvm.Cond.methodLinkNest "SignedOutside$House" (35 : Nat) ({ cls := "SignedOutside$Slips", name := "<init>", desc := "()V" } : Jvm.MethodName) "SignedOutside"), (Jvm.Cond.methodLinkNest "SignedOutside$House" (45 : Nat) ({ cls := "SignedOutside$Past", name := "<init>", desc := "()V" } : Jvm.MethodName) "SignedOutside"), (Jvm.Cond.methodLinkNest "SignedOutside" (49 : Nat) ({ cls := "SignedOutside$Names", name := "<init>", desc := "()V" } : Jvm.MethodName) "SignedOutside"), (Jvm.Cond.methodLinkNest "SignedOutside" (56 : Nat) ({ cls := "SignedOutside$Reader", name := "<init>", desc := "()V" } : Jvm.MethodName) "SignedOutside"), (Jvm.Cond.methodLinkNest "SignedOutside$Reader" (84 : Nat) ({ cls := "SignedOutside", name := "within", desc := "(III)Z" } : Jvm.MethodName) "SignedOutside")]
def STL : List (Nat × String × Nat) := [(25, "house", 0), (38, "member", 1), (44, "letter", 2), (49, "frank", 3)]
def CSL : List String := ["SignedOutside$Lord", "SignedOutside$Sick", "SignedOutside$Travels", "SignedOutside$Dead", "SignedOutside$Steward"]
def lenJ : List Nat := [5, 6, 6, 5]
def bytJ : List (List Int32) := [[104, 111, 117, 115, 101], [109, 101, 109, 98, 101, 114], [108, 101, 116, 116, 101, 114], [102, 114, 97, 110, 107]]
def ENV (E : EV) (A : Nat → Prop) (U : State) : Prop := (∀ w ∈ NWL, va_Nw w U) ∧ vk_S 4 lenJ bytJ E.2.2.2.1 E.2.2.2.2 A U U.heap ∧ (∀ q ∈ STL, vk_R "SignedOutside$Reader" q.1 q.2.1 (E.2.2.2.1 q.2.2) U) ∧ va_Z "java/lang/String" "COMPACT_STRINGS" "Z" (.int 1) A U U.heap ∧ va_Zq "jdk/internal/util/Preconditions" "SIOOBE_FORMATTER" "Ljava/util/function/BiFunction;" A U U.heap ∧ (∀ C ∈ CSL, va_Nw (.castable C "SignedOutside$Plain") U) ∧ va_AO "SignedOutside$Plain" U ∧ va_AO "SignedOutside$House" U
theorem nwl_nest : ∀ w ∈ NWL, ∃ a i x h, w = Cond.methodLinkNest a i x h := by
  intro w hw
  simp only [NWL, List.mem_cons, List.not_mem_nil, or_false] at hw
  rcases hw with rfl | rfl | rfl | rfl | rfl | rfl | rfl | rfl | rfl | rfl | rfl | rfl | rfl | rfl | rfl | rfl <;> exact ⟨_, _, _, _, rfl⟩
theorem ENV.now {E : EV} {A A' : Nat → Prop} {s U : State} {H : Heap} {locs : List Loc} (h : ENV E A s) (hS : va_S A s.heap H locs) (hA : ∀ q, A' q → A q) (hU : U.heap = H) (hW : s.WarmedH U.vm) : ENV E A' U := by
  obtain ⟨h1, h2, h3, h4, h5, h6, h7, h8⟩ := h
  refine ⟨fun w hw => ?_, ?_, fun q hq => (h3 q hq).warm hW, ?_, ?_, fun C hC => va_Nw.warmC hW (h6 C hC), h7.moved hW.alike, h8.moved hW.alike⟩
  · obtain ⟨a, i, x, hh, rfl⟩ := nwl_nest w hw
    exact va_Nw.warmM hW (h1 _ hw)
  · rw [hU]; exact ((h2.kept hS.2.1).moved hW.alike).narrow hA
  · rw [hU]; exact ((h4.kept hS.2.1).moved hW.alike).narrow hA
  · rw [hU]; exact ((h5.kept hS.2.1).moved hW.alike).narrow hA
theorem ENV.narrow {E : EV} {A A' : Nat → Prop} {s : State} (h : ENV E A s) (hA : ∀ q, A' q → A q) : ENV E A' s := by
  obtain ⟨h1, h2, h3, h4, h5, h6⟩ := h
  exact ⟨h1, h2.narrow hA, h3, h4.narrow hA, h5.narrow hA, h6⟩
theorem ENV.same {E : EV} {A : Nat → Prop} {s U : State} (h : ENV E A s) (hH : U.heap = s.heap) (hv : U.vm = s.vm) : ENV E A U := by
  obtain ⟨h1, h2, h3, h4, h5, h6, h7, h8⟩ := h
  have hal : s.vm.Alike U.vm := by rw [hv]; exact Vm.Alike.refl s.vm
  refine ⟨fun w hw => ?_, ?_, fun q hq => (h3 q hq).same hv, ?_, ?_, fun C hC => va_Nw.same rfl hv.symm (h6 C hC), h7.moved hal, h8.moved hal⟩
  · obtain ⟨a, i, x, hh, rfl⟩ := nwl_nest w hw
    exact va_Nw.same rfl hv.symm (h1 _ hw)
  · rw [hH]; exact h2.moved hal
  · rw [hH]; exact h4.moved hal
  · rw [hH]; exact h5.moved hal
def PRE (E : EV) (w : va_W) (sz : Nat) (U : State) : Prop := U.heap.size = sz ∧ va_P E.2.1 classes w U.heap ∧ va_K E.2.1 classes (TYS E.2.2.1) U ∧ va_D (fun _ => True) w ∧ ENV E (va_A w sz) U
def POST (E : EV) (A : Nat → Prop) (B : Option Value → va_W → Prop) : Array Value → State → Outcome → State → Prop := fun _ st oc t => (∃ (r : Option Value) (w' : va_W), oc = .returned r ∧ B r w' ∧ va_P E.2.1 classes w' t.heap ∧ va_K E.2.1 classes (TYS E.2.2.1) t ∧ va_D A w') ∧ va_F A st t
abbrev RM (fr lo mc ms : Nat) : Room := { frames := fr, cells := mc, slots := ms, locals := lo }
def CtrG (E : EV) (M : MI) (fr lo mc ms : Nat) (av : List Value) (w : va_W) (B : Option Value → va_W → Prop) : Prop :=
  ∀ sz : Nat, Met E.1 M.1 (WS M) (RM fr lo mc ms) (va_Pc av (PRE E w sz)) (POST E (va_A w sz) B) mc ms (va_A w sz)
abbrev Eq2 (r : Option Value) (w : va_W) : Option Value → va_W → Prop := fun r' w' => r' = r ∧ w' = w
abbrev Ctr (E : EV) (M : MI) (fr lo : Nat) (av : List Value) (w w' : va_W) (r : Option Value) : Prop := CtrG E M fr lo 0 0 av w (Eq2 r w')
def AMB (E : EV) (p : Program) (s : State) (m : MethodId) (args : Array Value) (meth : Method) (c : Code) (M : MI) (A : Nat → Prop) : Prop :=
  p.tables.exec = Jvm.exec ∧ c.code = M.2.1 ∧ c.maxLocals = M.2.2.1 ∧ s.vm.findClass M.1.cls = some m.cls ∧ (∀ w ∈ WALL, w.before args s = true) ∧ meth.sig.returnType = M.2.2.2 ∧ meth.locks = false ∧ va_K E.2.1 classes (TYS E.2.2.1) s ∧ meth.name = M.1.name ∧ ENV E A s
theorem ctr_intro {E : EV} {M : MI} {fr lo mc ms : Nat} {av : List Value} {w : va_W} {B : Option Value → va_W → Prop} (hpn : plainName M.1.cls = true) (hlen : (lg_sl av).length ≤ M.2.2.1)
    (body : ∀ (p : Program) (e : Env) (s : State) (m : MethodId) (args : Array Value) (below : List Frame) (meth : Method) (c : Code) (A : Nat → Prop), AMB E p s m args meth c M A → va_P E.2.1 classes w s.heap → va_D A w → va_S A s.heap s.heap [] → (∀ q : Nat, s.heap.size ≤ q → A q) → ∀ ls : Array Slot, lv_has ls M.2.2.1 (lv_args 0 av) →
      W p E.1 e (RM fr lo mc ms) s m args below meth c s.heap [] 0 0 (MQ below (POST E A B) args s mc ms A) (F0 m 0 ls [])) : CtrG E M fr lo mc ms av w B := by
  intro sz
  refine Met.ofW (cc := M.2.1) (maxL := M.2.2.1) (ret := M.2.2.2) hpn rfl ?_
  intro p e s m args below meth c s₁ Bd hml hv
  obtain ⟨rfl, hsz, hP, hK, hD0, hZ⟩ := hv
  have hts := atoms_spec (ws := WS M) Bd.pre
  have hown : s.vm.findClass M.1.cls = some m.cls := findClass_of_methodNamed Bd.named
  subst hsz
  have hD := hD0.self (sz := s.heap.size)
  have hl := lv_entry av (n := M.2.2.1) hlen
  rw [lg_entry_eq]
  refine body p e s m _ below meth c (va_A w s.heap.size) ⟨Bd.exec, Bd.bytes, hml, hown, fun w' hw' => hts w' (List.mem_cons_of_mem _ hw'), Bd.returns, Bd.notSynchronized, hK, (name_of_methodNamed Bd.named Bd.method).1, hZ⟩ hP hD va_S.rf (fun q h => Or.inr h) _ hl
theorem va_A_sub {w W : va_W} (isC : List Nat) (hC : isC.map (fun i => W[i]?) = w.map some) {sz : Nat} : ∀ q, va_A w sz q → va_A W sz q := by
  intro q h
  rcases h with ⟨k, e, h⟩ | h
  · have h1 : (isC.map (fun i => W[i]?))[k]? = some (some (q, e)) := by rw [hC, List.getElem?_map, h]; rfl
    rw [List.getElem?_map] at h1
    cases hi : isC[k]? with
    | none => rw [hi] at h1; cases h1
    | some i => rw [hi] at h1; exact Or.inl ⟨i, e, Option.some.inj h1⟩
  · exact Or.inr h
theorem P_pick {D : va_G} {cl : List vw_C} {w W : va_W} {H : Heap} (h : va_P D cl W H) (is : List Nat) (hs : is.map (fun i => W[i]?) = w.map some) : va_P D cl w H := by
  intro k q hk
  have h1 : (is.map (fun i => W[i]?))[k]? = some (some q) := by rw [hs, List.getElem?_map, hk]; rfl
  rw [List.getElem?_map] at h1
  cases hi : is[k]? with
  | none => rw [hi] at h1; cases h1
  | some i => rw [hi] at h1; exact h i q (Option.some.inj h1)
/-- a contract holds over a larger world: the rest stays -/
theorem CtrG.lift {E : EV} {M : MI} {fr lo mc ms : Nat} {av : List Value} {w W wr : va_W} {B B' : Option Value → va_W → Prop} (h : CtrG E M fr lo mc ms av w B) (isC isR : List Nat) (hC : isC.map (fun i => W[i]?) = w.map some) (hnC : va_nd isC = true) (hR : isR.map (fun i => W[i]?) = wr.map some) (hn : va_nd isR = true) (hdis : ∀ i ∈ isR, i ∉ isC)
    (hB : ∀ (r : Option Value) (w' : va_W), B r w' → ∃ (W' : va_W) (pm : List Nat), B' r W' ∧ pm.map (fun i => (wr ++ w')[i]?) = W'.map some ∧ va_nd pm = true) : CtrG E M fr lo mc ms av W B' := by
  intro sz
  refine MetFree.mono (h sz) ?_ (fun _ _ _ _ _ h => h) ?_
  · rintro a s ⟨h1, h2, h3, h4, h5, h6⟩
    exact ⟨h1, h2, P_pick h3 isC hC, h4, h5.sub isC hnC hC, h6.narrow (va_A_sub isC hC)⟩
  · rintro a s o t ⟨-, h2, h3, h4, h5, -⟩ ⟨⟨⟨r, w', e1, e2, e3, e4, e5⟩, e6⟩, L, e7, e8⟩
    have hF : ∀ q, va_A w sz q → va_A W sz q := va_A_sub isC hC
    obtain ⟨W', pm, f1, f2, f3⟩ := hB r w' e2
    subst h2
    obtain ⟨g1, g2⟩ := va_join (wr := wr) (w1 := w') h3 (h5.self (sz := s.heap.size)) isC isR hC hR hn hdis e6.2 hF e3 e5
    exact ⟨⟨⟨r, W', e1, f1, P_pick g1 pm f2, e4, g2.sub pm f3 f2⟩, e6.1, fun q q1 q2 => e6.2 q q1 (fun z => q2 (hF q z))⟩, L, e7, fun q hq => hF _ (e8 q hq)⟩
theorem Ctr.up {E : EV} {M : MI} {fr lo : Nat} {av : List Value} {w W w' W' : va_W} {r : Option Value} (h : Ctr E M fr lo av w w' r) (isC isR pm : List Nat) (hC : isC.map (fun i => W[i]?) = w.map some) (hnC : va_nd isC = true) (hR : isR.map (fun i => W[i]?) = (isR.filterMap (fun i => W[i]?)).map some) (hn : va_nd isR = true) (hdis : ∀ i ∈ isR, i ∉ isC) (hpm : pm.map (fun i => (isR.filterMap (fun i => W[i]?) ++ w')[i]?) = W'.map some) (hnp : va_nd pm = true) : Ctr E M fr lo av W W' r :=
  CtrG.lift h isC isR hC hnC hR hn hdis (fun _ _ hb => ⟨W', pm, ⟨hb.1, rfl⟩, by rw [hb.2]; exact hpm, hnp⟩)
section MIDW
variable {p : Program} {l : Launch} {e : Env} {R : Room} {s : State} {m : MethodId} {args : Array Value} {below : List Frame} {meth : Method} {c : Code} {H : Heap} {locs : List Loc} {cells slots : Nat} {Q : State → Prop}
variable {pc : Nat} {ls : Array Slot} {rest st0 : List Value} {a : Array Value} {A : Nat → Prop} {H0 : Heap} {mc ms : Nat} {G : va_G} {ct : Nat → ClassId} {sk sv : Nat → Nat} {cc : ByteArray} {w w' : va_W} {B : Option Value → va_W → Prop}
theorem call_go (hr : va_Run p l e R s m args below meth c H locs cells slots mc ms (F0 m pc ls st0) rest (POST (l, G, ct, sk, sv) (va_A w H.size) B a) (va_A w H.size)) (hD : va_D A w) (hS : va_S A H0 H locs) (hA : ∀ q, H0.size ≤ q → A q)
    (kk : ∀ (r : Option Value) (w' : va_W) (H1 : Heap) (locs1 : List Loc), B r w' → va_P G classes w' H1 → va_D A w' → va_S A H0 H1 locs1 → W p l e R s m args below meth c H1 locs1 (cells + mc) (slots + ms) Q (F0 m (pc + 3) ls (r.toList ++ rest))) : W p l e R s m args below meth c H locs cells slots Q (F0 m pc ls st0) := by
  intro T hT X
  obtain ⟨v, st₀, t, T', L, h0, X', hL, e1, e2, ⟨⟨r, w', hv, hB, hp1, hk1, hd1⟩, hz, hk⟩, st⟩ := hr T hT X
  cases hv
  rw [h0] at hz hk
  have hF : ∀ q, va_A w H.size q → A q := fun q h => by
    rcases h with ⟨k, e, h⟩ | h
    · exact hD.2 k _ h
    · exact hA q (Nat.le_trans hS.1 h)
  obtain ⟨t2, a1, b1⟩ := kk v w' T'.heap (locs ++ L) hB (by rw [e1]; exact hp1) (hd1.weaken (fun k q _ h => hF q.1 h))
    ⟨Nat.le_trans hS.1 (by rw [e1]; exact hz), fun q h1 h2 => by rw [e1, hk q (Nat.lt_of_lt_of_le h1 hS.1) (fun z => h2 (hF q z))]; exact hS.2.1 q h1 h2, fun q hq => by
      rcases List.mem_append.mp hq with h | h
      · exact hS.2.2 q h
      · exact hF _ (hL q h)⟩ T' rfl X'
  exact ⟨t2, st t2 a1, b1⟩
theorem pre_blind {E : EV} {av : List Value} {w : va_W} {sz : Nat} : FrameBlind (va_Pc av (PRE E w sz)) := fun a U g mk q => by
  obtain ⟨q0, q1, qP, qK, qD, qZ⟩ := q
  exact ⟨q0, q1, qP, va_K.moved (u := U) (U := U.calling g mk a) (Vm.Alike.refl U.vm) qK, qD, qZ.same rfl rfl⟩
theorem free_sub (hD : va_D A w) (hS : va_S A H0 H locs) (hA : ∀ q, H0.size ≤ q → A q) : ∀ q, va_A w H.size q → A q := fun q h => by
  rcases h with ⟨k, e, h⟩ | h
  · exact hD.2 k _ h
  · exact hA q (Nat.le_trans hS.1 h)
theorem pre_now {av : List Value} (hK : va_K G classes (TYS ct) s) (hP : va_P G classes w H) (hD : va_D A w) (hZ : ENV (l, G, ct, sk, sv) A s) (hS : va_S A s.heap H locs) (hA : ∀ q, s.heap.size ≤ q → A q) : ∀ U : State, U.heap = H → s.WarmedH U.vm → va_Pc av (PRE (l, G, ct, sk, sv) w H.size) av.toArray U := fun U hU hW => ⟨rfl, by rw [hU], by rw [hU]; exact hP, va_K.moved hW.alike hK, hD.weaken (fun _ _ _ _ => trivial), hZ.now hS (free_sub hD hS hA) hU hW⟩
/-- the words of a call: virtual, on the class that declares it -/
def lkV (own : String) (idx : Nat) (M : MI) (n : Nat) : Prop := (∀ w ∈ wsV own idx M.1.cls M.1 [], w ∈ WALL) ∧ Cond.code M.1 M.2.1 M.2.2.1 M.2.2.2 ∈ WALL ∧ M.1.cls = M.1.cls ∧ M.1.cls ≠ "java/lang/invoke/MethodHandle" ∧ M.1.cls ≠ "java/lang/invoke/VarHandle" ∧ (parseMethodDescriptor M.1.desc).map (fun d => d.parameters.length) = some n
def lkS (own : String) (idx : Nat) (M : MI) (n : Nat) : Prop := Cond.methodLink own idx M.1 ∈ WALL ∧ Cond.static M.1 ∈ WALL ∧ Cond.initialized M.1.cls ∈ WALL ∧ Cond.code M.1 M.2.1 M.2.2.1 M.2.2.2 ∈ WALL ∧ M.1.cls ≠ "java/lang/invoke/MethodHandle" ∧ M.1.cls ≠ "java/lang/invoke/VarHandle" ∧ (parseMethodDescriptor M.1.desc).map (fun d => d.parameters.length) = some n
theorem call_V {own : String} {idx n fr lo nL : Nat} {M : MI} {b : Addr} {As : List Value} {ci : Nat} {fs : List Value} {T : u_T} {N : Nat} (hx : p.tables.exec = Jvm.exec) (hb : c.code = cc) (hml : c.maxLocals = nL) (hown : s.vm.findClass own = some m.cls) (hts : ∀ w ∈ WALL, w.before args s = true) (hK : va_K G classes (TYS ct) s) (hP : va_P G classes w H) (hD : va_D A w) (hS : va_S A s.heap H locs) (hA : ∀ q, s.heap.size ≤ q → A q) (hZ : ENV (l, G, ct, sk, sv) A s)
    (lk : lkV own idx M n) (hM : CtrG (l, G, ct, sk, sv) M fr lo mc ms (.ref b :: As) w B) (q0 : Nat) (he : w[q0]? = some (b, .inr (ci, fs))) (hc : classes[ci]? = some (M.1.cls, T, N)) (hR : fr + 1 ≤ R.frames ∧ 8 + (M.2.2.1 + 11) + lo ≤ R.locals) (hn : As.length = n) (hl : ls.size = nL) (hst : st0 = As.reverse ++ .ref b :: rest) (hW : (rest.map fun v => v.category).sum ≤ 8) (hdg : decode cc pc = .ok (.invokevirtual idx, 3)) (hf : cells + mc ≤ R.cells ∧ slots + ms ≤ R.slots)
    (kk : ∀ (r : Option Value) (w' : va_W) (H1 : Heap) (locs1 : List Loc), B r w' → va_P G classes w' H1 → va_D A w' → va_S A s.heap H1 locs1 → W p l e R s m args below meth c H1 locs1 (cells + mc) (slots + ms) Q (F0 m (pc + 3) ls (r.toList ++ rest))) : W p l e R s m args below meth c H locs cells slots Q (F0 m pc ls st0) := by
  obtain ⟨k1, k2, k3, k4⟩ := lk
  refine call_go (w := w) (B := B) (va_runV (C := M.1.cls) (As := As) (rest := rest) (b := b) ⟨hx, hb, hml, hown, hts⟩ (hM H.size) (cwV n hts (good_app k1 (good_WS k2)) rfl rfl rfl ⟨k3, k4⟩ hR) ⟨pre_blind, va_recv hK hP hc he, pre_now hK hP hD hZ hS hA⟩ rfl hn hl hst (lv_room hW) hdg hf) hD hS hA kk
theorem call_S {own : String} {idx n fr lo nL : Nat} {M : MI} {As : List Value} (hx : p.tables.exec = Jvm.exec) (hb : c.code = cc) (hml : c.maxLocals = nL) (hown : s.vm.findClass own = some m.cls) (hts : ∀ w ∈ WALL, w.before args s = true) (hK : va_K G classes (TYS ct) s) (hP : va_P G classes w H) (hD : va_D A w) (hS : va_S A s.heap H locs) (hA : ∀ q, s.heap.size ≤ q → A q) (hZ : ENV (l, G, ct, sk, sv) A s)
    (lk : lkS own idx M n) (hM : CtrG (l, G, ct, sk, sv) M fr lo mc ms As w B) (hR : fr + 1 ≤ R.frames ∧ 8 + (M.2.2.1 + 11) + lo ≤ R.locals) (hn : As.length = n) (hl : ls.size = nL) (hst : st0 = As.reverse ++ rest) (hW : (rest.map fun v => v.category).sum ≤ 8) (hdg : decode cc pc = .ok (.invokestatic idx, 3)) (hf : cells + mc ≤ R.cells ∧ slots + ms ≤ R.slots)
    (kk : ∀ (r : Option Value) (w' : va_W) (H1 : Heap) (locs1 : List Loc), B r w' → va_P G classes w' H1 → va_D A w' → va_S A s.heap H1 locs1 → W p l e R s m args below meth c H1 locs1 (cells + mc) (slots + ms) Q (F0 m (pc + 3) ls (r.toList ++ rest))) : W p l e R s m args below meth c H locs cells slots Q (F0 m pc ls st0) := by
  obtain ⟨k1, k2, k3, k4, k5⟩ := lk
  refine call_go (w := w) (B := B) (va_runS (As := As) (rest := rest) ⟨hx, hb, hml, hown, hts⟩ (hM H.size) ⟨callB_of n hts (good_WS k4) rfl rfl rfl (hts _ k3) (hts _ k1) k5 hR, hts _ k2⟩ ⟨pre_blind, pre_now hK hP hD hZ hS hA⟩ rfl hn hl hst (lv_room hW) hdg hf) hD hS hA kk
/-- ends -/
theorem end_i {v : Int32} (hx : p.tables.exec = Jvm.exec) (hb : c.code = cc) (hr : meth.sig.returnType = some .int) (hlocks : meth.locks = false) (hK : va_K G classes (TYS ct) s) (hP : va_P G classes w' H) (hD : va_D A w') (hS : va_S A s.heap H locs) (hdg : decode cc pc = .ok (.ireturn, 1)) (hB : B (some (.int v)) w') : W p l e R s m args below meth c H locs cells slots (MQ below (POST (l, G, ct, sk, sv) A B) args s cells slots A) (F0 m pc ls [.int v]) :=
  W.iret (v := v) hx hb hr (fun t ht hW => ⟨⟨_, w', rfl, hB, by rw [ht]; exact hP, va_K.moved hW.alike hK, hD⟩, hS.F ht⟩) hS.2.2 hdg hlocks
theorem end_z {v : Int32} (hx : p.tables.exec = Jvm.exec) (hb : c.code = cc) (hr : meth.sig.returnType = some .boolean) (hlocks : meth.locks = false) (hK : va_K G classes (TYS ct) s) (hP : va_P G classes w' H) (hD : va_D A w') (hS : va_S A s.heap H locs) (hdg : decode cc pc = .ok (.ireturn, 1)) (hv : v = 0 ∨ v = 1) (hB : B (some (.int v)) w') : W p l e R s m args below meth c H locs cells slots (MQ below (POST (l, G, ct, sk, sv) A B) args s cells slots A) (F0 m pc ls [.int v]) :=
  W.zret (v := v) hx hb hr (by rcases hv with rfl | rfl <;> rfl) (fun t ht hW => ⟨⟨_, w', rfl, hB, by rw [ht]; exact hP, va_K.moved hW.alike hK, hD⟩, hS.F ht⟩) hS.2.2 hdg hlocks
theorem end_v (hx : p.tables.exec = Jvm.exec) (hb : c.code = cc) (hr : meth.sig.returnType = none) (hlocks : meth.locks = false) (hK : va_K G classes (TYS ct) s) (hP : va_P G classes w' H) (hD : va_D A w') (hS : va_S A s.heap H locs) (hdg : decode cc pc = .ok (.return_, 1)) (hB : B none w') : W p l e R s m args below meth c H locs cells slots (MQ below (POST (l, G, ct, sk, sv) A B) args s cells slots A) (F0 m pc ls []) :=
  W.vret hx hb hr (fun t ht hW => ⟨⟨_, w', rfl, hB, by rw [ht]; exact hP, va_K.moved hW.alike hK, hD⟩, hS.F ht⟩) hS.2.2 hdg hlocks
end MIDW
/-- pure layer -/
noncomputable def gd {α : Type} (c : Prop) (x : Option α) : Option α := @ite _ c (Classical.propDecidable c) x none
theorem gd_e {α : Type} {c : Prop} {x : Option α} {r : α} (h : gd c x = some r) : c ∧ x = some r := by
  unfold gd at h
  by_cases hc : c
  · rw [if_pos hc] at h; exact ⟨hc, h⟩
  · rw [if_neg hc] at h; cases h
theorem gd_t {α : Type} {c : Prop} {x : Option α} (h : c) : gd c x = x := by
  unfold gd
  rw [if_pos h]
def bd {α β : Type} (x : Option α) (k : α → Option β) : Option β := match x with
  | none => none
  | some a => k a
theorem bd_e {α β : Type} {x : Option α} {k : α → Option β} {r : β} (h : bd x k = some r) : ∃ a, x = some a ∧ k a = some r := by
  cases x with
  | none => cases h
  | some a => exact ⟨a, rfl, h⟩
def lp {σ ρ : Type} (body : σ → Option (σ ⊕ ρ)) : Nat → σ → Option ρ
  | 0, _ => none
  | n + 1, s => match body s with
    | none => none
    | some (.inl s') => lp body n s'
    | some (.inr r) => some r
theorem lp_e {σ ρ : Type} {body : σ → Option (σ ⊕ ρ)} {n : Nat} {s : σ} {r : ρ} (h : lp body (n + 1) s = some r) : ∃ q, body s = some q ∧ ((∃ s', q = .inl s' ∧ lp body n s' = some r) ∨ q = .inr r) := by
  unfold lp at h
  cases hb : body s with
  | none => rw [hb] at h; cases h
  | some q =>
    rw [hb] at h
    refine ⟨q, rfl, ?_⟩
    cases q with
    | inl s' => exact Or.inl ⟨s', rfl, h⟩
    | inr r' => exact Or.inr (by cases h; rfl)
