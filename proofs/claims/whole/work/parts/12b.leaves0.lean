/-! worlds as lists of leaves; a contract over some of the leaves holds over all -/
abbrev wl (A : List va_W) : va_W := A.flatten
theorem D_nodup {A : Nat → Prop} {ws : va_W} (h : va_D A ws) : (ws.map (fun q => q.1)).Nodup := by
  rw [List.Nodup, List.pairwise_iff_getElem]
  intro i j hi hj hij heq
  have hi' : i < ws.length := by simpa using hi
  have hj' : j < ws.length := by simpa using hj
  have := h.1 i j ws[i] ws[j] (List.getElem?_eq_getElem hi') (List.getElem?_eq_getElem hj') (by simpa using heq)
  omega
theorem nodup_D {A : Nat → Prop} {ws : va_W} (h : (ws.map (fun q => q.1)).Nodup) (hA : ∀ q ∈ ws, A q.1) : va_D A ws := by
  refine ⟨fun i j p q hp hq e => ?_, fun k q hk => hA q (List.mem_of_getElem? hk)⟩
  rw [List.Nodup, List.pairwise_iff_getElem] at h
  obtain ⟨hi, hp⟩ := List.getElem?_eq_some_iff.mp hp
  obtain ⟨hj, hq⟩ := List.getElem?_eq_some_iff.mp hq
  rcases Nat.lt_trichotomy i j with hij | hij | hij
  · exact (h i j (by simpa using hi) (by simpa using hj) hij (by simp [hp, hq, e])).elim
  · exact hij
  · exact (h j i (by simpa using hj) (by simpa using hi) hij (by simp [hp, hq, e])).elim
theorem P_mem {D : va_G} {cl : List vw_C} {ws : va_W} {H : Heap} : va_P D cl ws H ↔ ∀ q ∈ ws, va_at D cl q H := by
  constructor
  · intro h q hq
    obtain ⟨k, hk⟩ := List.mem_iff_getElem?.mp hq
    exact h k q hk
  · exact fun h k q hk => h q (List.mem_of_getElem? hk)
theorem A_mem {ws : va_W} {sz x : Nat} : va_A ws sz x ↔ (∃ e, (x, e) ∈ ws) ∨ sz ≤ x := by
  constructor
  · rintro (⟨k, e, h⟩ | h)
    · exact Or.inl ⟨e, List.mem_of_getElem? h⟩
    · exact Or.inr h
  · rintro (⟨e, h⟩ | h)
    · obtain ⟨k, hk⟩ := List.mem_iff_getElem?.mp h
      exact Or.inl ⟨k, e, hk⟩
    · exact Or.inr h
theorem D_perm {A : Nat → Prop} {w W : va_W} (h : va_D A w) (hp : w.Perm W) : va_D A W :=
  nodup_D ((hp.map _).nodup_iff.mp (D_nodup h)) (fun q hq => by
    obtain ⟨k, hk⟩ := List.mem_iff_getElem?.mp (hp.mem_iff.mpr hq)
    exact h.2 k q hk)
theorem A_perm {w W : va_W} (hp : w.Perm W) {sz x : Nat} : va_A w sz x ↔ va_A W sz x := by
  rw [A_mem, A_mem]
  constructor
  · rintro (⟨e, h⟩ | h)
    · exact Or.inl ⟨e, hp.mem_iff.mp h⟩
    · exact Or.inr h
  · rintro (⟨e, h⟩ | h)
    · exact Or.inl ⟨e, hp.mem_iff.mpr h⟩
    · exact Or.inr h
theorem CtrG.perm {E : EV} {M : MI} {fr lo mc ms : Nat} {av : List Value} {w W : va_W} {B B' : Option Value → va_W → Prop} (h : CtrG E M fr lo mc ms av w B) (hp : W.Perm w) (hB : ∀ r w', B r w' → ∃ W', B' r W' ∧ W'.Perm w') : CtrG E M fr lo mc ms av W B' := by
  intro sz
  refine MetFree.mono (h sz) ?_ (fun _ _ _ _ _ h => h) ?_
  · rintro a s ⟨h1, h2, h3, h4, h5, h6⟩
    exact ⟨h1, h2, P_mem.mpr (fun q hq => P_mem.mp h3 q (hp.mem_iff.mpr hq)), h4, D_perm h5 hp, h6.narrow (fun q hq => (A_perm hp).mpr hq)⟩
  · rintro a s o t ⟨-, h2, h3, h4, h5, -⟩ ⟨⟨⟨r, w', e1, e2, e3, e4, e5⟩, e6⟩, L, e7, e8⟩
    obtain ⟨W', f1, f2⟩ := hB r w' e2
    exact ⟨⟨⟨r, W', e1, f1, P_mem.mpr (fun q hq => P_mem.mp e3 q (f2.mem_iff.mp hq)), e4, (D_perm e5 f2.symm).weaken (fun k q _ hq => (A_perm hp).mpr hq)⟩, e6.1, fun q q1 q2 => e6.2 q q1 (fun z => q2 ((A_perm hp).mpr z))⟩, L, e7, fun q hq => (A_perm hp).mpr (e8 q hq)⟩
theorem CtrG.frame {E : EV} {M : MI} {fr lo mc ms : Nat} {av : List Value} {w : va_W} (wr : va_W) {B : Option Value → va_W → Prop} (h : CtrG E M fr lo mc ms av w B) : CtrG E M fr lo mc ms av (w ++ wr) (fun r W' => ∃ w', B r w' ∧ W' = w' ++ wr) := by
  intro sz
  have hF : ∀ q, va_A w sz q → va_A (w ++ wr) sz q := fun q hq => by
    rw [A_mem] at hq ⊢
    rcases hq with ⟨e, hq⟩ | hq
    · exact Or.inl ⟨e, List.mem_append_left _ hq⟩
    · exact Or.inr hq
  refine MetFree.mono (h sz) ?_ (fun _ _ _ _ _ h => h) ?_
  · rintro a s ⟨h1, h2, h3, h4, h5, h6⟩
    refine ⟨h1, h2, P_mem.mpr (fun q hq => P_mem.mp h3 q (List.mem_append_left _ hq)), h4, ?_, h6.narrow hF⟩
    have hn := D_nodup h5
    rw [List.map_append] at hn
    exact nodup_D (List.nodup_append.mp hn).1 (fun _ _ => trivial)
  · rintro a s o t ⟨-, h2, h3, h4, h5, -⟩ ⟨⟨⟨r, w', e1, e2, e3, e4, e5⟩, e6⟩, L, e7, e8⟩
    have hn := D_nodup h5
    rw [List.map_append] at hn
    obtain ⟨-, n2, n3⟩ := List.nodup_append.mp hn
    have hout : ∀ q ∈ wr, q.1 < s.heap.size ∧ ¬ va_A w sz q.1 := by
      intro q hq
      have hl : q.1 < s.heap.size := (P_mem.mp h3 q (List.mem_append_right _ hq)).lt
      refine ⟨hl, fun z => ?_⟩
      rw [A_mem] at z
      rcases z with ⟨e, z⟩ | z
      · exact n3 q.1 (List.mem_map.mpr ⟨_, z, rfl⟩) q.1 (List.mem_map.mpr ⟨q, hq, rfl⟩) rfl
      · omega
    refine ⟨⟨⟨r, w' ++ wr, e1, ⟨w', e2, rfl⟩, ?_, e4, ?_⟩, e6.1, fun q q1 q2 => e6.2 q q1 (fun z => q2 (hF q z))⟩, L, e7, fun q hq => hF _ (e8 q hq)⟩
    · refine e3.app (P_mem.mpr (fun q hq => ?_))
      exact (P_mem.mp h3 q (List.mem_append_right _ hq)).kept (e6.2 q.1 (hout q hq).1 (hout q hq).2)
    · refine va_D.app (e5.weaken (fun k q _ hq => hF q.1 hq)) (nodup_D n2 (fun q hq => ?_)) (fun i j x y hx hy e => ?_)
      · exact (A_mem).mpr (Or.inl ⟨q.2, List.mem_append_right _ hq⟩)
      · exact (hout y (List.mem_of_getElem? hy)).2 (e ▸ e5.2 i x hx)
theorem perm_ix {α : Type} {d : α} (X : List α) (is : List Nat) (h : is.Perm (List.range X.length)) {Y : List α} (e : is.map (fun i => X.getD i d) = Y) : X.Perm Y := by
  have h1 : (List.range X.length).map (fun i => X.getD i d) = X := by
    apply List.ext_getElem?
    intro i
    by_cases hi : i < X.length
    · simp [hi]
    · simp [Nat.not_lt.mp hi]
  have h2 := h.map (fun i => X.getD i d)
  rw [h1, e] at h2
  exact h2.symm
theorem Ctr.upL {E : EV} {M : MI} {fr lo : Nat} {av : List Value} {A A' : List va_W} {r : Option Value} (h : Ctr E M fr lo av (wl A) (wl A') r) (R X X' : List va_W) (is : List Nat) (n : Nat) (h1 : is.Perm (List.range n)) (n1 : X.length = n) (n2 : X'.length = n) (e1 : is.map (fun i => X.getD i []) = A ++ R) (e2 : is.map (fun i => X'.getD i []) = A' ++ R) : Ctr E M fr lo av (wl X) (wl X') r := by
  refine CtrG.perm (CtrG.frame (wl R) h) ?_ ?_
  · have := (perm_ix X is (n1 ▸ h1) e1).flatten
    rwa [List.flatten_append] at this
  · rintro r9 w9 ⟨w8, ⟨rfl, rfl⟩, rfl⟩
    refine ⟨wl X', ⟨rfl, rfl⟩, ?_⟩
    have := (perm_ix X' is (n2 ▸ h1) e2).flatten
    rwa [List.flatten_append] at this
