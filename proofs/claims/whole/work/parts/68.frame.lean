/-! the relation in pieces, and what keeps each -/
def kC (a : Nat → Nat) (t : Nat → Int32) : Prop := (a 0 ≤ 5 ∧ a 1 ≤ 6 ∧ a 2 ≤ 6 ∧ a 3 ≤ 6 ∧ a 4 ≤ 8 ∧ a 23 ≤ 999) ∧ t 0 = nI (a 0) ∧ t 1 = nI (a 1) ∧ t 2 = nI (a 2) ∧ t 3 = nI (a 3) ∧ t 4 = nI (a 4) ∧ t 23 = nI (a 23)
def kM (a : Nat → Nat) (t : Nat → Int32) : Prop := ∀ m, m < a 0 → (a (24 + m) < 6 ∧ a (16 + m) ≤ 99 ∧ a (11 + m) ≤ 13) ∧ t (24 + m) = nI (a (24 + m)) ∧ t (16 + m) = nI (a (16 + m)) ∧ t (11 + m) = nI (a (11 + m))
def kL (a : Nat → Nat) (t : Nat → Int32) : Prop := ∀ l, l < a 1 → (a (29 + 3 * l) ≤ 99 ∧ a (30 + 3 * l) ≤ 99 ∧ 1 ≤ a (31 + 3 * l) ∧ a (31 + 3 * l) ≤ 9 ∧ a (5 + l) ≤ 6) ∧ t (29 + 3 * l) = nI (a (29 + 3 * l)) ∧ t (30 + 3 * l) = nI (a (30 + 3 * l)) ∧ t (31 + 3 * l) = nI (a (31 + 3 * l)) ∧ t (5 + l) = wI (a (5 + l))
def kS (a : Nat → Nat) (t : Nat → Int32) (n b B : Nat) : Prop := ∀ i, i < n → (a (b + 3 * i) < a 0 ∧ a (b + 1 + 3 * i) ≤ 99 ∧ a (b + 2 + 3 * i) ≤ B) ∧ t (b + 3 * i) = nI (a (b + 3 * i)) ∧ t (b + 1 + 3 * i) = nI (a (b + 1 + 3 * i)) ∧ t (b + 2 + 3 * i) = nI (a (b + 2 + 3 * i))
def kP (a : Nat → Nat) (t : Nat → Int32) : Prop := ∀ u, u < a 4 → (a (83 + 19 * u + 18) ≤ 999 ∧ (∀ l, l < a 1 → a (83 + 19 * u + l) ≤ 6) ∧ ∀ m, m < a 0 → a (83 + 19 * u + 6 + m) ≤ 13 ∧ a (83 + 19 * u + 11 + m) ≤ 99) ∧ t (83 + 19 * u + 18) = nI (a (83 + 19 * u + 18)) ∧ (∀ l, l < a 1 → t (83 + 19 * u + l) = wI (a (83 + 19 * u + l))) ∧ ∀ m, m < a 0 → t (83 + 19 * u + 6 + m) = nI (a (83 + 19 * u + 6 + m)) ∧ t (83 + 19 * u + 11 + m) = nI (a (83 + 19 * u + 11 + m))
def hC (h : MV) (a : Nat → Nat) (t : Nat → Int32) : Prop := h.1 0 = nI (a 0) ∧ h.1 1 = nI (a 1) ∧ h.1 2 = nI (a 23) ∧ h.1 3 = t 21 ∧ h.1 4 = t 22
def hM (h : MV) (a : Nat → Nat) : Prop := ∀ m, m < a 0 → h.2.1 0 m = nI (a (24 + m)) ∧ h.2.1 1 m = nI (a (16 + m)) ∧ h.2.1 2 m = nI (a (11 + m))
def hL (h : MV) (a : Nat → Nat) : Prop := ∀ l, l < a 1 → h.2.1 3 l = nI (a (29 + 3 * l)) ∧ h.2.1 4 l = nI (a (30 + 3 * l)) ∧ h.2.1 5 l = nI (a (31 + 3 * l)) ∧ h.2.1 6 l = wI (a (5 + l))
section FRM
variable {a a' : Nat → Nat} {t t' : Nat → Int32} {h h' cv nt ps : MV}
theorem AT_split (ha : okA a) (ht : TR t a) : kC a t ∧ kM a t ∧ kL a t ∧ kS a t (a 2) 47 99 ∧ kS a t (a 3) 65 20 ∧ kP a t := by
  obtain ⟨a0, a1, a2, a3, a4, a5, a6, a7, a8, a9, a10⟩ := ha
  obtain ⟨b0, b1, b2, b3, b4, b5, b6, b7, b8, b9, b10⟩ := ht
  exact ⟨⟨⟨a0, a1, a2, a3, a4, a5⟩, b0, b1, b2, b3, b4, b5⟩, fun m hm => ⟨a6 m hm, b6 m hm⟩, fun l hl => ⟨a7 l hl, b7 l hl⟩, fun i hi => ⟨a8 i hi, b8 i hi⟩, fun i hi => ⟨a9 i hi, b9 i hi⟩, fun u hu => ⟨a10 u hu, b10 u hu⟩⟩
theorem AT_mk (c : kC a t) (m : kM a t) (l : kL a t) (v : kS a t (a 2) 47 99) (n : kS a t (a 3) 65 20) (p : kP a t) : okA a ∧ TR t a :=
  ⟨⟨c.1.1, c.1.2.1, c.1.2.2.1, c.1.2.2.2.1, c.1.2.2.2.2.1, c.1.2.2.2.2.2, fun i hi => (m i hi).1, fun i hi => (l i hi).1, fun i hi => (v i hi).1, fun i hi => (n i hi).1, fun u hu => (p u hu).1⟩,
   c.2.1, c.2.2.1, c.2.2.2.1, c.2.2.2.2.1, c.2.2.2.2.2.1, c.2.2.2.2.2.2, fun i hi => (m i hi).2, fun i hi => (l i hi).2, fun i hi => (v i hi).2, fun i hi => (n i hi).2, fun u hu => (p u hu).2⟩
theorem HO_mk (c : hC h a t) (m : hM h a) (l : hL h a) : HO h t a := ⟨c.1, c.2.1, c.2.2.1, c.2.2.2.1, c.2.2.2.2, m, l⟩
theorem HO_split (hh : HO h t a) : hC h a t ∧ hM h a ∧ hL h a := ⟨⟨hh.1, hh.2.1, hh.2.2.1, hh.2.2.2.1, hh.2.2.2.2.1⟩, hh.2.2.2.2.2.1, hh.2.2.2.2.2.2⟩
theorem kM_c (k : kM a t) (h5 : a 0 ≤ 5) (e0 : a' 0 = a 0) (ea : ∀ j, 11 ≤ j → j < 29 → (j < 21 ∨ 24 ≤ j) → a' j = a j) (et : ∀ j, 11 ≤ j → j < 29 → (j < 21 ∨ 24 ≤ j) → t' j = t j) : kM a' t' := by
  intro m hm
  rw [e0] at hm
  rw [ea (24 + m) (by omega) (by omega) (by omega), ea (16 + m) (by omega) (by omega) (by omega), ea (11 + m) (by omega) (by omega) (by omega), et (24 + m) (by omega) (by omega) (by omega), et (16 + m) (by omega) (by omega) (by omega), et (11 + m) (by omega) (by omega) (by omega)]
  exact k m hm
theorem kL_c (k : kL a t) (h6 : a 1 ≤ 6) (e1 : a' 1 = a 1) (ea : ∀ j, 5 ≤ j → j < 47 → (j < 11 ∨ 29 ≤ j) → a' j = a j) (et : ∀ j, 5 ≤ j → j < 47 → (j < 11 ∨ 29 ≤ j) → t' j = t j) : kL a' t' := by
  intro l hl
  rw [e1] at hl
  rw [ea (29 + 3 * l) (by omega) (by omega) (by omega), ea (30 + 3 * l) (by omega) (by omega) (by omega), ea (31 + 3 * l) (by omega) (by omega) (by omega), ea (5 + l) (by omega) (by omega) (by omega), et (29 + 3 * l) (by omega) (by omega) (by omega), et (30 + 3 * l) (by omega) (by omega) (by omega), et (31 + 3 * l) (by omega) (by omega) (by omega), et (5 + l) (by omega) (by omega) (by omega)]
  exact k l hl
theorem kS_c {n b B : Nat} (k : kS a t n b B) (hn : n ≤ 6) (e0 : a 0 ≤ a' 0) (ea : ∀ j, b ≤ j → j < b + 18 → a' j = a j) (et : ∀ j, b ≤ j → j < b + 18 → t' j = t j) : kS a' t' n b B := by
  intro i hi
  rw [ea (b + 3 * i) (by omega) (by omega), ea (b + 1 + 3 * i) (by omega) (by omega), ea (b + 2 + 3 * i) (by omega) (by omega), et (b + 3 * i) (by omega) (by omega), et (b + 1 + 3 * i) (by omega) (by omega), et (b + 2 + 3 * i) (by omega) (by omega)]
  obtain ⟨⟨q1, q2⟩, q3⟩ := k i hi
  exact ⟨⟨by omega, q2⟩, q3⟩
theorem kP_c (k : kP a t) (e0 : a' 0 = a 0) (e1 : a' 1 = a 1) (e4 : a' 4 = a 4) (ea : ∀ j, 83 ≤ j → a' j = a j) (et : ∀ j, 83 ≤ j → t' j = t j) : kP a' t' := by
  intro u hu
  rw [e4] at hu
  obtain ⟨⟨q1, q2, q3⟩, q4, q5, q6⟩ := k u hu
  rw [ea (83 + 19 * u + 18) (by omega), et (83 + 19 * u + 18) (by omega)]
  refine ⟨⟨q1, fun l hl => ?_, fun m hm => ?_⟩, q4, fun l hl => ?_, fun m hm => ?_⟩
  · rw [e1] at hl; rw [ea _ (by omega)]; exact q2 l hl
  · rw [e0] at hm; rw [ea _ (by omega), ea _ (by omega)]; exact q3 m hm
  · rw [e1] at hl; rw [ea _ (by omega), et _ (by omega)]; exact q5 l hl
  · rw [e0] at hm; rw [ea _ (by omega), ea _ (by omega), et _ (by omega), et _ (by omega)]; exact q6 m hm
theorem kP_0 (e4 : a' 4 = 0) : kP a' t' := fun u hu => absurd hu (by omega)
theorem hM_c (k : hM h a) (h5 : a 0 ≤ 5) (e0 : a' 0 = a 0) (ea : ∀ j, 11 ≤ j → j < 29 → (j < 21 ∨ 24 ≤ j) → a' j = a j) (e : h'.2.1 0 = h.2.1 0 ∧ h'.2.1 1 = h.2.1 1 ∧ h'.2.1 2 = h.2.1 2) : hM h' a' := by
  intro m hm
  rw [e0] at hm
  rw [ea (24 + m) (by omega) (by omega) (by omega), ea (16 + m) (by omega) (by omega) (by omega), ea (11 + m) (by omega) (by omega) (by omega), e.1, e.2.1, e.2.2]
  exact k m hm
theorem hL_c (k : hL h a) (h6 : a 1 ≤ 6) (e1 : a' 1 = a 1) (ea : ∀ j, 5 ≤ j → j < 47 → (j < 11 ∨ 29 ≤ j) → a' j = a j) (e : h'.2.1 3 = h.2.1 3 ∧ h'.2.1 4 = h.2.1 4 ∧ h'.2.1 5 = h.2.1 5 ∧ h'.2.1 6 = h.2.1 6) : hL h' a' := by
  intro l hl
  rw [e1] at hl
  rw [ea (29 + 3 * l) (by omega) (by omega) (by omega), ea (30 + 3 * l) (by omega) (by omega) (by omega), ea (31 + 3 * l) (by omega) (by omega) (by omega), ea (5 + l) (by omega) (by omega) (by omega), e.1, e.2.1, e.2.2.1, e.2.2.2]
  exact k l hl
theorem SO_c {s : MV} {n b : Nat} (k : SO s a n b) (hn : n ≤ 6) (ea : ∀ j, b ≤ j → j < b + 18 → a' j = a j) : SO s a' n b := by
  refine ⟨k.1, fun i hi => ?_⟩
  rw [ea (b + 3 * i) (by omega) (by omega), ea (b + 1 + 3 * i) (by omega) (by omega), ea (b + 2 + 3 * i) (by omega) (by omega)]
  exact k.2 i hi
theorem PO_c {p : MV} (k : PO p t a) (e0 : a' 0 = a 0) (e1 : a' 1 = a 1) (e4 : a' 4 = a 4) (ea : ∀ j, 83 ≤ j → a' j = a j) (et : ∀ j, 83 ≤ j → t' j = t j) : PO p t' a' := by
  obtain ⟨F, hF, p0, p1, q⟩ := k
  refine ⟨F, hF, p0, by rw [e4]; exact p1, fun u hu => ?_⟩
  rw [e4] at hu
  obtain ⟨q1, q2, q3, q4, q5⟩ := q u hu
  rw [ea (83 + 19 * u + 18) (by omega), et (83 + 19 * u + 16) (by omega), et (83 + 19 * u + 17) (by omega)]
  refine ⟨q1, q2, q3, fun m hm => ?_, fun l hl => ?_⟩
  · rw [e0] at hm; rw [ea _ (by omega), ea _ (by omega)]; exact q4 m hm
  · rw [e1] at hl; rw [ea _ (by omega)]; exact q5 l hl
theorem PO_0 {p : MV} (e4 : a' 4 = 0) (p0 : p.1 0 = nI 0) (p1 : p.1 1 = nI 0) : PO p t' a' := ⟨0, by omega, p0, by rw [e4]; exact p1, fun u hu => absurd hu (by omega)⟩
end FRM
def uN' (a : Nat → Nat) (k v : Nat) : Nat → Nat := fun j => if j = k then v else a j
theorem uN_s {a : Nat → Nat} {k v : Nat} : uN' a k v k = v := if_pos rfl
theorem uN_n {a : Nat → Nat} {k v j : Nat} (h : j ≠ k) : uN' a k v j = a j := if_neg h
theorem sim_forget {n : Nat} : SIM_forget n INV := by
  intro xo nv rv h0 h1 h2 h3 nt0 cv0 nt1 cv1 nt2 cv2 nt3 cv3 ps0 ps1 ps2 ps3 mo v1 hI
  have hI0 := hI
  obtain ⟨⟨a, ha, ht, hh, hc, hn', hp⟩, i2⟩ := hI
  obtain ⟨kc, km, kl, kv, kn, kp⟩ := AT_split ha ht
  obtain ⟨qc, qm, ql⟩ := HO_split hh
  have h6 := kc.1
  have w1 := X11_in (n := n) (v := v1) (K := 1) (by omega)
  have w2 := X12_inK (n := n) (v := v1) (K := 1) (by omega)
  refine inR_cases (v := v1) (N := 2) (fun b hb e => ?_) (fun c => ?_)
  · subst e
    rw [bI_in hb] at w1 w2
    have w1 : f_X11_within n (nI b) 0 1 = some (nI 1) := w1
    have w2 : f_X12_in n (nI b).toInt64 0 1 = some (nI 1) := w2
    have hb2 : b = 0 ∨ b = 1 := by omega
    rcases hb2 with rfl | rfl
    · refine ⟨nI (a 2), xo, nt0, setS cv0 0 (nI 0), setA mo 0 (upd (mo.2.1 0) 2 (nI 0)), ?_, ?_, ⟨⟨uN' a 2 0, ?_⟩, i2⟩⟩
      · unfold f_X11_forget
        rw [w1]
        simp (disch := omega) only [pl_lit, pl_bl, pl_bd, pl_bd2, pl_bd3, pl_bd4, pl_bcT, pl_bcF, gd_t, pl_bcTrue, pl_bcFalse, pl_gdTrue, pl_in, pl_eq, pl_lt, pl_le, pl_ix, nI_add, pk_mul, pl_m1, hc.1]
      · unfold f_X12_forget
        rw [w2]
        have t2 : mo.2.1 0 (2 + 0) = nI (a 2) := ht.2.2.1
        simp (disch := omega) only [pl_lit, pl_bl, pl_bd, pl_bd2, pl_bd3, pl_bd4, pl_bcT, pl_bcF, gd_t, pl_bcTrue, pl_bcFalse, pl_gdTrue, pl_in, pl_eq, pl_lt, pl_le, pl_ix, nI_add, pk_mul, pl_m1, t2]
      · have ea : ∀ j, j ≠ 2 → uN' a 2 0 j = a j := fun j hj => uN_n hj
        have et : ∀ j, j ≠ 2 → upd (mo.2.1 0) 2 (nI 0) j = mo.2.1 0 j := fun j hj => pk_un hj
        have hAT : okA (uN' a 2 0) ∧ TR (upd (mo.2.1 0) 2 (nI 0)) (uN' a 2 0) := AT_mk ⟨⟨h6.1, h6.2.1, Nat.zero_le 6, h6.2.2.2⟩, kc.2.1, kc.2.2.1, rfl, kc.2.2.2.2⟩ (kM_c km h6.1 rfl (fun j h1 _ _ => ea j (by omega)) (fun j h1 _ _ => et j (by omega))) (kL_c kl h6.2.1 rfl (fun j h1 _ _ => ea j (by omega)) (fun j h1 _ _ => et j (by omega))) (fun i hi => absurd hi (Nat.not_lt_zero i)) (kS_c kn h6.2.2.2.1 (Nat.le_refl _) (fun j h1 _ => ea j (by omega)) (fun j h1 _ => et j (by omega))) (kP_c kp rfl rfl rfl (fun j h1 => ea j (by omega)) (fun j h1 => et j (by omega)))
        exact ⟨hAT.1, hAT.2, HO_mk qc (hM_c qm h6.1 rfl (fun j h1 _ _ => ea j (by omega)) ⟨rfl, rfl, rfl⟩) (hL_c ql h6.2.1 rfl (fun j h1 _ _ => ea j (by omega)) ⟨rfl, rfl, rfl, rfl⟩), ⟨rfl, fun i hi => absurd hi (Nat.not_lt_zero i)⟩, SO_c hn' h6.2.2.2.1 (fun j h1 _ => ea j (by omega)), PO_c hp rfl rfl rfl (fun j h1 => ea j (by omega)) (fun j h1 => et j (by omega))⟩
    · refine ⟨nI (a 3), xo, setS nt0 0 (nI 0), cv0, setA mo 0 (upd (mo.2.1 0) 3 (nI 0)), ?_, ?_, ⟨⟨uN' a 3 0, ?_⟩, i2⟩⟩
      · unfold f_X11_forget
        rw [w1]
        simp (disch := omega) only [pl_lit, pl_bl, pl_bd, pl_bd2, pl_bd3, pl_bd4, pl_bcT, pl_bcF, gd_t, pl_bcTrue, pl_bcFalse, pl_gdTrue, pl_in, pl_eq, pl_lt, pl_le, pl_ix, nI_add, pk_mul, pl_m1, hn'.1]
      · unfold f_X12_forget
        rw [w2]
        have t2 : mo.2.1 0 (2 + 1) = nI (a 3) := ht.2.2.2.1
        simp (disch := omega) only [pl_lit, pl_bl, pl_bd, pl_bd2, pl_bd3, pl_bd4, pl_bcT, pl_bcF, gd_t, pl_bcTrue, pl_bcFalse, pl_gdTrue, pl_in, pl_eq, pl_lt, pl_le, pl_ix, nI_add, pk_mul, pl_m1, t2]
      · have ea : ∀ j, j ≠ 3 → uN' a 3 0 j = a j := fun j hj => uN_n hj
        have et : ∀ j, j ≠ 3 → upd (mo.2.1 0) 3 (nI 0) j = mo.2.1 0 j := fun j hj => pk_un hj
        have hAT : okA (uN' a 3 0) ∧ TR (upd (mo.2.1 0) 3 (nI 0)) (uN' a 3 0) := AT_mk ⟨⟨h6.1, h6.2.1, h6.2.2.1, Nat.zero_le 6, h6.2.2.2.2⟩, kc.2.1, kc.2.2.1, kc.2.2.2.1, rfl, kc.2.2.2.2.2⟩ (kM_c km h6.1 rfl (fun j h1 _ _ => ea j (by omega)) (fun j h1 _ _ => et j (by omega))) (kL_c kl h6.2.1 rfl (fun j h1 _ _ => ea j (by omega)) (fun j h1 _ _ => et j (by omega))) (kS_c kv h6.2.2.1 (Nat.le_refl _) (fun j h1 _ => ea j (by omega)) (fun j h1 _ => et j (by omega))) (fun i hi => absurd hi (Nat.not_lt_zero i)) (kP_c kp rfl rfl rfl (fun j h1 => ea j (by omega)) (fun j h1 => et j (by omega)))
        exact ⟨hAT.1, hAT.2, HO_mk qc (hM_c qm h6.1 rfl (fun j h1 _ _ => ea j (by omega)) ⟨rfl, rfl, rfl⟩) (hL_c ql h6.2.1 rfl (fun j h1 _ _ => ea j (by omega)) ⟨rfl, rfl, rfl, rfl⟩), SO_c hc h6.2.2.1 (fun j h1 _ => ea j (by omega)), ⟨rfl, fun i hi => absurd hi (Nat.not_lt_zero i)⟩, PO_c hp rfl rfl rfl (fun j h1 => ea j (by omega)) (fun j h1 => et j (by omega))⟩
  · rw [bI_nin c] at w1 w2
    have w1 : f_X11_within n v1 0 1 = some (nI 0) := w1
    have w2 : f_X12_in n v1.toInt64 0 1 = some (nI 0) := w2
    refine ⟨-2, badX xo, nt0, cv0, refM mo 0, ?_, ?_, hI0.bad⟩
    · unfold f_X11_forget
      rw [w1]
      simp (disch := omega) [pl_lit, pl_bl, pl_bd, pl_bd2, pl_bd3, pl_bd4, pl_bcT, pl_bcF, gd_t, pl_bcTrue, pl_bcFalse, pl_gdTrue, pl_in, pl_eq, pl_lt, pl_le, pl_ix, nI_add, pk_mul, pl_m1, X11_bad]
    · unfold f_X12_forget
      rw [w2]
      simp (disch := omega) [pl_lit, pl_bl, pl_bd, pl_bd2, pl_bd3, pl_bd4, pl_bcT, pl_bcF, gd_t, pl_bcTrue, pl_bcFalse, pl_gdTrue, pl_in, pl_eq, pl_lt, pl_le, pl_ix, nI_add, pk_mul, pl_m1, X12_bad]
