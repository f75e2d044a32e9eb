/-! undo; images -/
section UNDO
variable {n : Nat} {h h' cv nt ps ps' mo : MV} {t t' : Nat → Int32} {a a' : Nat → Nat} {U l m : Nat}
theorem SRa_pop (s : SRa h cv nt ps t a) (e : a 4 = U + 1) : SRa h cv nt (setS ps 1 (nI U)) (upd t 4 (nI U)) (uN' a 4 U) := by
  have s' := s
  obtain ⟨ha, ht, hh, hc, hn, F, hF, p0, p1, hp⟩ := s
  obtain ⟨-, -, -, -, -, kp⟩ := AT_split ha ht
  have h6 := okL ha
  have e4 : uN' a 4 U 4 = U := uN_s
  have e0 : uN' a 4 U 0 = a 0 := uN_n (by omega)
  have e1 : uN' a 4 U 1 = a 1 := uN_n (by omega)
  refine SRa_past s' (fun j h1 h2 => uN_n h2) (fun j h1 h2 => pk_un h2) (by rw [e4]; omega) (by rw [e4]; exact pk_us) ?_ ?_
  · intro u hu
    rw [e4] at hu
    rw [e0, e1]
    obtain ⟨⟨q1, q2, q3⟩, q4, q5, q6⟩ := kp u (by omega)
    rw [uN_n (by omega), pk_un (by omega)]
    refine ⟨⟨q1, fun l hl => ?_, fun m hm => ?_⟩, q4, fun l hl => ?_, fun m hm => ?_⟩
    · rw [uN_n (by omega)]; exact q2 l hl
    · rw [uN_n (by omega), uN_n (by omega)]; exact q3 m hm
    · rw [uN_n (by omega), pk_un (by omega)]; exact q5 l hl
    · rw [uN_n (by omega), uN_n (by omega), pk_un (by omega), pk_un (by omega)]; exact q6 m hm
  · refine ⟨F, hF, p0, by rw [e4]; rfl, fun u hu => ?_⟩
    rw [e4] at hu
    rw [e0, e1]
    obtain ⟨q1, q2, q3, q4, q5⟩ := hp u (by omega)
    rw [uN_n (by omega), pk_un (by omega), pk_un (by omega)]
    refine ⟨q1, q2, q3, fun m hm => ?_, fun l hl => ?_⟩
    · rw [uN_n (by omega), uN_n (by omega)]; exact q4 m hm
    · rw [uN_n (by omega)]; exact q5 l hl
def bkT (t : Nat → Int32) (U : Nat) : Nat → Int32 := va_cpy (upd t 4 (nI U)) (upd t 4 (nI U)) (83 + 19 * U) 5 19
def bkN (a : Nat → Nat) (U : Nat) : Nat → Nat := va_cpy (uN' a 4 U) (uN' a 4 U) (83 + 19 * U) 5 19
theorem bkT_n {j : Nat} (hj : j < 5 ∨ 24 ≤ j) : bkT t U j = upd t 4 (nI U) j := cpy_o (by omega)
theorem bkN_n {j : Nat} (hj : j < 5 ∨ 24 ≤ j) : bkN a U j = uN' a 4 U j := cpy_o (by omega)
theorem bkT_r {j k : Nat} (e : j = 5 + k) (hk : k < 19) : bkT t U j = t (83 + 19 * U + k) := by
  unfold bkT; rw [cpy_i e hk, pk_un (by omega)]
theorem bkN_r {j k : Nat} (e : j = 5 + k) (hk : k < 19) : bkN a U j = a (83 + 19 * U + k) := by
  unfold bkN; rw [cpy_i e hk, uN_n (by omega)]
def bkH (h : MV) (R : Nat → Int32) (at' : Nat) : MV := setS (setS (setS (setA (setA (setA h 1 (va_cpy R (h.2.1 1) at' 0 5)) 2 (va_cpy R (h.2.1 2) (at' + 5) 0 5)) 6 (va_cpy R (h.2.1 6) (at' + 10) 0 6)) 2 (R (at' + 10 + 6))) 3 (R (at' + 10 + 6 + 1))) 4 (R (at' + 10 + 6 + 2))
theorem X4_giveBack {F : Nat} (hF : F < 8) (hU : U < 8) (e0 : ps.1 0 = nI F) (e1 : ps.1 1 = nI (U + 1)) : f_X4_giveBack n h ps = some (nI 1, bkH h (ps.2.1 0) ((F + U) % 8 * 19), setS ps 1 (nI U)) := by
  have hat : (F + U) % 8 * 19 ≤ 133 := by omega
  have x0 : (setS ps 1 (nI U)).1 0 = nI F := e0
  have x1 : (setS ps 1 (nI U)).1 1 = nI U := rfl
  have pos : 0 < ps.1 1 := by
    rw [e1, show (0 : Int32) = nI 0 from rfl, pl_lt (by omega) (by omega)]; omega
  have ed : ps.1 1 - 1 = nI U := by
    rw [e1, show (1 : Int32) = nI 1 from rfl, pk_sub (by omega), Nat.add_sub_cancel]
  unfold f_X4_giveBack
  rw [bc_T pos, pl_bl, ed]
  simp (disch := omega) only [pl_lit, pl_bl, pl_bd, pl_bd2, pl_bd3, pl_bd4, pl_bcT, pl_bcF, gd_t, pl_bcTrue, pl_bcFalse, pl_gdTrue, pl_in, pl_eq, pl_lt, pl_le, pl_ix, nI_add, pk_mul, pl_m1, x0, x1, pl_div, pl_rem2, pl_cp, sA_1, sS_2, sA_n]
  rfl
theorem X4_giveBack0 (e1 : ps.1 1 = nI 0) : f_X4_giveBack n h ps = some (nI 0, h, ps) := by
  unfold f_X4_giveBack
  rw [bc_F (show ¬ 0 < ps.1 1 by rw [e1]; decide)]
  rfl
theorem KR_back (s : SRa h cv nt ps t a) (e : a 4 = U + 1) : ∃ F, F < 8 ∧ ps.1 0 = nI F ∧ ps.1 1 = nI (U + 1) ∧ KR (bkH h (ps.2.1 0) ((F + U) % 8 * 19)) (bkT t U) (bkN a U) := by
  obtain ⟨ha, ht, hh, hc, hn, F, hF, p0, p1, hp⟩ := s
  obtain ⟨kc, km, kl, -, -, kp⟩ := AT_split ha ht
  obtain ⟨qc, qm, ql⟩ := HO_split hh
  have h6 := okL ha
  obtain ⟨⟨q1, q2, q3⟩, q4, q5, q6⟩ := kp U (by omega)
  obtain ⟨r1, r2, r3, r4, r5⟩ := hp U (by omega)
  have e0 : bkN a U 0 = a 0 := by rw [bkN_n (by omega), uN_n (by omega)]
  have e1 : bkN a U 1 = a 1 := by rw [bkN_n (by omega), uN_n (by omega)]
  have e23 : bkN a U 23 = a (83 + 19 * U + 18) := bkN_r (by omega) (by omega)
  have f0 : bkT t U 0 = t 0 := by rw [bkT_n (by omega), pk_un (by omega)]
  have f1 : bkT t U 1 = t 1 := by rw [bkT_n (by omega), pk_un (by omega)]
  have f23 : bkT t U 23 = t (83 + 19 * U + 18) := bkT_r (by omega) (by omega)
  refine ⟨F, hF, p0, by rw [p1, e], ?_, ?_, ?_, ?_, ?_, ?_⟩
  · rw [e0, e1, e23, f0, f1, f23]
    exact ⟨h6.1, h6.2.1, q1, kc.2.1, kc.2.2.1, q4⟩
  · intro m hm
    rw [e0] at hm
    rw [bkN_n (by omega), uN_n (by omega), bkN_r (k := 11 + m) (by omega) (by omega), bkN_r (k := 6 + m) (by omega) (by omega), bkT_n (by omega), pk_un (by omega), bkT_r (k := 11 + m) (by omega) (by omega), bkT_r (k := 6 + m) (by omega) (by omega), ← Nat.add_assoc, ← Nat.add_assoc]
    obtain ⟨⟨x1, x2, x3⟩, y1, y2, y3⟩ := km m hm
    exact ⟨⟨x1, (q3 m hm).2, (q3 m hm).1⟩, y1, (q6 m hm).2, (q6 m hm).1⟩
  · intro l hl
    rw [e1] at hl
    rw [bkN_n (by omega), uN_n (by omega), bkN_n (by omega), uN_n (by omega), bkN_n (by omega), uN_n (by omega), bkN_r (k := l) (by omega) (by omega), bkT_n (by omega), pk_un (by omega), bkT_n (by omega), pk_un (by omega), bkT_n (by omega), pk_un (by omega), bkT_r (k := l) (by omega) (by omega)]
    obtain ⟨⟨x1, x2, x3, x4, x5⟩, y1, y2, y3, y4⟩ := kl l hl
    exact ⟨⟨x1, x2, x3, x4, q2 l hl⟩, y1, y2, y3, q5 l hl⟩
  · unfold hC
    rw [e0, e1, e23, bkT_r (k := 16) (by omega) (by omega), bkT_r (k := 17) (by omega) (by omega)]
    exact ⟨qc.1, qc.2.1, r1, r2, r3⟩
  · intro m hm
    rw [e0] at hm
    rw [bkN_n (by omega), uN_n (by omega), bkN_r (k := 11 + m) (by omega) (by omega), bkN_r (k := 6 + m) (by omega) (by omega), ← Nat.add_assoc, ← Nat.add_assoc]
    show h.2.1 0 m = _ ∧ va_cpy (ps.2.1 0) (h.2.1 1) _ 0 5 m = _ ∧ va_cpy (ps.2.1 0) (h.2.1 2) _ 0 5 m = _
    rw [cpy_i (i := m) (by omega) (by omega), cpy_i (i := m) (by omega) (by omega)]
    exact ⟨(qm m hm).1, r4 m hm⟩
  · intro l hl
    rw [e1] at hl
    rw [bkN_n (by omega), uN_n (by omega), bkN_n (by omega), uN_n (by omega), bkN_n (by omega), uN_n (by omega), bkN_r (k := l) (by omega) (by omega)]
    show h.2.1 3 l = _ ∧ h.2.1 4 l = _ ∧ h.2.1 5 l = _ ∧ va_cpy (ps.2.1 0) (h.2.1 6) _ 0 6 l = _
    rw [cpy_i (i := l) (by omega) (by omega)]
    exact ⟨(ql l hl).1, (ql l hl).2.1, (ql l hl).2.2.1, r5 l hl⟩
theorem sA_id {k : Nat} : setA h k (h.2.1 k) = h := by
  unfold setA
  refine congrArg (fun z => (h.1, z, h.2.2)) ?_
  funext j
  by_cases c : j = k
  · rw [if_pos c, c]
  · rw [if_neg c]
theorem X12_undo_cp (hn : 200 ≤ n) (hU : U < 8) (e : mo.2.1 0 4 = nI U) : f_X12_undo_l26 n n mo 0 = some (setA mo 0 (va_cpy (mo.2.1 0) (mo.2.1 0) (83 + 19 * U) 5 19)) := by
  refine lp_cnt' 19 (fun i => setA mo 0 (va_cpy (mo.2.1 0) (mo.2.1 0) (83 + 19 * U) 5 i)) mo _ (by rw [cpy_0, sA_id]) (fun i hi => ?_) ?_ (by omega)
  · have e' : ∀ i, va_cpy (mo.2.1 0) (mo.2.1 0) (83 + 19 * U) 5 i 4 = nI U := fun i => by rw [cpy_o (by omega), e]
    simp (disch := omega) only [f_X12_undo_b26, f_X12_undo_l26, f_X12_undo, pl_lit, pl_bl, pl_bd, pl_bd2, pl_bd3, pl_bd4, pl_bcT, pl_bcF, gd_t, pl_bcTrue, pl_bcFalse, pl_gdTrue, pl_in, pl_eq, pl_lt, pl_le, pl_ix, nI_add, pk_mul, pl_m1, sA_s, sAA, e', cpy_o, cpy_s]
  · simp (disch := omega) only [f_X12_undo_b26, f_X12_undo_l26, f_X12_undo, pl_lit, pl_bl, pl_bd, pl_bd2, pl_bd3, pl_bd4, pl_bcT, pl_bcF, gd_t, pl_bcTrue, pl_bcFalse, pl_gdTrue, pl_in, pl_eq, pl_lt, pl_le, pl_ix, nI_add, pk_mul, pl_m1]
end UNDO
theorem sim_undo {n : Nat} (hn : 200 ≤ n) : SIM_undo n INV := by
  intro xo nv rv h0 h1 h2 h3 nt0 cv0 nt1 cv1 nt2 cv2 nt3 cv3 ps0 ps1 ps2 ps3 mo hI
  have hI0 := hI
  obtain ⟨⟨a, ha, ht, hh, hc, hn', hp⟩, i2⟩ := hI
  have h6 := okL ha
  have s : SRa h0 cv0 nt0 ps0 (mo.2.1 0) a := ⟨ha, ht, hh, hc, hn', hp⟩
  have e4 : mo.2.1 0 4 = nI (a 4) := ht.2.2.2.2.1
  by_cases c : a 4 = 0
  · obtain ⟨F, hF, p0, p1, -⟩ := hp
    rw [c] at p1 e4
    refine ⟨-3, noX xo, h0, ps0, refM mo 1, ?_, ?_, hI0.no⟩
    · unfold f_X11_undo
      rw [X4_giveBack0 p1]
      simp (disch := omega) only [pl_lit, pl_bl, pl_bd, pl_bd2, pl_bd3, pl_bd4, pl_bcT, pl_bcF, gd_t, pl_bcTrue, pl_bcFalse, pl_gdTrue, pl_in, pl_eq, pl_lt, pl_le, pl_ix, nI_add, pk_mul, pl_m1, X11_no]
    · simp (disch := omega) only [f_X12_undo_b26, f_X12_undo_l26, f_X12_undo, pl_lit, pl_bl, pl_bd, pl_bd2, pl_bd3, pl_bd4, pl_bcT, pl_bcF, gd_t, pl_bcTrue, pl_bcFalse, pl_gdTrue, pl_in, pl_eq, pl_lt, pl_le, pl_ix, nI_add, pk_mul, pl_m1, e4, X12_no]
  · obtain ⟨U, hU⟩ : ∃ U, a 4 = U + 1 := ⟨a 4 - 1, by omega⟩
    obtain ⟨F, hF, p0, p1, k⟩ := KR_back s hU
    have s1 := SRa_pop s hU
    have g1 := X4_giveBack (n := n) (h := h0) hF (show U < 8 by omega) p0 p1
    have g2 := X12_undo_cp (n := n) (mo := setA mo 0 (upd (mo.2.1 0) 4 (nI U))) hn (show U < 8 by omega) (by rw [sA_s]; exact pk_us)
    rw [sA_s, sAA] at g2
    have d : (bkT (mo.2.1 0) U) 23 = nI (bkN a U 23) := k.1.2.2.2.2.2
    refine ⟨nI (bkN a U 23), xo, bkH h0 (ps0.2.1 0) ((F + U) % 8 * 19), setS ps0 1 (nI U), setA mo 0 (bkT (mo.2.1 0) U), ?_, ?_, ⟨SR_step s1 k (fun j hj => bkN_n (by omega)) (fun j hj => bkT_n (by omega)), i2⟩⟩
    · unfold f_X11_undo
      rw [g1]
      simp (disch := omega) only [pl_lit, pl_bl, pl_bd, pl_bd2, pl_bd3, pl_bd4, pl_bcT, pl_bcF, gd_t, pl_bcTrue, pl_bcFalse, pl_gdTrue, pl_in, pl_eq, pl_lt, pl_le, pl_ix, nI_add, pk_mul, pl_m1, k.2.2.2.1.2.2.1]
    · rw [hU] at e4
      unfold f_X12_undo
      have ed : mo.2.1 0 4 - nI 1 = nI U := by rw [e4, pk_sub (by omega), Nat.add_sub_cancel]
      have z0 : ¬ (mo.2.1 0 4 = nI 0) := by rw [e4, pl_eq (by omega) (by omega)]; omega
      have d' : va_cpy (upd (mo.2.1 0) 4 (nI U)) (upd (mo.2.1 0) 4 (nI U)) (83 + 19 * U) 5 19 23 = nI (bkN a U 23) := d
      simp (disch := omega) only [pl_lit, pl_bl, pl_bd, pl_bd2, pl_bd3, pl_bd4, pl_bcT, pl_bcF, gd_t, pl_bcTrue, pl_bcFalse, pl_gdTrue, pl_in, pl_eq, pl_lt, pl_le, pl_ix, nI_add, pk_mul, pl_m1, ed]
      have g2' : f_X12_undo_l26 n n (setA mo 0 (upd (mo.2.1 0) 4 (nI U))) (nI 0) = _ := g2
      rw [g2']
      simp (disch := omega) only [pl_lit, pl_bl, pl_bd, pl_bd2, pl_bd3, pl_bd4, pl_bcT, pl_bcF, gd_t, pl_bcTrue, pl_bcFalse, pl_gdTrue, pl_in, pl_eq, pl_lt, pl_le, pl_ix, nI_add, pk_mul, pl_m1, sA_s, d']
      rfl
section IMG
variable {n : Nat} {h h' cv cv' nt nt' ps ps' mo : MV} {t t' : Nat → Int32} {a : Nat → Nat} {U l m : Nat}
theorem SR_t (s : SR h cv nt ps t) (et : ∀ k, k < 235 → t' k = t k) : SR h cv nt ps t' := by
  obtain ⟨a, ha, ht, hh, hc, hn, F, hF, p0, p1, hp⟩ := s
  obtain ⟨kc, km, kl, kv, kn, kp⟩ := AT_split ha ht
  obtain ⟨qc, qm, ql⟩ := HO_split hh
  have h6 := okL ha
  have kc' : kC a t' := by
    unfold kC
    rw [et 0 (by omega), et 1 (by omega), et 2 (by omega), et 3 (by omega), et 4 (by omega), et 23 (by omega)]
    exact kc
  have kp' : kP a t' := by
    intro u hu
    obtain ⟨⟨q1, q2, q3⟩, q4, q5, q6⟩ := kp u (by omega)
    rw [et _ (by omega)]
    refine ⟨⟨q1, q2, q3⟩, q4, fun l hl => ?_, fun m hm => ?_⟩
    · rw [et _ (by omega)]; exact q5 l hl
    · rw [et _ (by omega), et _ (by omega)]; exact q6 m hm
  have hAT := AT_mk kc' (kM_c km h6.1 rfl (fun j h1 h2 _ => rfl) (fun j h1 h2 _ => et j (by omega))) (kL_c kl h6.2.1 rfl (fun j h1 h2 _ => rfl) (fun j h1 h2 _ => et j (by omega))) (kS_c kv h6.2.2.1 (Nat.le_refl _) (fun j h1 h2 => rfl) (fun j h1 h2 => et j (by omega))) (kS_c kn h6.2.2.2.1 (Nat.le_refl _) (fun j h1 h2 => rfl) (fun j h1 h2 => et j (by omega))) kp'
  refine ⟨a, hAT.1, hAT.2, HO_mk ?_ qm ql, hc, hn, F, hF, p0, p1, fun u hu => ?_⟩
  · unfold hC
    rw [et 21 (by omega), et 22 (by omega)]
    exact qc
  · rw [et _ (by omega), et _ (by omega)]
    exact hp u hu
def tkS (s b : MV) : MV := setA (setA (setA (setS s 0 (b.1 0)) 0 (va_cpy (b.2.1 0) (s.2.1 0) 0 0 6)) 1 (va_cpy (b.2.1 1) (s.2.1 1) 0 0 6)) 2 (va_cpy (b.2.1 2) (s.2.1 2) 0 0 6)
def tkP (s b : MV) : MV := setS (setS (setA s 0 (va_cpy (b.2.1 0) (s.2.1 0) 0 0 152)) 0 (b.1 0)) 1 (b.1 1)
def tkH (h b : MV) : MV := setS (setS (setS (setA (setA (setA (setA (setS (setA (setA (setA (setS h 0 (b.1 0)) 0 (va_cpy (b.2.1 0) (h.2.1 0) 0 0 5)) 1 (va_cpy (b.2.1 1) (h.2.1 1) 0 0 5)) 2 (va_cpy (b.2.1 2) (h.2.1 2) 0 0 5)) 1 (b.1 1)) 3 (va_cpy (b.2.1 3) (h.2.1 3) 0 0 6)) 4 (va_cpy (b.2.1 4) (h.2.1 4) 0 0 6)) 5 (va_cpy (b.2.1 5) (h.2.1 5) 0 0 6)) 6 (va_cpy (b.2.1 6) (h.2.1 6) 0 0 6)) 2 (b.1 2)) 3 (b.1 3)) 4 (b.1 4)
theorem cpk (a b c : Nat) (n0 n1 : Nat) (h : (a < 2147483648 ∧ b < 2147483648 ∧ c < 2147483648) ∧ a + c ≤ n0 ∧ b + c ≤ n1) : cpOK (nI a) (nI b) (nI c) n0 n1 := by
  rw [pl_cp h.1.1 h.1.2.1 h.1.2.2]; exact h.2
theorem X8_takeOver {s b : MV} : f_X8_takeOver n s b = some (tkS s b) := by
  unfold f_X8_takeOver
  have c : cpOK 0 0 6 6 6 := cpk 0 0 6 6 6 (by omega)
  simp only [pl_bl]
  rw [gd_t c, gd_t c, gd_t c]
  rfl
theorem X4_takeOver {s b : MV} : f_X4_takeOver n s b = some (tkP s b) := by
  unfold f_X4_takeOver
  have c : cpOK 0 0 152 152 152 := cpk 0 0 152 152 152 (by omega)
  simp only [pl_bl]
  rw [gd_t c]
  rfl
theorem X1_takeOver {b ntb cvb psb : MV} : f_X1_takeOver n h b nt cv ntb cvb ps psb = some (tkH h b, tkS nt ntb, tkS cv cvb, tkP ps psb) := by
  unfold f_X1_takeOver
  have c : cpOK 0 0 6 6 6 := cpk 0 0 6 6 6 (by omega)
  have c5 : cpOK 0 0 5 5 5 := cpk 0 0 5 5 5 (by omega)
  simp only [pl_bl]
  rw [gd_t c5, gd_t c5, gd_t c5, gd_t c, gd_t c, gd_t c, gd_t c, X8_takeOver, X8_takeOver, X4_takeOver]
  rfl
theorem SO_tk {s b : MV} {k B : Nat} (hk : k ≤ 6) (q : SO b a k B) : SO (tkS s b) a k B := by
  refine ⟨q.1, fun i hi => ?_⟩
  show va_cpy (b.2.1 0) (s.2.1 0) 0 0 6 i = _ ∧ va_cpy (b.2.1 1) (s.2.1 1) 0 0 6 i = _ ∧ va_cpy (b.2.1 2) (s.2.1 2) 0 0 6 i = _
  rw [cpy_i (i := i) (by omega) (by omega), cpy_i (i := i) (by omega) (by omega), cpy_i (i := i) (by omega) (by omega), Nat.zero_add]
  exact q.2 i hi
theorem HO_tk {b : MV} (h5 : a 0 ≤ 5) (h6 : a 1 ≤ 6) (q : HO b t a) : HO (tkH h b) t a := by
  obtain ⟨qc, qm, ql⟩ := HO_split q
  refine HO_mk qc (fun m hm => ?_) (fun l hl => ?_)
  · show va_cpy (b.2.1 0) (h.2.1 0) 0 0 5 m = _ ∧ va_cpy (b.2.1 1) (h.2.1 1) 0 0 5 m = _ ∧ va_cpy (b.2.1 2) (h.2.1 2) 0 0 5 m = _
    rw [cpy_i (i := m) (by omega) (by omega), cpy_i (i := m) (by omega) (by omega), cpy_i (i := m) (by omega) (by omega), Nat.zero_add]
    exact qm m hm
  · show va_cpy (b.2.1 3) (h.2.1 3) 0 0 6 l = _ ∧ va_cpy (b.2.1 4) (h.2.1 4) 0 0 6 l = _ ∧ va_cpy (b.2.1 5) (h.2.1 5) 0 0 6 l = _ ∧ va_cpy (b.2.1 6) (h.2.1 6) 0 0 6 l = _
    rw [cpy_i (i := l) (by omega) (by omega), cpy_i (i := l) (by omega) (by omega), cpy_i (i := l) (by omega) (by omega), cpy_i (i := l) (by omega) (by omega), Nat.zero_add]
    exact ql l hl
theorem PO_tk {s b : MV} (h5 : a 0 ≤ 5) (h6 : a 1 ≤ 6) (h8 : a 4 ≤ 8) (q : PO b t a) : PO (tkP s b) t a := by
  obtain ⟨F, hF, p0, p1, hp⟩ := q
  refine ⟨F, hF, p0, p1, fun u hu => ?_⟩
  have hb : (F + u) % 8 * 19 ≤ 133 := by omega
  show va_cpy (b.2.1 0) (s.2.1 0) 0 0 152 _ = _ ∧ va_cpy (b.2.1 0) (s.2.1 0) 0 0 152 _ = _ ∧ va_cpy (b.2.1 0) (s.2.1 0) 0 0 152 _ = _ ∧ (∀ m, m < a 0 → va_cpy (b.2.1 0) (s.2.1 0) 0 0 152 _ = _ ∧ va_cpy (b.2.1 0) (s.2.1 0) 0 0 152 _ = _) ∧ ∀ l, l < a 1 → va_cpy (b.2.1 0) (s.2.1 0) 0 0 152 _ = _
  have e : ∀ j, j < 152 → va_cpy (b.2.1 0) (s.2.1 0) 0 0 152 j = b.2.1 0 j := fun j hj => by
    rw [cpy_i (i := j) (by omega) hj, Nat.zero_add]
  obtain ⟨q1, q2, q3, q4, q5⟩ := hp u hu
  rw [e _ (by omega), e _ (by omega), e _ (by omega)]
  refine ⟨q1, q2, q3, fun m hm => ?_, fun l hl => ?_⟩
  · rw [e _ (by omega), e _ (by omega)]; exact q4 m hm
  · rw [e _ (by omega)]; exact q5 l hl
theorem SR_tk (s : SR h cv nt ps t) : SR (tkH h' h) (tkS cv' cv) (tkS nt' nt) (tkP ps' ps) t := by
  obtain ⟨a, ha, ht, hh, hc, hn, hp⟩ := s
  have h6 := okL ha
  exact ⟨a, ha, ht, HO_tk h6.1 h6.2.1 hh, SO_tk h6.2.2.1 hc, SO_tk h6.2.2.2.1 hn, PO_tk h6.1 h6.2.1 h6.2.2.2.2.1 hp⟩
theorem X12_image_cp {b : Nat} (hn : 300 ≤ n) (hb : b < 2) : f_X12_image_l19 n n mo (nI b) 0 = some (setA mo 1 (va_cpy (mo.2.1 0) (mo.2.1 1) 0 (235 * b) 235)) := by
  refine lp_cnt' 235 (fun i => setA mo 1 (va_cpy (mo.2.1 0) (mo.2.1 1) 0 (235 * b) i)) mo _ (by rw [cpy_0, sA_id]) (fun i hi => ?_) ?_ (by omega)
  · have := cpy_s (f := mo.2.1 0) (g := mo.2.1 1) (sp := 0) (dp := 235 * b) (i := i)
    rw [Nat.zero_add] at this
    simp (disch := omega) only [f_X12_image_b19, f_X12_image_l19, f_X12_image, pl_lit, pl_bl, pl_bd, pl_bd2, pl_bd3, pl_bd4, pl_bcT, pl_bcF, gd_t, pl_bcTrue, pl_bcFalse, pl_gdTrue, pl_in, pl_eq, pl_lt, pl_le, pl_ix, nI_add, pk_mul, pl_m1, sA_s, sAA, sA_n, this]
  · simp (disch := omega) only [f_X12_image_b19, f_X12_image_l19, f_X12_image, pl_lit, pl_bl, pl_bd, pl_bd2, pl_bd3, pl_bd4, pl_bcT, pl_bcF, gd_t, pl_bcTrue, pl_bcFalse, pl_gdTrue, pl_in, pl_eq, pl_lt, pl_le, pl_ix, nI_add, pk_mul, pl_m1]
theorem X12_from_cp {b : Nat} (hn : 300 ≤ n) (hb : b < 2) : f_X12_from_l33 n n mo (nI b) 0 = some (setA mo 0 (va_cpy (mo.2.1 1) (mo.2.1 0) (235 * b) 0 235)) := by
  refine lp_cnt' 235 (fun i => setA mo 0 (va_cpy (mo.2.1 1) (mo.2.1 0) (235 * b) 0 i)) mo _ (by rw [cpy_0, sA_id]) (fun i hi => ?_) ?_ (by omega)
  · have := cpy_s (f := mo.2.1 1) (g := mo.2.1 0) (sp := 235 * b) (dp := 0) (i := i)
    rw [Nat.zero_add] at this
    simp (disch := omega) only [f_X12_from_b33, f_X12_from_l33, f_X12_from, pl_lit, pl_bl, pl_bd, pl_bd2, pl_bd3, pl_bd4, pl_bcT, pl_bcF, gd_t, pl_bcTrue, pl_bcFalse, pl_gdTrue, pl_in, pl_eq, pl_lt, pl_le, pl_ix, nI_add, pk_mul, pl_m1, sA_s, sAA, sA_n, this]
  · simp (disch := omega) only [f_X12_from_b33, f_X12_from_l33, f_X12_from, pl_lit, pl_bl, pl_bd, pl_bd2, pl_bd3, pl_bd4, pl_bcT, pl_bcF, gd_t, pl_bcTrue, pl_bcFalse, pl_gdTrue, pl_in, pl_eq, pl_lt, pl_le, pl_ix, nI_add, pk_mul, pl_m1]
end IMG
theorem two {k : Nat} (h : k < 2) : k = 0 ∨ k = 1 := by omega
theorem sim_image {n : Nat} (hn : 300 ≤ n) : SIM_image n INV := by
  intro xo nv rv h0 h1 h2 h3 nt0 cv0 nt1 cv1 nt2 cv2 nt3 cv3 ps0 ps1 ps2 ps3 mo v1 hI
  have hI0 := hI
  obtain ⟨i1, ⟨i2, i2'⟩, i3, i4, i5⟩ := hI
  have w1 := w11 (n := n) (v := v1) (K := 1) (by omega)
  have w2 := w12 (n := n) (v := v1) (K := 1) (by omega)
  refine inR_cases (v := v1) (N := 2) (fun b hb e => ?_) (fun c => ?_)
  · subst e
    rw [bI_in hb] at w1 w2
    have g := X12_image_cp (n := n) (mo := mo) hn hb
    have g' : f_X12_image_l19 n n mo (nI b) (nI 0) = _ := g
    have t1 := @X1_takeOver n h2 cv2 nt2 ps2 h0 nt0 cv0 ps0
    have t2 := @X1_takeOver n h3 cv3 nt3 ps3 h0 nt0 cv0 ps0
    rcases two hb with rfl | rfl
    · refine ⟨nI 1, setA xo 0 (upd (xo.2.1 0) 0 (vp_nar .boolean (nI 1))), tkH h2 h0, h3, tkS nt2 nt0, tkS cv2 cv0, nt3, cv3, tkP ps2 ps0, ps3, setA (setA mo 1 (va_cpy (mo.2.1 0) (mo.2.1 1) 0 (235 * 0) 235)) 2 (upd (mo.2.1 2) 0 (vp_nar .boolean (nI 1))), ?_, ?_, ⟨i1, ⟨rfl, i2'⟩, fun _ => ?_, fun z => ?_, i5⟩⟩
      · simp (disch := omega) only [f_X11_image, w1, pl_lit, pl_bl, pl_bd, pl_bd2, pl_bd3, pl_bd4, pl_bcT, pl_bcF, gd_t, pl_bcTrue, pl_bcFalse, pl_gdTrue, pl_in, pl_eq, pl_lt, pl_le, pl_ix, nI_add, pk_mul, pl_m1, t1]
      · simp (disch := omega) only [f_X12_image, pl_litL, w2, pl_lit, pl_bl, pl_bd, pl_bd2, pl_bd3, pl_bd4, pl_bcT, pl_bcF, gd_t, pl_bcTrue, pl_bcFalse, pl_gdTrue, pl_in, pl_eq, pl_lt, pl_le, pl_ix, nI_add, pk_mul, pl_m1, g', sA_n]
      · refine SR_t (SR_tk i1) (fun k hk => ?_)
        show va_cpy (mo.2.1 0) (mo.2.1 1) 0 (235 * 0) 235 k = _
        rw [cpy_i (i := k) (by omega) hk, Nat.zero_add]
      · refine SR_t (i4 z) (fun k hk => ?_)
        show va_cpy (mo.2.1 0) (mo.2.1 1) 0 (235 * 0) 235 (235 + k) = _
        rw [cpy_o (by omega)]
    · refine ⟨nI 1, setA xo 0 (upd (xo.2.1 0) 1 (vp_nar .boolean (nI 1))), h2, tkH h3 h0, nt2, cv2, tkS nt3 nt0, tkS cv3 cv0, ps2, tkP ps3 ps0, setA (setA mo 1 (va_cpy (mo.2.1 0) (mo.2.1 1) 0 (235 * 1) 235)) 2 (upd (mo.2.1 2) 1 (vp_nar .boolean (nI 1))), ?_, ?_, ⟨i1, ⟨i2, rfl⟩, fun z => ?_, fun _ => ?_, i5⟩⟩
      · simp (disch := omega) only [f_X11_image, w1, pl_lit, pl_bl, pl_bd, pl_bd2, pl_bd3, pl_bd4, pl_bcT, pl_bcF, gd_t, pl_bcTrue, pl_bcFalse, pl_gdTrue, pl_in, pl_eq, pl_lt, pl_le, pl_ix, nI_add, pk_mul, pl_m1, t2]
      · simp (disch := omega) only [f_X12_image, pl_litL, w2, pl_lit, pl_bl, pl_bd, pl_bd2, pl_bd3, pl_bd4, pl_bcT, pl_bcF, gd_t, pl_bcTrue, pl_bcFalse, pl_gdTrue, pl_in, pl_eq, pl_lt, pl_le, pl_ix, nI_add, pk_mul, pl_m1, g', sA_n]
      · refine SR_t (i3 z) (fun k hk => ?_)
        show va_cpy (mo.2.1 0) (mo.2.1 1) 0 (235 * 1) 235 k = _
        rw [cpy_o (by omega)]
      · refine SR_t (SR_tk i1) (fun k hk => ?_)
        show va_cpy (mo.2.1 0) (mo.2.1 1) 0 (235 * 1) 235 (235 + k) = _
        rw [cpy_i (i := k) (by omega) hk, Nat.zero_add]
  · rw [bI_nin c] at w1 w2
    refine ⟨-2, badX xo, h2, h3, nt2, cv2, nt3, cv3, ps2, ps3, refM mo 0, ?_, ?_, hI0.bad⟩
    · simp (disch := omega) only [f_X11_image, w1, pl_lit, pl_bl, pl_bd, pl_bd2, pl_bd3, pl_bd4, pl_bcT, pl_bcF, gd_t, pl_bcTrue, pl_bcFalse, pl_gdTrue, pl_in, pl_eq, pl_lt, pl_le, pl_ix, nI_add, pk_mul, pl_m1, X11_bad]
    · simp (disch := omega) only [f_X12_image, pl_litL, w2, pl_lit, pl_bl, pl_bd, pl_bd2, pl_bd3, pl_bd4, pl_bcT, pl_bcF, gd_t, pl_bcTrue, pl_bcFalse, pl_gdTrue, pl_in, pl_eq, pl_lt, pl_le, pl_ix, nI_add, pk_mul, pl_m1, X12_bad]
theorem sim_from {n : Nat} (hn : 300 ≤ n) : SIM_from n INV := by
  intro xo nv rv h0 h1 h2 h3 nt0 cv0 nt1 cv1 nt2 cv2 nt3 cv3 ps0 ps1 ps2 ps3 mo v1 hI
  have hI0 := hI
  obtain ⟨i1, ⟨i2, i2'⟩, i3, i4, i5⟩ := hI
  have w1 := w11 (n := n) (v := v1) (K := 1) (by omega)
  have w2 := w12 (n := n) (v := v1) (K := 1) (by omega)
  refine inR_cases (v := v1) (N := 2) (fun b hb e => ?_) (fun c => ?_)
  · subst e
    rw [bI_in hb] at w1 w2
    have g := X12_from_cp (n := n) (mo := mo) hn hb
    have g' : f_X12_from_l33 n n mo (nI b) (nI 0) = _ := g
    have t1 := @X1_takeOver n h0 cv0 nt0 ps0 h2 nt2 cv2 ps2
    have t2 := @X1_takeOver n h0 cv0 nt0 ps0 h3 nt3 cv3 ps3
    by_cases z : xo.2.1 0 b = nI 0
    · have z2 : mo.2.1 2 b = nI 0 := by
        rcases two hb with rfl | rfl
        · rw [← i2]; exact z
        · rw [← i2']; exact z
      refine ⟨-3, noX xo, h0, nt0, cv0, ps0, refM mo 1, ?_, ?_, hI0.no⟩
      · simp (disch := omega) only [f_X11_from, w1, pl_lit, pl_bl, pl_bd, pl_bd2, pl_bd3, pl_bd4, pl_bcT, pl_bcF, gd_t, pl_bcTrue, pl_bcFalse, pl_gdTrue, pl_in, pl_eq, pl_lt, pl_le, pl_ix, nI_add, pk_mul, pl_m1, z, X11_no]
      · simp (disch := omega) only [f_X12_from, pl_litL, w2, pl_lit, pl_bl, pl_bd, pl_bd2, pl_bd3, pl_bd4, pl_bcT, pl_bcF, gd_t, pl_bcTrue, pl_bcFalse, pl_gdTrue, pl_in, pl_eq, pl_lt, pl_le, pl_ix, nI_add, pk_mul, pl_m1, z2, X12_no]
    · have z2 : ¬ mo.2.1 2 b = nI 0 := by
        rcases two hb with rfl | rfl
        · rw [← i2]; exact z
        · rw [← i2']; exact z
      have eM : f_X12_from n mo (nI b) = some (nI 1, setA mo 0 (va_cpy (mo.2.1 1) (mo.2.1 0) (235 * b) 0 235)) := by
        simp (disch := omega) only [f_X12_from, pl_litL, w2, pl_lit, pl_bl, pl_bd, pl_bd2, pl_bd3, pl_bd4, pl_bcT, pl_bcF, gd_t, pl_bcTrue, pl_bcFalse, pl_gdTrue, pl_in, pl_eq, pl_lt, pl_le, pl_ix, nI_add, pk_mul, pl_m1, g', z2]
      rcases two hb with rfl | rfl
      · refine ⟨nI 1, xo, tkH h0 h2, tkS nt0 nt2, tkS cv0 cv2, tkP ps0 ps2, _, ?_, eM, ⟨?_, ⟨i2, i2'⟩, i3, i4, i5⟩⟩
        · simp (disch := omega) only [f_X11_from, w1, pl_lit, pl_bl, pl_bd, pl_bd2, pl_bd3, pl_bd4, pl_bcT, pl_bcF, gd_t, pl_bcTrue, pl_bcFalse, pl_gdTrue, pl_in, pl_eq, pl_lt, pl_le, pl_ix, nI_add, pk_mul, pl_m1, t1]
        · refine SR_t (SR_tk (i3 z)) (fun k hk => ?_)
          show va_cpy (mo.2.1 1) (mo.2.1 0) (235 * 0) 0 235 k = _
          rw [cpy_i (i := k) (by omega) hk, Nat.mul_zero, Nat.zero_add]
      · refine ⟨nI 1, xo, tkH h0 h3, tkS nt0 nt3, tkS cv0 cv3, tkP ps0 ps3, _, ?_, eM, ⟨?_, ⟨i2, i2'⟩, i3, i4, i5⟩⟩
        · simp (disch := omega) only [f_X11_from, w1, pl_lit, pl_bl, pl_bd, pl_bd2, pl_bd3, pl_bd4, pl_bcT, pl_bcF, gd_t, pl_bcTrue, pl_bcFalse, pl_gdTrue, pl_in, pl_eq, pl_lt, pl_le, pl_ix, nI_add, pk_mul, pl_m1, t2]
        · refine SR_t (SR_tk (i4 z)) (fun k hk => ?_)
          show va_cpy (mo.2.1 1) (mo.2.1 0) (235 * 1) 0 235 k = _
          rw [cpy_i (i := k) (by omega) hk]
  · rw [bI_nin c] at w1 w2
    refine ⟨-2, badX xo, h0, nt0, cv0, ps0, refM mo 0, ?_, ?_, hI0.bad⟩
    · simp (disch := omega) only [f_X11_from, w1, pl_lit, pl_bl, pl_bd, pl_bd2, pl_bd3, pl_bd4, pl_bcT, pl_bcF, gd_t, pl_bcTrue, pl_bcFalse, pl_gdTrue, pl_in, pl_eq, pl_lt, pl_le, pl_ix, nI_add, pk_mul, pl_m1, X11_bad]
    · simp (disch := omega) only [f_X12_from, pl_litL, w2, pl_lit, pl_bl, pl_bd, pl_bd2, pl_bd3, pl_bd4, pl_bcT, pl_bcF, gd_t, pl_bcTrue, pl_bcFalse, pl_gdTrue, pl_in, pl_eq, pl_lt, pl_le, pl_ix, nI_add, pk_mul, pl_m1, X12_bad]
