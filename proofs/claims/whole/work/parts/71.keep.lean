/-! keep: what may be undone -/
theorem pl_cp {a b c n0 n1 : Nat} (ha : a < 2147483648) (hb : b < 2147483648) (hc : c < 2147483648) : cpOK (nI a) (nI b) (nI c) n0 n1 = (a + c ≤ n0 ∧ b + c ≤ n1) := by
  apply propext
  unfold cpOK
  rw [nI_clamp ha, nI_clamp hb, nI_clamp hc]
  exact ⟨fun h => h.2.2.2, fun h => ⟨nI_pos ha, nI_pos hb, nI_pos hc, h⟩⟩
theorem cpy_0 {α : Type} {f g : Nat → α} {sp dp : Nat} : va_cpy f g sp dp 0 = g := by
  funext j; exact pk_cpy_out (by omega)
theorem cpy_s {f g : Nat → Int32} {sp dp i : Nat} : upd (va_cpy f g sp dp i) (dp + i) (f (sp + i)) = va_cpy f g sp dp (i + 1) := by
  funext j
  by_cases c : j = dp + i
  · subst c; rw [pk_us, pk_cpy_in (by omega) (by omega), show dp + i - dp = i by omega]
  · rw [pk_un c]
    by_cases d : dp ≤ j ∧ j < dp + i
    · rw [pk_cpy_in (by omega) (by omega), pk_cpy_in (by omega) (by omega)]
    · rw [pk_cpy_out (by omega), pk_cpy_out (by omega)]
theorem cpy_o {α : Type} {f g : Nat → α} {sp dp n j : Nat} (h : j < dp ∨ dp + n ≤ j) : va_cpy f g sp dp n j = g j := pk_cpy_out h
theorem cpy_i {α : Type} {f g : Nat → α} {sp dp n j i : Nat} (e : j = dp + i) (h2 : i < n) : va_cpy f g sp dp n j = f (sp + i) := by
  subst e
  rw [pk_cpy_in (by omega) (by omega), show dp + i - dp = i by omega]
def SRa (h cv nt ps : MV) (t : Nat → Int32) (a : Nat → Nat) : Prop := okA a ∧ TR t a ∧ HO h t a ∧ SO cv a (a 2) 47 ∧ SO nt a (a 3) 65 ∧ PO ps t a
section KEEP
variable {n : Nat} {h h' cv nt ps ps' mo : MV} {t t' : Nat → Int32} {a a' : Nat → Nat} {U : Nat}
/-- a new past over the same house and slips -/
theorem SRa_past (s : SRa h cv nt ps t a) (ea : ∀ j, j < 83 → j ≠ 4 → a' j = a j) (et : ∀ j, j < 83 → j ≠ 4 → t' j = t j) (h4 : a' 4 ≤ 8) (f4 : t' 4 = nI (a' 4)) (kp : kP a' t') (po : PO ps' t' a') : SRa h cv nt ps' t' a' := by
  obtain ⟨ha, ht, hh, hc, hn, hp⟩ := s
  obtain ⟨kc, km, kl, kv, kn, -⟩ := AT_split ha ht
  obtain ⟨qc, qm, ql⟩ := HO_split hh
  obtain ⟨⟨c0, c1, c2, c3, c4, c5⟩, d0, d1, d2, d3, d4, d5⟩ := kc
  have e0 := ea 0 (by omega) (by omega)
  have e1 := ea 1 (by omega) (by omega)
  have e2 := ea 2 (by omega) (by omega)
  have e3 := ea 3 (by omega) (by omega)
  have e23 := ea 23 (by omega) (by omega)
  have kc' : kC a' t' := by
    unfold kC
    rw [e0, e1, e2, e3, e23, f4, et 0 (by omega) (by omega), et 1 (by omega) (by omega), et 2 (by omega) (by omega), et 3 (by omega) (by omega), et 23 (by omega) (by omega)]
    exact ⟨⟨c0, c1, c2, c3, h4, c5⟩, d0, d1, d2, d3, rfl, d5⟩
  have hAT := AT_mk kc' (kM_c km c0 e0 (fun j h1 h2 _ => ea j (by omega) (by omega)) (fun j h1 h2 _ => et j (by omega) (by omega))) (kL_c kl c1 e1 (fun j h1 h2 _ => ea j (by omega) (by omega)) (fun j h1 h2 _ => et j (by omega) (by omega))) (by rw [e2]; exact kS_c kv c2 (Nat.le_of_eq e0.symm) (fun j h1 h2 => ea j (by omega) (by omega)) (fun j h1 h2 => et j (by omega) (by omega))) (by rw [e3]; exact kS_c kn c3 (Nat.le_of_eq e0.symm) (fun j h1 h2 => ea j (by omega) (by omega)) (fun j h1 h2 => et j (by omega) (by omega))) kp
  refine ⟨hAT.1, hAT.2, HO_mk ?_ (hM_c qm c0 e0 (fun j h1 h2 _ => ea j (by omega) (by omega)) ⟨rfl, rfl, rfl⟩) (hL_c ql c1 e1 (fun j h1 h2 _ => ea j (by omega) (by omega)) ⟨rfl, rfl, rfl, rfl⟩), by rw [e2]; exact SO_c hc c2 (fun j h1 h2 => ea j (by omega) (by omega)), by rw [e3]; exact SO_c hn c3 (fun j h1 h2 => ea j (by omega) (by omega)), po⟩
  unfold hC
  rw [e0, e1, e23, et 21 (by omega) (by omega), et 22 (by omega) (by omega)]
  exact qc
/-- a new house over the same slips and past -/
theorem SR_step (s : SRa h cv nt ps t a) (k : KR h' t' a') (ea : ∀ j, (j < 5 ∨ 47 ≤ j) → a' j = a j) (et : ∀ j, (j < 5 ∨ 47 ≤ j) → t' j = t j) : SR h' cv nt ps t' := by
  obtain ⟨ha, ht, hh, hc, hn, hp⟩ := s
  obtain ⟨kc, km, kl, kv, kn, kp⟩ := AT_split ha ht
  obtain ⟨⟨c0, c1, c2, c3, c4, c5⟩, d0, d1, d2, d3, d4, d5⟩ := kc
  have e0 := ea 0 (by omega)
  have e1 := ea 1 (by omega)
  have e2 := ea 2 (by omega)
  have e3 := ea 3 (by omega)
  have e4 := ea 4 (by omega)
  refine KR_mk k ?_ ?_ ?_ (kP_c kp e0 e1 e4 (fun j h1 => ea j (by omega)) (fun j h1 => et j (by omega))) ?_ ?_ (PO_c hp e0 e1 e4 (fun j h1 => ea j (by omega)) (fun j h1 => et j (by omega)))
  · rw [e2, e3, e4, et 2 (by omega), et 3 (by omega), et 4 (by omega)]
    exact ⟨c2, c3, c4, d2, d3, d4⟩
  · rw [e2]; exact kS_c kv c2 (Nat.le_of_eq e0.symm) (fun j h1 h2 => ea j (by omega)) (fun j h1 h2 => et j (by omega))
  · rw [e3]; exact kS_c kn c3 (Nat.le_of_eq e0.symm) (fun j h1 h2 => ea j (by omega)) (fun j h1 h2 => et j (by omega))
  · rw [e2]; exact SO_c hc c2 (fun j h1 h2 => ea j (by omega))
  · rw [e3]; exact SO_c hn c3 (fun j h1 h2 => ea j (by omega))
/-- the eldest goes -/
def shT (t : Nat → Int32) : Nat → Int32 := upd (va_cpy t t 102 83 133) 4 (nI 7)
def shN (a : Nat → Nat) : Nat → Nat := uN' (va_cpy a a 102 83 133) 4 7
theorem shT_n {j : Nat} (h1 : j < 83) (h2 : j ≠ 4) : shT t j = t j := by unfold shT; rw [pk_un h2, cpy_o (by omega)]
theorem shN_n {j : Nat} (h1 : j < 83) (h2 : j ≠ 4) : shN a j = a j := by unfold shN; rw [uN_n h2, cpy_o (by omega)]
theorem shT_r {k : Nat} (hk : k < 133) : shT t (83 + k) = t (102 + k) := by unfold shT; rw [pk_un (by omega), cpy_i (i := k) rfl hk]
theorem shN_r {k : Nat} (hk : k < 133) : shN a (83 + k) = a (102 + k) := by unfold shN; rw [uN_n (by omega), cpy_i (i := k) rfl hk]
theorem shN_u {u k : Nat} (hu : u < 7) (hk : k < 19) : shN a (83 + 19 * u + k) = a (83 + 19 * (u + 1) + k) := by
  rw [show 83 + 19 * u + k = 83 + (19 * u + k) by omega, shN_r (by omega)]; congr 1; omega
theorem shT_u {u k : Nat} (hu : u < 7) (hk : k < 19) : shT t (83 + 19 * u + k) = t (83 + 19 * (u + 1) + k) := by
  rw [show 83 + 19 * u + k = 83 + (19 * u + k) by omega, shT_r (by omega)]; congr 1; omega
theorem shN_ua {u b k : Nat} (hu : u < 7) (hk : b + k < 19) : shN a (83 + 19 * u + b + k) = a (83 + 19 * (u + 1) + b + k) := by
  rw [show 83 + 19 * u + b + k = 83 + 19 * u + (b + k) by omega, shN_u hu hk]; congr 1; omega
theorem shT_ua {u b k : Nat} (hu : u < 7) (hk : b + k < 19) : shT t (83 + 19 * u + b + k) = t (83 + 19 * (u + 1) + b + k) := by
  rw [show 83 + 19 * u + b + k = 83 + 19 * u + (b + k) by omega, shT_u hu hk]; congr 1; omega
theorem ring_s (F u : Nat) : ((F + 1) % 8 + u) % 8 = (F + (u + 1)) % 8 := by omega
theorem SRa_shift (s : SRa h cv nt ps t a) (h8 : a 4 = 8) : ∃ F, F < 8 ∧ ps.1 0 = nI F ∧ SRa h cv nt (setS (setS ps 0 (nI ((F + 1) % 8))) 1 (nI 7)) (shT t) (shN a) := by
  have s' := s
  obtain ⟨ha, ht, hh, hc, hn, F, hF, p0, p1, hp⟩ := s
  obtain ⟨-, -, -, -, -, kp⟩ := AT_split ha ht
  have h6 := okL ha
  refine ⟨F, hF, p0, SRa_past s' (fun j h1 h2 => shN_n h1 h2) (fun j h1 h2 => shT_n h1 h2) ?_ ?_ ?_ ?_⟩
  · rw [show shN a 4 = 7 from uN_s]; omega
  · exact pk_us
  · intro u hu
    rw [show shN a 4 = 7 from uN_s] at hu
    obtain ⟨⟨q1, q2, q3⟩, q4, q5, q6⟩ := kp (u + 1) (by omega)
    rw [show shN a 0 = a 0 from shN_n (by omega) (by omega), show shN a 1 = a 1 from shN_n (by omega) (by omega), shN_u hu (by omega), shT_u hu (by omega)]
    refine ⟨⟨q1, fun l hl => ?_, fun m hm => ?_⟩, q4, fun l hl => ?_, fun m hm => ?_⟩
    · rw [shN_u hu (by omega)]; exact q2 l hl
    · rw [shN_ua hu (by omega), shN_ua hu (by omega)]; exact q3 m hm
    · rw [shN_u hu (by omega), shT_u hu (by omega)]; exact q5 l hl
    · rw [shN_ua hu (by omega), shN_ua hu (by omega), shT_ua hu (by omega), shT_ua hu (by omega)]; exact q6 m hm
  · refine ⟨(F + 1) % 8, by omega, rfl, by rw [show shN a 4 = 7 from uN_s]; rfl, fun u hu => ?_⟩
    rw [show shN a 4 = 7 from uN_s] at hu
    obtain ⟨q1, q2, q3, q4, q5⟩ := hp (u + 1) (by omega)
    rw [ring_s, show shN a 0 = a 0 from shN_n (by omega) (by omega), show shN a 1 = a 1 from shN_n (by omega) (by omega), shN_u hu (by omega), shT_u hu (by omega), shT_u hu (by omega)]
    refine ⟨q1, q2, q3, fun m hm => ?_, fun l hl => ?_⟩
    · rw [shN_ua hu (by omega), shN_ua hu (by omega)]; exact q4 m hm
    · rw [shN_u hu (by omega)]; exact q5 l hl
/-- one more is kept -/
def puT (t : Nat → Int32) (U : Nat) : Nat → Int32 := upd (va_cpy t t 5 (83 + 19 * U) 19) 4 (nI (U + 1))
def puN (a : Nat → Nat) (U : Nat) : Nat → Nat := uN' (va_cpy a a 5 (83 + 19 * U) 19) 4 (U + 1)
theorem puT_n {j : Nat} (h1 : j < 83 + 19 * U) (h2 : j ≠ 4) : puT t U j = t j := by unfold puT; rw [pk_un h2, cpy_o (by omega)]
theorem puN_n {j : Nat} (h1 : j < 83 + 19 * U) (h2 : j ≠ 4) : puN a U j = a j := by unfold puN; rw [uN_n h2, cpy_o (by omega)]
theorem puT_r {k : Nat} (hk : k < 19) : puT t U (83 + 19 * U + k) = t (5 + k) := by unfold puT; rw [pk_un (by omega), cpy_i (i := k) rfl hk]
theorem puN_r {k : Nat} (hk : k < 19) : puN a U (83 + 19 * U + k) = a (5 + k) := by unfold puN; rw [uN_n (by omega), cpy_i (i := k) rfl hk]
theorem puT_ra {b k : Nat} (hk : b + k < 19) : puT t U (83 + 19 * U + b + k) = t (5 + b + k) := by
  rw [show 83 + 19 * U + b + k = 83 + 19 * U + (b + k) by omega, puT_r hk]; congr 1; omega
theorem puN_ra {b k : Nat} (hk : b + k < 19) : puN a U (83 + 19 * U + b + k) = a (5 + b + k) := by
  rw [show 83 + 19 * U + b + k = 83 + 19 * U + (b + k) by omega, puN_r hk]; congr 1; omega
def rowP (h : MV) (R : Nat → Int32) (at' : Nat) : Nat → Int32 := upd (upd (upd (va_cpy (h.2.1 6) (va_cpy (h.2.1 2) (va_cpy (h.2.1 1) R 0 at' 5) 0 (at' + 5) 5) 0 (at' + 10) 6) (at' + 10 + 6) (h.1 2)) (at' + 10 + 6 + 1) (h.1 3)) (at' + 10 + 6 + 2) (h.1 4)
theorem rowP_n {R : Nat → Int32} {at' j : Nat} (hj : j < at' ∨ at' + 19 ≤ j) : rowP h R at' j = R j := by
  unfold rowP
  rw [pk_un (by omega), pk_un (by omega), pk_un (by omega), cpy_o (by omega), cpy_o (by omega), cpy_o (by omega)]
theorem rowP_p {R : Nat → Int32} {at' m : Nat} (hm : m < 5) : rowP h R at' (at' + m) = h.2.1 1 m := by
  unfold rowP
  rw [pk_un (by omega), pk_un (by omega), pk_un (by omega), cpy_o (by omega), cpy_o (by omega), cpy_i (i := m) rfl hm, Nat.zero_add]
theorem rowP_s {R : Nat → Int32} {at' m : Nat} (hm : m < 5) : rowP h R at' (at' + 5 + m) = h.2.1 2 m := by
  unfold rowP
  rw [pk_un (by omega), pk_un (by omega), pk_un (by omega), cpy_o (by omega), cpy_i (i := m) rfl hm, Nat.zero_add]
theorem rowP_l {R : Nat → Int32} {at' m : Nat} (hm : m < 6) : rowP h R at' (at' + 10 + m) = h.2.1 6 m := by
  unfold rowP
  rw [pk_un (by omega), pk_un (by omega), pk_un (by omega), cpy_i (i := m) rfl hm, Nat.zero_add]
theorem rowP_3 {R : Nat → Int32} {at' : Nat} : rowP h R at' (at' + 16) = h.1 2 ∧ rowP h R at' (at' + 17) = h.1 3 ∧ rowP h R at' (at' + 18) = h.1 4 := by
  unfold rowP
  refine ⟨?_, ?_, pk_us⟩
  · rw [pk_un (by omega), pk_un (by omega)]; exact pk_us
  · rw [pk_un (by omega)]; exact pk_us
def puP (h ps : MV) (F U : Nat) : MV := setS (setA ps 0 (rowP h (ps.2.1 0) ((F + U) % 8 * 19))) 1 (nI (U + 1))
theorem SRa_push {F : Nat} (s : SRa h cv nt ps t a) (hU : a 4 < 8) (hF : F < 8) (e0 : ps.1 0 = nI F) : SRa h cv nt (puP h ps F (a 4)) (puT t (a 4)) (puN a (a 4)) := by
  have s' := s
  obtain ⟨ha, ht, hh, hc, hn, F', hF', p0, p1, hp⟩ := s
  have eF : F' = F := by rw [e0, pl_eq (by omega) (by omega)] at p0; exact p0.symm
  subst eF
  obtain ⟨kc, km, kl, -, -, kp⟩ := AT_split ha ht
  obtain ⟨qc, qm, ql⟩ := HO_split hh
  have h6 := okL ha
  have e4 : puN a (a 4) 4 = a 4 + 1 := uN_s
  have ea0 : puN a (a 4) 0 = a 0 := puN_n (by omega) (by omega)
  have ea1 : puN a (a 4) 1 = a 1 := puN_n (by omega) (by omega)
  refine SRa_past s' (fun j h1 h2 => puN_n (by omega) h2) (fun j h1 h2 => puT_n (by omega) h2) (by rw [e4]; omega) (by rw [e4]; exact pk_us) ?_ ?_
  · intro u hu
    rw [e4] at hu
    rw [ea0, ea1]
    by_cases c : u = a 4
    · subst c
      rw [puN_r (by omega), puT_r (by omega)]
      refine ⟨⟨h6.2.2.2.2.2, fun l hl => ?_, fun m hm => ?_⟩, kc.2.2.2.2.2.2, fun l hl => ?_, fun m hm => ?_⟩
      · rw [puN_r (by omega)]; exact (kl l hl).1.2.2.2.2
      · rw [puN_ra (by omega), puN_ra (by omega)]; exact ⟨(km m hm).1.2.2, (km m hm).1.2.1⟩
      · rw [puN_r (by omega), puT_r (by omega)]; exact (kl l hl).2.2.2.2
      · rw [puN_ra (by omega), puN_ra (by omega), puT_ra (by omega), puT_ra (by omega)]; exact ⟨(km m hm).2.2.2, (km m hm).2.2.1⟩
    · obtain ⟨⟨q1, q2, q3⟩, q4, q5, q6⟩ := kp u (by omega)
      rw [puN_n (by omega) (by omega), puT_n (by omega) (by omega)]
      refine ⟨⟨q1, fun l hl => ?_, fun m hm => ?_⟩, q4, fun l hl => ?_, fun m hm => ?_⟩
      · rw [puN_n (by omega) (by omega)]; exact q2 l hl
      · rw [puN_n (by omega) (by omega), puN_n (by omega) (by omega)]; exact q3 m hm
      · rw [puN_n (by omega) (by omega), puT_n (by omega) (by omega)]; exact q5 l hl
      · rw [puN_n (by omega) (by omega), puN_n (by omega) (by omega), puT_n (by omega) (by omega), puT_n (by omega) (by omega)]; exact q6 m hm
  · refine ⟨F', hF, p0, by rw [e4]; rfl, fun u hu => ?_⟩
    rw [e4] at hu
    rw [ea0, ea1]
    show rowP h (ps.2.1 0) ((F' + a 4) % 8 * 19) _ = _ ∧ rowP h (ps.2.1 0) ((F' + a 4) % 8 * 19) _ = _ ∧ rowP h (ps.2.1 0) ((F' + a 4) % 8 * 19) _ = _ ∧ (∀ m, m < a 0 → rowP h (ps.2.1 0) ((F' + a 4) % 8 * 19) _ = _ ∧ rowP h (ps.2.1 0) ((F' + a 4) % 8 * 19) _ = _) ∧ ∀ l, l < a 1 → rowP h (ps.2.1 0) ((F' + a 4) % 8 * 19) _ = _
    by_cases c : u = a 4
    · subst c
      obtain ⟨r1, r2, r3⟩ := rowP_3 (h := h) (R := ps.2.1 0) (at' := (F' + a 4) % 8 * 19)
      rw [r1, r2, r3, puN_r (by omega), puT_r (by omega), puT_r (by omega)]
      refine ⟨qc.2.2.1, qc.2.2.2.1, qc.2.2.2.2, fun m hm => ?_, fun l hl => ?_⟩
      · rw [rowP_p (by omega), rowP_s (by omega), puN_ra (by omega), puN_ra (by omega)]; exact ⟨(qm m hm).2.1, (qm m hm).2.2⟩
      · rw [rowP_l (by omega), puN_r (by omega)]; exact (ql l hl).2.2.2
    · obtain ⟨q1, q2, q3, q4, q5⟩ := hp u (by omega)
      have hne : (F' + u) % 8 * 19 + 19 ≤ (F' + a 4) % 8 * 19 ∨ (F' + a 4) % 8 * 19 + 19 ≤ (F' + u) % 8 * 19 := by omega
      rw [rowP_n (by omega), rowP_n (by omega), rowP_n (by omega), puN_n (by omega) (by omega), puT_n (by omega) (by omega), puT_n (by omega) (by omega)]
      refine ⟨q1, q2, q3, fun m hm => ?_, fun l hl => ?_⟩
      · rw [rowP_n (by omega), rowP_n (by omega), puN_n (by omega) (by omega), puN_n (by omega) (by omega)]; exact q4 m hm
      · rw [rowP_n (by omega), puN_n (by omega) (by omega)]; exact q5 l hl
theorem X4_keep_j {F : Nat} (hF : F < 8) (hU : U < 8) (e0 : ps.1 0 = nI F) (e1 : ps.1 1 = nI U) : f_X4_keep_j28 n h ps = some (puP h ps F U) := by
  have hat : (F + U) % 8 * 19 ≤ 133 := by omega
  simp (disch := omega) only [f_X4_keep_j28, f_X4_keep, pl_lit, pl_bl, pl_bd, pl_bd2, pl_bd3, pl_bd4, pl_bcT, pl_bcF, gd_t, pl_bcTrue, pl_bcFalse, pl_gdTrue, pl_in, pl_eq, pl_lt, pl_le, pl_ix, nI_add, pk_mul, pl_m1, e0, e1, pl_div, pl_rem2, pl_cp, sA_s, sA_1, sAA, puP, rowP]
theorem X12_keep_j (hn : 200 ≤ n) (hU : U < 8) (e : mo.2.1 0 4 = nI U) : f_X12_keep_j52 n mo = some (setA mo 0 (puT (mo.2.1 0) U)) := by
  have s1 : f_X12_keep_l54 n n mo 0 = some (setA mo 0 (va_cpy (mo.2.1 0) (mo.2.1 0) 5 (83 + 19 * U) 19)) := by
    refine lp_cnt' 19 (fun i => setA mo 0 (va_cpy (mo.2.1 0) (mo.2.1 0) 5 (83 + 19 * U) i)) mo _ ?_ (fun i hi => ?_) ?_ (by omega)
    · show setA mo 0 (va_cpy (mo.2.1 0) (mo.2.1 0) 5 (83 + 19 * U) 0) = mo
      rw [cpy_0]
      unfold setA
      refine congrArg (fun z => (mo.1, z, mo.2.2)) ?_
      funext j
      by_cases c : j = 0
      · rw [if_pos c, c]
      · rw [if_neg c]
    · have e' : ∀ i, va_cpy (mo.2.1 0) (mo.2.1 0) 5 (83 + 19 * U) i 4 = nI U := fun i => by rw [cpy_o (by omega), e]
      simp (disch := omega) only [f_X12_keep_b13, f_X12_keep_l13, f_X12_keep_b54, f_X12_keep_l54, f_X12_keep_j52, f_X12_keep, pl_lit, pl_bl, pl_bd, pl_bd2, pl_bd3, pl_bd4, pl_bcT, pl_bcF, gd_t, pl_bcTrue, pl_bcFalse, pl_gdTrue, pl_in, pl_eq, pl_lt, pl_le, pl_ix, nI_add, pk_mul, pl_m1, sA_s, sAA, e', cpy_o, cpy_s]
    · simp (disch := omega) only [f_X12_keep_b13, f_X12_keep_l13, f_X12_keep_b54, f_X12_keep_l54, f_X12_keep_j52, f_X12_keep, pl_lit, pl_bl, pl_bd, pl_bd2, pl_bd3, pl_bd4, pl_bcT, pl_bcF, gd_t, pl_bcTrue, pl_bcFalse, pl_gdTrue, pl_in, pl_eq, pl_lt, pl_le, pl_ix, nI_add, pk_mul, pl_m1]
  have e' : va_cpy (mo.2.1 0) (mo.2.1 0) 5 (83 + 19 * U) 19 4 = nI U := by rw [cpy_o (by omega), e]
  unfold f_X12_keep_j52
  rw [s1]
  simp (disch := omega) only [pl_lit, pl_bl, pl_bd, pl_bd2, pl_bd3, pl_bd4, pl_bcT, pl_bcF, gd_t, pl_bcTrue, pl_bcFalse, pl_gdTrue, pl_in, pl_eq, pl_lt, pl_le, pl_ix, nI_add, pk_mul, pl_m1, sA_s, sAA, e', puT]
theorem X12_keep_sh (hn : 200 ≤ n) : f_X12_keep_l13 n n mo 0 = some (setA mo 0 (va_cpy (mo.2.1 0) (mo.2.1 0) 102 83 133)) := by
  refine lp_cnt' 133 (fun i => setA mo 0 (va_cpy (mo.2.1 0) (mo.2.1 0) 102 83 i)) mo _ ?_ (fun i hi => ?_) ?_ (by omega)
  · show setA mo 0 (va_cpy (mo.2.1 0) (mo.2.1 0) 102 83 0) = mo
    rw [cpy_0]
    unfold setA
    refine congrArg (fun z => (mo.1, z, mo.2.2)) ?_
    funext j
    by_cases c : j = 0
    · rw [if_pos c, c]
    · rw [if_neg c]
  · simp (disch := omega) only [f_X12_keep_b13, f_X12_keep_l13, f_X12_keep_b54, f_X12_keep_l54, f_X12_keep_j52, f_X12_keep, pl_lit, pl_bl, pl_bd, pl_bd2, pl_bd3, pl_bd4, pl_bcT, pl_bcF, gd_t, pl_bcTrue, pl_bcFalse, pl_gdTrue, pl_in, pl_eq, pl_lt, pl_le, pl_ix, nI_add, pk_mul, pl_m1, sA_s, sAA, cpy_o, cpy_s]
  · simp (disch := omega) only [f_X12_keep_b13, f_X12_keep_l13, f_X12_keep_b54, f_X12_keep_l54, f_X12_keep_j52, f_X12_keep, pl_lit, pl_bl, pl_bd, pl_bd2, pl_bd3, pl_bd4, pl_bcT, pl_bcF, gd_t, pl_bcTrue, pl_bcFalse, pl_gdTrue, pl_in, pl_eq, pl_lt, pl_le, pl_ix, nI_add, pk_mul, pl_m1]
theorem X4_keep_8 {F : Nat} (hF : F < 8) (e0 : ps.1 0 = nI F) (p1 : ps.1 1 = nI 8) : f_X4_keep n h ps = some (puP h (setS (setS ps 0 (nI ((F + 1) % 8))) 1 (nI 7)) ((F + 1) % 8) 7) := by
  have r0 : (setS (setS ps 0 (nI ((F + 1) % 8))) 1 (nI 7)).1 0 = nI ((F + 1) % 8) := by rw [sS_n (by omega), sS_s]
  have r1 : (setS (setS ps 0 (nI ((F + 1) % 8))) 1 (nI 7)).1 1 = nI 7 := sS_s
  have := X4_keep_j (n := n) (h := h) (ps := setS (setS ps 0 (nI ((F + 1) % 8))) 1 (nI 7)) (F := (F + 1) % 8) (U := 7) (by omega) (by omega) r0 r1
  have w : ps.1 0 + 1 - (ps.1 0 + 1) / 8 * 8 = nI ((F + 1) % 8) := by
    simp (disch := omega) only [pl_lit, pl_bl, pl_bd, pl_bd2, pl_bd3, pl_bd4, pl_bcT, pl_bcF, gd_t, pl_bcTrue, pl_bcFalse, pl_gdTrue, pl_in, pl_eq, pl_lt, pl_le, pl_ix, nI_add, pk_mul, pl_m1, e0, pl_div, pl_rem2]
  have nl : ¬ ps.1 1 < 8 := by
    rw [p1, show (8 : Int32) = nI 8 from rfl, pl_lt (by omega) (by omega)]
    omega
  unfold f_X4_keep
  rw [bc_F nl, pl_bl, pl_bl, pl_bl, w, show (7 : Int32) = nI 7 from rfl]
  exact this
theorem X12_keep_8 (hn : 200 ≤ n) (e4 : mo.2.1 0 4 = nI 8) : f_X12_keep n mo = some (setA mo 0 (puT (shT (mo.2.1 0)) 7)) := by
  have := X12_keep_j (n := n) (mo := setA mo 0 (shT (mo.2.1 0))) (U := 7) hn (by omega) (by rw [sA_s]; exact pk_us)
  rw [sAA, sA_s] at this
  have q : shT (mo.2.1 0) = upd (va_cpy (mo.2.1 0) (mo.2.1 0) 102 83 133) 4 (nI 7) := rfl
  unfold f_X12_keep
  rw [X12_keep_sh hn]
  simp (disch := omega) only [pl_lit, pl_bl, pl_bd, pl_bd2, pl_bd3, pl_bd4, pl_bcT, pl_bcF, gd_t, pl_bcTrue, pl_bcFalse, pl_gdTrue, pl_in, pl_eq, pl_lt, pl_le, pl_ix, nI_add, pk_mul, pl_m1, e4, sA_s, sAA, ← q]
  exact this
theorem keep_8 (hn : 200 ≤ n) (s : SRa h cv nt ps (mo.2.1 0) a) (c : a 4 = 8) : ∃ ps' t' a', f_X4_keep n h ps = some ps' ∧ f_X12_keep n mo = some (setA mo 0 t') ∧ SRa h cv nt ps' t' a' ∧ (∀ j, j < 83 → j ≠ 4 → a' j = a j) ∧ ∀ j, j < 83 → j ≠ 4 → t' j = mo.2.1 0 j := by
  have e4 : mo.2.1 0 4 = nI (a 4) := s.2.1.2.2.2.2.1
  obtain ⟨F, hF, e0, s1⟩ := SRa_shift s c
  have q4 : shN a 4 = 7 := uN_s
  have p1 : ps.1 1 = nI 8 := by obtain ⟨F', -, -, p1, -⟩ := s.2.2.2.2.2; rw [p1, c]
  have s2 := SRa_push (F := (F + 1) % 8) s1 (by rw [q4]; omega) (by omega) (by rw [sS_n (by omega), sS_s])
  rw [q4] at s2
  rw [c] at e4
  exact ⟨_, _, _, X4_keep_8 hF e0 p1, X12_keep_8 hn e4, s2, fun j h1 h2 => by rw [puN_n (by omega) h2, shN_n h1 h2], fun j h1 h2 => by rw [puT_n (by omega) h2, shT_n h1 h2]⟩
theorem keep_7 (hn : 200 ≤ n) (s : SRa h cv nt ps (mo.2.1 0) a) (c : a 4 < 8) : ∃ ps' t' a', f_X4_keep n h ps = some ps' ∧ f_X12_keep n mo = some (setA mo 0 t') ∧ SRa h cv nt ps' t' a' ∧ (∀ j, j < 83 → j ≠ 4 → a' j = a j) ∧ ∀ j, j < 83 → j ≠ 4 → t' j = mo.2.1 0 j := by
  have e4 : mo.2.1 0 4 = nI (a 4) := s.2.1.2.2.2.2.1
  obtain ⟨F, hF, e0, p1, -⟩ := s.2.2.2.2.2
  refine ⟨_, _, _, ?_, ?_, SRa_push (F := F) s (by omega) hF e0, fun j h1 h2 => puN_n (by omega) h2, fun j h1 h2 => puT_n (by omega) h2⟩
  · have nl : ps.1 1 < 8 := by
      rw [p1, show (8 : Int32) = nI 8 from rfl, pl_lt (by omega) (by omega)]
      exact c
    unfold f_X4_keep
    rw [bc_T nl, X4_keep_j (n := n) (h := h) hF c e0 p1]
  · unfold f_X12_keep
    simp (disch := omega) only [pl_lit, pl_bl, pl_bd, pl_bd2, pl_bd3, pl_bd4, pl_bcT, pl_bcF, gd_t, pl_bcTrue, pl_bcFalse, pl_gdTrue, pl_in, pl_eq, pl_lt, pl_le, pl_ix, nI_add, pk_mul, pl_m1, e4, X12_keep_j (n := n) hn c e4]
theorem keep_both (hn : 200 ≤ n) (s : SRa h cv nt ps (mo.2.1 0) a) : ∃ ps' t' a', f_X4_keep n h ps = some ps' ∧ f_X12_keep n mo = some (setA mo 0 t') ∧ SRa h cv nt ps' t' a' ∧ (∀ j, j < 83 → j ≠ 4 → a' j = a j) ∧ ∀ j, j < 83 → j ≠ 4 → t' j = mo.2.1 0 j := by
  have h6 := okL s.1
  by_cases c : a 4 = 8
  · exact keep_8 hn s c
  · exact keep_7 hn s (by omega)
end KEEP
