/-! frank, pay, moves, day, undo -/
section DAYS
variable {n z : Nat} {h h' cv nt ps ps' mo : MV} {t t' : Nat → Int32} {a a' : Nat → Nat} {l m : Nat}
theorem KR_HO (k : KR h t a) : HO h t a := HO_mk k.2.2.2.1 k.2.2.2.2.1 k.2.2.2.2.2
/-- the numbers alone, with nothing told but the house -/
def cut (a : Nat → Nat) : Nat → Nat := fun j => if j = 2 ∨ j = 3 ∨ j = 4 then 0 else a j
theorem cut_n {j : Nat} (hj : j < 2 ∨ 5 ≤ j) : cut a j = a j := if_neg (by omega)
theorem KR_okA (k : KR h t a) : okA (cut a) := by
  obtain ⟨⟨c0, c1, c5, d0, d1, d5⟩, km, kl, -⟩ := k
  refine ⟨c0, c1, Nat.zero_le _, Nat.zero_le _, Nat.zero_le _, c5, fun m hm => ?_, fun l hl => ?_, fun i hi => absurd hi (Nat.not_lt_zero i), fun i hi => absurd hi (Nat.not_lt_zero i), fun i hi => absurd hi (Nat.not_lt_zero i)⟩
  · rw [cut_n (by omega)] at hm
    rw [cut_n (by omega), cut_n (by omega), cut_n (by omega)]
    exact (km m hm).1
  · rw [cut_n (by omega)] at hl
    rw [cut_n (by omega), cut_n (by omega), cut_n (by omega), cut_n (by omega)]
    exact (kl l hl).1
theorem KR_cutHO (k : KR h t a) : HO h t (cut a) := by
  obtain ⟨⟨c0, c1, c5, d0, d1, d5⟩, km, kl, qc, qm, ql⟩ := k
  refine ⟨qc.1, qc.2.1, qc.2.2.1, qc.2.2.2.1, qc.2.2.2.2, fun m hm => ?_, fun l hl => ?_⟩
  · rw [cut_n (by omega)] at hm
    rw [cut_n (by omega), cut_n (by omega), cut_n (by omega)]
    exact qm m hm
  · rw [cut_n (by omega)] at hl
    rw [cut_n (by omega), cut_n (by omega), cut_n (by omega), cut_n (by omega)]
    exact ql l hl
def cutT (t : Nat → Int32) : Nat → Int32 := fun j => if j = 2 ∨ j = 3 ∨ j = 4 then nI 0 else t j
theorem cutT_n {j : Nat} (hj : j < 2 ∨ 5 ≤ j) : cutT t j = t j := if_neg (by omega)
theorem KR_cutTR (k : KR h t a) : TR (cutT t) (cut a) := by
  obtain ⟨⟨c0, c1, c5, d0, d1, d5⟩, km, kl, -⟩ := k
  refine ⟨d0, d1, rfl, rfl, rfl, d5, fun m hm => ?_, fun l hl => ?_, fun i hi => absurd hi (Nat.not_lt_zero i), fun i hi => absurd hi (Nat.not_lt_zero i), fun i hi => absurd hi (Nat.not_lt_zero i)⟩
  · rw [cut_n (by omega)] at hm
    rw [cut_n (by omega), cut_n (by omega), cut_n (by omega), cutT_n (by omega), cutT_n (by omega), cutT_n (by omega)]
    exact (km m hm).2
  · rw [cut_n (by omega)] at hl
    rw [cut_n (by omega), cut_n (by omega), cut_n (by omega), cut_n (by omega), cutT_n (by omega), cutT_n (by omega), cutT_n (by omega), cutT_n (by omega)]
    exact (kl l hl).2
theorem cut_post : postN (cut a) l = postN a l := by
  unfold postN
  rw [cut_n (by omega), cut_n (by omega), cut_n (by omega)]
theorem cut_may : mayN (cut a) l m = mayN a l m := by
  unfold mayN
  rw [cut_n (by omega), cut_n (by omega), cut_n (by omega), cut_n (by omega), cut_n (by omega), cut_n (by omega), cut_n (by omega)]
theorem KX1_postage (k : KR h t a) (hl : l < a 1) : f_X1_postage n h (nI l) = some (nI (postN a l)) := by
  rw [X1_postage (KR_okA k) (KR_cutHO k) (by rw [cut_n (by omega)]; exact hl), cut_post]
theorem KX1_mayFrank (k : KR h t a) (hl : l < a 1) (hm : m < a 0) : f_X1_mayFrank n h (nI l) (nI m) = some (bI (mayN a l m)) := by
  rw [X1_mayFrank (KR_okA k) (KR_cutHO k) (by rw [cut_n (by omega)]; exact hl) (by rw [cut_n (by omega)]; exact hm), cut_may]
theorem KX12_postageOf (hz : 83 ≤ z) (k : KR h t a) (hl : l < a 1) : f_X12_postageOf n z t (nI l) = some (nI (postN a l)) := by
  have h6 := k.1
  obtain ⟨⟨b1, b2, b3, b4, b5⟩, e1, e2, e3, -⟩ := k.2.2.1 l hl
  have hd := absd_le b1 b2
  have f1 : 29 + 3 * l + 0 = 29 + 3 * l := rfl
  have f2 : 29 + 3 * l + 1 = 30 + 3 * l := by omega
  have f3 : 29 + 3 * l + 2 = 31 + 3 * l := by omega
  simp (disch := omega) only [f_X12_postageOf, pl_lit, pl_bl, pl_bd, pl_bd2, pl_bd3, pl_bd4, pl_bcT, pl_bcF, gd_t, pl_bcTrue, pl_bcFalse, pl_gdTrue, pl_in, pl_eq, pl_lt, pl_le, pl_ix, nI_add, pk_mul, pl_m1, f1, f2, f3, e1, e2, e3, X12_miles b1 b2, pl_div, postN]
theorem KX12_mayFrank (hz : 83 ≤ z) (k : KR h t a) (hl : l < a 1) (hm : m < a 0) : f_X12_mayFrank n z t (nI l) (nI m) = some (bI (mayN a l m)) := by
  have h6 := k.1
  obtain ⟨⟨b1, b2, b3, b4, b5⟩, e1, e2, e3, e4⟩ := k.2.2.1 l hl
  obtain ⟨⟨c1, c2, c3⟩, g1, g2, g3⟩ := k.2.1 m hm
  have hd : t 23 = nI (a 23) := h6.2.2.2.2.2
  have hs := signsN_le (a (24 + m)) (a 23)
  have hr := reachN_le (a (24 + m))
  have hb := bearsN_le (a (24 + m))
  have hab := absd_le b1 c2
  have hk := X12_coversAs (n := n) (k := a (24 + m)) (d := a 23) c1 (by omega)
  have f1 : 29 + 3 * l + 0 = 29 + 3 * l := rfl
  have f3 : 29 + 3 * l + 2 = 31 + 3 * l := by omega
  simp (disch := omega) only [f_X12_mayFrank_j93, f_X12_mayFrank_j92, f_X12_mayFrank_j42, f_X12_mayFrank, pl_lit, pl_bl, pl_bd, pl_bd2, pl_bd3, pl_bd4, pl_bcT, pl_bcF, gd_t, pl_bcTrue, pl_bcFalse, pl_gdTrue, pl_in, pl_eq, pl_lt, pl_le, pl_ix, nI_add, pk_mul, pl_m1, f1, f3, e1, e3, e4, g1, g2, g3, hd, hk, X12_miles b1 c2, X12_reachAs c1, X12_bearsAs c1, wI_m1, bI_0n, pl_bc01n, pl_bcbn', pl_bcNot, pl_bcSame, true_or, or_true, pl_bc10n, pl_bcbn]
  refine congrArg some (bI_congr ?_)
  unfold mayN
  omega
/-- a house changed in marks and signed covers alone -/
theorem KR_ml (k : KR h t a) (ea : ∀ j, j < 5 ∨ 29 ≤ j ∨ 16 ≤ j ∧ j < 21 ∨ 24 ≤ j → a' j = a j) (et : ∀ j, j < 5 ∨ 29 ≤ j ∨ 16 ≤ j ∧ j < 21 ∨ 24 ≤ j → t' j = t j) (e23 : a' 23 ≤ 999) (t23 : t' 23 = nI (a' 23)) (h23 : h'.1 2 = nI (a' 23)) (h21 : h'.1 3 = t' 21) (h22 : h'.1 4 = t' 22) (h0 : h'.1 0 = h.1 0) (h1 : h'.1 1 = h.1 1) (hA : h'.2.1 0 = h.2.1 0 ∧ h'.2.1 1 = h.2.1 1 ∧ h'.2.1 3 = h.2.1 3 ∧ h'.2.1 4 = h.2.1 4 ∧ h'.2.1 5 = h.2.1 5) (hs : ∀ m, m < a 0 → a' (11 + m) ≤ 13 ∧ t' (11 + m) = nI (a' (11 + m)) ∧ h'.2.1 2 m = nI (a' (11 + m))) (hw : ∀ l, l < a 1 → a' (5 + l) ≤ 6 ∧ t' (5 + l) = wI (a' (5 + l)) ∧ h'.2.1 6 l = wI (a' (5 + l))) : KR h' t' a' := by
  obtain ⟨⟨c0, c1, c5, d0, d1, d5⟩, km, kl, qc, qm, ql⟩ := k
  have e0 := ea 0 (by omega)
  have e1 := ea 1 (by omega)
  refine ⟨?_, ?_, ?_, ?_, ?_, ?_⟩
  · rw [e0, e1, et 0 (by omega), et 1 (by omega)]
    exact ⟨c0, c1, e23, d0, d1, t23⟩
  · intro m hm
    rw [e0] at hm
    rw [ea (24 + m) (by omega), ea (16 + m) (by omega), et (24 + m) (by omega), et (16 + m) (by omega)]
    obtain ⟨⟨x1, x2, x3⟩, y1, y2, y3⟩ := km m hm
    obtain ⟨z1, z2, z3⟩ := hs m hm
    exact ⟨⟨x1, x2, z1⟩, y1, y2, z2⟩
  · intro l hl
    rw [e1] at hl
    rw [ea (29 + 3 * l) (by omega), ea (30 + 3 * l) (by omega), ea (31 + 3 * l) (by omega), et (29 + 3 * l) (by omega), et (30 + 3 * l) (by omega), et (31 + 3 * l) (by omega)]
    obtain ⟨⟨x1, x2, x3, x4, x5⟩, y1, y2, y3, y4⟩ := kl l hl
    obtain ⟨z1, z2, z3⟩ := hw l hl
    exact ⟨⟨x1, x2, x3, x4, z1⟩, y1, y2, y3, z2⟩
  · unfold hC
    rw [e0, e1, h0, h1]
    exact ⟨qc.1, qc.2.1, h23, h21, h22⟩
  · intro m hm
    rw [e0] at hm
    rw [ea (24 + m) (by omega), ea (16 + m) (by omega), hA.1, hA.2.1]
    obtain ⟨x1, x2, x3⟩ := qm m hm
    exact ⟨x1, x2, (hs m hm).2.2⟩
  · intro l hl
    rw [e1] at hl
    rw [ea (29 + 3 * l) (by omega), ea (30 + 3 * l) (by omega), ea (31 + 3 * l) (by omega), hA.2.2.1, hA.2.2.2.1, hA.2.2.2.2]
    obtain ⟨x1, x2, x3, x4⟩ := ql l hl
    exact ⟨x1, x2, x3, (hw l hl).2.2⟩
/-- signing -/
def signT (t : Nat → Int32) (l m p : Nat) : Nat → Int32 := upd (upd (upd t (5 + l) (nI m)) (11 + m) (t (11 + m) + nI 1)) 21 (t 21 + nI p)
def signN (a : Nat → Nat) (l m : Nat) : Nat → Nat := uN' (uN' a (5 + l) m) (11 + m) (a (11 + m) + 1)
def signH (h : MV) (l m p : Nat) : MV := setS (setA (setA h 6 (upd (h.2.1 6) l (nI m))) 2 (upd (h.2.1 2) m (h.2.1 2 m + nI 1))) 3 (h.1 3 + nI p)
theorem signT_n {p j : Nat} (hj : j ≠ 5 + l ∧ j ≠ 11 + m ∧ j ≠ 21) : signT t l m p j = t j := by
  unfold signT; rw [pk_un (by omega), pk_un (by omega), pk_un (by omega)]
theorem signN_n {j : Nat} (hj : j ≠ 5 + l ∧ j ≠ 11 + m) : signN a l m j = a j := by
  unfold signN; rw [uN_n (by omega), uN_n (by omega)]
theorem KR_sign (k : KR h t a) (hl : l < a 1) (hm : m < a 0) (hf : mayN a l m) : KR (signH h l m (postN a l)) (signT t l m (postN a l)) (signN a l m) := by
  have k' := k
  obtain ⟨⟨c0, c1, c5, d0, d1, d5⟩, km, kl, qc, qm, ql⟩ := k
  have hs := signsN_le (a (24 + m)) (a 23)
  have hlt : a (11 + m) < 13 := by obtain ⟨-, q, -⟩ := hf; omega
  have e23 : signN a l m 23 = a 23 := signN_n (by omega)
  refine KR_ml k' (fun j hj => signN_n (by omega)) (fun j hj => signT_n (by omega)) (by rw [e23]; exact c5) (by rw [e23, signT_n (by omega)]; exact d5) (by rw [e23]; exact qc.2.2.1) ?_ (by rw [signT_n (by omega)]; exact qc.2.2.2.2) rfl rfl ⟨rfl, rfl, rfl, rfl, rfl⟩ (fun m' hm' => ?_) (fun l' hl' => ?_)
  · show h.1 3 + nI (postN a l) = _
    rw [qc.2.2.2.1]
    exact pk_us.symm
  · show _ ∧ _ ∧ upd (h.2.1 2) m (h.2.1 2 m + nI 1) m' = _
    by_cases c : m' = m
    · subst c
      have x : signN a l m' (11 + m') = a (11 + m') + 1 := uN_s
      have y : signT t l m' (postN a l) (11 + m') = t (11 + m') + nI 1 := by unfold signT; rw [pk_un (by omega), pk_us]
      rw [x, y, pk_us, (qm m' hm).2.2, (km m' hm).2.2.2, nI_add]
      exact ⟨by omega, rfl, rfl⟩
    · rw [signN_n (by omega), signT_n (by omega), pk_un c]
      exact ⟨(km m' hm').1.2.2, (km m' hm').2.2.2, (qm m' hm').2.2⟩
  · show _ ∧ _ ∧ upd (h.2.1 6) l (nI m) l' = _
    by_cases c : l' = l
    · subst c
      have x : signN a l' m (5 + l') = m := by unfold signN; rw [uN_n (by omega), uN_s]
      have y : signT t l' m (postN a l') (5 + l') = nI m := by unfold signT; rw [pk_un (by omega), pk_un (by omega), pk_us]
      rw [x, y, pk_us, wI_n (by omega)]
      exact ⟨by omega, rfl, rfl⟩
    · rw [signN_n (by omega), signT_n (by omega), pk_un c]
      exact ⟨(kl l' hl').1.2.2.2.2, (kl l' hl').2.2.2.2, (ql l' hl').2.2.2⟩
theorem post_e {l : Nat} (ea : ∀ j, 29 ≤ j → j < 47 → a' j = a j) (hl : l < 6) : postN a' l = postN a l := by
  unfold postN; rw [ea (29 + 3 * l) (by omega) (by omega), ea (30 + 3 * l) (by omega) (by omega), ea (31 + 3 * l) (by omega) (by omega)]
theorem kL_post (hz : 83 ≤ z) (k : kL a t) (h1 : a 1 ≤ 6) (hl : l < a 1) (et : ∀ j, 29 ≤ j → j < 47 → t' j = t j) : f_X12_postageOf n z t' (nI l) = some (nI (postN a l)) := by
  obtain ⟨⟨b1, b2, b3, b4, b5⟩, e1, e2, e3, -⟩ := k l hl
  rw [← et (29 + 3 * l) (by omega) (by omega)] at e1
  rw [← et (30 + 3 * l) (by omega) (by omega)] at e2
  rw [← et (31 + 3 * l) (by omega) (by omega)] at e3
  have hd := absd_le b1 b2
  have f1 : 29 + 3 * l + 0 = 29 + 3 * l := rfl
  have f2 : 29 + 3 * l + 1 = 30 + 3 * l := by omega
  have f3 : 29 + 3 * l + 2 = 31 + 3 * l := by omega
  simp (disch := omega) only [f_X12_postageOf, pl_lit, pl_bl, pl_bd, pl_bd2, pl_bd3, pl_bd4, pl_bcT, pl_bcF, gd_t, pl_bcTrue, pl_bcFalse, pl_gdTrue, pl_in, pl_eq, pl_lt, pl_le, pl_ix, nI_add, pk_mul, pl_m1, f1, f2, f3, e1, e2, e3, X12_miles b1 b2, pl_div, postN]
theorem hL_post (k : kL a t) (q : hL h a) (h1 : a 1 ≤ 6) (hl : l < a 1) (eh : h'.2.1 3 = h.2.1 3 ∧ h'.2.1 4 = h.2.1 4 ∧ h'.2.1 5 = h.2.1 5) : f_X1_postage n h' (nI l) = some (nI (postN a l)) := by
  obtain ⟨⟨b1, b2, b3, b4, b5⟩, -⟩ := k l hl
  obtain ⟨e1, e2, e3, -⟩ := q l hl
  rw [← eh.1] at e1
  rw [← eh.2.1] at e2
  rw [← eh.2.2] at e3
  have hd := absd_le b1 b2
  simp (disch := omega) only [f_X1_postage, pl_ix, e1, e2, e3, abs_subn, pl_lit, pl_bl, pl_bd, pl_bd2, pl_bd3, pl_bd4, pl_bcT, pl_bcF, gd_t, pl_bcTrue, pl_bcFalse, pl_gdTrue, pl_in, pl_eq, pl_lt, pl_le, pl_ix, nI_add, pk_mul, pl_m1, pl_div, postN]
theorem X12_goFrank (hz : 83 ≤ z) (k : KR h t a) (hl : l < a 1) (hm : m < a 0) : f_X12_goFrank n z t (nI l) (nI m) = some (nI (postN a l), signT t l m (postN a l)) := by
  have h6 := k.1
  have p1 : f_X12_postageOf n z (upd (upd t (5 + l) (nI m)) (11 + m) (t (11 + m) + nI 1)) (nI l) = some (nI (postN a l)) := kL_post hz k.2.2.1 h6.2.1 hl (fun j h1 h2 => by rw [pk_un (by omega), pk_un (by omega)])
  have p2 : f_X12_postageOf n z (signT t l m (postN a l)) (nI l) = some (nI (postN a l)) := kL_post hz k.2.2.1 h6.2.1 hl (fun j h1 h2 => signT_n (by omega))
  have q : upd (upd (upd t (5 + l) (nI m)) (11 + m) (t (11 + m) + nI 1)) 21 (t 21 + nI (postN a l)) = signT t l m (postN a l) := rfl
  simp (disch := omega) only [f_X12_goFrank, pl_lit, pl_bl, pl_bd, pl_bd2, pl_bd3, pl_bd4, pl_bcT, pl_bcF, gd_t, pl_bcTrue, pl_bcFalse, pl_gdTrue, pl_in, pl_eq, pl_lt, pl_le, pl_ix, nI_add, pk_mul, pl_m1, pk_un, p1, q, p2]
theorem X1_sign (k : KR h t a) (hl : l < a 1) (hm : m < a 0) : f_X1_sign n h (nI l) (nI m) = some (signH h l m (postN a l)) := by
  have h6 := k.1
  have p1 : f_X1_postage n (setA (setA h 6 (upd (h.2.1 6) l (nI m))) 2 (upd (h.2.1 2) m (h.2.1 2 m + nI 1))) (nI l) = some (nI (postN a l)) := hL_post k.2.2.1 k.2.2.2.2.2 h6.2.1 hl ⟨rfl, rfl, rfl⟩
  simp (disch := omega) only [f_X1_sign, pl_lit, pl_bl, pl_bd, pl_bd2, pl_bd3, pl_bd4, pl_bcT, pl_bcF, gd_t, pl_bcTrue, pl_bcFalse, pl_gdTrue, pl_in, pl_eq, pl_lt, pl_le, pl_ix, nI_add, pk_mul, pl_m1, sA_n, p1, sA_1]
  rfl
end DAYS
theorem sim_frank {n : Nat} (hn : 200 ≤ n) : SIM_frank n INV := by
  intro xo nv rv h0 h1 h2 h3 nt0 cv0 nt1 cv1 nt2 cv2 nt3 cv3 ps0 ps1 ps2 ps3 mo v1 v2 hI
  have hI0 := hI
  obtain ⟨⟨a, ha, ht, hh, hc, hn', hp⟩, i2⟩ := hI
  have h6 := okL ha
  have p1 := X11_isLetter (n := n) (xo := xo) (h := h0) (v := v1) (M := a 1) (by omega) hh.2.1
  have p2 := X12_isLetter (n := n) (mo := mo) (v := v1) (M := a 1) (by omega) ht.2.1
  have q1 := X11_isMember (n := n) (xo := xo) (h := h0) (v := v2) (M := a 0) (by omega) hh.1
  have q2 := X12_isMember (n := n) (mo := mo) (v := v2) (M := a 0) (by omega) ht.1
  refine inR_cases (v := v1) (N := a 1) (fun l hl e => ?_) (fun c => ?_)
  · subst e
    rw [bI_in hl] at p1 p2
    refine inR_cases (v := v2) (N := a 0) (fun m hm e => ?_) (fun c => ?_)
    · subst e
      rw [bI_in hm] at q1 q2
      have f1 := X1_mayFrank (n := n) ha hh hl hm
      have f2 := X12_mayFrank (n := n) (z := 235) (by omega) ha ht hl hm
      by_cases c : mayN a l m
      · rw [bI_T c] at f1 f2
        obtain ⟨ps', t', a', g1, g2, g3, g4, g5⟩ := keep_both hn (⟨ha, ht, hh, hc, hn', hp⟩ : SRa h0 cv0 nt0 ps0 (mo.2.1 0) a)
        have k := KR_of g3.1 g3.2.1 g3.2.2.1
        have e0 : a' 0 = a 0 := g4 0 (by omega) (by omega)
        have e1 : a' 1 = a 1 := g4 1 (by omega) (by omega)
        have c' : mayN a' l m := by
          unfold mayN at c ⊢
          rw [g4 (5 + l) (by omega) (by omega), g4 (11 + m) (by omega) (by omega), g4 (24 + m) (by omega) (by omega), g4 23 (by omega) (by omega), g4 (29 + 3 * l) (by omega) (by omega), g4 (16 + m) (by omega) (by omega), g4 (31 + 3 * l) (by omega) (by omega)]
          exact c
        rw [← e1] at hl
        rw [← e0] at hm
        refine ⟨nI (postN a' l), xo, signH h0 l m (postN a' l), ps', setA mo 0 (signT t' l m (postN a' l)), ?_, ?_, ⟨SR_step g3 (KR_sign k hl hm c') (fun j hj => signN_n (by omega)) (fun j hj => signT_n (by omega)), i2⟩⟩
        · have x := X1_sign (n := n) k hl hm
          have y := KX1_postage (n := n) (KR_sign k hl hm c') (show l < signN a' l m 1 by rw [signN_n (by omega)]; exact hl)
          rw [post_e (a := a') (fun j h1 h2 => signN_n (by omega)) (by omega)] at y
          simp (disch := omega) only [f_X11_frank_j16, f_X11_frank, p1, q1, f1, pl_lit, pl_bl, pl_bd, pl_bd2, pl_bd3, pl_bd4, pl_bcT, pl_bcF, gd_t, pl_bcTrue, pl_bcFalse, pl_gdTrue, pl_in, pl_eq, pl_lt, pl_le, pl_ix, nI_add, pk_mul, pl_m1, g1, x, y]
        · have x := X12_goFrank (n := n) (z := 235) (by omega) k hl hm
          simp (disch := omega) only [f_X12_frank_j16, f_X12_frank, p2, q2, f2, pl_lit, pl_bl, pl_bd, pl_bd2, pl_bd3, pl_bd4, pl_bcT, pl_bcF, gd_t, pl_bcTrue, pl_bcFalse, pl_gdTrue, pl_in, pl_eq, pl_lt, pl_le, pl_ix, nI_add, pk_mul, pl_m1, g2, x, sA_s, sAA]
      · rw [bI_F c] at f1 f2
        refine ⟨-3, noX xo, h0, ps0, refM mo 1, ?_, ?_, hI0.no⟩
        · simp (disch := omega) only [f_X11_frank_j16, f_X11_frank, p1, q1, f1, pl_lit, pl_bl, pl_bd, pl_bd2, pl_bd3, pl_bd4, pl_bcT, pl_bcF, gd_t, pl_bcTrue, pl_bcFalse, pl_gdTrue, pl_in, pl_eq, pl_lt, pl_le, pl_ix, nI_add, pk_mul, pl_m1, X11_no]
        · simp (disch := omega) only [f_X12_frank_j16, f_X12_frank, p2, q2, f2, pl_lit, pl_bl, pl_bd, pl_bd2, pl_bd3, pl_bd4, pl_bcT, pl_bcF, gd_t, pl_bcTrue, pl_bcFalse, pl_gdTrue, pl_in, pl_eq, pl_lt, pl_le, pl_ix, nI_add, pk_mul, pl_m1, X12_no]
    · rw [bI_nin c] at q1 q2
      refine ⟨-2, badX xo, h0, ps0, refM mo 0, ?_, ?_, hI0.bad⟩
      · simp (disch := omega) only [f_X11_frank_j16, f_X11_frank, p1, q1, pl_lit, pl_bl, pl_bd, pl_bd2, pl_bd3, pl_bd4, pl_bcT, pl_bcF, gd_t, pl_bcTrue, pl_bcFalse, pl_gdTrue, pl_in, pl_eq, pl_lt, pl_le, pl_ix, nI_add, pk_mul, pl_m1, X11_bad]
      · simp (disch := omega) only [f_X12_frank_j16, f_X12_frank, p2, q2, pl_lit, pl_bl, pl_bd, pl_bd2, pl_bd3, pl_bd4, pl_bcT, pl_bcF, gd_t, pl_bcTrue, pl_bcFalse, pl_gdTrue, pl_in, pl_eq, pl_lt, pl_le, pl_ix, nI_add, pk_mul, pl_m1, X12_bad]
  · rw [bI_nin c] at p1 p2
    refine ⟨-2, badX xo, h0, ps0, refM mo 0, ?_, ?_, hI0.bad⟩
    · simp (disch := omega) only [f_X11_frank_j16, f_X11_frank, p1, pl_lit, pl_bl, pl_bd, pl_bd2, pl_bd3, pl_bd4, pl_bcT, pl_bcF, gd_t, pl_bcTrue, pl_bcFalse, pl_gdTrue, pl_in, pl_eq, pl_lt, pl_le, pl_ix, nI_add, pk_mul, pl_m1, X11_bad]
    · simp (disch := omega) only [f_X12_frank_j16, f_X12_frank, p2, pl_lit, pl_bl, pl_bd, pl_bd2, pl_bd3, pl_bd4, pl_bcT, pl_bcF, gd_t, pl_bcTrue, pl_bcFalse, pl_gdTrue, pl_in, pl_eq, pl_lt, pl_le, pl_ix, nI_add, pk_mul, pl_m1, X12_bad]
section PAY
variable {n z : Nat} {h h' cv nt ps ps' mo : MV} {t t' : Nat → Int32} {a a' : Nat → Nat} {l m : Nat}
def payT (t : Nat → Int32) (l p : Nat) : Nat → Int32 := upd (upd t (5 + l) (nI 5)) 22 (t 22 + nI p)
def payH (h : MV) (l p : Nat) : MV := setS (setA h 6 (upd (h.2.1 6) l (nI 5))) 4 (h.1 4 + nI p)
theorem payT_n {p j : Nat} (hj : j ≠ 5 + l ∧ j ≠ 22) : payT t l p j = t j := by
  unfold payT; rw [pk_un (by omega), pk_un (by omega)]
theorem KR_pay (k : KR h t a) (hl : l < a 1) : KR (payH h l (postN a l)) (payT t l (postN a l)) (uN' a (5 + l) 5) := by
  have k' := k
  obtain ⟨⟨c0, c1, c5, d0, d1, d5⟩, km, kl, qc, qm, ql⟩ := k
  have e23 : uN' a (5 + l) 5 23 = a 23 := uN_n (by omega)
  refine KR_ml k' (fun j hj => uN_n (by omega)) (fun j hj => payT_n (by omega)) (by rw [e23]; exact c5) (by rw [e23, payT_n (by omega)]; exact d5) (by rw [e23]; exact qc.2.2.1) (by rw [payT_n (by omega)]; exact qc.2.2.2.1) ?_ rfl rfl ⟨rfl, rfl, rfl, rfl, rfl⟩ (fun m' hm' => ?_) (fun l' hl' => ?_)
  · show h.1 4 + nI (postN a l) = _
    rw [qc.2.2.2.2]
    exact pk_us.symm
  · rw [uN_n (by omega), payT_n (by omega)]
    exact ⟨(km m' hm').1.2.2, (km m' hm').2.2.2, (qm m' hm').2.2⟩
  · show _ ∧ _ ∧ upd (h.2.1 6) l (nI 5) l' = _
    by_cases c : l' = l
    · subst c
      have y : payT t l' (postN a l') (5 + l') = nI 5 := by unfold payT; rw [pk_un (by omega), pk_us]
      rw [uN_s, y, pk_us, wI_n (by omega)]
      exact ⟨by omega, rfl, rfl⟩
    · rw [uN_n (by omega), payT_n (by omega), pk_un c]
      exact ⟨(kl l' hl').1.2.2.2.2, (kl l' hl').2.2.2.2, (ql l' hl').2.2.2⟩
theorem X1_settle (k : KR h t a) (hl : l < a 1) : f_X1_settle n h (nI l) = some (payH h l (postN a l)) := by
  have h6 := k.1
  have p1 : f_X1_postage n (setA h 6 (upd (h.2.1 6) l (nI 5))) (nI l) = some (nI (postN a l)) := hL_post k.2.2.1 k.2.2.2.2.2 h6.2.1 hl ⟨rfl, rfl, rfl⟩
  simp (disch := omega) only [f_X1_settle, pl_lit, pl_bl, pl_bd, pl_bd2, pl_bd3, pl_bd4, pl_bcT, pl_bcF, gd_t, pl_bcTrue, pl_bcFalse, pl_gdTrue, pl_in, pl_eq, pl_lt, pl_le, pl_ix, nI_add, pk_mul, pl_m1, sA_n, p1, sA_1]
  rfl
/-- moving -/
theorem KR_moves {p : Nat} (k : KR h t a) (hm : m < a 0) (hp : p ≤ 99) : KR (setA h 1 (upd (h.2.1 1) m (nI p))) (upd t (16 + m) (nI p)) (uN' a (16 + m) p) := by
  obtain ⟨⟨c0, c1, c5, d0, d1, d5⟩, km, kl, qc, qm, ql⟩ := k
  have e0 : uN' a (16 + m) p 0 = a 0 := uN_n (by omega)
  have e1 : uN' a (16 + m) p 1 = a 1 := uN_n (by omega)
  have e23 : uN' a (16 + m) p 23 = a 23 := uN_n (by omega)
  refine ⟨?_, ?_, kL_c kl c1 e1 (fun j h1 h2 _ => uN_n (by omega)) (fun j h1 h2 _ => pk_un (by omega)), ?_, ?_, hL_c ql c1 e1 (fun j h1 h2 _ => uN_n (by omega)) ⟨rfl, rfl, rfl, rfl⟩⟩
  · rw [e0, e1, e23, pk_un (by omega), pk_un (by omega), pk_un (by omega)]
    exact ⟨c0, c1, c5, d0, d1, d5⟩
  · intro m' hm'
    rw [e0] at hm'
    by_cases c : m' = m
    · subst c
      rw [uN_s, pk_us, uN_n (by omega), uN_n (by omega), pk_un (by omega), pk_un (by omega)]
      obtain ⟨⟨x1, x2, x3⟩, y1, y2, y3⟩ := km m' hm
      exact ⟨⟨x1, hp, x3⟩, y1, rfl, y3⟩
    · rw [uN_n (by omega), uN_n (by omega), uN_n (by omega), pk_un (by omega), pk_un (by omega), pk_un (by omega)]
      exact km m' hm'
  · unfold hC
    rw [e0, e1, e23, pk_un (by omega), pk_un (by omega)]
    exact qc
  · intro m' hm'
    rw [e0] at hm'
    show h.2.1 0 m' = _ ∧ upd (h.2.1 1) m (nI p) m' = _ ∧ h.2.1 2 m' = _
    by_cases c : m' = m
    · subst c
      rw [uN_s, pk_us, uN_n (by omega), uN_n (by omega)]
      exact ⟨(qm m' hm).1, rfl, (qm m' hm).2.2⟩
    · rw [uN_n (by omega), uN_n (by omega), uN_n (by omega), pk_un c]
      exact qm m' hm'
/-- a day -/
def dayT (t : Nat → Int32) (d : Nat) : Nat → Int32 := upd (fillT t 11 5 (nI 0)) 23 (nI d)
def dayN (a : Nat → Nat) (d : Nat) : Nat → Nat := fun j => if 11 ≤ j ∧ j < 16 then 0 else if j = 23 then d else a j
def dayH (h : MV) (d : Nat) : MV := setS (setA h 2 (fillT (h.2.1 2) 0 5 (nI 0))) 2 (nI d)
def nxD (d : Nat) : Nat := if 999 ≤ d then 999 else d + 1
theorem dayN_n {d j : Nat} (hj : (j < 11 ∨ 16 ≤ j) ∧ j ≠ 23) : dayN a d j = a j := by
  unfold dayN; rw [if_neg (by omega), if_neg (by omega)]
theorem dayT_n {d j : Nat} (hj : (j < 11 ∨ 16 ≤ j) ∧ j ≠ 23) : dayT t d j = t j := by
  unfold dayT; rw [pk_un (by omega), fill_n (by omega)]
theorem dayN_d {d : Nat} : dayN a d 23 = d := by unfold dayN; rw [if_neg (by omega), if_pos rfl]
theorem dayN_s {d m : Nat} (hm : m < 5) : dayN a d (11 + m) = 0 := by unfold dayN; rw [if_pos (by omega)]
theorem dayT_s {d m : Nat} (hm : m < 5) : dayT t d (11 + m) = nI 0 := by unfold dayT; rw [pk_un (by omega), fill_in (by omega)]
theorem KR_day {d : Nat} (k : KR h t a) (hd : d ≤ 999) : KR (dayH h d) (dayT t d) (dayN a d) := by
  have k' := k
  obtain ⟨⟨c0, c1, c5, d0, d1, d5⟩, km, kl, qc, qm, ql⟩ := k
  refine KR_ml k' (fun j hj => ?_) (fun j hj => ?_) (by rw [dayN_d]; exact hd) (by rw [dayN_d]; exact pk_us) (by rw [dayN_d]; rfl) (by rw [dayT_n (by omega)]; exact qc.2.2.2.1) (by rw [dayT_n (by omega)]; exact qc.2.2.2.2) rfl rfl ⟨rfl, rfl, rfl, rfl, rfl⟩ (fun m' hm' => ?_) (fun l' hl' => ?_)
  · exact dayN_n (by omega)
  · exact dayT_n (by omega)
  · show _ ∧ _ ∧ fillT (h.2.1 2) 0 5 (nI 0) m' = _
    rw [dayN_s (by omega), dayT_s (by omega), fill_in (by omega)]
    exact ⟨by omega, rfl, rfl⟩
  · rw [dayN_n (by omega), dayT_n (by omega)]
    exact ⟨(kl l' hl').1.2.2.2.2, (kl l' hl').2.2.2.2, (ql l' hl').2.2.2⟩
theorem X12_goDay {d : Nat} (hn : 100 ≤ n) (hz : 83 ≤ z) (e : t 23 = nI d) (hd : d ≤ 999) : f_X12_goDay n z t = some (dayT t (nxD d)) := by
  have s1 : f_X12_goDay_l2 n n z t 0 = some (fillT t 11 5 (nI 0)) := by
    refine lp_cnt' 5 (fun i => fillT t 11 i (nI 0)) t _ fill_0 (fun i hi => ?_) ?_ (by omega)
    · simp (disch := omega) only [f_X12_goDay_b2, f_X12_goDay_l2, f_X12_goDay_j45, f_X12_goDay, pl_lit, pl_bl, pl_bd, pl_bd2, pl_bd3, pl_bd4, pl_bcT, pl_bcF, gd_t, pl_bcTrue, pl_bcFalse, pl_gdTrue, pl_in, pl_eq, pl_lt, pl_le, pl_ix, nI_add, pk_mul, pl_m1, fill_s]
    · simp (disch := omega) only [f_X12_goDay_b2, f_X12_goDay_l2, f_X12_goDay_j45, f_X12_goDay, pl_lit, pl_bl, pl_bd, pl_bd2, pl_bd3, pl_bd4, pl_bcT, pl_bcF, gd_t, pl_bcTrue, pl_bcFalse, pl_gdTrue, pl_in, pl_eq, pl_lt, pl_le, pl_ix, nI_add, pk_mul, pl_m1]
  have e' : fillT t 11 5 (nI 0) 23 = nI d := by rw [fill_n (by omega), e]
  unfold f_X12_goDay
  rw [s1]
  by_cases c : 999 ≤ d
  · simp (disch := omega) only [f_X12_goDay_j45, pl_lit, pl_bl, pl_bd, pl_bd2, pl_bd3, pl_bd4, pl_bcT, pl_bcF, gd_t, pl_bcTrue, pl_bcFalse, pl_gdTrue, pl_in, pl_eq, pl_lt, pl_le, pl_ix, nI_add, pk_mul, pl_m1, e', dayT, nxD, if_pos c]
  · simp (disch := omega) only [f_X12_goDay_j45, pl_lit, pl_bl, pl_bd, pl_bd2, pl_bd3, pl_bd4, pl_bcT, pl_bcF, gd_t, pl_bcTrue, pl_bcFalse, pl_gdTrue, pl_in, pl_eq, pl_lt, pl_le, pl_ix, nI_add, pk_mul, pl_m1, e', dayT, nxD, if_neg c]
theorem J7_fill5 (hn : 100 ≤ n) : f_J7_fill n 5 t 0 = some (fillT t 0 5 (nI 0)) := by
  have s1 : f_J7_fill_l5 n n 5 t (nI 5) 0 0 = some (fillT t 0 5 (nI 0)) := by
    refine lp_cnt' 5 (fun i => fillT t 0 i (nI 0)) t _ fill_0 (fun i hi => ?_) ?_ (by omega)
    · have := fill_s (t := t) (b := 0) (i := i) (v := nI 0)
      rw [Nat.zero_add] at this
      simp (disch := omega) only [f_J7_fill_b5, f_J7_fill_l5, f_J7_fill, pl_lit, pl_bl, pl_bd, pl_bd2, pl_bd3, pl_bd4, pl_bcT, pl_bcF, gd_t, pl_bcTrue, pl_bcFalse, pl_gdTrue, pl_in, pl_eq, pl_lt, pl_le, pl_ix, nI_add, pk_mul, pl_m1, this]
    · simp (disch := omega) only [f_J7_fill_b5, f_J7_fill_l5, f_J7_fill, pl_lit, pl_bl, pl_bd, pl_bd2, pl_bd3, pl_bd4, pl_bcT, pl_bcF, gd_t, pl_bcTrue, pl_bcFalse, pl_gdTrue, pl_in, pl_eq, pl_lt, pl_le, pl_ix, nI_add, pk_mul, pl_m1]
  show bd (f_J7_fill_l5 n n 5 t (nI 5) 0 0) _ = _
  rw [s1]
  rfl
theorem sSS {k : Nat} {v w : Int32} : setS (setS h k v) k w = setS h k w := by
  unfold setS
  congr 1
  funext j
  by_cases c : j = k
  · simp only [c, if_true]
  · simp only [c, if_false]
theorem sS_id {k : Nat} : setS h k (h.1 k) = h := by
  unfold setS
  refine congrArg (fun z => (z, h.2)) ?_
  funext j
  by_cases c : j = k
  · rw [if_pos c, c]
  · rw [if_neg c]
theorem X1_passDay {d : Nat} (hn : 100 ≤ n) (e : h.1 2 = nI d) (hd : d ≤ 999) : f_X1_passDay n h = some (dayH h (nxD d)) := by
  have e' : (setA h 2 (fillT (h.2.1 2) 0 5 (nI 0))).1 2 = nI d := e
  unfold f_X1_passDay
  rw [J7_fill5 hn]
  by_cases c : 999 ≤ d
  · have c' : d = 999 := by omega
    have := sS_id (h := setA h 2 (fillT (h.2.1 2) 0 5 (nI 0))) (k := 2)
    rw [e', c'] at this
    simp (disch := omega) only [f_X1_passDay_j28, pl_lit, pl_bl, pl_bd, pl_bd2, pl_bd3, pl_bd4, pl_bcT, pl_bcF, gd_t, pl_bcTrue, pl_bcFalse, pl_gdTrue, pl_in, pl_eq, pl_lt, pl_le, pl_ix, nI_add, pk_mul, pl_m1, e', dayH, nxD, if_pos c, this]
  · simp (disch := omega) only [f_X1_passDay_j28, pl_lit, pl_bl, pl_bd, pl_bd2, pl_bd3, pl_bd4, pl_bcT, pl_bcF, gd_t, pl_bcTrue, pl_bcFalse, pl_gdTrue, pl_in, pl_eq, pl_lt, pl_le, pl_ix, nI_add, pk_mul, pl_m1, e', dayH, nxD, if_neg c]
theorem nxD_le {d : Nat} (h : d ≤ 999) : nxD d ≤ 999 := by unfold nxD; split <;> omega
end PAY
theorem sim_pay {n : Nat} (hn : 200 ≤ n) : SIM_pay n INV := by
  intro xo nv rv h0 h1 h2 h3 nt0 cv0 nt1 cv1 nt2 cv2 nt3 cv3 ps0 ps1 ps2 ps3 mo v1 hI
  have hI0 := hI
  obtain ⟨⟨a, ha, ht, hh, hc, hn', hp⟩, i2⟩ := hI
  have h6 := okL ha
  have p1 := X11_isLetter (n := n) (xo := xo) (h := h0) (v := v1) (M := a 1) (by omega) hh.2.1
  have p2 := X12_isLetter (n := n) (mo := mo) (v := v1) (M := a 1) (by omega) ht.2.1
  refine inR_cases (v := v1) (N := a 1) (fun l hl e => ?_) (fun c => ?_)
  · subst e
    rw [bI_in hl] at p1 p2
    have f1 := X1_lies (n := n) ha hh hl
    have f2 := X12_lies (n := n) ha ht hl
    by_cases c : a (5 + l) = 6
    · rw [bI_T c] at f1 f2
      obtain ⟨ps', t', a', g1, g2, g3, g4, g5⟩ := keep_both hn (⟨ha, ht, hh, hc, hn', hp⟩ : SRa h0 cv0 nt0 ps0 (mo.2.1 0) a)
      have k := KR_of g3.1 g3.2.1 g3.2.2.1
      have e1 : a' 1 = a 1 := g4 1 (by omega) (by omega)
      have h1' := k.1.2.1
      rw [← e1] at hl
      refine ⟨nI (postN a' l), xo, payH h0 l (postN a' l), ps', setA mo 0 (payT t' l (postN a' l)), ?_, ?_, ⟨SR_step g3 (KR_pay k hl) (fun j hj => uN_n (by omega)) (fun j hj => payT_n (by omega)), i2⟩⟩
      · have x := X1_settle (n := n) k hl
        have y := KX1_postage (n := n) (KR_pay k hl) (show l < uN' a' (5 + l) 5 1 by rw [uN_n (by omega)]; exact hl)
        rw [post_e (a := a') (fun j h1 h2 => uN_n (by omega)) (by omega)] at y
        simp (disch := omega) only [f_X11_pay, p1, f1, pl_lit, pl_bl, pl_bd, pl_bd2, pl_bd3, pl_bd4, pl_bcT, pl_bcF, gd_t, pl_bcTrue, pl_bcFalse, pl_gdTrue, pl_in, pl_eq, pl_lt, pl_le, pl_ix, nI_add, pk_mul, pl_m1, g1, x, y]
      · have x : f_X12_postageOf n 235 (upd t' (5 + l) (nI 5)) (nI l) = some (nI (postN a' l)) := kL_post (by omega) k.2.2.1 h1' hl (fun j h1 h2 => by rw [pk_un (by omega)])
        have y : f_X12_postageOf n 235 (payT t' l (postN a' l)) (nI l) = some (nI (postN a' l)) := kL_post (by omega) k.2.2.1 h1' hl (fun j h1 h2 => payT_n (by omega))
        have q : upd (upd t' (5 + l) (nI 5)) 22 (t' 22 + nI (postN a' l)) = payT t' l (postN a' l) := rfl
        simp (disch := omega) only [f_X12_pay, f_X12_postage, p2, f2, pl_lit, pl_bl, pl_bd, pl_bd2, pl_bd3, pl_bd4, pl_bcT, pl_bcF, gd_t, pl_bcTrue, pl_bcFalse, pl_gdTrue, pl_in, pl_eq, pl_lt, pl_le, pl_ix, nI_add, pk_mul, pl_m1, g2, x, sA_s, sAA, pk_un, q, y]
    · rw [bI_F c] at f1 f2
      refine ⟨-3, noX xo, h0, ps0, refM mo 1, ?_, ?_, hI0.no⟩
      · simp (disch := omega) only [f_X11_pay, p1, f1, pl_lit, pl_bl, pl_bd, pl_bd2, pl_bd3, pl_bd4, pl_bcT, pl_bcF, gd_t, pl_bcTrue, pl_bcFalse, pl_gdTrue, pl_in, pl_eq, pl_lt, pl_le, pl_ix, nI_add, pk_mul, pl_m1, X11_no]
      · simp (disch := omega) only [f_X12_pay, p2, f2, pl_lit, pl_bl, pl_bd, pl_bd2, pl_bd3, pl_bd4, pl_bcT, pl_bcF, gd_t, pl_bcTrue, pl_bcFalse, pl_gdTrue, pl_in, pl_eq, pl_lt, pl_le, pl_ix, nI_add, pk_mul, pl_m1, X12_no]
  · rw [bI_nin c] at p1 p2
    refine ⟨-2, badX xo, h0, ps0, refM mo 0, ?_, ?_, hI0.bad⟩
    · simp (disch := omega) only [f_X11_pay, p1, pl_lit, pl_bl, pl_bd, pl_bd2, pl_bd3, pl_bd4, pl_bcT, pl_bcF, gd_t, pl_bcTrue, pl_bcFalse, pl_gdTrue, pl_in, pl_eq, pl_lt, pl_le, pl_ix, nI_add, pk_mul, pl_m1, X11_bad]
    · simp (disch := omega) only [f_X12_pay, p2, pl_lit, pl_bl, pl_bd, pl_bd2, pl_bd3, pl_bd4, pl_bcT, pl_bcF, gd_t, pl_bcTrue, pl_bcFalse, pl_gdTrue, pl_in, pl_eq, pl_lt, pl_le, pl_ix, nI_add, pk_mul, pl_m1, X12_bad]
theorem sim_moves {n : Nat} (hn : 200 ≤ n) : SIM_moves n INV := by
  intro xo nv rv h0 h1 h2 h3 nt0 cv0 nt1 cv1 nt2 cv2 nt3 cv3 ps0 ps1 ps2 ps3 mo v1 v2 hI
  have hI0 := hI
  obtain ⟨⟨a, ha, ht, hh, hc, hn', hp⟩, i2⟩ := hI
  have h6 := okL ha
  have p1 := X11_isMember (n := n) (xo := xo) (h := h0) (v := v1) (M := a 0) (by omega) hh.1
  have p2 := X12_isMember (n := n) (mo := mo) (v := v1) (M := a 0) (by omega) ht.1
  have q1 := X11_isPlace (n := n) (v := v2)
  have q2 := X12_isPlace (n := n) (v := v2)
  refine inR_cases (v := v1) (N := a 0) (fun m hm e => ?_) (fun c => ?_)
  · subst e
    rw [bI_in hm] at p1 p2
    refine inR_cases (v := v2) (N := 100) (fun p hp' e => ?_) (fun c => ?_)
    · subst e
      rw [bI_in hp'] at q1 q2
      obtain ⟨ps', t', a', g1, g2, g3, g4, g5⟩ := keep_both hn (⟨ha, ht, hh, hc, hn', hp⟩ : SRa h0 cv0 nt0 ps0 (mo.2.1 0) a)
      have k := KR_of g3.1 g3.2.1 g3.2.2.1
      have e0 : a' 0 = a 0 := g4 0 (by omega) (by omega)
      have x1 := (hoM hh hm).2.1
      have x2 := (trM ht hm).2.1
      refine ⟨nI (a (16 + m)), xo, setA h0 1 (upd (h0.2.1 1) m (nI p)), ps', setA mo 0 (upd t' (16 + m) (nI p)), ?_, ?_, ⟨SR_step g3 (KR_moves k (by omega) (by omega)) (fun j hj => uN_n (by omega)) (fun j hj => pk_un (by omega)), i2⟩⟩
      · simp (disch := omega) only [f_X11_moves_j15, f_X11_moves, p1, q1, pl_lit, pl_bl, pl_bd, pl_bd2, pl_bd3, pl_bd4, pl_bcT, pl_bcF, gd_t, pl_bcTrue, pl_bcFalse, pl_gdTrue, pl_in, pl_eq, pl_lt, pl_le, pl_ix, nI_add, pk_mul, pl_m1, g1, x1]
      · simp (disch := omega) only [f_X12_moves_j15, f_X12_moves, p2, q2, pl_lit, pl_bl, pl_bd, pl_bd2, pl_bd3, pl_bd4, pl_bcT, pl_bcF, gd_t, pl_bcTrue, pl_bcFalse, pl_gdTrue, pl_in, pl_eq, pl_lt, pl_le, pl_ix, nI_add, pk_mul, pl_m1, g2, x2, sA_s, sAA]
    · rw [bI_nin c] at q1 q2
      refine ⟨-2, badX xo, h0, ps0, refM mo 0, ?_, ?_, hI0.bad⟩
      · simp (disch := omega) only [f_X11_moves_j15, f_X11_moves, p1, q1, pl_lit, pl_bl, pl_bd, pl_bd2, pl_bd3, pl_bd4, pl_bcT, pl_bcF, gd_t, pl_bcTrue, pl_bcFalse, pl_gdTrue, pl_in, pl_eq, pl_lt, pl_le, pl_ix, nI_add, pk_mul, pl_m1, X11_bad]
      · simp (disch := omega) only [f_X12_moves_j15, f_X12_moves, p2, q2, pl_lit, pl_bl, pl_bd, pl_bd2, pl_bd3, pl_bd4, pl_bcT, pl_bcF, gd_t, pl_bcTrue, pl_bcFalse, pl_gdTrue, pl_in, pl_eq, pl_lt, pl_le, pl_ix, nI_add, pk_mul, pl_m1, X12_bad]
  · rw [bI_nin c] at p1 p2
    refine ⟨-2, badX xo, h0, ps0, refM mo 0, ?_, ?_, hI0.bad⟩
    · simp (disch := omega) only [f_X11_moves_j15, f_X11_moves, p1, pl_lit, pl_bl, pl_bd, pl_bd2, pl_bd3, pl_bd4, pl_bcT, pl_bcF, gd_t, pl_bcTrue, pl_bcFalse, pl_gdTrue, pl_in, pl_eq, pl_lt, pl_le, pl_ix, nI_add, pk_mul, pl_m1, X11_bad]
    · simp (disch := omega) only [f_X12_moves_j15, f_X12_moves, p2, pl_lit, pl_bl, pl_bd, pl_bd2, pl_bd3, pl_bd4, pl_bcT, pl_bcF, gd_t, pl_bcTrue, pl_bcFalse, pl_gdTrue, pl_in, pl_eq, pl_lt, pl_le, pl_ix, nI_add, pk_mul, pl_m1, X12_bad]
theorem sim_day {n : Nat} (hn : 200 ≤ n) : SIM_day n INV := by
  intro xo nv rv h0 h1 h2 h3 nt0 cv0 nt1 cv1 nt2 cv2 nt3 cv3 ps0 ps1 ps2 ps3 mo hI
  have hI0 := hI
  obtain ⟨⟨a, ha, ht, hh, hc, hn', hp⟩, i2⟩ := hI
  have h6 := okL ha
  obtain ⟨ps', t', a', g1, g2, g3, g4, g5⟩ := keep_both hn (⟨ha, ht, hh, hc, hn', hp⟩ : SRa h0 cv0 nt0 ps0 (mo.2.1 0) a)
  have k := KR_of g3.1 g3.2.1 g3.2.2.1
  have e23 : a' 23 = a 23 := g4 23 (by omega) (by omega)
  have hd : a' 23 ≤ 999 := k.1.2.2.1
  have x1 := X1_passDay (n := n) (by omega) k.2.2.2.1.2.2.1 hd
  have x2 := X12_goDay (n := n) (z := 235) (by omega) (by omega) k.1.2.2.2.2.2 hd
  refine ⟨nI (nxD (a' 23)), dayH h0 (nxD (a' 23)), ps', setA mo 0 (dayT t' (nxD (a' 23))), ?_, ?_, ⟨SR_step g3 (KR_day k (nxD_le hd)) (fun j hj => dayN_n (by omega)) (fun j hj => dayT_n (by omega)), i2⟩⟩
  · simp (disch := omega) only [f_X11_day, pl_lit, pl_bl, pl_bd, pl_bd2, pl_bd3, pl_bd4, pl_bcT, pl_bcF, gd_t, pl_bcTrue, pl_bcFalse, pl_gdTrue, pl_in, pl_eq, pl_lt, pl_le, pl_ix, nI_add, pk_mul, pl_m1, g1, x1]
    rfl
  · simp (disch := omega) only [f_X12_day, pl_lit, pl_bl, pl_bd, pl_bd2, pl_bd3, pl_bd4, pl_bcT, pl_bcF, gd_t, pl_bcTrue, pl_bcFalse, pl_gdTrue, pl_in, pl_eq, pl_lt, pl_le, pl_ix, nI_add, pk_mul, pl_m1, g2, x2, sA_s, sAA]
    rfl
