/-! what the small methods answer, on both sides -/
section HLP
variable {n : Nat} {h : MV} {t : Nat → Int32} {a : Nat → Nat} {l m : Nat}
theorem okL (ha : okA a) : a 0 ≤ 5 ∧ a 1 ≤ 6 ∧ a 2 ≤ 6 ∧ a 3 ≤ 6 ∧ a 4 ≤ 8 ∧ a 23 ≤ 999 := ⟨ha.1, ha.2.1, ha.2.2.1, ha.2.2.2.1, ha.2.2.2.2.1, ha.2.2.2.2.2.1⟩
theorem okM (ha : okA a) (hm : m < a 0) : a (24 + m) < 6 ∧ a (16 + m) ≤ 99 ∧ a (11 + m) ≤ 13 := ha.2.2.2.2.2.2.1 m hm
theorem okT (ha : okA a) (hl : l < a 1) : a (29 + 3 * l) ≤ 99 ∧ a (30 + 3 * l) ≤ 99 ∧ 1 ≤ a (31 + 3 * l) ∧ a (31 + 3 * l) ≤ 9 ∧ a (5 + l) ≤ 6 := ha.2.2.2.2.2.2.2.1 l hl
theorem hoM (hh : HO h t a) (hm : m < a 0) : h.2.1 0 m = nI (a (24 + m)) ∧ h.2.1 1 m = nI (a (16 + m)) ∧ h.2.1 2 m = nI (a (11 + m)) := hh.2.2.2.2.2.1 m hm
theorem hoL (hh : HO h t a) (hl : l < a 1) : h.2.1 3 l = nI (a (29 + 3 * l)) ∧ h.2.1 4 l = nI (a (30 + 3 * l)) ∧ h.2.1 5 l = nI (a (31 + 3 * l)) ∧ h.2.1 6 l = wI (a (5 + l)) := hh.2.2.2.2.2.2 l hl
theorem trM (hh : TR t a) (hm : m < a 0) : t (24 + m) = nI (a (24 + m)) ∧ t (16 + m) = nI (a (16 + m)) ∧ t (11 + m) = nI (a (11 + m)) := hh.2.2.2.2.2.2.1 m hm
theorem trL (hh : TR t a) (hl : l < a 1) : t (29 + 3 * l) = nI (a (29 + 3 * l)) ∧ t (30 + 3 * l) = nI (a (30 + 3 * l)) ∧ t (31 + 3 * l) = nI (a (31 + 3 * l)) ∧ t (5 + l) = wI (a (5 + l)) := hh.2.2.2.2.2.2.2.1 l hl
theorem X1_lies (ha : okA a) (hh : HO h t a) (hl : l < a 1) : f_X1_lies n h (nI l) = some (bI (a (5 + l) = 6)) := by
  have h6 := okL ha
  obtain ⟨-, -, -, e⟩ := hoL hh hl
  obtain ⟨-, -, -, -, b5⟩ := okT ha hl
  simp (disch := omega) only [f_X1_lies_j15, f_X1_lies, pl_lit, pl_bl, pl_bd, pl_bd2, pl_bd3, pl_bd4, pl_bcT, pl_bcF, gd_t, pl_bcTrue, pl_bcFalse, pl_gdTrue, pl_in, pl_eq, pl_lt, pl_le, pl_ix, nI_add, pk_mul, pl_m1, e, wI_m1, pl_bc10n, true_or, or_true]
theorem X1_postage (ha : okA a) (hh : HO h t a) (hl : l < a 1) : f_X1_postage n h (nI l) = some (nI (postN a l)) := by
  have h6 := okL ha
  obtain ⟨e1, e2, e3, -⟩ := hoL hh hl
  obtain ⟨b1, b2, b3, b4, -⟩ := okT ha hl
  have hd := absd_le b1 b2
  simp (disch := omega) only [f_X1_postage, pl_ix, e1, e2, e3, abs_subn, pl_lit, pl_bl, pl_bd, pl_bd2, pl_bd3, pl_bd4, pl_bcT, pl_bcF, gd_t, pl_bcTrue, pl_bcFalse, pl_gdTrue, pl_in, pl_eq, pl_lt, pl_le, pl_ix, nI_add, pk_mul, pl_m1, pl_div, postN]
theorem X1_kindAt (ha : okA a) (hh : HO h t a) (hm : m < a 0) : f_X1_kindAt n h (nI m) = some (a (24 + m)) := by
  have h6 := okL ha
  obtain ⟨e1, -, -⟩ := hoM hh hm
  obtain ⟨b1, -, -⟩ := okM ha hm
  simp (disch := omega) only [f_X1_kindAt, pl_lit, pl_bl, pl_bd, pl_bd2, pl_bd3, pl_bd4, pl_bcT, pl_bcF, gd_t, pl_bcTrue, pl_bcFalse, pl_gdTrue, pl_in, pl_eq, pl_lt, pl_le, pl_ix, nI_add, pk_mul, pl_m1, e1]
theorem X1_suits (ha : okA a) (hh : HO h t a) (hl : l < a 1) (hm : m < a 0) {p : Nat} (hp : p ≤ 99) : f_X1_suits n h (nI l) (nI m) (nI p) = some (bI (absd (a (29 + 3 * l)) p ≤ reachN (a (24 + m)) ∧ a (31 + 3 * l) ≤ bearsN (a (24 + m)))) := by
  have h6 := okL ha
  obtain ⟨e1, e2, e3, -⟩ := hoL hh hl
  obtain ⟨b1, b2, b3, b4, -⟩ := okT ha hl
  obtain ⟨c1, -, -⟩ := okM ha hm
  have hd := absd_le hp b1
  have hr := reachN_le (a (24 + m))
  have hb := bearsN_le (a (24 + m))
  simp (disch := omega) only [f_X1_suits_j45, f_X1_suits_j44, f_X1_suits, X1_kindAt ha hh hm, pl_bd, K_reach c1, K_bears c1, pl_ix, e1, e3, abs_subn, pl_lit, pl_bl, pl_bd, pl_bd2, pl_bd3, pl_bd4, pl_bcT, pl_bcF, gd_t, pl_bcTrue, pl_bcFalse, pl_gdTrue, pl_in, pl_eq, pl_lt, pl_le, pl_ix, nI_add, pk_mul, pl_m1, pl_bc01n, pl_bcbn', true_or, or_true]
  refine congrArg some (bI_congr ?_)
  rw [absd_comm p]
  omega
theorem X1_mayFrank (ha : okA a) (hh : HO h t a) (hl : l < a 1) (hm : m < a 0) : f_X1_mayFrank n h (nI l) (nI m) = some (bI (mayN a l m)) := by
  have h6 := okL ha
  obtain ⟨e1, e2, e3⟩ := hoM hh hm
  obtain ⟨c1, c2, c3⟩ := okM ha hm
  have hs := signsN_le (a (24 + m)) (a 23)
  have hk := K_signs (n := n) (k := a (24 + m)) (d := a 23) c1 (by omega)
  have hd : h.1 2 = nI (a 23) := hh.2.2.1
  simp (disch := omega) only [f_X1_mayFrank_j49, f_X1_mayFrank_j48, f_X1_mayFrank, X1_lies ha hh hl, X1_kindAt ha hh hm, X1_suits ha hh hl hm c2, pl_bd, pl_ix, e1, e2, e3, hd, hk, pl_lit, pl_bl, pl_bd, pl_bd2, pl_bd3, pl_bd4, pl_bcT, pl_bcF, gd_t, pl_bcTrue, pl_bcFalse, pl_gdTrue, pl_in, pl_eq, pl_lt, pl_le, pl_ix, nI_add, pk_mul, pl_m1, bI_0n, pl_bc01n, pl_bcbn', pl_bcNot, true_or, or_true, pl_bc10n, pl_bcbn]
  refine congrArg some (bI_congr ?_)
  unfold mayN
  omega
theorem X12_lies {mo : MV} (ha : okA a) (hh : TR (mo.2.1 0) a) (hl : l < a 1) : f_X12_lies n mo (nI l) = some (bI (a (5 + l) = 6)) := by
  have h6 := okL ha
  obtain ⟨-, -, -, e⟩ := trL hh hl
  obtain ⟨-, -, -, -, b5⟩ := okT ha hl
  simp (disch := omega) only [f_X12_lies_j17, f_X12_lies, pl_lit, pl_bl, pl_bd, pl_bd2, pl_bd3, pl_bd4, pl_bcT, pl_bcF, gd_t, pl_bcTrue, pl_bcFalse, pl_gdTrue, pl_in, pl_eq, pl_lt, pl_le, pl_ix, nI_add, pk_mul, pl_m1, e, wI_m1, pl_bc10n, true_or, or_true]
theorem X12_postageOf {z : Nat} (hz : 83 ≤ z) (ha : okA a) (hh : TR t a) (hl : l < a 1) : f_X12_postageOf n z t (nI l) = some (nI (postN a l)) := by
  have h6 := okL ha
  obtain ⟨e1, e2, e3, -⟩ := trL hh hl
  obtain ⟨b1, b2, b3, b4, -⟩ := okT ha hl
  have hd := absd_le b1 b2
  have f1 : 29 + 3 * l + 0 = 29 + 3 * l := rfl
  have f2 : 29 + 3 * l + 1 = 30 + 3 * l := by omega
  have f3 : 29 + 3 * l + 2 = 31 + 3 * l := by omega
  simp (disch := omega) only [f_X12_postageOf, pl_lit, pl_bl, pl_bd, pl_bd2, pl_bd3, pl_bd4, pl_bcT, pl_bcF, gd_t, pl_bcTrue, pl_bcFalse, pl_gdTrue, pl_in, pl_eq, pl_lt, pl_le, pl_ix, nI_add, pk_mul, pl_m1, f1, f2, f3, e1, e2, e3, X12_miles b1 b2, pl_div, postN]
theorem X12_mayFrank {z : Nat} (hz : 83 ≤ z) (ha : okA a) (hh : TR t a) (hl : l < a 1) (hm : m < a 0) : f_X12_mayFrank n z t (nI l) (nI m) = some (bI (mayN a l m)) := by
  have h6 := okL ha
  obtain ⟨e1, e2, e3, e4⟩ := trL hh hl
  obtain ⟨b1, b2, b3, b4, b5⟩ := okT ha hl
  obtain ⟨g1, g2, g3⟩ := trM hh hm
  obtain ⟨c1, c2, c3⟩ := okM ha hm
  have hd : t 23 = nI (a 23) := hh.2.2.2.2.2.1
  have hs := signsN_le (a (24 + m)) (a 23)
  have hr := reachN_le (a (24 + m))
  have hb := bearsN_le (a (24 + m))
  have hab := absd_le b1 c2
  have hk := X12_coversAs (n := n) (k := a (24 + m)) (d := a 23) c1 (by omega)
  have f1 : 29 + 3 * l + 0 = 29 + 3 * l := rfl
  have f3 : 29 + 3 * l + 2 = 31 + 3 * l := by omega
  simp (disch := omega) only [f_X12_mayFrank_j93, f_X12_mayFrank_j92, f_X12_mayFrank_j42, f_X12_mayFrank, pl_lit, pl_bl, pl_bd, pl_bd2, pl_bd3, pl_bd4, pl_bcT, pl_bcF, gd_t, pl_bcTrue, pl_bcFalse, pl_gdTrue, pl_in, pl_eq, pl_lt, pl_le, pl_ix, nI_add, pk_mul, pl_m1, f1, f3, e1, e3, e4, g1, g2, g3, hd, hk, X12_miles b1 c2, X12_reachAs c1, X12_bearsAs c1, wI_m1, bI_0n, pl_bc01n, pl_bcbn', pl_bcNot, pl_bcSame, true_or, or_true, pl_bc10n, pl_bcbn]
  refine congrArg some (bI_congr ?_)
  unfold mayN
  omega
end HLP
