/-! penny, found -/
theorem lgc_0 {y : Nat} (h : y < 2 ^ 31) : (lg_cmp (lN y) (lN 0) = nI 0) = (y = 0) := by
  apply propext
  unfold lg_cmp
  by_cases c : y = 0
  · subst c
    rw [if_neg (show ¬ lN 0 > lN 0 by rw [gt_iff_lt, lN_lt (by omega) (by omega)]; omega), if_pos rfl]
    exact ⟨fun _ => rfl, fun _ => rfl⟩
  · rw [if_pos (show lN y > lN 0 by rw [gt_iff_lt, lN_lt (by omega) (by omega)]; omega)]
    exact ⟨fun z => absurd z (by decide), fun z => absurd z c⟩
theorem lgc_le {y : Nat} (h : y < 2 ^ 31) : (lg_cmp (lN y) (lN 0) ≤ nI 0) = (y = 0) := by
  apply propext
  unfold lg_cmp
  by_cases c : y = 0
  · subst c
    rw [if_neg (show ¬ lN 0 > lN 0 by rw [gt_iff_lt, lN_lt (by omega) (by omega)]; omega), if_pos rfl]
    exact ⟨fun _ => rfl, fun _ => by decide⟩
  · rw [if_pos (show lN y > lN 0 by rw [gt_iff_lt, lN_lt (by omega) (by omega)]; omega)]
    exact ⟨fun z => absurd z (by decide), fun z => absurd z c⟩
theorem lN_0 {y : Nat} (h : y < 2 ^ 31) : (lN y = lN 0) = (y = 0) := propext (lN_eq h (by omega))
section FRAC
variable {n : Nat} {xo mo h : MV} {t : Nat → Int32} {a : Nat → Nat}
theorem gcd_st {x y : Nat} (h : 0 < y) : Nat.gcd x y = Nat.gcd y (x % y) := by
  rw [Nat.gcd_comm, Nat.gcd_rec, Nat.gcd_comm]
theorem X12_gcd {A B : Nat} {v1 v3 : Int64} (hA : A < 2 ^ 31) (hB : B ≤ 60) (hn : 100 ≤ n) : f_X12_fraction_l6 n n mo v1 v3 (lN B) (lN A) = some (lN (Nat.gcd A B)) := by
  obtain ⟨r, h1, h2⟩ := lp_inv (body := fun q => f_X12_fraction_b6 n mo q.1 q.2 v1 v3) (fun k s => ∃ x y, x < 2 ^ 31 ∧ y ≤ 60 ∧ k = y ∧ s = (lN y, lN x) ∧ Nat.gcd x y = Nat.gcd A B) (fun r => r = lN (Nat.gcd A B)) (by
    rintro k s ⟨x, y, hx, hy, rfl, rfl, hg⟩
    by_cases c : k = 0
    · refine Or.inr ⟨lN x, ?_, ?_⟩
      · subst c
        simp (disch := omega) only [f_X12_fraction_b6, f_X12_fraction_l6, f_X12_fraction, pl_litL, pl_lit, pl_bl, pl_bd, pl_bd2, pl_bd3, pl_bd4, pl_bcT, pl_bcF, gd_t, pl_bcTrue, pl_bcFalse, pl_gdTrue, pl_in, pl_eq, pl_lt, pl_le, pl_ix, nI_add, pk_mul, pl_m1, lgc_0]
      · subst c
        rw [Nat.gcd_zero_right] at hg
        rw [hg]
    · have hm : x % k < k := Nat.mod_lt _ (by omega)
      refine Or.inl ⟨(lN (x % k), lN k), x % k, ?_, hm, k, x % k, by omega, by omega, rfl, rfl, ?_⟩
      · simp (disch := omega) only [f_X12_fraction_b6, f_X12_fraction_l6, f_X12_fraction, pl_litL, pl_lit, pl_bl, pl_bd, pl_bd2, pl_bd3, pl_bd4, pl_bcT, pl_bcF, gd_t, pl_bcTrue, pl_bcFalse, pl_gdTrue, pl_in, pl_eq, pl_lt, pl_le, pl_ix, nI_add, pk_mul, pl_m1, lgc_0, lN_0, pk_lRem]
      · rw [← gcd_st (by omega), hg]) n B (lN B, lN A) ⟨A, B, hA, hB, rfl, rfl, rfl⟩ (by omega)
  unfold f_X12_fraction_l6
  rw [h1, h2]
theorem X11_gcd {A B : Nat} (hA : A < 2 ^ 31) (hB : B ≤ 60) (hn : 100 ≤ n) : f_X11_commonDivisor n (lN A) (lN B) = some (lN (Nat.gcd A B)) := by
  obtain ⟨r, h1, h2⟩ := lp_inv (body := fun q => f_X11_commonDivisor_b9 n q.1 q.2.1 q.2.2) (fun k s => ∃ i x y, x < 2 ^ 31 ∧ y ≤ 60 ∧ i + y ≤ 60 ∧ k = y ∧ s = (nI i, lN y, lN x) ∧ Nat.gcd x y = Nat.gcd A B) (fun r => r = lN (Nat.gcd A B)) (by
    rintro k s ⟨i, x, y, hx, hy, hi, rfl, rfl, hg⟩
    by_cases c : k = 0
    · refine Or.inr ⟨lN x, ?_, ?_⟩
      · subst c
        simp (disch := omega) only [f_X11_commonDivisor_b9, f_X11_commonDivisor_l9, f_X11_commonDivisor_j44, f_X11_commonDivisor, pl_litL, pl_lit, pl_bl, pl_bd, pl_bd2, pl_bd3, pl_bd4, pl_bcT, pl_bcF, gd_t, pl_bcTrue, pl_bcFalse, pl_gdTrue, pl_in, pl_eq, pl_lt, pl_le, pl_ix, nI_add, pk_mul, pl_m1, lgc_0]
      · subst c
        rw [Nat.gcd_zero_right] at hg
        rw [hg]
    · have hm : x % k < k := Nat.mod_lt _ (by omega)
      refine Or.inl ⟨(nI (i + 1), lN (x % k), lN k), x % k, ?_, hm, i + 1, k, x % k, by omega, by omega, by omega, rfl, rfl, ?_⟩
      · simp (disch := omega) only [f_X11_commonDivisor_b9, f_X11_commonDivisor_l9, f_X11_commonDivisor_j44, f_X11_commonDivisor, pl_litL, pl_lit, pl_bl, pl_bd, pl_bd2, pl_bd3, pl_bd4, pl_bcT, pl_bcF, gd_t, pl_bcTrue, pl_bcFalse, pl_gdTrue, pl_in, pl_eq, pl_lt, pl_le, pl_ix, nI_add, pk_mul, pl_m1, lgc_0, lN_0, pk_lRem]
      · rw [← gcd_st (by omega), hg]) n B (nI 0, lN B, lN A) ⟨0, A, B, hA, hB, by omega, rfl, rfl, rfl⟩ (by omega)
  have h1' : f_X11_commonDivisor_l9 n n 0 (lN B) (lN A) = some r := h1
  unfold f_X11_commonDivisor f_X11_commonDivisor_j44
  rw [h1', h2]
  rfl
theorem gcd_small {A B : Nat} (hB : B ≤ 60) (h0 : 0 < B) : 0 < Nat.gcd A B ∧ Nat.gcd A B ≤ 60 :=
  ⟨Nat.gcd_pos_of_pos_right A h0, Nat.le_trans (Nat.gcd_le_right A h0) hB⟩
theorem X11_setFraction {A B : Nat} (hA : A < 2 ^ 31) (hB : B ≤ 60) (h0 : 0 < B) (hn : 100 ≤ n) : f_X11_setFraction n xo (lN A) (lN B) = some (setL (setL xo 0 (lN A / lN (Nat.gcd A B))) 1 (lN B / lN (Nat.gcd A B))) := by
  have g := gcd_small (A := A) hB h0
  simp (disch := omega) only [f_X11_setFraction_j30, f_X11_setFraction, X11_gcd hA hB hn, pl_litL, pl_lit, pl_bl, pl_bd, pl_bd2, pl_bd3, pl_bd4, pl_bcT, pl_bcF, gd_t, pl_bcTrue, pl_bcFalse, pl_gdTrue, pl_in, pl_eq, pl_lt, pl_le, pl_ix, nI_add, pk_mul, pl_m1, lgc_le, lN_0]
theorem X12_fraction {A B : Nat} (hA : A < 2 ^ 31) (hB : B ≤ 60) (h0 : 0 < B) (hn : 100 ≤ n) : f_X12_fraction n mo (lN A) (lN B) = some (setL (setL mo 0 (lN A / lN (Nat.gcd A B))) 1 (lN B / lN (Nat.gcd A B))) := by
  have g := gcd_small (A := A) hB h0
  simp (disch := omega) only [f_X12_fraction, X12_gcd hA hB hn, pl_litL, pl_lit, pl_bl, pl_bd, pl_bd2, pl_bd3, pl_bd4, pl_bcT, pl_bcF, gd_t, pl_bcTrue, pl_bcFalse, pl_gdTrue, pl_in, pl_eq, pl_lt, pl_le, pl_ix, nI_add, pk_mul, pl_m1, lN_0]
/-- postage and weight of every letter -/
def wtN (a : Nat → Nat) (l : Nat) : Nat := a (31 + 3 * l)
noncomputable def frN (a : Nat → Nat) (l : Nat) : Nat := if a (5 + l) = 6 then 0 else if a (5 + l) = 5 then 0 else postN a l
theorem X1_postageOfEvery (hn : 100 ≤ n) (ha : okA a) (hh : HO h t a) : f_X1_postageOfEvery n h = some (nI (sm (postN a) (a 1))) := by
  have h6 := okL ha
  have eL : h.1 1 = nI (a 1) := hh.2.1
  have : f_X1_postageOfEvery_l4 n n h 0 0 = some (nI (sm (postN a) (a 1))) := by
    refine lp_cnt (a 1) (fun i => nI (sm (postN a) i)) _ (fun i hi => ?_) ?_ (by omega)
    · simp (disch := omega) only [f_X1_postageOfEvery_b4, f_X1_postageOfEvery_l4, f_X1_postageOfEvery, eL, pl_lit, pl_bl, pl_bd, pl_bd2, pl_bd3, pl_bd4, pl_bcT, pl_bcF, gd_t, pl_bcTrue, pl_bcFalse, pl_gdTrue, pl_in, pl_eq, pl_lt, pl_le, pl_ix, nI_add, pk_mul, pl_m1, X1_postage (n := n) ha hh hi, sm]
    · simp (disch := omega) only [f_X1_postageOfEvery_b4, f_X1_postageOfEvery_l4, f_X1_postageOfEvery, eL, pl_lit, pl_bl, pl_bd, pl_bd2, pl_bd3, pl_bd4, pl_bcT, pl_bcF, gd_t, pl_bcTrue, pl_bcFalse, pl_gdTrue, pl_in, pl_eq, pl_lt, pl_le, pl_ix, nI_add, pk_mul, pl_m1]
  unfold f_X1_postageOfEvery
  rw [this]
  rfl
theorem X1_weightOfEvery (hn : 100 ≤ n) (ha : okA a) (hh : HO h t a) : f_X1_weightOfEvery n h = some (nI (sm (wtN a) (a 1))) := by
  have h6 := okL ha
  have eL : h.1 1 = nI (a 1) := hh.2.1
  have : f_X1_weightOfEvery_l4 n n h 0 0 = some (nI (sm (wtN a) (a 1))) := by
    refine lp_cnt (a 1) (fun i => nI (sm (wtN a) i)) _ (fun i hi => ?_) ?_ (by omega)
    · simp (disch := omega) only [f_X1_weightOfEvery_b4, f_X1_weightOfEvery_l4, f_X1_weightOfEvery, eL, pl_lit, pl_bl, pl_bd, pl_bd2, pl_bd3, pl_bd4, pl_bcT, pl_bcF, gd_t, pl_bcTrue, pl_bcFalse, pl_gdTrue, pl_in, pl_eq, pl_lt, pl_le, pl_ix, nI_add, pk_mul, pl_m1, (hoL hh hi).2.2.1, sm, wtN]
    · simp (disch := omega) only [f_X1_weightOfEvery_b4, f_X1_weightOfEvery_l4, f_X1_weightOfEvery, eL, pl_lit, pl_bl, pl_bd, pl_bd2, pl_bd3, pl_bd4, pl_bcT, pl_bcF, gd_t, pl_bcTrue, pl_bcFalse, pl_gdTrue, pl_in, pl_eq, pl_lt, pl_le, pl_ix, nI_add, pk_mul, pl_m1]
  unfold f_X1_weightOfEvery
  rw [this]
  rfl
theorem X12_pennySums (hn : 100 ≤ n) (ha : okA a) (hh : TR (mo.2.1 0) a) : f_X12_penny_l6 n n mo 0 0 0 = some (nI (sm (wtN a) (a 1)), nI (sm (postN a) (a 1))) := by
  have h6 := okL ha
  have eL := X12_letters (n := n) hh.2.1
  refine lp_cnt (a 1) (fun i => (nI (sm (wtN a) i), nI (sm (postN a) i))) _ (fun i hi => ?_) ?_ (by omega)
  · have e3 := (trL hh hi).2.2.1
    have f3 : 29 + 3 * i + 2 = 31 + 3 * i := by omega
    simp (disch := omega) only [f_X12_penny_b6, f_X12_get, eL, pl_lit, pl_bl, pl_bd, pl_bd2, pl_bd3, pl_bd4, pl_bcT, pl_bcF, gd_t, pl_bcTrue, pl_bcFalse, pl_gdTrue, pl_in, pl_eq, pl_lt, pl_le, pl_ix, nI_add, pk_mul, pl_m1, X12_postage (n := n) ha hh hi, sm, wtN, f3, e3]
  · simp (disch := omega) only [f_X12_penny_b6, eL, pl_lit, pl_bl, pl_bd, pl_bd2, pl_bd3, pl_bd4, pl_bcT, pl_bcF, gd_t, pl_bcTrue, pl_bcFalse, pl_gdTrue, pl_in, pl_eq, pl_lt, pl_le, pl_ix, nI_add, pk_mul, pl_m1]
theorem X1_postageFranked (hn : 100 ≤ n) (ha : okA a) (hh : HO h t a) : f_X1_postageFranked n h = some (nI (sm (frN a) (a 1))) := by
  have h6 := okL ha
  have eL : h.1 1 = nI (a 1) := hh.2.1
  have : f_X1_postageFranked_l4 n n h 0 0 = some (nI (sm (frN a) (a 1))) := by
    refine lp_cnt (a 1) (fun i => nI (sm (frN a) i)) _ (fun i hi => ?_) ?_ (by omega)
    · have hp := X1_postage (n := n) ha hh hi
      have h5 := (okT ha hi).2.2.2.2
      have e4 := (hoL hh hi).2.2.2
      by_cases c : a (5 + i) = 6
      · simp (disch := omega) only [f_X1_postageFranked_j38, f_X1_postageFranked_b4, f_X1_postageFranked_l4, f_X1_postageFranked, eL, pl_lit, pl_bl, pl_bd, pl_bd2, pl_bd3, pl_bd4, pl_bcT, pl_bcF, gd_t, pl_bcTrue, pl_bcFalse, pl_gdTrue, pl_in, pl_eq, pl_lt, pl_le, pl_ix, nI_add, pk_mul, pl_m1, X1_lies ha hh hi, hp, bI_T c, sm, frN, if_pos c, Nat.add_zero]
      · by_cases d : a (5 + i) = 5
        · simp (disch := omega) only [f_X1_postageFranked_j38, f_X1_postageFranked_b4, f_X1_postageFranked_l4, f_X1_postageFranked, eL, pl_lit, pl_bl, pl_bd, pl_bd2, pl_bd3, pl_bd4, pl_bcT, pl_bcF, gd_t, pl_bcTrue, pl_bcFalse, pl_gdTrue, pl_in, pl_eq, pl_lt, pl_le, pl_ix, nI_add, pk_mul, pl_m1, X1_lies ha hh hi, hp, bI_F c, sm, frN, if_neg c, if_pos d, e4, wI_5, Nat.add_zero]
        · simp (disch := omega) only [f_X1_postageFranked_j38, f_X1_postageFranked_b4, f_X1_postageFranked_l4, f_X1_postageFranked, eL, pl_lit, pl_bl, pl_bd, pl_bd2, pl_bd3, pl_bd4, pl_bcT, pl_bcF, gd_t, pl_bcTrue, pl_bcFalse, pl_gdTrue, pl_in, pl_eq, pl_lt, pl_le, pl_ix, nI_add, pk_mul, pl_m1, X1_lies ha hh hi, hp, bI_F c, sm, frN, if_neg c, if_neg d, e4, wI_5]
    · simp (disch := omega) only [f_X1_postageFranked_j38, f_X1_postageFranked_b4, f_X1_postageFranked_l4, f_X1_postageFranked, eL, pl_lit, pl_bl, pl_bd, pl_bd2, pl_bd3, pl_bd4, pl_bcT, pl_bcF, gd_t, pl_bcTrue, pl_bcFalse, pl_gdTrue, pl_in, pl_eq, pl_lt, pl_le, pl_ix, nI_add, pk_mul, pl_m1]
  unfold f_X1_postageFranked
  rw [this]
  rfl
theorem X12_foundSum {v : Int32} (hn : 100 ≤ n) (ha : okA a) (hh : TR (mo.2.1 0) a) : f_X12_found_l23 n n mo v 0 0 = some (nI (sm (frN a) (a 1))) := by
  have h6 := okL ha
  have eL := X12_letters (n := n) hh.2.1
  refine lp_cnt (a 1) (fun i => nI (sm (frN a) i)) _ (fun i hi => ?_) ?_ (by omega)
  · have hp := X12_postage (n := n) ha hh hi
    have h5 := (okT ha hi).2.2.2.2
    have e4 := (trL hh hi).2.2.2
    by_cases c : a (5 + i) = 6
    · simp (disch := omega) only [f_X12_found_b23, f_X12_found_j60, f_X12_found_j61, eL, pl_lit, pl_bl, pl_bd, pl_bd2, pl_bd3, pl_bd4, pl_bcT, pl_bcF, gd_t, pl_bcTrue, pl_bcFalse, pl_gdTrue, pl_in, pl_eq, pl_lt, pl_le, pl_ix, nI_add, pk_mul, pl_m1, X12_lies ha hh hi, hp, bI_T c, sm, frN, if_pos c, Nat.add_zero]
    · by_cases d : a (5 + i) = 5
      · simp (disch := omega) only [f_X12_found_b23, f_X12_found_j60, f_X12_found_j61, eL, pl_lit, pl_bl, pl_bd, pl_bd2, pl_bd3, pl_bd4, pl_bcT, pl_bcF, gd_t, pl_bcTrue, pl_bcFalse, pl_gdTrue, pl_in, pl_eq, pl_lt, pl_le, pl_ix, nI_add, pk_mul, pl_m1, X12_lies ha hh hi, hp, bI_F c, sm, frN, if_neg c, if_pos d, e4, wI_5, Nat.add_zero]
      · simp (disch := omega) only [f_X12_found_b23, f_X12_found_j60, f_X12_found_j61, eL, pl_lit, pl_bl, pl_bd, pl_bd2, pl_bd3, pl_bd4, pl_bcT, pl_bcF, gd_t, pl_bcTrue, pl_bcFalse, pl_gdTrue, pl_in, pl_eq, pl_lt, pl_le, pl_ix, nI_add, pk_mul, pl_m1, X12_lies ha hh hi, hp, bI_F c, sm, frN, if_neg c, if_neg d, e4, wI_5]
  · simp (disch := omega) only [f_X12_found_b23, eL, pl_lit, pl_bl, pl_bd, pl_bd2, pl_bd3, pl_bd4, pl_bcT, pl_bcF, gd_t, pl_bcTrue, pl_bcFalse, pl_gdTrue, pl_in, pl_eq, pl_lt, pl_le, pl_ix, nI_add, pk_mul, pl_m1]
theorem sm_pos {f : Nat → Nat} {k : Nat} (hk : 0 < k) (h : 0 < f 0) : 0 < sm f k := by
  induction k with
  | zero => omega
  | succ j ih =>
    show 0 < sm f j + f j
    by_cases c : j = 0
    · subst c; omega
    · have := ih (by omega); omega
theorem price_lp {P W : Nat} (hW : 0 < W) (hP : P ≤ 600) (hn : 1000 ≤ n) (hW' : W ≤ 60) : f_X12_penny_l55 n n mo (nI W) (nI P) 0 = some (nI ((P + W - 1) / W)) := by
  have hQ : (P + W - 1) / W ≤ P + W - 1 := Nat.div_le_self _ _
  have hq1 : ∀ i, i < (P + W - 1) / W → i * W < P := fun i hi => by
    have := (Nat.le_div_iff_mul_le hW).mp (show i + 1 ≤ (P + W - 1) / W from hi)
    rw [Nat.succ_mul] at this
    omega
  have hq2 : P ≤ (P + W - 1) / W * W := by
    have := Nat.lt_mul_of_div_lt (Nat.lt_succ_self ((P + W - 1) / W)) hW
    rw [Nat.succ_mul] at this
    omega
  obtain ⟨r, h1, h2⟩ := lp_inv (body := fun q => f_X12_penny_b55 n mo q (nI W) (nI P)) (fun k s => ∃ i, i ≤ (P + W - 1) / W ∧ k = (P + W - 1) / W - i ∧ s = nI i) (fun r => r = nI ((P + W - 1) / W)) (by
    rintro k s ⟨i, hi, rfl, rfl⟩
    by_cases c : i = (P + W - 1) / W
    · refine Or.inr ⟨nI i, ?_, by rw [c]⟩
      have b : i * W ≤ 40000 := by
        calc i * W ≤ 660 * 60 := Nat.mul_le_mul (by omega) hW'
          _ ≤ 40000 := by omega
      have hq3 : P ≤ i * W := by rw [c]; exact hq2
      simp (disch := omega) only [f_X12_penny_b55, pl_lit, pl_bl, pl_bd, pl_bd2, pl_bd3, pl_bd4, pl_bcT, pl_bcF, gd_t, pl_bcTrue, pl_bcFalse, pl_gdTrue, pl_in, pl_eq, pl_lt, pl_le, pl_ix, nI_add, pk_mul, pl_m1]
    · have hlt := hq1 i (by omega)
      refine Or.inl ⟨nI (i + 1), (P + W - 1) / W - (i + 1), ?_, by omega, i + 1, by omega, rfl, rfl⟩
      simp (disch := omega) only [f_X12_penny_b55, pl_lit, pl_bl, pl_bd, pl_bd2, pl_bd3, pl_bd4, pl_bcT, pl_bcF, gd_t, pl_bcTrue, pl_bcFalse, pl_gdTrue, pl_in, pl_eq, pl_lt, pl_le, pl_ix, nI_add, pk_mul, pl_m1]) n ((P + W - 1) / W) (nI 0) ⟨0, Nat.zero_le _, (Nat.sub_zero _).symm, rfl⟩ (by omega)
  have h1' : f_X12_penny_l55 n n mo (nI W) (nI P) 0 = some r := h1
  rw [h1', h2]
end FRAC
theorem INV_frac {xo nv rv h0 h1 h2 h3 nt0 cv0 nt1 cv1 nt2 cv2 nt3 cv3 ps0 ps1 ps2 ps3 mo : MV} {x y : Int64} (h : INV xo nv rv h0 h1 h2 h3 nt0 cv0 nt1 cv1 nt2 cv2 nt3 cv3 ps0 ps1 ps2 ps3 mo) : INV (setL (setL xo 0 x) 1 y) nv rv h0 h1 h2 h3 nt0 cv0 nt1 cv1 nt2 cv2 nt3 cv3 ps0 ps1 ps2 ps3 (setL (setL mo 0 x) 1 y) := by
  obtain ⟨i1, i2, i3, i4, i5, i8, i9⟩ := h
  exact ⟨i1, i2, i3, i4, i5, ⟨rfl, rfl⟩, i9⟩
theorem sim_penny {n : Nat} (hn : 1000 ≤ n) : SIM_penny n INV := by
  intro xo nv rv h0 h1 h2 h3 nt0 cv0 nt1 cv1 nt2 cv2 nt3 cv3 ps0 ps1 ps2 ps3 mo hI
  have hI0 := hI
  obtain ⟨⟨a, ha, ht, hh, hc, hn', hp⟩, i2⟩ := hI
  have h6 := okL ha
  have x1 := X1_postageOfEvery (n := n) (by omega) ha hh
  have x2 := X1_weightOfEvery (n := n) (by omega) ha hh
  have x3 := X12_pennySums (n := n) (by omega) ha ht
  have b1 : sm (postN a) (a 1) ≤ a 1 * 63 := sm_le (fun i hi => (postN_le ha hi).2)
  have b2 : sm (wtN a) (a 1) ≤ a 1 * 9 := sm_le (fun i hi => (okT ha hi).2.2.2.1)
  by_cases c : a 1 = 0
  · have e1 : sm (postN a) (a 1) = 0 := by rw [c]; rfl
    have e2 : sm (wtN a) (a 1) = 0 := by rw [c]; rfl
    rw [e1] at x1 x3
    rw [e2] at x2 x3
    refine ⟨nI 0, _, _, ?_, ?_, INV_frac (x := lN 0 / lN (Nat.gcd 0 1)) (y := lN 1 / lN (Nat.gcd 0 1)) hI0⟩
    · have f := X11_setFraction (n := n) (xo := xo) (A := 0) (B := 1) (by omega) (by omega) (by omega) (by omega)
      simp (disch := omega) only [f_X11_penny, x1, x2, pl_litL, pl_lit, pl_bl, pl_bd, pl_bd2, pl_bd3, pl_bd4, pl_bcT, pl_bcF, gd_t, pl_bcTrue, pl_bcFalse, pl_gdTrue, pl_in, pl_eq, pl_lt, pl_le, pl_ix, nI_add, pk_mul, pl_m1, f]
    · have f := X12_fraction (n := n) (mo := mo) (A := 0) (B := 1) (by omega) (by omega) (by omega) (by omega)
      unfold f_X12_penny
      rw [x3]
      have l0 : (nI 0).toInt64 = lN 0 := rfl
      have w : f_X12_penny_l55 n n (setL (setL mo 0 (lN 0 / lN (Nat.gcd 0 1))) 1 (lN 1 / lN (Nat.gcd 0 1))) (nI 0) (nI 0) (nI 0) = some (nI 0) := by
        obtain ⟨m, rfl⟩ : ∃ m, n = m + 1 := ⟨n - 1, by omega⟩
        unfold f_X12_penny_l55 lp
        simp (disch := omega) only [f_X12_penny_b55, pl_lit, pl_bl, pl_bd, pl_bd2, pl_bd3, pl_bd4, pl_bcT, pl_bcF, gd_t, pl_bcTrue, pl_bcFalse, pl_gdTrue, pl_in, pl_eq, pl_lt, pl_le, pl_ix, nI_add, pk_mul, pl_m1]
      simp (disch := omega) only [f_X12_penny_j50, pl_litL, pl_lit, pl_bl, pl_bd, pl_bd2, pl_bd3, pl_bd4, pl_bcT, pl_bcF, gd_t, pl_bcTrue, pl_bcFalse, pl_gdTrue, pl_in, pl_eq, pl_lt, pl_le, pl_ix, nI_add, pk_mul, pl_m1, l0, f, w]
  · have p2 : 0 < sm (wtN a) (a 1) := sm_pos (by omega) (okT ha (show 0 < a 1 by omega)).2.2.1
    have f1 := X11_setFraction (n := n) (xo := xo) (A := sm (postN a) (a 1)) (B := sm (wtN a) (a 1)) (by omega) (by omega) p2 (by omega)
    have f2 := X12_fraction (n := n) (mo := mo) (A := sm (postN a) (a 1)) (B := sm (wtN a) (a 1)) (by omega) (by omega) p2 (by omega)
    refine ⟨nI ((sm (postN a) (a 1) + sm (wtN a) (a 1) - 1) / sm (wtN a) (a 1)), _, _, ?_, ?_, INV_frac (x := lN (sm (postN a) (a 1)) / lN (Nat.gcd (sm (postN a) (a 1)) (sm (wtN a) (a 1)))) (y := lN (sm (wtN a) (a 1)) / lN (Nat.gcd (sm (postN a) (a 1)) (sm (wtN a) (a 1)))) hI0⟩
    · simp (disch := omega) only [f_X11_penny, x1, x2, pl_lit, pl_bl, pl_bd, pl_bd2, pl_bd3, pl_bd4, pl_bcT, pl_bcF, gd_t, pl_bcTrue, pl_bcFalse, pl_gdTrue, pl_in, pl_eq, pl_lt, pl_le, pl_ix, nI_add, pk_mul, pl_m1, nI_l, f1, pk_sub, pl_div]
    · have w := fun mo' => price_lp (n := n) (mo := mo') (P := sm (postN a) (a 1)) (W := sm (wtN a) (a 1)) p2 (by omega) hn (by omega)
      have w' : ∀ mo', f_X12_penny_l55 n n mo' (nI (sm (wtN a) (a 1))) (nI (sm (postN a) (a 1))) (nI 0) = _ := w
      unfold f_X12_penny
      rw [x3]
      simp (disch := omega) only [f_X12_penny_j50, pl_lit, pl_bl, pl_bd, pl_bd2, pl_bd3, pl_bd4, pl_bcT, pl_bcF, gd_t, pl_bcTrue, pl_bcFalse, pl_gdTrue, pl_in, pl_eq, pl_lt, pl_le, pl_ix, nI_add, pk_mul, pl_m1, nI_l, f2, w']
theorem sim_found {n : Nat} (hn : 100 ≤ n) : SIM_found n INV := by
  intro xo nv rv h0 h1 h2 h3 nt0 cv0 nt1 cv1 nt2 cv2 nt3 cv3 ps0 ps1 ps2 ps3 mo v1 hI
  have hI0 := hI
  obtain ⟨⟨a, ha, ht, hh, hc, hn', hp⟩, i2⟩ := hI
  have h6 := okL ha
  have p1 := w11 (n := n) (v := v1) (K := 10) (by omega)
  have p2 := w12 (n := n) (v := v1) (K := 10) (by omega)
  have p2' : f_X12_in n v1.toInt64 0 10 = _ := p2
  refine inR_cases (v := v1) (N := 11) (fun c hc' e => ?_) (fun c => ?_)
  · subst e
    rw [bI_in hc'] at p1 p2'
    have x1 := X1_postageFranked (n := n) hn ha hh
    have x2 := X12_foundSum (n := n) (v := nI c) hn ha ht
    have b1 : sm (frN a) (a 1) ≤ a 1 * 63 := sm_le (fun i hi => by
      have := (postN_le ha hi).2
      unfold frN
      split
      · omega
      · split <;> omega)
    have b2 : c * sm (frN a) (a 1) ≤ 10 * 378 := Nat.mul_le_mul (by omega) (by omega)
    have f1 := X11_setFraction (n := n) (xo := xo) (A := c * sm (frN a) (a 1)) (B := 10) (by omega) (by omega) (by omega) hn
    have f2 := X12_fraction (n := n) (mo := mo) (A := c * sm (frN a) (a 1)) (B := 10) (by omega) (by omega) (by omega) hn
    refine ⟨nI 1, _, _, ?_, ?_, INV_frac (x := lN (c * sm (frN a) (a 1)) / lN (Nat.gcd (c * sm (frN a) (a 1)) 10)) (y := lN 10 / lN (Nat.gcd (c * sm (frN a) (a 1)) 10)) hI0⟩
    · simp (disch := omega) only [f_X11_found, p1, x1, pl_litL, pl_lit, pl_bl, pl_bd, pl_bd2, pl_bd3, pl_bd4, pl_bcT, pl_bcF, gd_t, pl_bcTrue, pl_bcFalse, pl_gdTrue, pl_in, pl_eq, pl_lt, pl_le, pl_ix, nI_add, pk_mul, pl_m1, nI_l, lN_mul, f1]
    · unfold f_X12_found
      rw [p2', x2]
      simp (disch := omega) only [pl_litL, pl_lit, pl_bl, pl_bd, pl_bd2, pl_bd3, pl_bd4, pl_bcT, pl_bcF, gd_t, pl_bcTrue, pl_bcFalse, pl_gdTrue, pl_in, pl_eq, pl_lt, pl_le, pl_ix, nI_add, pk_mul, pl_m1, nI_l, lN_mul, Nat.mul_comm (sm (frN a) (a 1)) c, f2]
  · rw [bI_nin c] at p1 p2'
    refine ⟨-2, badX xo, refM mo 0, ?_, ?_, hI0.bad⟩
    · simp (disch := omega) only [f_X11_found, p1, pl_lit, pl_bl, pl_bd, pl_bd2, pl_bd3, pl_bd4, pl_bcT, pl_bcF, gd_t, pl_bcTrue, pl_bcFalse, pl_gdTrue, pl_in, pl_eq, pl_lt, pl_le, pl_ix, nI_add, pk_mul, pl_m1, X11_bad]
    · unfold f_X12_found
      rw [p2']
      simp (disch := omega) only [pl_lit, pl_bl, pl_bd, pl_bd2, pl_bd3, pl_bd4, pl_bcT, pl_bcF, gd_t, pl_bcTrue, pl_bcFalse, pl_gdTrue, pl_in, pl_eq, pl_lt, pl_le, pl_ix, nI_add, pk_mul, pl_m1, X12_bad]
