/-! read: words, numbers, stops -/
def nx (B : Nat → Nat) (T s : Nat) : Nat := skp B (T - (s + tL B T s)) (s + tL B T s)
def wdP (B : Nat → Nat) (T : Nat) (c : List Nat) (L s : Nat) : Prop := tS B T s = 1 ∧ tL B T s = L ∧ ∀ j, j < L → B (s + j) = c.getD j 0
def wdL : Nat → List Nat
  | 0 => [104, 111, 117, 115, 101, 0]
  | 1 => [109, 101, 109, 98, 101, 114]
  | 2 => [108, 101, 116, 116, 101, 114]
  | _ => [102, 114, 97, 110, 107, 0]
def wdN : Nat → Nat
  | 0 => 5
  | 1 => 6
  | 2 => 6
  | _ => 5
theorem ch_dec : ∀ i, i < 4 → ∀ j, j < 6 → j < wdN i → chS i (nI j) = nI ((wdL i).getD j 0) := by decide +kernel
theorem wl_dec : ∀ i, i < 4 → ∀ j, j < 6 → (wdL i).getD j 0 < 128 := by decide +kernel
theorem len_dec : ∀ i, i < 4 → lenJ.getD i 0 = wdN i := by decide +kernel
theorem wdN_le (i : Nat) : 5 ≤ wdN i ∧ wdN i ≤ 6 := by
  unfold wdN
  split <;> omega
section WRD
variable {n : Nat} {rv mo : MV} {B : Nat → Nat} {T s e j : Nat}
theorem tS_le : tS B T s ≤ 4 := by
  unfold tS
  repeat' split
  all_goals omega
theorem tV_le (hB : ∀ i, B i < 128) : tV B T s < 1000 := by
  have h1 := hB s
  have h2 := hB (s + 1)
  unfold tV vN
  repeat' split
  all_goals omega
theorem tS_3 (h : tS B T s = 3) : tL B T s = 1 ∧ s < T := by
  unfold tS at h
  unfold tL
  by_cases c : T ≤ s
  · rw [if_pos c] at h; omega
  · rw [if_neg c] at h ⊢
    by_cases d : lowB B s = true
    · rw [if_pos d] at h; omega
    · rw [if_neg d] at h ⊢
      by_cases f : figB B s = true
      · rw [if_pos f] at h
        split at h <;> omega
      · rw [if_neg f]
        exact ⟨rfl, by omega⟩
theorem nx_le (hs : s ≤ T) : s + tL B T s ≤ nx B T s ∧ nx B T s ≤ T := by
  have h1 := tL_le (B := B) hs
  have h2 := skp_le (B := B) (T - (s + tL B T s)) (s + tL B T s)
  unfold nx
  omega
theorem X6_isWord {i : Nat} (hi : i < 4) (hn : 200 ≤ n) (hT : T ≤ 150) (hB : ∀ i, B i < 128) (hs : s ≤ T) (h : RTK rv B T s) : f_X6_isWord n rv i = some (bI (wdP B T (wdL i) (wdN i) s)) := by
  obtain ⟨⟨h0, hb⟩, h1, h2, h3, -⟩ := h
  have sl := tS_le (B := B) (T := T) (s := s)
  have tl := tL_le (B := B) hs
  have ln := wdN_le i
  have hl : lnS i = nI (wdN i) := by unfold lnS; rw [len_dec i hi]; rfl
  have sb : nI (s + tL B T s) - nI s = nI (tL B T s) := by rw [pk_sub (by omega), Nat.add_sub_cancel_left]
  by_cases c1 : tS B T s = 1
  · by_cases c2 : tL B T s = wdN i
    · have lf : f_X6_isWord_l28 n n rv i (nI 0) = some (@ite _ (∀ j, j < wdN i → B (s + j) = (wdL i).getD j 0) (Classical.propDecidable _) (.inl ()) (.inr (nI 0))) := by
        refine lp_find (wdN i) (fun j => B (s + j) = (wdL i).getD j 0) (Sum.inl () : Unit ⊕ Int32) (Sum.inr (nI 0)) (fun j hj c => ?_) (fun j hj c => ?_) ?_ (by omega)
        · have hbj := hb (s + j) (by omega)
          have hc := ch_dec i hi j (by omega) hj
          have l1 := wl_dec i hi j (by omega)
          have l2 := hB (s + j)
          have gl : i < 4 ∧ vp_in (nI j) (lenJ.getD i 0) := ⟨hi, by rw [len_dec i hi, pl_in (by omega)]; exact hj⟩
          simp (disch := omega) only [f_X6_isWord_b28, hl, h2, hi, gl, pl_lit, pl_bl, pl_bd, pl_bd2, pl_bd3, pl_bd4, pl_bcT, pl_bcF, gd_t, pl_bcTrue, pl_bcFalse, pl_gdTrue, pl_in, pl_eq, pl_lt, pl_le, pl_ix, nI_add, pk_mul, pl_m1, hbj, hc, c, true_and]
        · have hbj := hb (s + j) (by omega)
          have hc := ch_dec i hi j (by omega) hj
          have l1 := wl_dec i hi j (by omega)
          have l2 := hB (s + j)
          have gl : i < 4 ∧ vp_in (nI j) (lenJ.getD i 0) := ⟨hi, by rw [len_dec i hi, pl_in (by omega)]; exact hj⟩
          simp (disch := omega) only [f_X6_isWord_b28, hl, h2, hi, gl, pl_lit, pl_bl, pl_bd, pl_bd2, pl_bd3, pl_bd4, pl_bcT, pl_bcF, gd_t, pl_bcTrue, pl_bcFalse, pl_gdTrue, pl_in, pl_eq, pl_lt, pl_le, pl_ix, nI_add, pk_mul, pl_m1, hbj, hc, c, true_and]
        · simp (disch := omega) only [f_X6_isWord_b28, hl, hi, pl_lit, pl_bl, pl_bd, pl_bd2, pl_bd3, pl_bd4, pl_bcT, pl_bcF, gd_t, pl_bcTrue, pl_bcFalse, pl_gdTrue, pl_in, pl_eq, pl_lt, pl_le, pl_ix, nI_add, pk_mul, pl_m1]
      by_cases c3 : ∀ j, j < wdN i → B (s + j) = (wdL i).getD j 0
      · rw [if_pos c3] at lf
        rw [bI_Tn (show wdP B T (wdL i) (wdN i) s from ⟨c1, c2, c3⟩)]
        simp (disch := omega) only [f_X6_isWord, h1, h2, h3, sb, hl, hi, pl_lit, pl_bl, pl_bd, pl_bd2, pl_bd3, pl_bd4, pl_bcT, pl_bcF, gd_t, pl_bcTrue, pl_bcFalse, pl_gdTrue, pl_in, pl_eq, pl_lt, pl_le, pl_ix, nI_add, pk_mul, pl_m1, lf]
        rfl
      · rw [if_neg c3] at lf
        rw [bI_Fn (show ¬ wdP B T (wdL i) (wdN i) s from fun z => c3 z.2.2)]
        simp (disch := omega) only [f_X6_isWord, h1, h2, h3, sb, hl, hi, pl_lit, pl_bl, pl_bd, pl_bd2, pl_bd3, pl_bd4, pl_bcT, pl_bcF, gd_t, pl_bcTrue, pl_bcFalse, pl_gdTrue, pl_in, pl_eq, pl_lt, pl_le, pl_ix, nI_add, pk_mul, pl_m1, lf]
        rfl
    · rw [bI_Fn (show ¬ wdP B T (wdL i) (wdN i) s from fun z => c2 z.2.1)]
      simp (disch := omega) only [f_X6_isWord, f_X6_isWord_j24, h1, h2, h3, sb, hl, hi, pl_lit, pl_bl, pl_bd, pl_bd2, pl_bd3, pl_bd4, pl_bcT, pl_bcF, gd_t, pl_bcTrue, pl_bcFalse, pl_gdTrue, pl_in, pl_eq, pl_lt, pl_le, pl_ix, nI_add, pk_mul, pl_m1]
  · rw [bI_Fn (show ¬ wdP B T (wdL i) (wdN i) s from fun z => c1 z.1)]
    simp (disch := omega) only [f_X6_isWord, f_X6_isWord_j24, h1, pl_lit, pl_bl, pl_bd, pl_bd2, pl_bd3, pl_bd4, pl_bcT, pl_bcF, gd_t, pl_bcTrue, pl_bcFalse, pl_gdTrue, pl_in, pl_eq, pl_lt, pl_le, pl_ix, nI_add, pk_mul, pl_m1]
theorem X12_spells {c0 c1 c2 c3 c4 c5 L : Nat} (hL : 5 ≤ L ∧ L ≤ 6) (hc : c0 < 128 ∧ c1 < 128 ∧ c2 < 128 ∧ c3 < 128 ∧ c4 < 128 ∧ c5 < 128) (hn : 200 ≤ n) (hT : T ≤ 150) (hB : ∀ i, B i < 128) (hs : s ≤ T) (h : MTK mo B T s) : f_X12_spells n mo (nI L) (nI c0) (nI c1) (nI c2) (nI c3) (nI c4) (nI c5) = some (bI (wdP B T [c0, c1, c2, c3, c4, c5] L s)) := by
  obtain ⟨⟨h0, hb⟩, h1, h2, h3, -⟩ := h
  have sl := tS_le (B := B) (T := T) (s := s)
  have tl := tL_le (B := B) hs
  by_cases a0 : tS B T s = 1 ∧ tL B T s = L
  · have la : f_X12_spells_l26 n n mo (nI L) (nI c0) (nI c1) (nI c2) (nI c3) (nI c4) (nI c5) (nI 0) (nI 1) = some (bI (True ∧ allP (fun j => B (s + j) = [c0, c1, c2, c3, c4, c5].getD j 0) L)) := by
      rw [← bI_Tn trivial]
      refine lp_all L True (fun j => B (s + j) = [c0, c1, c2, c3, c4, c5].getD j 0) (fun i hi => ?_) ?_ (fun i hi => ?_) (by omega)
      · by_cases c : i < L
        · simp (disch := omega) only [f_X12_spells_b26, pl_lit, pl_bl, pl_bd, pl_bd2, pl_bd3, pl_bd4, pl_bcT, pl_bcF, gd_t, pl_bcTrue, pl_bcFalse, pl_gdTrue, pl_in, pl_eq, pl_lt, pl_le, pl_ix, nI_add, pk_mul, pl_m1]
        · simp (disch := omega) only [f_X12_spells_b26, pl_lit, pl_bl, pl_bd, pl_bd2, pl_bd3, pl_bd4, pl_bcT, pl_bcF, gd_t, pl_bcTrue, pl_bcFalse, pl_gdTrue, pl_in, pl_eq, pl_lt, pl_le, pl_ix, nI_add, pk_mul, pl_m1]
      · simp (disch := omega) only [f_X12_spells_b26, pl_lit, pl_bl, pl_bd, pl_bd2, pl_bd3, pl_bd4, pl_bcT, pl_bcF, gd_t, pl_bcTrue, pl_bcFalse, pl_gdTrue, pl_in, pl_eq, pl_lt, pl_le, pl_ix, nI_add, pk_mul, pl_m1]
      · have hbi := hb (s + i) (by omega)
        have l2 := hB (s + i)
        have E : f_X12_spells_b26 n mo (nI i) (nI 1) (nI L) (nI c0) (nI c1) (nI c2) (nI c3) (nI c4) (nI c5) = f_X12_spells_j103 n mo (nI i) (nI L) (nI c0) (nI c1) (nI c2) (nI c3) (nI c4) (nI c5) (nI ([c0, c1, c2, c3, c4, c5].getD i 0)) (nI (B (s + i))) := by
          rw [← hbi]
          have : i = 0 ∨ i = 1 ∨ i = 2 ∨ i = 3 ∨ i = 4 ∨ i = 5 := by omega
          rcases this with rfl | rfl | rfl | rfl | rfl | rfl
          · simp (disch := omega) only [f_X12_spells_b26, h2, pl_lit, pl_bl, pl_bd, pl_bd2, pl_bd3, pl_bd4, pl_bcT, pl_bcF, gd_t, pl_bcTrue, pl_bcFalse, pl_gdTrue, pl_in, pl_eq, pl_lt, pl_le, pl_ix, nI_add, pk_mul, pl_m1]
            rfl
          · simp (disch := omega) only [f_X12_spells_b26, h2, pl_lit, pl_bl, pl_bd, pl_bd2, pl_bd3, pl_bd4, pl_bcT, pl_bcF, gd_t, pl_bcTrue, pl_bcFalse, pl_gdTrue, pl_in, pl_eq, pl_lt, pl_le, pl_ix, nI_add, pk_mul, pl_m1]
            rfl
          · simp (disch := omega) only [f_X12_spells_b26, h2, pl_lit, pl_bl, pl_bd, pl_bd2, pl_bd3, pl_bd4, pl_bcT, pl_bcF, gd_t, pl_bcTrue, pl_bcFalse, pl_gdTrue, pl_in, pl_eq, pl_lt, pl_le, pl_ix, nI_add, pk_mul, pl_m1]
            rfl
          · simp (disch := omega) only [f_X12_spells_b26, h2, pl_lit, pl_bl, pl_bd, pl_bd2, pl_bd3, pl_bd4, pl_bcT, pl_bcF, gd_t, pl_bcTrue, pl_bcFalse, pl_gdTrue, pl_in, pl_eq, pl_lt, pl_le, pl_ix, nI_add, pk_mul, pl_m1]
            rfl
          · simp (disch := omega) only [f_X12_spells_b26, h2, pl_lit, pl_bl, pl_bd, pl_bd2, pl_bd3, pl_bd4, pl_bcT, pl_bcF, gd_t, pl_bcTrue, pl_bcFalse, pl_gdTrue, pl_in, pl_eq, pl_lt, pl_le, pl_ix, nI_add, pk_mul, pl_m1]
            rfl
          · simp (disch := omega) only [f_X12_spells_b26, h2, pl_lit, pl_bl, pl_bd, pl_bd2, pl_bd3, pl_bd4, pl_bcT, pl_bcF, gd_t, pl_bcTrue, pl_bcFalse, pl_gdTrue, pl_in, pl_eq, pl_lt, pl_le, pl_ix, nI_add, pk_mul, pl_m1]
            rfl
        have dl : [c0, c1, c2, c3, c4, c5].getD i 0 < 128 := by
          have : i = 0 ∨ i = 1 ∨ i = 2 ∨ i = 3 ∨ i = 4 ∨ i = 5 := by omega
          rcases this with rfl | rfl | rfl | rfl | rfl | rfl
          · exact hc.1
          · exact hc.2.1
          · exact hc.2.2.1
          · exact hc.2.2.2.1
          · exact hc.2.2.2.2.1
          · exact hc.2.2.2.2.2
        show f_X12_spells_b26 n mo (nI i) (nI 1) (nI L) (nI c0) (nI c1) (nI c2) (nI c3) (nI c4) (nI c5) = _
        rw [E]
        generalize [c0, c1, c2, c3, c4, c5].getD i 0 = d at dl
        by_cases c : B (s + i) = d
        · rw [bI_Tn c]
          simp (disch := omega) only [f_X12_spells_j103, f_X12_spells_j111, pl_lit, pl_bl, pl_bd, pl_bd2, pl_bd3, pl_bd4, pl_bcT, pl_bcF, gd_t, pl_bcTrue, pl_bcFalse, pl_gdTrue, pl_in, pl_eq, pl_lt, pl_le, pl_ix, nI_add, pk_mul, pl_m1, c]
        · rw [bI_Fn c]
          simp (disch := omega) only [f_X12_spells_j103, f_X12_spells_j111, pl_lit, pl_bl, pl_bd, pl_bd2, pl_bd3, pl_bd4, pl_bcT, pl_bcF, gd_t, pl_bcTrue, pl_bcFalse, pl_gdTrue, pl_in, pl_eq, pl_lt, pl_le, pl_ix, nI_add, pk_mul, pl_m1, c]
    rw [bI_congr (show (True ∧ allP (fun j => B (s + j) = [c0, c1, c2, c3, c4, c5].getD j 0) L) ↔ wdP B T [c0, c1, c2, c3, c4, c5] L s from ⟨fun z => ⟨a0.1, a0.2, z.2⟩, fun z => ⟨trivial, z.2.2⟩⟩)] at la
    have t1 := a0.1
    have t2 := a0.2
    simp (disch := omega) only [f_X12_spells, f_X12_spells_j21, f_X12_spells_j119, h1, h3, pl_lit, pl_bl, pl_bd, pl_bd2, pl_bd3, pl_bd4, pl_bcT, pl_bcF, gd_t, pl_bcTrue, pl_bcFalse, pl_gdTrue, pl_in, pl_eq, pl_lt, pl_le, pl_ix, nI_add, pk_mul, pl_m1, la, bI_01n]
  · have l0 : f_X12_spells_l26 n n mo (nI L) (nI c0) (nI c1) (nI c2) (nI c3) (nI c4) (nI c5) (nI 0) (nI 0) = some (nI 0) := by
      refine lp_end (by omega) ?_
      simp (disch := omega) only [f_X12_spells_b26, pl_lit, pl_bl, pl_bd, pl_bd2, pl_bd3, pl_bd4, pl_bcT, pl_bcF, gd_t, pl_bcTrue, pl_bcFalse, pl_gdTrue, pl_in, pl_eq, pl_lt, pl_le, pl_ix, nI_add, pk_mul, pl_m1]
    rw [bI_Fn (show ¬ wdP B T [c0, c1, c2, c3, c4, c5] L s from fun z => a0 ⟨z.1, z.2.1⟩)]
    by_cases t1 : tS B T s = 1
    · have t2 : ¬ tL B T s = L := fun z => a0 ⟨t1, z⟩
      simp (disch := omega) only [f_X12_spells, f_X12_spells_j20, f_X12_spells_j21, f_X12_spells_j119, h1, h3, pl_lit, pl_bl, pl_bd, pl_bd2, pl_bd3, pl_bd4, pl_bcT, pl_bcF, gd_t, pl_bcTrue, pl_bcFalse, pl_gdTrue, pl_in, pl_eq, pl_lt, pl_le, pl_ix, nI_add, pk_mul, pl_m1, l0, true_or, or_true]
    · simp (disch := omega) only [f_X12_spells, f_X12_spells_j20, f_X12_spells_j21, f_X12_spells_j119, h1, h3, pl_lit, pl_bl, pl_bd, pl_bd2, pl_bd3, pl_bd4, pl_bcT, pl_bcF, gd_t, pl_bcTrue, pl_bcFalse, pl_gdTrue, pl_in, pl_eq, pl_lt, pl_le, pl_ix, nI_add, pk_mul, pl_m1, l0, true_or, or_true]
theorem X6_takesNumber {lo hi : Int32} {R : Nat → Prop} (hR : ∀ v, v < 1000 → ((lo ≤ nI v ∧ nI v ≤ hi) ↔ R v)) (hn : 200 ≤ n) (hT : T ≤ 150) (hB : ∀ i, B i < 128) (hs : s ≤ T) (h : RTK rv B T s) : ∃ rv', f_X6_takesNumber n rv lo hi = some (bI (tS B T (nx B T s) = 2 ∧ R (tV B T (nx B T s))), rv') ∧ RTK rv' B T (nx B T s) := by
  obtain ⟨rv', g1, g2⟩ := X6_nextToken (n := n) hn hT (fun i _ => hB i) h.1 (tL_le (B := B) hs) h.2.2.2.1
  have g2 : RTK rv' B T (nx B T s) := g2
  refine ⟨rv', ?_, g2⟩
  have sl := tS_le (B := B) (T := T) (s := nx B T s)
  have e1 := g2.2.1
  have vl := tV_le (B := B) (T := T) (s := nx B T s) hB
  by_cases c : tS B T (nx B T s) = 2
  · have e4 := g2.2.2.2.2 c
    have w := X11_within (n := n) (v := nI (tV B T (nx B T s))) (x := lo) (y := hi)
    by_cases d : R (tV B T (nx B T s))
    · rw [bI_T ((hR _ vl).mpr d)] at w
      rw [bI_Tn ⟨c, d⟩]
      simp (disch := omega) only [f_X6_takesNumber, f_X6_takesNumber_j28, f_X6_takesNumber_j29, g1, e1, c, e4, w, pl_lit, pl_bl, pl_bd, pl_bd2, pl_bd3, pl_bd4, pl_bcT, pl_bcF, gd_t, pl_bcTrue, pl_bcFalse, pl_gdTrue, pl_in, pl_eq, pl_lt, pl_le, pl_ix, nI_add, pk_mul, pl_m1, true_or, or_true]
    · rw [bI_F (fun z => d ((hR _ vl).mp z))] at w
      rw [bI_Fn (fun z => d z.2)]
      simp (disch := omega) only [f_X6_takesNumber, f_X6_takesNumber_j28, f_X6_takesNumber_j29, g1, e1, c, e4, w, pl_lit, pl_bl, pl_bd, pl_bd2, pl_bd3, pl_bd4, pl_bcT, pl_bcF, gd_t, pl_bcTrue, pl_bcFalse, pl_gdTrue, pl_in, pl_eq, pl_lt, pl_le, pl_ix, nI_add, pk_mul, pl_m1, true_or, or_true]
  · rw [bI_Fn (fun z => c z.1)]
    simp (disch := omega) only [f_X6_takesNumber, f_X6_takesNumber_j28, f_X6_takesNumber_j29, g1, e1, pl_lit, pl_bl, pl_bd, pl_bd2, pl_bd3, pl_bd4, pl_bcT, pl_bcF, gd_t, pl_bcTrue, pl_bcFalse, pl_gdTrue, pl_in, pl_eq, pl_lt, pl_le, pl_ix, nI_add, pk_mul, pl_m1, true_or, or_true]
theorem X6_stops (hn : 200 ≤ n) (hT : T ≤ 150) (hB : ∀ i, B i < 128) (hs : s ≤ T) (h : RTK rv B T s) : ∃ rv', f_X6_stops n rv = some (bI (tS B T (nx B T s) = 3), rv') ∧ RTK rv' B T (nx B T s) := by
  obtain ⟨rv', g1, g2⟩ := X6_nextToken (n := n) hn hT (fun i _ => hB i) h.1 (tL_le (B := B) hs) h.2.2.2.1
  have g2 : RTK rv' B T (nx B T s) := g2
  refine ⟨rv', ?_, g2⟩
  have sl := tS_le (B := B) (T := T) (s := nx B T s)
  have e1 := g2.2.1
  by_cases c : tS B T (nx B T s) = 3
  · rw [bI_Tn c]
    simp (disch := omega) only [f_X6_stops, f_X6_stops_j17, g1, e1, pl_lit, pl_bl, pl_bd, pl_bd2, pl_bd3, pl_bd4, pl_bcT, pl_bcF, gd_t, pl_bcTrue, pl_bcFalse, pl_gdTrue, pl_in, pl_eq, pl_lt, pl_le, pl_ix, nI_add, pk_mul, pl_m1, true_or, or_true]
  · rw [bI_Fn c]
    simp (disch := omega) only [f_X6_stops, f_X6_stops_j17, g1, e1, pl_lit, pl_bl, pl_bd, pl_bd2, pl_bd3, pl_bd4, pl_bcT, pl_bcF, gd_t, pl_bcTrue, pl_bcFalse, pl_gdTrue, pl_in, pl_eq, pl_lt, pl_le, pl_ix, nI_add, pk_mul, pl_m1, true_or, or_true]
theorem X12_goBehind (hn : 200 ≤ n) (hT : T ≤ 150) (hB : ∀ i, B i < 128) (hs : s ≤ T) (h : MTK mo B T s) : ∃ mo', f_X12_goBehind n mo = some mo' ∧ MTK mo' B T (nx B T s) ∧ mo'.2 = mo.2 := by
  obtain ⟨mo', g1, g2, g3⟩ := X12_lookAt (n := n) hn hT (fun i _ => hB i) h.1 (tL_le (B := B) hs)
  refine ⟨mo', ?_, g2, g3⟩
  simp (disch := omega) only [f_X12_goBehind, h.2.2.1, h.2.2.2.1, pl_lit, pl_bl, pl_bd, pl_bd2, pl_bd3, pl_bd4, pl_bcT, pl_bcF, gd_t, pl_bcTrue, pl_bcFalse, pl_gdTrue, pl_in, pl_eq, pl_lt, pl_le, pl_ix, nI_add, pk_mul, pl_m1, g1]
theorem X12_takesT {lo hi : Int32} {R : Nat → Prop} {k : Nat} (hk : k < 3) (hR : ∀ v, v < 1000 → ((lo ≤ nI v ∧ nI v ≤ hi) ↔ R v)) (hn : 200 ≤ n) (hT : T ≤ 150) (hB : ∀ i, B i < 128) (hs : s ≤ T) (h : MTK mo B T s) (c : tS B T s = 2 ∧ R (tV B T s)) : ∃ mo', f_X12_takes n mo (nI k) lo hi = some (nI 1, mo') ∧ MTK mo' B T (nx B T s) ∧ mo'.2 = (setA mo 13 (upd (mo.2.1 13) k (nI (tV B T s)))).2 := by
  have e4 := h.2.2.2.2 c.1
  have e3 := h.2.1
  have vl := tV_le (B := B) (T := T) (s := s) hB
  have w := X12_in (n := n) (v := nI (tV B T s)) (x := lo) (y := hi)
  rw [bI_T ((hR _ vl).mpr c.2)] at w
  have h' : MTK (setA mo 13 (upd (mo.2.1 13) k (nI (tV B T s)))) B T s := h
  obtain ⟨mo', g1, g2, g3⟩ := X12_goBehind (n := n) hn hT hB hs h'
  refine ⟨mo', ?_, g2, g3⟩
  have t2 := c.1
  simp (disch := omega) only [f_X12_takes, e3, t2, e4, w, pl_lit, pl_bl, pl_bd, pl_bd2, pl_bd3, pl_bd4, pl_bcT, pl_bcF, gd_t, pl_bcTrue, pl_bcFalse, pl_gdTrue, pl_in, pl_eq, pl_lt, pl_le, pl_ix, nI_add, pk_mul, pl_m1, g1]
theorem X12_takesF {lo hi : Int32} {R : Nat → Prop} {k : Nat} (hR : ∀ v, v < 1000 → ((lo ≤ nI v ∧ nI v ≤ hi) ↔ R v)) (hB : ∀ i, B i < 128) (h : MTK mo B T s) (c : ¬ (tS B T s = 2 ∧ R (tV B T s))) : f_X12_takes n mo (nI k) lo hi = some (nI 0, mo) := by
  have e3 := h.2.1
  have sl := tS_le (B := B) (T := T) (s := s)
  have vl := tV_le (B := B) (T := T) (s := s) hB
  by_cases d : tS B T s = 2
  · have e4 := h.2.2.2.2 d
    have w := X12_in (n := n) (v := nI (tV B T s)) (x := lo) (y := hi)
    rw [bI_F (fun z => c ⟨d, (hR _ vl).mp z⟩)] at w
    simp (disch := omega) only [f_X12_takes, f_X12_takes_j23, e3, d, e4, w, pl_lit, pl_bl, pl_bd, pl_bd2, pl_bd3, pl_bd4, pl_bcT, pl_bcF, gd_t, pl_bcTrue, pl_bcFalse, pl_gdTrue, pl_in, pl_eq, pl_lt, pl_le, pl_ix, nI_add, pk_mul, pl_m1]
  · simp (disch := omega) only [f_X12_takes, f_X12_takes_j23, e3, pl_lit, pl_bl, pl_bd, pl_bd2, pl_bd3, pl_bd4, pl_bcT, pl_bcF, gd_t, pl_bcTrue, pl_bcFalse, pl_gdTrue, pl_in, pl_eq, pl_lt, pl_le, pl_ix, nI_add, pk_mul, pl_m1]
theorem R1 (x y : Nat) (hx : x < 1000) (hy : y < 1000) : ∀ v, v < 1000 → ((nI x ≤ nI v ∧ nI v ≤ nI y) ↔ x ≤ v ∧ v ≤ y) := fun v hv => by
  rw [nI_leI (by omega) (by omega), nI_leI (by omega) (by omega)]
theorem R2 (L : Nat) (hL : L < 1000) : ∀ v, v < 1000 → ((nI 0 ≤ nI v ∧ nI v ≤ nI L - nI 1) ↔ v < L) := fun v hv => by
  rw [Int32.le_iff_toInt_le, Int32.le_iff_toInt_le, pk_sub_toInt (by omega) (by omega), nI_toInt (by omega), nI_toInt (by omega)]
  omega
end WRD
