theorem sim_about {n : Nat} : SIM_about n INV := by
  intro xo nv rv h0 h1 h2 h3 nt0 cv0 nt1 cv1 nt2 cv2 nt3 cv3 ps0 ps1 ps2 ps3 mo v1 v2 hI
  have hI0 := hI
  obtain ⟨⟨a, ha, ht, hh, -, -, -⟩, -⟩ := hI
  have h6 := okL ha
  have m1' := X11_isLetter (n := n) (xo := xo) (v := v1) (M := a 1) (by omega) hh.2.1
  have m2' := X12_isLetter (n := n) (mo := mo) (v := v1) (M := a 1) (by omega) ht.2.1
  have w2 := X12_inK (n := n) (v := v2) (K := 4) (by omega)
  refine inR_cases (v := v1) (N := a 1) (fun m hm e => ?_) (fun c => ?_)
  · subst e
    rw [bI_in hm] at m1' m2'
    obtain ⟨g1, g2, g3, g4⟩ := hoL hh hm
    obtain ⟨q1, q2, q3, q4⟩ := trL ht hm
    refine inR_cases (v := v2) (N := 5) (fun k hk e => ?_) (fun c => ?_)
    · subst e
      rw [bI_in hk] at w2
      have w2 : f_X12_in n (nI k).toInt64 0 4 = some (nI 1) := w2
      have f0 : 29 + 3 * m + 0 = 29 + 3 * m := rfl
      have f1 : 29 + 3 * m + 1 = 30 + 3 * m := by omega
      have f2 : 29 + 3 * m + 2 = 31 + 3 * m := by omega
      refine ⟨if k = 0 then nI (a (29 + 3 * m)) else if k = 1 then nI (a (30 + 3 * m)) else if k = 2 then nI (a (31 + 3 * m)) else if k = 3 then nI (postN a m) else wI (a (5 + m)), xo, mo, ?_, ?_, hI0⟩
      · unfold f_X11_about
        rw [m1']
        rcases five hk with rfl | rfl | rfl | rfl | rfl
        · simp (disch := omega) [pl_lit, pl_bl, pl_bd, pl_bd2, pl_bd3, pl_bd4, pl_bcT, pl_bcF, gd_t, pl_bcTrue, pl_bcFalse, pl_gdTrue, pl_in, pl_eq, pl_lt, pl_le, pl_ix, nI_add, pk_mul, pl_m1, g1]
        · simp (disch := omega) [pl_lit, pl_bl, pl_bd, pl_bd2, pl_bd3, pl_bd4, pl_bcT, pl_bcF, gd_t, pl_bcTrue, pl_bcFalse, pl_gdTrue, pl_in, pl_eq, pl_lt, pl_le, pl_ix, nI_add, pk_mul, pl_m1, g2]
        · simp (disch := omega) [pl_lit, pl_bl, pl_bd, pl_bd2, pl_bd3, pl_bd4, pl_bcT, pl_bcF, gd_t, pl_bcTrue, pl_bcFalse, pl_gdTrue, pl_in, pl_eq, pl_lt, pl_le, pl_ix, nI_add, pk_mul, pl_m1, g3]
        · simp (disch := omega) [pl_lit, pl_bl, pl_bd, pl_bd2, pl_bd3, pl_bd4, pl_bcT, pl_bcF, gd_t, pl_bcTrue, pl_bcFalse, pl_gdTrue, pl_in, pl_eq, pl_lt, pl_le, pl_ix, nI_add, pk_mul, pl_m1, X1_postage ha hh hm]
        · simp (disch := omega) [pl_lit, pl_bl, pl_bd, pl_bd2, pl_bd3, pl_bd4, pl_bcT, pl_bcF, gd_t, pl_bcTrue, pl_bcFalse, pl_gdTrue, pl_in, pl_eq, pl_lt, pl_le, pl_ix, nI_add, pk_mul, pl_m1, g4]
      · unfold f_X12_about f_X12_about_j62
        rw [m2', w2]
        rcases five hk with rfl | rfl | rfl | rfl | rfl
        · simp (disch := omega) only [pl_lit, pl_bl, pl_bd, pl_bd2, pl_bd3, pl_bd4, pl_bcT, pl_bcF, gd_t, pl_bcTrue, pl_bcFalse, pl_gdTrue, pl_in, pl_eq, pl_lt, pl_le, pl_ix, nI_add, pk_mul, pl_m1, f_X12_get, f0, q1, if_true]
        · simp (disch := omega) only [pl_lit, pl_bl, pl_bd, pl_bd2, pl_bd3, pl_bd4, pl_bcT, pl_bcF, gd_t, pl_bcTrue, pl_bcFalse, pl_gdTrue, pl_in, pl_eq, pl_lt, pl_le, pl_ix, nI_add, pk_mul, pl_m1, f_X12_get, f1, q2]
          simp
        · simp (disch := omega) only [pl_lit, pl_bl, pl_bd, pl_bd2, pl_bd3, pl_bd4, pl_bcT, pl_bcF, gd_t, pl_bcTrue, pl_bcFalse, pl_gdTrue, pl_in, pl_eq, pl_lt, pl_le, pl_ix, nI_add, pk_mul, pl_m1, f_X12_get, f2, q3]
          simp
        · simp (disch := omega) [pl_lit, pl_bl, pl_bd, pl_bd2, pl_bd3, pl_bd4, pl_bcT, pl_bcF, gd_t, pl_bcTrue, pl_bcFalse, pl_gdTrue, pl_in, pl_eq, pl_lt, pl_le, pl_ix, nI_add, pk_mul, pl_m1, X12_postage ha ht hm]
        · simp (disch := omega) [pl_lit, pl_bl, pl_bd, pl_bd2, pl_bd3, pl_bd4, pl_bcT, pl_bcF, gd_t, pl_bcTrue, pl_bcFalse, pl_gdTrue, pl_in, pl_eq, pl_lt, pl_le, pl_ix, nI_add, pk_mul, pl_m1, q4]
    · rw [bI_nin c] at w2
      have w2 : f_X12_in n v2.toInt64 0 4 = some (nI 0) := w2
      refine ⟨-10, badX xo, refM mo 0, ?_, ?_, hI0.bad⟩
      · unfold f_X11_about
        rw [m1']
        simp only [pl_bd]
        rw [bc_F (show ¬ nI 1 = 0 by decide), bc_F (show ¬ v2 = 0 from fun z => c ⟨0, by omega, z⟩), bc_F (show ¬ v2 = 1 from fun z => c ⟨1, by omega, z⟩), bc_F (show ¬ v2 = 2 from fun z => c ⟨2, by omega, z⟩), bc_F (show ¬ v2 = 3 from fun z => c ⟨3, by omega, z⟩), bc_F (show ¬ v2 = 4 from fun z => c ⟨4, by omega, z⟩), X11_obad]
        rfl
      · unfold f_X12_about f_X12_about_j20
        rw [m2', w2]
        simp (disch := omega) [pl_lit, pl_bl, pl_bd, pl_bd2, pl_bd3, pl_bd4, pl_bcT, pl_bcF, gd_t, pl_bcTrue, pl_bcFalse, pl_gdTrue, pl_in, pl_eq, pl_lt, pl_le, pl_ix, nI_add, pk_mul, pl_m1, X12_bad]
  · rw [bI_nin c] at m1' m2'
    refine ⟨-10, badX xo, refM mo 0, ?_, ?_, hI0.bad⟩
    · unfold f_X11_about
      rw [m1']
      simp (disch := omega) [pl_lit, pl_bl, pl_bd, pl_bd2, pl_bd3, pl_bd4, pl_bcT, pl_bcF, gd_t, pl_bcTrue, pl_bcFalse, pl_gdTrue, pl_in, pl_eq, pl_lt, pl_le, pl_ix, nI_add, pk_mul, pl_m1, X11_obad]
    · unfold f_X12_about f_X12_about_j20
      rw [m2']
      simp (disch := omega) [pl_lit, pl_bl, pl_bd, pl_bd2, pl_bd3, pl_bd4, pl_bcT, pl_bcF, gd_t, pl_bcTrue, pl_bcFalse, pl_gdTrue, pl_in, pl_eq, pl_lt, pl_le, pl_ix, nI_add, pk_mul, pl_m1, X12_bad]
/-- the members who may frank a letter, as bits -/
noncomputable def whoB (a : Nat → Nat) (l : Nat) : Nat → Int32
  | 0 => nI 0
  | m + 1 => @ite _ (mayN a l m) (Classical.propDecidable _) (whoB a l m ||| (nI 1 <<< (nI m &&& nI 31))) (whoB a l m)
theorem X1_whoMayFrank {n l : Nat} {h : MV} {t : Nat → Int32} {a : Nat → Nat} (hn : 100 ≤ n) (ha : okA a) (hh : HO h t a) (hl : l < a 1) : f_X1_whoMayFrank n h (nI l) = some (whoB a l (a 0)) := by
  have h6 := okL ha
  have eL : h.1 0 = nI (a 0) := hh.1
  have : f_X1_whoMayFrank_l4 n n h (nI l) 0 0 = some (whoB a l (a 0)) := by
    refine lp_cnt (a 0) (fun i => whoB a l i) _ (fun i hi => ?_) ?_ (by omega)
    · have hp := X1_mayFrank (n := n) ha hh hl hi
      by_cases c : mayN a l i
      · simp (disch := omega) only [f_X1_whoMayFrank_j27, f_X1_whoMayFrank_b4, f_X1_whoMayFrank_l4, f_X1_whoMayFrank, eL, pl_lit, pl_bl, pl_bd, pl_bd2, pl_bd3, pl_bd4, pl_bcT, pl_bcF, gd_t, pl_bcTrue, pl_bcFalse, pl_gdTrue, pl_in, pl_eq, pl_lt, pl_le, pl_ix, nI_add, pk_mul, pl_m1, hp, bI_T c, whoB, if_pos c]
      · simp (disch := omega) only [f_X1_whoMayFrank_j27, f_X1_whoMayFrank_b4, f_X1_whoMayFrank_l4, f_X1_whoMayFrank, eL, pl_lit, pl_bl, pl_bd, pl_bd2, pl_bd3, pl_bd4, pl_bcT, pl_bcF, gd_t, pl_bcTrue, pl_bcFalse, pl_gdTrue, pl_in, pl_eq, pl_lt, pl_le, pl_ix, nI_add, pk_mul, pl_m1, hp, bI_F c, whoB, if_neg c]
    · simp (disch := omega) only [f_X1_whoMayFrank_j27, f_X1_whoMayFrank_b4, f_X1_whoMayFrank_l4, f_X1_whoMayFrank, eL, pl_lit, pl_bl, pl_bd, pl_bd2, pl_bd3, pl_bd4, pl_bcT, pl_bcF, gd_t, pl_bcTrue, pl_bcFalse, pl_gdTrue, pl_in, pl_eq, pl_lt, pl_le, pl_ix, nI_add, pk_mul, pl_m1]
  unfold f_X1_whoMayFrank
  rw [this]
  rfl
theorem or_n0 (x : Int32) : x ||| nI 0 = x := by
  show x ||| 0 = x
  simp
theorem sim_may {n : Nat} (hn : 100 ≤ n) : SIM_may n INV := by
  intro xo nv rv h0 h1 h2 h3 nt0 cv0 nt1 cv1 nt2 cv2 nt3 cv3 ps0 ps1 ps2 ps3 mo v1 hI
  have hI0 := hI
  obtain ⟨⟨a, ha, ht, hh, -, -, -⟩, -⟩ := hI
  have h6 := okL ha
  have m1' := X11_isLetter (n := n) (xo := xo) (v := v1) (M := a 1) (by omega) hh.2.1
  have m2' := X12_isLetter (n := n) (mo := mo) (v := v1) (M := a 1) (by omega) ht.2.1
  refine inR_cases (v := v1) (N := a 1) (fun l hl e => ?_) (fun c => ?_)
  · subst e
    rw [bI_in hl] at m1' m2'
    refine ⟨whoB a l (a 0), xo, mo, ?_, ?_, hI0⟩
    · unfold f_X11_may
      rw [m1', X1_whoMayFrank hn ha hh hl]
      simp (disch := omega) [pl_lit, pl_bl, pl_bd, pl_bd2, pl_bd3, pl_bd4, pl_bcT, pl_bcF, gd_t, pl_bcTrue, pl_bcFalse, pl_gdTrue, pl_in, pl_eq, pl_lt, pl_le, pl_ix, nI_add, pk_mul, pl_m1]
    · have eM := X12_members (n := n) ht.1
      have : f_X12_may_l19 n n mo (nI l) 0 0 = some (whoB a l (a 0)) := by
        refine lp_cnt (a 0) (fun i => whoB a l i) _ (fun i hi => ?_) ?_ (by omega)
        · have hp := X12_mayFrank (n := n) (z := 235) (by omega) ha ht hl hi
          by_cases c : mayN a l i
          · simp (disch := omega) only [f_X12_may_j47, f_X12_may_b19, f_X12_may_l19, f_X12_may, eM, pl_lit, pl_bl, pl_bd, pl_bd2, pl_bd3, pl_bd4, pl_bcT, pl_bcF, gd_t, pl_bcTrue, pl_bcFalse, pl_gdTrue, pl_in, pl_eq, pl_lt, pl_le, pl_ix, nI_add, pk_mul, pl_m1, hp, bI_T c, whoB, if_pos c]
          · simp (disch := omega) only [f_X12_may_j47, f_X12_may_b19, f_X12_may_l19, f_X12_may, eM, pl_lit, pl_bl, pl_bd, pl_bd2, pl_bd3, pl_bd4, pl_bcT, pl_bcF, gd_t, pl_bcTrue, pl_bcFalse, pl_gdTrue, pl_in, pl_eq, pl_lt, pl_le, pl_ix, nI_add, pk_mul, pl_m1, hp, bI_F c, whoB, if_neg c, or_n0]
        · simp (disch := omega) only [f_X12_may_j47, f_X12_may_b19, f_X12_may_l19, f_X12_may, eM, pl_lit, pl_bl, pl_bd, pl_bd2, pl_bd3, pl_bd4, pl_bcT, pl_bcF, gd_t, pl_bcTrue, pl_bcFalse, pl_gdTrue, pl_in, pl_eq, pl_lt, pl_le, pl_ix, nI_add, pk_mul, pl_m1]
      unfold f_X12_may
      rw [m2', this]
      simp (disch := omega) [pl_lit, pl_bl, pl_bd, pl_bd2, pl_bd3, pl_bd4, pl_bcT, pl_bcF, gd_t, pl_bcTrue, pl_bcFalse, pl_gdTrue, pl_in, pl_eq, pl_lt, pl_le, pl_ix, nI_add, pk_mul, pl_m1]
  · rw [bI_nin c] at m1' m2'
    refine ⟨-2, badX xo, refM mo 0, ?_, ?_, hI0.bad⟩
    · unfold f_X11_may
      rw [m1']
      simp (disch := omega) [pl_lit, pl_bl, pl_bd, pl_bd2, pl_bd3, pl_bd4, pl_bcT, pl_bcF, gd_t, pl_bcTrue, pl_bcFalse, pl_gdTrue, pl_in, pl_eq, pl_lt, pl_le, pl_ix, nI_add, pk_mul, pl_m1, X11_bad]
    · unfold f_X12_may
      rw [m2']
      simp (disch := omega) [pl_lit, pl_bl, pl_bd, pl_bd2, pl_bd3, pl_bd4, pl_bcT, pl_bcF, gd_t, pl_bcTrue, pl_bcFalse, pl_gdTrue, pl_in, pl_eq, pl_lt, pl_le, pl_ix, nI_add, pk_mul, pl_m1, X12_bad]
theorem byte_small {b : Nat} (h : b < 128) : vp_nar .byte ((nI b).toInt8.toInt32) = nI b := by
  have e : (nI b).toInt8.toInt32 = nI b := by
    have : ∀ b, b < 128 → (nI b).toInt8.toInt32 = nI b := by decide +kernel
    exact this b h
  rw [e, vp_nar_byte, e]
theorem sim_type {n : Nat} : SIM_type n INV := by
  intro xo nv rv h0 h1 h2 h3 nt0 cv0 nt1 cv1 nt2 cv2 nt3 cv3 ps0 ps1 ps2 ps3 mo v1 hI
  have hI0 := hI
  obtain ⟨i1, i2, i3, i4, i5, i6, T, hT, e1, e2, e3⟩ := hI
  have w1 := X11_in (n := n) (v := v1) (K := 127) (by omega)
  have w2 := X12_inK (n := n) (v := v1) (K := 127) (by omega)
  refine inR_cases (v := v1) (N := 128) (fun b hb e => ?_) (fun c => ?_)
  · subst e
    rw [bI_in hb] at w1 w2
    have w1 : f_X11_within n (nI b) 0 127 = some (nI 1) := w1
    have w2 : f_X12_in n (nI b).toInt64 0 127 = some (nI 1) := w2
    by_cases c : T = 150
    · refine ⟨-4, fullX xo, rv, refM mo 2, ?_, ?_, hI0.full⟩
      · unfold f_X11_type
        rw [w1]
        simp (disch := omega) [pl_lit, pl_bl, pl_bd, pl_bd2, pl_bd3, pl_bd4, pl_bcT, pl_bcF, gd_t, pl_bcTrue, pl_bcFalse, pl_gdTrue, pl_in, pl_eq, pl_lt, pl_le, pl_ix, nI_add, pk_mul, pl_m1, f_X6_append, e1, X11_full, c]
      · unfold f_X12_type
        rw [w2]
        simp (disch := omega) [pl_lit, pl_bl, pl_bd, pl_bd2, pl_bd3, pl_bd4, pl_bcT, pl_bcF, gd_t, pl_bcTrue, pl_bcFalse, pl_gdTrue, pl_in, pl_eq, pl_lt, pl_le, pl_ix, nI_add, pk_mul, pl_m1, e2, X12_full, c]
    · refine ⟨nI (T + 1), xo, setS (setA rv 0 (upd (rv.2.1 0) T (nI b))) 0 (nI (T + 1)), setS (setA mo 11 (upd (mo.2.1 11) T (nI b))) 0 (nI (T + 1)), ?_, ?_, ⟨i1, i2, i3, i4, i5, i6, T + 1, by omega, rfl, rfl, fun i hi => ?_⟩⟩
      · unfold f_X11_type
        rw [w1]
        simp (disch := omega) only [pl_lit, pl_bl, pl_bd, pl_bd2, pl_bd3, pl_bd4, pl_bcT, pl_bcF, gd_t, pl_bcTrue, pl_bcFalse, pl_gdTrue, pl_in, pl_eq, pl_lt, pl_le, pl_ix, nI_add, pk_mul, pl_m1, f_X6_append, e1, sA_1, sS_1, byte_small, if_true]
      · unfold f_X12_type
        rw [w2]
        simp (disch := omega) only [pl_lit, pl_bl, pl_bd, pl_bd2, pl_bd3, pl_bd4, pl_bcT, pl_bcF, gd_t, pl_bcTrue, pl_bcFalse, pl_gdTrue, pl_in, pl_eq, pl_lt, pl_le, pl_ix, nI_add, pk_mul, pl_m1, e2, sA_1, sS_1, if_true]
      · show ∃ b', b' < 128 ∧ upd (rv.2.1 0) T (nI b) i = nI b' ∧ upd (mo.2.1 11) T (nI b) i = nI b'
        by_cases q : i = T
        · subst q
          exact ⟨b, hb, pk_us, pk_us⟩
        · rw [pk_un q, pk_un q]
          exact e3 i (by omega)
  · rw [bI_nin c] at w1 w2
    have w1 : f_X11_within n v1 0 127 = some (nI 0) := w1
    have w2 : f_X12_in n v1.toInt64 0 127 = some (nI 0) := w2
    refine ⟨-2, badX xo, rv, refM mo 0, ?_, ?_, hI0.bad⟩
    · unfold f_X11_type
      rw [w1]
      simp (disch := omega) [pl_lit, pl_bl, pl_bd, pl_bd2, pl_bd3, pl_bd4, pl_bcT, pl_bcF, gd_t, pl_bcTrue, pl_bcFalse, pl_gdTrue, pl_in, pl_eq, pl_lt, pl_le, pl_ix, nI_add, pk_mul, pl_m1, X11_bad]
    · unfold f_X12_type
      rw [w2]
      simp (disch := omega) [pl_lit, pl_bl, pl_bd, pl_bd2, pl_bd3, pl_bd4, pl_bcT, pl_bcF, gd_t, pl_bcTrue, pl_bcFalse, pl_gdTrue, pl_in, pl_eq, pl_lt, pl_le, pl_ix, nI_add, pk_mul, pl_m1, X12_bad]
