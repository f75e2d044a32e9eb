theorem eight {k : Nat} (h : k < 8) : k = 0 ∨ k = 1 ∨ k = 2 ∨ k = 3 ∨ k = 4 ∨ k = 5 ∨ k = 6 ∨ k = 7 := by omega
theorem five {k : Nat} (h : k < 5) : k = 0 ∨ k = 1 ∨ k = 2 ∨ k = 3 ∨ k = 4 := by omega
theorem inR_cases {v : Int32} {N : Nat} {P : Prop} (h1 : ∀ m, m < N → v = nI m → P) (h2 : ¬ inR v N → P) : P := by
  by_cases c : inR v N
  · obtain ⟨m, hm, e⟩ := c
    exact h1 m hm e
  · exact h2 c
theorem bI_in {m N : Nat} (h : m < N) : bI (inR (nI m) N) = nI 1 := bI_T ⟨m, h, rfl⟩
theorem bI_nin {v : Int32} {N : Nat} (h : ¬ inR v N) : bI (inR v N) = nI 0 := bI_F h
theorem sim_count {n : Nat} (hn : 100 ≤ n) : SIM_count n INV := by
  intro xo nv rv h0 h1 h2 h3 nt0 cv0 nt1 cv1 nt2 cv2 nt3 cv3 ps0 ps1 ps2 ps3 mo v hI
  have hI0 := hI
  obtain ⟨⟨a, ha, ht, hh, hc, hn', hp⟩, -, -, -, -, -, T, hT, e8, e9, -⟩ := hI
  obtain ⟨F, -, -, eU, -⟩ := hp
  have e0 : h0.1 0 = nI (a 0) := hh.1
  have e1 : h0.1 1 = nI (a 1) := hh.2.1
  have e2 : h0.1 2 = nI (a 23) := hh.2.2.1
  have eC : cv0.1 0 = nI (a 2) := hc.1
  have eN : nt0.1 0 = nI (a 3) := hn'.1
  have t2 : mo.2.1 0 2 = nI (a 2) := ht.2.2.1
  have t3 : mo.2.1 0 3 = nI (a 3) := ht.2.2.2.1
  have t4 : mo.2.1 0 4 = nI (a 4) := ht.2.2.2.2.1
  have t23 : mo.2.1 0 23 = nI (a 23) := ht.2.2.2.2.2.1
  have w1 := X11_in (n := n) (v := v) (K := 7) (by omega)
  have w2 := X12_inK (n := n) (v := v) (K := 7) (by omega)
  refine inR_cases (v := v) (N := 8) (fun k hk e => ?_) (fun c => ?_)
  · subst e
    rw [bI_in hk] at w1 w2
    have w1 : f_X11_within n (nI k) 0 7 = some (nI 1) := w1
    have w2 : f_X12_in n (nI k).toInt64 0 7 = some (nI 1) := w2
    refine ⟨nI (if k = 0 then a 0 else if k = 1 then a 1 else if k = 2 then a 23 else if k = 3 then sm (lieN a) (a 1) else if k = 4 then a 2 else if k = 5 then a 3 else if k = 6 then a 4 else T), xo, mo, ?_, ?_, hI0⟩
    · unfold f_X11_count
      rw [w1]
      rcases eight hk with rfl | rfl | rfl | rfl | rfl | rfl | rfl | rfl
      · simp (disch := omega) [f_X11_howMany, pl_lit, pl_bl, pl_bd, pl_bd2, pl_bd3, pl_bd4, pl_bcT, pl_bcF, gd_t, pl_bcTrue, pl_bcFalse, pl_gdTrue, pl_in, pl_eq, pl_lt, pl_le, pl_ix, nI_add, pk_mul, pl_m1, e0]
      · simp (disch := omega) [f_X11_howMany, pl_lit, pl_bl, pl_bd, pl_bd2, pl_bd3, pl_bd4, pl_bcT, pl_bcF, gd_t, pl_bcTrue, pl_bcFalse, pl_gdTrue, pl_in, pl_eq, pl_lt, pl_le, pl_ix, nI_add, pk_mul, pl_m1, e1]
      · simp (disch := omega) [f_X11_howMany, pl_lit, pl_bl, pl_bd, pl_bd2, pl_bd3, pl_bd4, pl_bcT, pl_bcF, gd_t, pl_bcTrue, pl_bcFalse, pl_gdTrue, pl_in, pl_eq, pl_lt, pl_le, pl_ix, nI_add, pk_mul, pl_m1, e2]
      · simp (disch := omega) [f_X11_howMany, pl_lit, pl_bl, pl_bd, pl_bd2, pl_bd3, pl_bd4, pl_bcT, pl_bcF, gd_t, pl_bcTrue, pl_bcFalse, pl_gdTrue, pl_in, pl_eq, pl_lt, pl_le, pl_ix, nI_add, pk_mul, pl_m1, X1_howManyLie hn ha hh]
      · simp (disch := omega) [f_X11_howMany, pl_lit, pl_bl, pl_bd, pl_bd2, pl_bd3, pl_bd4, pl_bcT, pl_bcF, gd_t, pl_bcTrue, pl_bcFalse, pl_gdTrue, pl_in, pl_eq, pl_lt, pl_le, pl_ix, nI_add, pk_mul, pl_m1, eC]
      · simp (disch := omega) [f_X11_howMany, pl_lit, pl_bl, pl_bd, pl_bd2, pl_bd3, pl_bd4, pl_bcT, pl_bcF, gd_t, pl_bcTrue, pl_bcFalse, pl_gdTrue, pl_in, pl_eq, pl_lt, pl_le, pl_ix, nI_add, pk_mul, pl_m1, eN]
      · simp (disch := omega) [f_X11_howMany, pl_lit, pl_bl, pl_bd, pl_bd2, pl_bd3, pl_bd4, pl_bcT, pl_bcF, gd_t, pl_bcTrue, pl_bcFalse, pl_gdTrue, pl_in, pl_eq, pl_lt, pl_le, pl_ix, nI_add, pk_mul, pl_m1, eU]
      · simp (disch := omega) [f_X11_howMany, pl_lit, pl_bl, pl_bd, pl_bd2, pl_bd3, pl_bd4, pl_bcT, pl_bcF, gd_t, pl_bcTrue, pl_bcFalse, pl_gdTrue, pl_in, pl_eq, pl_lt, pl_le, pl_ix, nI_add, pk_mul, pl_m1, e8]
    · unfold f_X12_count f_X12_count_j26
      rw [w2]
      rcases eight hk with rfl | rfl | rfl | rfl | rfl | rfl | rfl | rfl
      · simp (disch := omega) [f_X12_counted, pl_lit, pl_bl, pl_bd, pl_bd2, pl_bd3, pl_bd4, pl_bcT, pl_bcF, gd_t, pl_bcTrue, pl_bcFalse, pl_gdTrue, pl_in, pl_eq, pl_lt, pl_le, pl_ix, nI_add, pk_mul, pl_m1, X12_members ht.1]
      · simp (disch := omega) [f_X12_counted, pl_lit, pl_bl, pl_bd, pl_bd2, pl_bd3, pl_bd4, pl_bcT, pl_bcF, gd_t, pl_bcTrue, pl_bcFalse, pl_gdTrue, pl_in, pl_eq, pl_lt, pl_le, pl_ix, nI_add, pk_mul, pl_m1, X12_letters ht.2.1]
      · simp (disch := omega) [f_X12_counted, pl_lit, pl_bl, pl_bd, pl_bd2, pl_bd3, pl_bd4, pl_bcT, pl_bcF, gd_t, pl_bcTrue, pl_bcFalse, pl_gdTrue, pl_in, pl_eq, pl_lt, pl_le, pl_ix, nI_add, pk_mul, pl_m1, t23]
      · simp (disch := omega) [f_X12_counted, pl_lit, pl_bl, pl_bd, pl_bd2, pl_bd3, pl_bd4, pl_bcT, pl_bcF, gd_t, pl_bcTrue, pl_bcFalse, pl_gdTrue, pl_in, pl_eq, pl_lt, pl_le, pl_ix, nI_add, pk_mul, pl_m1, X12_manyLie hn ha ht]
      · simp (disch := omega) [f_X12_counted, pl_lit, pl_bl, pl_bd, pl_bd2, pl_bd3, pl_bd4, pl_bcT, pl_bcF, gd_t, pl_bcTrue, pl_bcFalse, pl_gdTrue, pl_in, pl_eq, pl_lt, pl_le, pl_ix, nI_add, pk_mul, pl_m1, t2]
      · simp (disch := omega) [f_X12_counted, pl_lit, pl_bl, pl_bd, pl_bd2, pl_bd3, pl_bd4, pl_bcT, pl_bcF, gd_t, pl_bcTrue, pl_bcFalse, pl_gdTrue, pl_in, pl_eq, pl_lt, pl_le, pl_ix, nI_add, pk_mul, pl_m1, t3]
      · simp (disch := omega) [f_X12_counted, pl_lit, pl_bl, pl_bd, pl_bd2, pl_bd3, pl_bd4, pl_bcT, pl_bcF, gd_t, pl_bcTrue, pl_bcFalse, pl_gdTrue, pl_in, pl_eq, pl_lt, pl_le, pl_ix, nI_add, pk_mul, pl_m1, t4]
      · simp (disch := omega) [f_X12_counted, pl_lit, pl_bl, pl_bd, pl_bd2, pl_bd3, pl_bd4, pl_bcT, pl_bcF, gd_t, pl_bcTrue, pl_bcFalse, pl_gdTrue, pl_in, pl_eq, pl_lt, pl_le, pl_ix, nI_add, pk_mul, pl_m1, e9]
  · rw [bI_nin c] at w1 w2
    have w1 : f_X11_within n v 0 7 = some (nI 0) := w1
    have w2 : f_X12_in n v.toInt64 0 7 = some (nI 0) := w2
    refine ⟨-2, badX xo, refM mo 0, ?_, ?_, hI0.bad⟩
    · unfold f_X11_count
      rw [w1]
      simp (disch := omega) [pl_lit, pl_bl, pl_bd, pl_bd2, pl_bd3, pl_bd4, pl_bcT, pl_bcF, gd_t, pl_bcTrue, pl_bcFalse, pl_gdTrue, pl_in, pl_eq, pl_lt, pl_le, pl_ix, nI_add, pk_mul, pl_m1, X11_bad]
    · unfold f_X12_count f_X12_count_j26
      rw [w2]
      simp (disch := omega) [pl_lit, pl_bl, pl_bd, pl_bd2, pl_bd3, pl_bd4, pl_bcT, pl_bcF, gd_t, pl_bcTrue, pl_bcFalse, pl_gdTrue, pl_in, pl_eq, pl_lt, pl_le, pl_ix, nI_add, pk_mul, pl_m1, X12_bad]
theorem sim_of {n : Nat} : SIM_of n INV := by
  intro xo nv rv h0 h1 h2 h3 nt0 cv0 nt1 cv1 nt2 cv2 nt3 cv3 ps0 ps1 ps2 ps3 mo v1 v2 hI
  have hI0 := hI
  obtain ⟨⟨a, ha, ht, hh, -, -, -⟩, -⟩ := hI
  have h6 := okL ha
  have m1' := X11_isMember (n := n) (xo := xo) (v := v1) (M := a 0) (by omega) hh.1
  have m2' := X12_isMember (n := n) (mo := mo) (v := v1) (M := a 0) (by omega) ht.1
  have w2 := X12_inK (n := n) (v := v2) (K := 5) (by omega)
  have d1 : h0.1 2 = nI (a 23) := hh.2.2.1
  have d2 : mo.2.1 0 23 = nI (a 23) := ht.2.2.2.2.2.1
  refine inR_cases (v := v1) (N := a 0) (fun m hm e => ?_) (fun c => ?_)
  · subst e
    rw [bI_in hm] at m1' m2'
    obtain ⟨c1, c2, c3⟩ := okM ha hm
    obtain ⟨g1, g2, g3⟩ := hoM hh hm
    obtain ⟨q1, q2, q3⟩ := trM ht hm
    refine inR_cases (v := v2) (N := 6) (fun k hk e => ?_) (fun c => ?_)
    · subst e
      rw [bI_in hk] at w2
      have w2 : f_X12_in n (nI k).toInt64 0 5 = some (nI 1) := w2
      refine ⟨nI (if k = 0 then a (24 + m) else if k = 1 then a (16 + m) else if k = 2 then a (11 + m) else if k = 3 then signsN (a (24 + m)) (a 23) else if k = 4 then reachN (a (24 + m)) else bearsN (a (24 + m))), xo, mo, ?_, ?_, hI0⟩
      · unfold f_X11_of
        rw [m1', X1_kindAt ha hh hm]
        rcases six hk with rfl | rfl | rfl | rfl | rfl | rfl
        · simp (disch := omega) [pl_lit, pl_bl, pl_bd, pl_bd2, pl_bd3, pl_bd4, pl_bcT, pl_bcF, gd_t, pl_bcTrue, pl_bcFalse, pl_gdTrue, pl_in, pl_eq, pl_lt, pl_le, pl_ix, nI_add, pk_mul, pl_m1, g1]
        · simp (disch := omega) [pl_lit, pl_bl, pl_bd, pl_bd2, pl_bd3, pl_bd4, pl_bcT, pl_bcF, gd_t, pl_bcTrue, pl_bcFalse, pl_gdTrue, pl_in, pl_eq, pl_lt, pl_le, pl_ix, nI_add, pk_mul, pl_m1, g2]
        · simp (disch := omega) [pl_lit, pl_bl, pl_bd, pl_bd2, pl_bd3, pl_bd4, pl_bcT, pl_bcF, gd_t, pl_bcTrue, pl_bcFalse, pl_gdTrue, pl_in, pl_eq, pl_lt, pl_le, pl_ix, nI_add, pk_mul, pl_m1, g3]
        · simp (disch := omega) [pl_lit, pl_bl, pl_bd, pl_bd2, pl_bd3, pl_bd4, pl_bcT, pl_bcF, gd_t, pl_bcTrue, pl_bcFalse, pl_gdTrue, pl_in, pl_eq, pl_lt, pl_le, pl_ix, nI_add, pk_mul, pl_m1, d1, K_signs c1]
        · simp (disch := omega) [pl_lit, pl_bl, pl_bd, pl_bd2, pl_bd3, pl_bd4, pl_bcT, pl_bcF, gd_t, pl_bcTrue, pl_bcFalse, pl_gdTrue, pl_in, pl_eq, pl_lt, pl_le, pl_ix, nI_add, pk_mul, pl_m1, K_reach c1]
        · simp (disch := omega) [pl_lit, pl_bl, pl_bd, pl_bd2, pl_bd3, pl_bd4, pl_bcT, pl_bcF, gd_t, pl_bcTrue, pl_bcFalse, pl_gdTrue, pl_in, pl_eq, pl_lt, pl_le, pl_ix, nI_add, pk_mul, pl_m1, K_bears c1]
      · unfold f_X12_of
        rw [m2', w2]
        rcases six hk with rfl | rfl | rfl | rfl | rfl | rfl
        · simp (disch := omega) [pl_lit, pl_bl, pl_bd, pl_bd2, pl_bd3, pl_bd4, pl_bcT, pl_bcF, gd_t, pl_bcTrue, pl_bcFalse, pl_gdTrue, pl_in, pl_eq, pl_lt, pl_le, pl_ix, nI_add, pk_mul, pl_m1, q1]
        · simp (disch := omega) [pl_lit, pl_bl, pl_bd, pl_bd2, pl_bd3, pl_bd4, pl_bcT, pl_bcF, gd_t, pl_bcTrue, pl_bcFalse, pl_gdTrue, pl_in, pl_eq, pl_lt, pl_le, pl_ix, nI_add, pk_mul, pl_m1, q1, q2]
        · simp (disch := omega) [pl_lit, pl_bl, pl_bd, pl_bd2, pl_bd3, pl_bd4, pl_bcT, pl_bcF, gd_t, pl_bcTrue, pl_bcFalse, pl_gdTrue, pl_in, pl_eq, pl_lt, pl_le, pl_ix, nI_add, pk_mul, pl_m1, q1, q3]
        · simp (disch := omega) [pl_lit, pl_bl, pl_bd, pl_bd2, pl_bd3, pl_bd4, pl_bcT, pl_bcF, gd_t, pl_bcTrue, pl_bcFalse, pl_gdTrue, pl_in, pl_eq, pl_lt, pl_le, pl_ix, nI_add, pk_mul, pl_m1, q1, d2, X12_coversAs c1]
        · simp (disch := omega) [pl_lit, pl_bl, pl_bd, pl_bd2, pl_bd3, pl_bd4, pl_bcT, pl_bcF, gd_t, pl_bcTrue, pl_bcFalse, pl_gdTrue, pl_in, pl_eq, pl_lt, pl_le, pl_ix, nI_add, pk_mul, pl_m1, q1, X12_reachAs c1]
        · simp (disch := omega) [pl_lit, pl_bl, pl_bd, pl_bd2, pl_bd3, pl_bd4, pl_bcT, pl_bcF, gd_t, pl_bcTrue, pl_bcFalse, pl_gdTrue, pl_in, pl_eq, pl_lt, pl_le, pl_ix, nI_add, pk_mul, pl_m1, q1, X12_bearsAs c1]
    · rw [bI_nin c] at w2
      have w2 : f_X12_in n v2.toInt64 0 5 = some (nI 0) := w2
      refine ⟨-2, badX xo, refM mo 0, ?_, ?_, hI0.bad⟩
      · unfold f_X11_of
        rw [m1', X1_kindAt ha hh hm]
        simp only [pl_bd]
        rw [bc_F (show ¬ nI 1 = 0 by decide), bc_F (show ¬ v2 = 0 from fun z => c ⟨0, by omega, z⟩), bc_F (show ¬ v2 = 1 from fun z => c ⟨1, by omega, z⟩), bc_F (show ¬ v2 = 2 from fun z => c ⟨2, by omega, z⟩), bc_F (show ¬ v2 = 3 from fun z => c ⟨3, by omega, z⟩), bc_F (show ¬ v2 = 4 from fun z => c ⟨4, by omega, z⟩), bc_F (show ¬ v2 = 5 from fun z => c ⟨5, by omega, z⟩), X11_bad]
        rfl
      · unfold f_X12_of f_X12_of_j20
        rw [m2', w2]
        simp (disch := omega) [pl_lit, pl_bl, pl_bd, pl_bd2, pl_bd3, pl_bd4, pl_bcT, pl_bcF, gd_t, pl_bcTrue, pl_bcFalse, pl_gdTrue, pl_in, pl_eq, pl_lt, pl_le, pl_ix, nI_add, pk_mul, pl_m1, X12_bad]
  · rw [bI_nin c] at m1' m2'
    refine ⟨-2, badX xo, refM mo 0, ?_, ?_, hI0.bad⟩
    · unfold f_X11_of
      rw [m1']
      simp (disch := omega) [pl_lit, pl_bl, pl_bd, pl_bd2, pl_bd3, pl_bd4, pl_bcT, pl_bcF, gd_t, pl_bcTrue, pl_bcFalse, pl_gdTrue, pl_in, pl_eq, pl_lt, pl_le, pl_ix, nI_add, pk_mul, pl_m1, X11_bad]
    · unfold f_X12_of f_X12_of_j20
      rw [m2']
      simp (disch := omega) [pl_lit, pl_bl, pl_bd, pl_bd2, pl_bd3, pl_bd4, pl_bcT, pl_bcF, gd_t, pl_bcTrue, pl_bcFalse, pl_gdTrue, pl_in, pl_eq, pl_lt, pl_le, pl_ix, nI_add, pk_mul, pl_m1, X12_bad]
