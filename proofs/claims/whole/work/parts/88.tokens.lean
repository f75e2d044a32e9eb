/-! read: tokens -/
def skp (B : Nat → Nat) : Nat → Nat → Nat
  | 0, i => i
  | k + 1, i => if B i = 32 then skp B k (i + 1) else i
def rnl (p : Nat → Bool) : Nat → Nat → Nat
  | 0, _ => 0
  | k + 1, i => if p i then rnl p k (i + 1) + 1 else 0
def lowB (B : Nat → Nat) (i : Nat) : Bool := decide (97 ≤ B i ∧ B i ≤ 122)
def figB (B : Nat → Nat) (i : Nat) : Bool := decide (48 ≤ B i ∧ B i ≤ 57)
def tL (B : Nat → Nat) (T s : Nat) : Nat := if T ≤ s then 0 else if lowB B s then rnl (lowB B) (T - s) s else if figB B s then rnl (figB B) (T - s) s else 1
def tS (B : Nat → Nat) (T s : Nat) : Nat := if T ≤ s then 0 else if lowB B s then 1 else if figB B s then (if rnl (figB B) (T - s) s ≤ 2 then 2 else 4) else if B s = 59 then 3 else 4
def vN (B : Nat → Nat) (s k : Nat) : Nat := if k = 0 then 0 else if k = 1 then B s - 48 else 10 * (B s - 48) + (B (s + 1) - 48)
def tV (B : Nat → Nat) (T s : Nat) : Nat := vN B s (min 2 (rnl (figB B) (T - s) s))
section TOK
variable {n : Nat} {rv mo : MV} {B : Nat → Nat} {T s e j : Nat} {p : Nat → Bool}
theorem skp_le : ∀ k i, i ≤ skp B k i ∧ skp B k i ≤ i + k
  | 0, i => ⟨Nat.le_refl _, Nat.le_refl _⟩
  | k + 1, i => by
    have := skp_le k (i + 1)
    unfold skp
    split <;> omega
theorem skp_T (h : j < T) (c : B j = 32) : skp B (T - j) j = skp B (T - (j + 1)) (j + 1) := by
  rw [show T - j = T - (j + 1) + 1 by omega]
  exact if_pos c
theorem skp_F (h : j < T) (c : ¬ B j = 32) : skp B (T - j) j = j := by
  rw [show T - j = T - (j + 1) + 1 by omega]
  exact if_neg c
theorem skp_0 (h : T ≤ j) : skp B (T - j) j = j := by
  rw [show T - j = 0 by omega]
  rfl
theorem rnl_T (h : j < T) (c : p j = true) : rnl p (T - j) j = rnl p (T - (j + 1)) (j + 1) + 1 := by
  rw [show T - j = T - (j + 1) + 1 by omega]
  exact if_pos c
theorem rnl_F (h : j < T) (c : ¬ p j = true) : rnl p (T - j) j = 0 := by
  rw [show T - j = T - (j + 1) + 1 by omega]
  exact if_neg c
theorem rnl_0 (h : T ≤ j) : rnl p (T - j) j = 0 := by
  rw [show T - j = 0 by omega]
  rfl
theorem rnl_le : ∀ k i, rnl p k i ≤ k
  | 0, _ => Nat.le_refl _
  | k + 1, i => by
    have := rnl_le k (i + 1)
    unfold rnl
    split <;> omega
theorem tL_le (h : s ≤ T) : s + tL B T s ≤ T := by
  have h1 := rnl_le (p := lowB B) (T - s) s
  have h2 := rnl_le (p := figB B) (T - s) s
  unfold tL
  repeat' split
  all_goals omega
theorem tL_pos (h : s < T) : 1 ≤ tL B T s := by
  unfold tL
  rw [if_neg (by omega)]
  split
  · rename_i c
    rw [rnl_T h c]
    omega
  · split
    · rename_i c
      rw [rnl_T h c]
      omega
    · exact Nat.le_refl _
/-- the class -/
def byR (rv : MV) (B : Nat → Nat) (T : Nat) : Prop := rv.1 0 = nI T ∧ ∀ i, i < T → rv.2.1 0 i = nI (B i)
theorem X6_skip (hn : 200 ≤ n) (hT : T ≤ 150) (hB : ∀ i, i < T → B i < 128) (h0 : byR rv B T) (he : e ≤ T) (h2 : rv.1 2 = nI e) : ∃ rv', f_X6_nextToken_l8 n n rv = some rv' ∧ rv'.1 0 = nI T ∧ rv'.1 2 = nI (skp B (T - e) e) ∧ rv'.2 = rv.2 := by
  obtain ⟨r, g1, g2⟩ := lp_inv (body := fun q => f_X6_nextToken_b8 n q) (fun k st => ∃ j, j ≤ T ∧ k = T - j ∧ st.1 0 = nI T ∧ st.1 2 = nI j ∧ st.2 = rv.2 ∧ skp B (T - j) j = skp B (T - e) e) (fun r => r.1 0 = nI T ∧ r.1 2 = nI (skp B (T - e) e) ∧ r.2 = rv.2) (by
    rintro k st ⟨j, hj, rfl, e0, e2, er, es⟩
    by_cases c : j < T
    · have hb : st.2.1 0 j = nI (B j) := by rw [er]; exact h0.2 j c
      have bl' := hB j c
      by_cases d : B j = 32
      · refine Or.inl ⟨setS st 2 (nI (j + 1)), T - (j + 1), ?_, by omega, j + 1, by omega, rfl, e0, rfl, er, by rw [← skp_T c d]; exact es⟩
        simp (disch := omega) only [f_X6_nextToken_b8, e0, e2, pl_lit, pl_bl, pl_bd, pl_bd2, pl_bd3, pl_bd4, pl_bcT, pl_bcF, gd_t, pl_bcTrue, pl_bcFalse, pl_gdTrue, pl_in, pl_eq, pl_lt, pl_le, pl_ix, nI_add, pk_mul, pl_m1, hb, d]
      · refine Or.inr ⟨st, ?_, e0, by rw [← es, skp_F c d]; exact e2, er⟩
        simp (disch := omega) only [f_X6_nextToken_b8, e0, e2, pl_lit, pl_bl, pl_bd, pl_bd2, pl_bd3, pl_bd4, pl_bcT, pl_bcF, gd_t, pl_bcTrue, pl_bcFalse, pl_gdTrue, pl_in, pl_eq, pl_lt, pl_le, pl_ix, nI_add, pk_mul, pl_m1, hb, d]
    · refine Or.inr ⟨st, ?_, e0, by rw [← es, skp_0 (by omega)]; exact e2, er⟩
      simp (disch := omega) only [f_X6_nextToken_b8, e0, e2, pl_lit, pl_bl, pl_bd, pl_bd2, pl_bd3, pl_bd4, pl_bcT, pl_bcF, gd_t, pl_bcTrue, pl_bcFalse, pl_gdTrue, pl_in, pl_eq, pl_lt, pl_le, pl_ix, nI_add, pk_mul, pl_m1]) n (T - e) rv ⟨e, he, rfl, h0.1, h2, rfl, rfl⟩ (by omega)
  exact ⟨r, g1, g2⟩
theorem X6_isLower (hT : T ≤ 150) (hB : ∀ i, i < T → B i < 128) (h0 : byR rv B T) (hj : j < T) : f_X6_isLower n rv (nI j) = some (bI (lowB B j = true)) := by
  have hb := h0.2 j hj
  have bl' := hB j hj
  by_cases c : 97 ≤ B j ∧ B j ≤ 122
  · rw [bI_Tn (show lowB B j = true from decide_eq_true c)]
    simp (disch := omega) only [f_X6_isLower, f_X6_isLower_j26, f_X6_isLower_j27, pl_lit, pl_bl, pl_bd, pl_bd2, pl_bd3, pl_bd4, pl_bcT, pl_bcF, gd_t, pl_bcTrue, pl_bcFalse, pl_gdTrue, pl_in, pl_eq, pl_lt, pl_le, pl_ix, nI_add, pk_mul, pl_m1, hb, true_or, or_true]
  · rw [bI_Fn (show ¬ lowB B j = true from fun z => c (of_decide_eq_true z))]
    by_cases d : B j < 97
    · simp (disch := omega) only [f_X6_isLower, f_X6_isLower_j26, f_X6_isLower_j27, pl_lit, pl_bl, pl_bd, pl_bd2, pl_bd3, pl_bd4, pl_bcT, pl_bcF, gd_t, pl_bcTrue, pl_bcFalse, pl_gdTrue, pl_in, pl_eq, pl_lt, pl_le, pl_ix, nI_add, pk_mul, pl_m1, hb, true_or, or_true]
    · simp (disch := omega) only [f_X6_isLower, f_X6_isLower_j26, f_X6_isLower_j27, pl_lit, pl_bl, pl_bd, pl_bd2, pl_bd3, pl_bd4, pl_bcT, pl_bcF, gd_t, pl_bcTrue, pl_bcFalse, pl_gdTrue, pl_in, pl_eq, pl_lt, pl_le, pl_ix, nI_add, pk_mul, pl_m1, hb, true_or, or_true]
theorem X6_isFigure (hT : T ≤ 150) (hB : ∀ i, i < T → B i < 128) (h0 : byR rv B T) (hj : j < T) : f_X6_isFigure n rv (nI j) = some (bI (figB B j = true)) := by
  have hb := h0.2 j hj
  have bl' := hB j hj
  by_cases c : 48 ≤ B j ∧ B j ≤ 57
  · rw [bI_Tn (show figB B j = true from decide_eq_true c)]
    simp (disch := omega) only [f_X6_isFigure, f_X6_isFigure_j26, f_X6_isFigure_j27, pl_lit, pl_bl, pl_bd, pl_bd2, pl_bd3, pl_bd4, pl_bcT, pl_bcF, gd_t, pl_bcTrue, pl_bcFalse, pl_gdTrue, pl_in, pl_eq, pl_lt, pl_le, pl_ix, nI_add, pk_mul, pl_m1, hb, true_or, or_true]
  · rw [bI_Fn (show ¬ figB B j = true from fun z => c (of_decide_eq_true z))]
    by_cases d : B j < 48
    · simp (disch := omega) only [f_X6_isFigure, f_X6_isFigure_j26, f_X6_isFigure_j27, pl_lit, pl_bl, pl_bd, pl_bd2, pl_bd3, pl_bd4, pl_bcT, pl_bcF, gd_t, pl_bcTrue, pl_bcFalse, pl_gdTrue, pl_in, pl_eq, pl_lt, pl_le, pl_ix, nI_add, pk_mul, pl_m1, hb, true_or, or_true]
    · simp (disch := omega) only [f_X6_isFigure, f_X6_isFigure_j26, f_X6_isFigure_j27, pl_lit, pl_bl, pl_bd, pl_bd2, pl_bd3, pl_bd4, pl_bcT, pl_bcF, gd_t, pl_bcTrue, pl_bcFalse, pl_gdTrue, pl_in, pl_eq, pl_lt, pl_le, pl_ix, nI_add, pk_mul, pl_m1, hb, true_or, or_true]
theorem X6_readWord (hn : 200 ≤ n) (hT : T ≤ 150) (hB : ∀ i, i < T → B i < 128) (h0 : byR rv B T) (hs : s ≤ T) (h2 : rv.1 2 = nI s) (h3 : rv.1 3 = nI s) : ∃ rv', f_X6_readWord n rv = some rv' ∧ rv'.1 0 = nI T ∧ rv'.1 1 = nI 1 ∧ rv'.1 2 = nI s ∧ rv'.1 3 = nI (s + rnl (lowB B) (T - s) s) ∧ rv'.2 = rv.2 := by
  obtain ⟨r, g1, g2⟩ := lp_inv (body := fun q => f_X6_readWord_b5 n q) (fun k st => ∃ j, j ≤ T ∧ k = T - j ∧ st.1 0 = nI T ∧ st.1 1 = nI 1 ∧ st.1 2 = nI s ∧ st.1 3 = nI j ∧ st.2 = rv.2 ∧ j + rnl (lowB B) (T - j) j = s + rnl (lowB B) (T - s) s) (fun r => r.1 0 = nI T ∧ r.1 1 = nI 1 ∧ r.1 2 = nI s ∧ r.1 3 = nI (s + rnl (lowB B) (T - s) s) ∧ r.2 = rv.2) (by
    rintro k st ⟨j, hj, rfl, e0, e1, e2, e3, er, es⟩
    by_cases c : j < T
    · have il := X6_isLower (n := n) (rv := st) hT hB ⟨e0, by rw [er]; exact h0.2⟩ c
      by_cases d : lowB B j = true
      · rw [bI_T d] at il
        rw [rnl_T c d] at es
        refine Or.inl ⟨setS st 3 (nI (j + 1)), T - (j + 1), ?_, by omega, j + 1, by omega, rfl, e0, e1, e2, rfl, er, by omega⟩
        simp (disch := omega) only [f_X6_readWord_b5, e0, e3, pl_lit, pl_bl, pl_bd, pl_bd2, pl_bd3, pl_bd4, pl_bcT, pl_bcF, gd_t, pl_bcTrue, pl_bcFalse, pl_gdTrue, pl_in, pl_eq, pl_lt, pl_le, pl_ix, nI_add, pk_mul, pl_m1, il]
      · rw [bI_F d] at il
        rw [rnl_F c d] at es
        refine Or.inr ⟨st, ?_, e0, e1, e2, by rw [← es]; exact e3, er⟩
        simp (disch := omega) only [f_X6_readWord_b5, e0, e3, pl_lit, pl_bl, pl_bd, pl_bd2, pl_bd3, pl_bd4, pl_bcT, pl_bcF, gd_t, pl_bcTrue, pl_bcFalse, pl_gdTrue, pl_in, pl_eq, pl_lt, pl_le, pl_ix, nI_add, pk_mul, pl_m1, il]
    · rw [rnl_0 (by omega)] at es
      refine Or.inr ⟨st, ?_, e0, e1, e2, by rw [← es]; exact e3, er⟩
      simp (disch := omega) only [f_X6_readWord_b5, e0, e3, pl_lit, pl_bl, pl_bd, pl_bd2, pl_bd3, pl_bd4, pl_bcT, pl_bcF, gd_t, pl_bcTrue, pl_bcFalse, pl_gdTrue, pl_in, pl_eq, pl_lt, pl_le, pl_ix, nI_add, pk_mul, pl_m1]) n (T - s) (setS rv 1 (nI 1)) ⟨s, hs, rfl, h0.1, rfl, h2, h3, rfl, rfl⟩ (by omega)
  have g1' : f_X6_readWord_l5 n n (setS rv 1 (nI 1)) = some r := g1
  refine ⟨r, ?_, g2⟩
  simp (disch := omega) only [f_X6_readWord, f_X6_readWord_j40, pl_lit, pl_bl, pl_bd, pl_bd2, pl_bd3, pl_bd4, pl_bcT, pl_bcF, gd_t, pl_bcTrue, pl_bcFalse, pl_gdTrue, pl_in, pl_eq, pl_lt, pl_le, pl_ix, nI_add, pk_mul, pl_m1, g1']
theorem fig_48 (h : figB B j = true) : 48 ≤ B j ∧ B j ≤ 57 := of_decide_eq_true h
theorem vN_s {k : Nat} (hk : k < 2) (h : 48 ≤ B (s + k)) : nI (10 * vN B s k + B (s + k)) - nI 48 = nI (vN B s (k + 1)) := by
  rw [pk_sub (by omega)]
  congr 1
  have : k = 0 ∨ k = 1 := by omega
  rcases this with rfl | rfl
  · show 10 * 0 + B (s + 0) - 48 = B s - 48
    simp
  · show 10 * (B s - 48) + B (s + 1) - 48 = 10 * (B s - 48) + (B (s + 1) - 48)
    omega
theorem X6_readNumber (hn : 200 ≤ n) (hT : T ≤ 150) (hB : ∀ i, i < T → B i < 128) (h0 : byR rv B T) (hs : s ≤ T) (h2 : rv.1 2 = nI s) (h3 : rv.1 3 = nI s) : ∃ rv', f_X6_readNumber n rv = some rv' ∧ rv'.1 0 = nI T ∧ rv'.1 1 = nI (if rnl (figB B) (T - s) s ≤ 2 then 2 else 4) ∧ rv'.1 2 = nI s ∧ rv'.1 3 = nI (s + rnl (figB B) (T - s) s) ∧ rv'.1 4 = nI (tV B T s) ∧ rv'.2 = rv.2 := by
  have rl := rnl_le (p := figB B) (T - s) s
  obtain ⟨r, g1, e0, e2, e3, e4, er⟩ := lp_inv (body := fun q => f_X6_readNumber_b5 n q) (fun k st => ∃ j, s ≤ j ∧ j ≤ T ∧ k = T - j ∧ st.1 0 = nI T ∧ st.1 2 = nI s ∧ st.1 3 = nI j ∧ st.1 4 = nI (vN B s (min 2 (j - s))) ∧ st.2 = rv.2 ∧ j + rnl (figB B) (T - j) j = s + rnl (figB B) (T - s) s) (fun r => r.1 0 = nI T ∧ r.1 2 = nI s ∧ r.1 3 = nI (s + rnl (figB B) (T - s) s) ∧ r.1 4 = nI (tV B T s) ∧ r.2 = rv.2) (by
    rintro k st ⟨j, hj1, hj, rfl, e0, e2, e3, e4, er, es⟩
    have fin : j = s + rnl (figB B) (T - s) s → st.1 0 = nI T ∧ st.1 2 = nI s ∧ st.1 3 = nI (s + rnl (figB B) (T - s) s) ∧ st.1 4 = nI (tV B T s) ∧ st.2 = rv.2 := fun z => by
      refine ⟨e0, e2, by rw [← z]; exact e3, ?_, er⟩
      rw [e4]
      unfold tV
      rw [show j - s = rnl (figB B) (T - s) s by omega]
    by_cases c : j < T
    · have hby : byR st B T := ⟨e0, by rw [er]; exact h0.2⟩
      have il := X6_isFigure (n := n) (rv := st) hT hB hby c
      have hb := hby.2 j c
      by_cases d : figB B j = true
      · have f48 := fig_48 d
        rw [bI_T d] at il
        rw [rnl_T c d] at es
        by_cases k2 : j - s < 2
        · have vs := vN_s (B := B) (s := s) (k := j - s) k2 (by rw [show s + (j - s) = j by omega]; omega)
          rw [show s + (j - s) = j by omega] at vs
          rw [show min 2 (j - s) = j - s by omega] at e4
          refine Or.inl ⟨setS (setS st 4 (nI (vN B s (j - s + 1)))) 3 (nI (j + 1)), T - (j + 1), ?_, by omega, j + 1, by omega, by omega, rfl, e0, e2, rfl, ?_, er, by omega⟩
          · have js : nI j - nI s = nI (j - s) := pk_sub hj1
            simp (disch := omega) only [f_X6_readNumber_b5, f_X6_readNumber_j64, e0, e2, e3, e4, pl_lit, pl_bl, pl_bd, pl_bd2, pl_bd3, pl_bd4, pl_bcT, pl_bcF, gd_t, pl_bcTrue, pl_bcFalse, pl_gdTrue, pl_in, pl_eq, pl_lt, pl_le, pl_ix, nI_add, pk_mul, pl_m1, il, js, hb, vs, sS_n]
          · show nI (vN B s (j - s + 1)) = nI (vN B s (min 2 (j + 1 - s)))
            rw [show min 2 (j + 1 - s) = j - s + 1 by omega]
        · refine Or.inl ⟨setS st 3 (nI (j + 1)), T - (j + 1), ?_, by omega, j + 1, by omega, by omega, rfl, e0, e2, rfl, ?_, er, by omega⟩
          · simp (disch := omega) only [f_X6_readNumber_b5, f_X6_readNumber_j64, e0, e2, e3, pl_lit, pl_bl, pl_bd, pl_bd2, pl_bd3, pl_bd4, pl_bcT, pl_bcF, gd_t, pl_bcTrue, pl_bcFalse, pl_gdTrue, pl_in, pl_eq, pl_lt, pl_le, pl_ix, nI_add, pk_mul, pl_m1, il, pk_sub]
          · show st.1 4 = nI (vN B s (min 2 (j + 1 - s)))
            rw [e4, show min 2 (j + 1 - s) = 2 by omega, show min 2 (j - s) = 2 by omega]
      · rw [bI_F d] at il
        rw [rnl_F c d] at es
        refine Or.inr ⟨st, ?_, fin (by omega)⟩
        simp (disch := omega) only [f_X6_readNumber_b5, e0, e3, pl_lit, pl_bl, pl_bd, pl_bd2, pl_bd3, pl_bd4, pl_bcT, pl_bcF, gd_t, pl_bcTrue, pl_bcFalse, pl_gdTrue, pl_in, pl_eq, pl_lt, pl_le, pl_ix, nI_add, pk_mul, pl_m1, il]
    · rw [rnl_0 (by omega)] at es
      refine Or.inr ⟨st, ?_, fin (by omega)⟩
      simp (disch := omega) only [f_X6_readNumber_b5, e0, e3, pl_lit, pl_bl, pl_bd, pl_bd2, pl_bd3, pl_bd4, pl_bcT, pl_bcF, gd_t, pl_bcTrue, pl_bcFalse, pl_gdTrue, pl_in, pl_eq, pl_lt, pl_le, pl_ix, nI_add, pk_mul, pl_m1]) n (T - s) (setS rv 4 (nI 0)) ⟨s, Nat.le_refl _, hs, rfl, h0.1, h2, h3, by rw [Nat.sub_self]; rfl, rfl, rfl⟩ (by omega)
  have g1' : f_X6_readNumber_l5 n n (setS rv 4 (nI 0)) = some r := g1
  by_cases c : rnl (figB B) (T - s) s ≤ 2
  · rw [if_pos c]
    refine ⟨setS r 1 (nI 2), ?_, e0, rfl, e2, e3, e4, er⟩
    simp (disch := omega) only [f_X6_readNumber, f_X6_readNumber_j77, f_X6_readNumber_j96, pl_lit, pl_bl, pl_bd, pl_bd2, pl_bd3, pl_bd4, pl_bcT, pl_bcF, gd_t, pl_bcTrue, pl_bcFalse, pl_gdTrue, pl_in, pl_eq, pl_lt, pl_le, pl_ix, nI_add, pk_mul, pl_m1, g1', e2, e3, pk_sub]
  · rw [if_neg c]
    refine ⟨setS r 1 (nI 4), ?_, e0, rfl, e2, e3, e4, er⟩
    simp (disch := omega) only [f_X6_readNumber, f_X6_readNumber_j77, f_X6_readNumber_j96, pl_lit, pl_bl, pl_bd, pl_bd2, pl_bd3, pl_bd4, pl_bcT, pl_bcF, gd_t, pl_bcTrue, pl_bcFalse, pl_gdTrue, pl_in, pl_eq, pl_lt, pl_le, pl_ix, nI_add, pk_mul, pl_m1, g1', e2, e3, pk_sub]
def RTK (rv : MV) (B : Nat → Nat) (T s : Nat) : Prop := byR rv B T ∧ rv.1 1 = nI (tS B T s) ∧ rv.1 2 = nI s ∧ rv.1 3 = nI (s + tL B T s) ∧ (tS B T s = 2 → rv.1 4 = nI (tV B T s))
theorem X6_nextToken (hn : 200 ≤ n) (hT : T ≤ 150) (hB : ∀ i, i < T → B i < 128) (h0 : byR rv B T) (he : e ≤ T) (h3 : rv.1 3 = nI e) : ∃ rv', f_X6_nextToken n rv = some rv' ∧ RTK rv' B T (skp B (T - e) e) := by
  obtain ⟨r, g1, g2, g3, g4⟩ := X6_skip (n := n) (rv := setS rv 2 (nI e)) hn hT hB h0 he rfl
  have sl := skp_le (B := B) (T - e) e
  generalize hs : skp B (T - e) e = s at g3 sl
  have hby : byR (setS r 3 (nI s)) B T := ⟨g2, by show ∀ i, i < T → r.2.1 0 i = _; rw [g4]; exact h0.2⟩
  have E : f_X6_nextToken n rv = f_X6_nextToken_j46 n r := by
    simp (disch := omega) only [f_X6_nextToken, pl_lit, pl_bl, pl_bd, pl_bd2, pl_bd3, pl_bd4, pl_bcT, pl_bcF, gd_t, pl_bcTrue, pl_bcFalse, pl_gdTrue, pl_in, pl_eq, pl_lt, pl_le, pl_ix, nI_add, pk_mul, pl_m1, h3, g1]
  rw [E]
  by_cases c : T ≤ s
  · refine ⟨setS (setS r 3 (nI s)) 1 (nI 0), ?_, hby, ?_, g3, ?_, ?_⟩
    · simp (disch := omega) only [f_X6_nextToken_j46, f_X6_nextToken_j142, pl_lit, pl_bl, pl_bd, pl_bd2, pl_bd3, pl_bd4, pl_bcT, pl_bcF, gd_t, pl_bcTrue, pl_bcFalse, pl_gdTrue, pl_in, pl_eq, pl_lt, pl_le, pl_ix, nI_add, pk_mul, pl_m1, g2, g3, sS_n]
    · show nI 0 = _
      unfold tS
      rw [if_pos c]
    · show nI s = _
      unfold tL
      rw [if_pos c, Nat.add_zero]
    · intro z
      unfold tS at z
      rw [if_pos c] at z
      omega
  · have c' : s < T := by omega
    have il := X6_isLower (n := n) (rv := setS r 3 (nI s)) hT hB hby c'
    by_cases d : lowB B s = true
    · rw [bI_T d] at il
      obtain ⟨r2, k1, k2, k3, k4, k5, k6⟩ := X6_readWord (n := n) (rv := setS r 3 (nI s)) (s := s) hn hT hB hby (by omega) g3 rfl
      refine ⟨r2, ?_, ⟨k2, by rw [k6]; exact hby.2⟩, ?_, k4, ?_, ?_⟩
      · simp (disch := omega) only [f_X6_nextToken_j46, f_X6_nextToken_j142, pl_lit, pl_bl, pl_bd, pl_bd2, pl_bd3, pl_bd4, pl_bcT, pl_bcF, gd_t, pl_bcTrue, pl_bcFalse, pl_gdTrue, pl_in, pl_eq, pl_lt, pl_le, pl_ix, nI_add, pk_mul, pl_m1, g2, g3, sS_n, il, k1]
      · rw [k3]
        unfold tS
        rw [if_neg c, if_pos d]
      · rw [k5]
        unfold tL
        rw [if_neg c, if_pos d]
      · intro z
        unfold tS at z
        rw [if_neg c, if_pos d] at z
        omega
    · rw [bI_F d] at il
      have ig := X6_isFigure (n := n) (rv := setS r 3 (nI s)) hT hB hby c'
      by_cases f : figB B s = true
      · rw [bI_T f] at ig
        obtain ⟨r2, k1, k2, k3, k4, k5, k6, k7⟩ := X6_readNumber (n := n) (rv := setS r 3 (nI s)) (s := s) hn hT hB hby (by omega) g3 rfl
        refine ⟨r2, ?_, ⟨k2, by rw [k7]; exact hby.2⟩, ?_, k4, ?_, fun _ => k6⟩
        · simp (disch := omega) only [f_X6_nextToken_j46, f_X6_nextToken_j142, pl_lit, pl_bl, pl_bd, pl_bd2, pl_bd3, pl_bd4, pl_bcT, pl_bcF, gd_t, pl_bcTrue, pl_bcFalse, pl_gdTrue, pl_in, pl_eq, pl_lt, pl_le, pl_ix, nI_add, pk_mul, pl_m1, g2, g3, sS_n, il, ig, k1]
        · rw [k3]
          unfold tS
          rw [if_neg c, if_neg d, if_pos f]
        · rw [k5]
          unfold tL
          rw [if_neg c, if_neg d, if_pos f]
      · rw [bI_F f] at ig
        have hb : r.2.1 0 s = nI (B s) := hby.2 s c'
        have bl' := hB s c'
        have hb2 : (setS r 3 (nI s)).2 = r.2 := rfl
        have tl : tL B T s = 1 := by
          unfold tL
          rw [if_neg c, if_neg d, if_neg f]
        by_cases q : B s = 59
        · have ts : tS B T s = 3 := by
            unfold tS
            rw [if_neg c, if_neg d, if_neg f, if_pos q]
          refine ⟨setS (setS (setS r 3 (nI s)) 1 (nI 3)) 3 (nI (s + 1)), ?_, hby, by rw [ts]; rfl, g3, by rw [tl]; rfl, fun z => by omega⟩
          simp (disch := omega) only [f_X6_nextToken_j46, f_X6_nextToken_j129, f_X6_nextToken_j142, pl_lit, pl_bl, pl_bd, pl_bd2, pl_bd3, pl_bd4, pl_bcT, pl_bcF, gd_t, pl_bcTrue, pl_bcFalse, pl_gdTrue, pl_in, pl_eq, pl_lt, pl_le, pl_ix, nI_add, pk_mul, pl_m1, g2, g3, sS_n, il, ig, hb2, hb, q]
        · have ts : tS B T s = 4 := by
            unfold tS
            rw [if_neg c, if_neg d, if_neg f, if_neg q]
          refine ⟨setS (setS (setS r 3 (nI s)) 1 (nI 4)) 3 (nI (s + 1)), ?_, hby, by rw [ts]; rfl, g3, by rw [tl]; rfl, fun z => by omega⟩
          simp (disch := omega) only [f_X6_nextToken_j46, f_X6_nextToken_j129, f_X6_nextToken_j142, pl_lit, pl_bl, pl_bd, pl_bd2, pl_bd3, pl_bd4, pl_bcT, pl_bcF, gd_t, pl_bcTrue, pl_bcFalse, pl_gdTrue, pl_in, pl_eq, pl_lt, pl_le, pl_ix, nI_add, pk_mul, pl_m1, g2, g3, sS_n, il, ig, hb2, hb, q]
end TOK
