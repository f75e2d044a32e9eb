/-! stand: both sides -/
theorem pm1 {k : Nat} : nI (k + 1) + m1 = nI k := pk_m1 k
theorem pq1 {k : Nat} : nI (k + 1) - nI 1 = nI k := nI_pred k
theorem cmp_c {x y k : Nat} (hx : x ≤ 1000) (hy : y ≤ 1000) (hk : k ≤ 1000) : (nI x - nI y ≤ nI k) = (x - y ≤ k) := by
  apply propext
  rw [Int32.le_iff_toInt_le, pk_sub_toInt (by omega) (by omega), nI_toInt (by omega)]
  omega
theorem max0 {k : Nat} : max 0 k = k := by omega
def stQ (a : Nat → Nat) (m p l : Nat) : Bool := decide (a (5 + l) = 6 ∧ absd (a (29 + 3 * l)) p ≤ reachN (a (24 + m)) ∧ a (31 + 3 * l) ≤ bearsN (a (24 + m)))
section STD
variable {n : Nat} {h nv mo : MV} {t : Nat → Int32} {a : Nat → Nat} {m : Nat} {v1 v2 v3 v4 v5 : Int32}
theorem X3_sortIn {l : Nat} {D : List Nat} {pr : Nat → Nat} (hn : 100 ≤ n) (hl : l < 6) (hp : ∀ i, i ≤ l → nv.2.1 1 i = nI (pr i)) (hb : ∀ i, i ≤ l → pr i < 100) (hD : D.length = l) (hs : srt pr D) (hm : ∀ j, j < l → D.getD j 0 < l) (hf : arr (nv.2.1 6) D) : ∃ nv', f_X3_sortByPostage_l23 n n nv h (nI l) (nI l) = some (nI (posL pr (pr l) D), nv') ∧ nv'.2.1 1 = nv.2.1 1 ∧ nv'.2.1 6 = sh (nv.2.1 6) (posL pr (pr l) D) l := by
  have hpl := pos_le (key := pr) (x := pr l) D
  obtain ⟨r, h1, nv', h2, h3, h4⟩ := lp_inv (body := fun q => f_X3_sortByPostage_b23 n q.2 h q.1 (nI l)) (fun k st => ∃ nv' : MV, k ≤ l ∧ posL pr (pr l) D ≤ k ∧ st = (nI k, nv') ∧ nv'.2.1 1 = nv.2.1 1 ∧ nv'.2.1 6 = sh (nv.2.1 6) k l) (fun r => ∃ nv' : MV, r = (nI (posL pr (pr l) D), nv') ∧ nv'.2.1 1 = nv.2.1 1 ∧ nv'.2.1 6 = sh (nv.2.1 6) (posL pr (pr l) D) l) (by
    rintro k st ⟨nv', hk, hpk, rfl, e1, e6⟩
    cases k with
    | zero =>
      have z : posL pr (pr l) D = 0 := by omega
      refine Or.inr ⟨(nI 0, nv'), ?_, nv', by rw [z], e1, by rw [z]; exact e6⟩
      simp (disch := omega) only [f_X3_sortByPostage_b23, pl_lit, pl_bl, pl_bd, pl_bd2, pl_bd3, pl_bd4, pl_bcT, pl_bcF, gd_t, pl_bcTrue, pl_bcFalse, pl_gdTrue, pl_in, pl_eq, pl_lt, pl_le, pl_ix, nI_add, pk_mul, pl_m1]
    | succ b =>
      have d1 : nv'.2.1 6 b = nI (D.getD b 0) := by rw [e6, sh_lo (by omega)]; exact hf b (by omega)
      have d2 := hm b (by omega)
      have p1 : nv'.2.1 1 (D.getD b 0) = nI (pr (D.getD b 0)) := by rw [e1]; exact hp _ (by omega)
      have p2 : nv'.2.1 1 l = nI (pr l) := by rw [e1]; exact hp l (Nat.le_refl _)
      have b1 := hb (D.getD b 0) (by omega)
      have b2 := hb l (Nat.le_refl _)
      have pi := pos_iff (x := pr l) D hs b (by omega)
      by_cases c : pr l ≤ pr (D.getD b 0)
      · have z : posL pr (pr l) D = b + 1 := by omega
        refine Or.inr ⟨(nI (b + 1), nv'), ?_, nv', by rw [z], e1, by rw [z]; exact e6⟩
        simp (disch := omega) only [f_X3_sortByPostage_b23, pl_lit, pl_bl, pl_bd, pl_bd2, pl_bd3, pl_bd4, pl_bcT, pl_bcF, gd_t, pl_bcTrue, pl_bcFalse, pl_gdTrue, pl_in, pl_eq, pl_lt, pl_le, pl_ix, nI_add, pk_mul, pl_m1, pq1, d1, p1, p2]
      · refine Or.inl ⟨(nI b, setA nv' 6 (upd (nv'.2.1 6) (b + 1) (nI (D.getD b 0)))), b, ?_, by omega, _, by omega, by omega, rfl, e1, ?_⟩
        · simp (disch := omega) only [f_X3_sortByPostage_b23, pl_lit, pl_bl, pl_bd, pl_bd2, pl_bd3, pl_bd4, pl_bcT, pl_bcF, gd_t, pl_bcTrue, pl_bcFalse, pl_gdTrue, pl_in, pl_eq, pl_lt, pl_le, pl_ix, nI_add, pk_mul, pl_m1, pq1, d1, p1, p2, pm1]
        · show upd (nv'.2.1 6) (b + 1) (nI (D.getD b 0)) = sh (nv.2.1 6) b l
          rw [e6, ← hf b (by omega)]
          exact sh_s (by omega)) n l (nI l, nv) ⟨nv, Nat.le_refl _, by omega, rfl, rfl, by rw [sh_n]⟩ (by omega)
  exact ⟨nv', by rw [← h2]; exact h1, h3, h4⟩
theorem X3_sortByPostage (hn : 100 ≤ n) (ha : okA a) (hh : HO h t a) : ∃ nv', f_X3_sortByPostage n nv h = some nv' ∧ (∀ l, l < a 1 → nv'.2.1 1 l = nI (postN a l)) ∧ arr (nv'.2.1 6) (DL (postN a) (a 1)) := by
  have h6 := okL ha
  have eL : h.1 1 = nI (a 1) := hh.2.1
  obtain ⟨r, h1, h2, h3⟩ := lp_inv (body := fun q => f_X3_sortByPostage_b2 n q.2 h q.1) (fun k st => ∃ (l : Nat) (nv' : MV), l ≤ a 1 ∧ k = a 1 - l ∧ st = (nI l, nv') ∧ (∀ i, i < l → nv'.2.1 1 i = nI (postN a i)) ∧ arr (nv'.2.1 6) (DL (postN a) l)) (fun r => (∀ l, l < a 1 → r.2.1 1 l = nI (postN a l)) ∧ arr (r.2.1 6) (DL (postN a) (a 1))) (by
    rintro k st ⟨l, nv', hl, rfl, rfl, e1, e6⟩
    by_cases c : l < a 1
    · have hp := X1_postage (n := n) ha hh c
      have pI : ∀ i, i ≤ l → (setA nv' 1 (upd (nv'.2.1 1) l (nI (postN a l)))).2.1 1 i = nI (postN a i) := fun i hi => by
        show upd (nv'.2.1 1) l (nI (postN a l)) i = _
        by_cases z : i = l
        · rw [z, pk_us]
        · rw [pk_un z]; exact e1 i (by omega)
      obtain ⟨nv2, g1, g2, g3⟩ := X3_sortIn (n := n) (h := h) (nv := setA nv' 1 (upd (nv'.2.1 1) l (nI (postN a l)))) (l := l) (D := DL (postN a) l) (pr := postN a) hn (by omega) pI (fun i hi => by have := (postN_le ha (show i < a 1 by omega)).2; omega) (DL_len l) (DL_srt l) (fun j hj => DL_get hj) e6
      have pp := pos_le (key := postN a) (x := postN a l) (DL (postN a) l)
      rw [DL_len] at pp
      refine Or.inl ⟨(nI (l + 1), setA nv2 6 (upd (nv2.2.1 6) (posL (postN a) (postN a l) (DL (postN a) l)) (nI l))), a 1 - (l + 1), ?_, by omega, l + 1, _, by omega, rfl, rfl, fun i hi => ?_, ?_⟩
      · simp (disch := omega) only [f_X3_sortByPostage_b2, f_X3_sortByPostage_j69, eL, pl_lit, pl_bl, pl_bd, pl_bd2, pl_bd3, pl_bd4, pl_bcT, pl_bcF, gd_t, pl_bcTrue, pl_bcFalse, pl_gdTrue, pl_in, pl_eq, pl_lt, pl_le, pl_ix, nI_add, pk_mul, pl_m1, hp, g1]
      · show nv2.2.1 1 i = _
        rw [g2]
        exact pI i (by omega)
      · show arr (upd (nv2.2.1 6) _ (nI l)) (insL (postN a) l (DL (postN a) l))
        rw [g3]
        have := arr_ins (key := postN a) (l := l) (w := nI l) e6 rfl
        rw [DL_len] at this
        exact this
    · have : l = a 1 := by omega
      subst this
      refine Or.inr ⟨nv', ?_, e1, e6⟩
      simp (disch := omega) only [f_X3_sortByPostage_b2, eL, pl_lit, pl_bl, pl_bd, pl_bd2, pl_bd3, pl_bd4, pl_bcT, pl_bcF, gd_t, pl_bcTrue, pl_bcFalse, pl_gdTrue, pl_in, pl_eq, pl_lt, pl_le, pl_ix, nI_add, pk_mul, pl_m1]) n (a 1) (nI 0, nv) ⟨0, nv, by omega, by omega, rfl, fun i hi => absurd hi (Nat.not_lt_zero i), fun j hj => absurd hj (Nat.not_lt_zero j)⟩ (by omega)
  refine ⟨r, ?_, h2, h3⟩
  have h1' : f_X3_sortByPostage_l2 n n nv h (nI 0) = some r := h1
  unfold f_X3_sortByPostage
  simp only [pl_lit, h1', pl_bd]
theorem X3_worthAt {p C : Nat} (hn : 100 ≤ n) (ha : okA a) (hh : HO h t a) (hm : m < a 0) (hp : p ≤ 99) (hC : C ≤ 13) (e1 : ∀ l, l < a 1 → nv.2.1 1 l = nI (postN a l)) (e6 : arr (nv.2.1 6) (DL (postN a) (a 1))) : f_X3_worthAt n nv h (nI m) (nI p) (nI C) = some (nI (gr (postN a) (stQ a m p) (DL (postN a) (a 1)) C)) := by
  have h6 := okL ha
  have eL : h.1 1 = nI (a 1) := hh.2.1
  obtain ⟨r, h1, h2⟩ := lp_inv (body := fun q => f_X3_worthAt_b10 n nv h q.1 q.2.1 q.2.2 (nI m) (nI p)) (fun k st => ∃ i s c, i ≤ a 1 ∧ k = a 1 - i ∧ c ≤ 13 ∧ st = (nI i, nI s, nI c) ∧ s + gr (postN a) (stQ a m p) ((DL (postN a) (a 1)).drop i) c = gr (postN a) (stQ a m p) (DL (postN a) (a 1)) C) (fun r => r = nI (gr (postN a) (stQ a m p) (DL (postN a) (a 1)) C)) (by
    rintro k st ⟨i, s, c, hi, rfl, hc, rfl, hg⟩
    by_cases ci : i < a 1
    · have gd := gr_drop (pr := postN a) (q := stQ a m p) (D := DL (postN a) (a 1)) (i := i) (c := c) (by rw [DL_len]; exact ci)
      cases c with
      | zero =>
        rw [gd, if_pos rfl, Nat.add_zero] at hg
        refine Or.inr ⟨nI s, ?_, by rw [hg]⟩
        simp (disch := omega) only [f_X3_worthAt_b10, eL, pl_lit, pl_bl, pl_bd, pl_bd2, pl_bd3, pl_bd4, pl_bcT, pl_bcF, gd_t, pl_bcTrue, pl_bcFalse, pl_gdTrue, pl_in, pl_eq, pl_lt, pl_le, pl_ix, nI_add, pk_mul, pl_m1]
      | succ c =>
        have hd := DL_get (pr := postN a) ci
        have ed := e6 i (by rw [DL_len]; exact ci)
        generalize (DL (postN a) (a 1)).getD i 0 = d at gd hd ed
        rw [gd, if_neg (by omega), Nat.add_sub_cancel] at hg
        have x1 := X1_lies (n := n) ha hh hd
        have x2 := X1_suits (n := n) ha hh hd hm hp
        have x3 := e1 d hd
        by_cases cl : a (5 + d) = 6
        · rw [bI_T cl] at x1
          by_cases cs : absd (a (29 + 3 * d)) p ≤ reachN (a (24 + m)) ∧ a (31 + 3 * d) ≤ bearsN (a (24 + m))
          · rw [bI_T cs] at x2
            rw [if_pos (show stQ a m p d = true from decide_eq_true ⟨cl, cs⟩)] at hg
            refine Or.inl ⟨(nI (i + 1), nI (s + postN a d), nI c), a 1 - (i + 1), ?_, by omega, i + 1, s + postN a d, c, by omega, rfl, by omega, rfl, by omega⟩
            simp (disch := omega) only [f_X3_worthAt_b10, f_X3_worthAt_j68, eL, pl_lit, pl_bl, pl_bd, pl_bd2, pl_bd3, pl_bd4, pl_bcT, pl_bcF, gd_t, pl_bcTrue, pl_bcFalse, pl_gdTrue, pl_in, pl_eq, pl_lt, pl_le, pl_ix, nI_add, pk_mul, pl_m1, ed, x1, x2, x3, pm1]
          · rw [bI_F cs] at x2
            rw [if_neg (show ¬ stQ a m p d = true from fun z => cs (of_decide_eq_true z).2)] at hg
            refine Or.inl ⟨(nI (i + 1), nI s, nI (c + 1)), a 1 - (i + 1), ?_, by omega, i + 1, s, c + 1, by omega, rfl, by omega, rfl, hg⟩
            simp (disch := omega) only [f_X3_worthAt_b10, f_X3_worthAt_j68, eL, pl_lit, pl_bl, pl_bd, pl_bd2, pl_bd3, pl_bd4, pl_bcT, pl_bcF, gd_t, pl_bcTrue, pl_bcFalse, pl_gdTrue, pl_in, pl_eq, pl_lt, pl_le, pl_ix, nI_add, pk_mul, pl_m1, ed, x1, x2]
        · rw [bI_F cl] at x1
          rw [if_neg (show ¬ stQ a m p d = true from fun z => cl (of_decide_eq_true z).1)] at hg
          refine Or.inl ⟨(nI (i + 1), nI s, nI (c + 1)), a 1 - (i + 1), ?_, by omega, i + 1, s, c + 1, by omega, rfl, by omega, rfl, hg⟩
          simp (disch := omega) only [f_X3_worthAt_b10, f_X3_worthAt_j68, eL, pl_lit, pl_bl, pl_bd, pl_bd2, pl_bd3, pl_bd4, pl_bcT, pl_bcF, gd_t, pl_bcTrue, pl_bcFalse, pl_gdTrue, pl_in, pl_eq, pl_lt, pl_le, pl_ix, nI_add, pk_mul, pl_m1, ed, x1]
    · have : i = a 1 := by omega
      subst this
      rw [List.drop_eq_nil_of_le (by rw [DL_len]; exact Nat.le_refl _)] at hg
      refine Or.inr ⟨nI s, ?_, by rw [← hg]; rfl⟩
      simp (disch := omega) only [f_X3_worthAt_b10, eL, pl_lit, pl_bl, pl_bd, pl_bd2, pl_bd3, pl_bd4, pl_bcT, pl_bcF, gd_t, pl_bcTrue, pl_bcFalse, pl_gdTrue, pl_in, pl_eq, pl_lt, pl_le, pl_ix, nI_add, pk_mul, pl_m1]) n (a 1) (nI 0, nI 0, nI C) ⟨0, 0, C, by omega, by omega, hC, rfl, by rw [List.drop_zero, Nat.zero_add]⟩ (by omega)
  have h1' : f_X3_worthAt_l10 n n nv h (nI m) (nI p) (nI 0) (nI 0) (nI C) = some r := h1
  unfold f_X3_worthAt
  simp only [pl_lit, h1', pl_bd, f_X3_worthAt_j74, h2]
theorem X1_coversLeft (ha : okA a) (hh : HO h t a) (hm : m < a 0) : f_X1_coversLeft n h (nI m) = some (nI (signsN (a (24 + m)) (a 23) - a (11 + m))) := by
  have h6 := okL ha
  obtain ⟨e1, e2, e3⟩ := hoM hh hm
  obtain ⟨c1, c2, c3⟩ := okM ha hm
  have hs := signsN_le (a (24 + m)) (a 23)
  have hk := K_signs (n := n) (k := a (24 + m)) (d := a 23) c1 (by omega)
  have hd : h.1 2 = nI (a 23) := hh.2.2.1
  simp (disch := omega) only [f_X1_coversLeft, X1_kindAt ha hh hm, pl_lit, pl_bl, pl_bd, pl_bd2, pl_bd3, pl_bd4, pl_bcT, pl_bcF, gd_t, pl_bcTrue, pl_bcFalse, pl_gdTrue, pl_in, pl_eq, pl_lt, pl_le, pl_ix, nI_add, pk_mul, pl_m1, hd, hk, e3, maxI, max0]
/-- the model's row -/
theorem X12_worIn {l N : Nat} {D : List Nat} {f : Nat → Int32} (hn : 100 ≤ n) (ha : okA a) (ht : TR (mo.2.1 0) a) (hl : l < a 1) (hN : N < 6) (hD : D.length = N) (hs : srt id D) (hb : ∀ j, j < N → D.getD j 0 ≤ 63) (hf : arr f D) : f_X12_worthAt_l71 n n (setA mo 7 f) (nI l) v4 v3 v1 v2 (nI N) = some (nI (posL id (postN a l) D), setA mo 7 (sh f (posL id (postN a l) D) N)) := by
  have hpl := pos_le (key := id) (x := postN a l) D
  have hpp := (postN_le ha hl).2
  obtain ⟨r, h1, h2⟩ := lp_inv (body := fun q => f_X12_worthAt_b71 n q.2 q.1 (nI l) v4 v3 v1 v2) (fun k st => k ≤ N ∧ posL id (postN a l) D ≤ k ∧ st = (nI k, setA mo 7 (sh f k N))) (fun r => r = (nI (posL id (postN a l) D), setA mo 7 (sh f (posL id (postN a l) D) N))) (by
    rintro k st ⟨hk, hpk, rfl⟩
    cases k with
    | zero =>
      have z : posL id (postN a l) D = 0 := by omega
      refine Or.inr ⟨(nI 0, setA mo 7 (sh f 0 N)), ?_, by rw [z]⟩
      simp (disch := omega) only [f_X12_worthAt_b71, pl_lit, pl_bl, pl_bd, pl_bd2, pl_bd3, pl_bd4, pl_bcT, pl_bcF, gd_t, pl_bcTrue, pl_bcFalse, pl_gdTrue, pl_in, pl_eq, pl_lt, pl_le, pl_ix, nI_add, pk_mul, pl_m1]
    | succ b =>
      have d1 : sh f (b + 1) N b = nI (D.getD b 0) := by rw [sh_lo (by omega)]; exact hf b (by omega)
      have b1 := hb b (by omega)
      have pi := pos_iff (key := id) (x := postN a l) D hs b (by omega)
      have pi : D.getD b 0 < postN a l ↔ posL id (postN a l) D ≤ b := pi
      have pg := X12_postage (n := n) (mo := setA mo 7 (sh f (b + 1) N)) ha ht hl
      by_cases c : postN a l ≤ D.getD b 0
      · have z : posL id (postN a l) D = b + 1 := by omega
        refine Or.inr ⟨(nI (b + 1), setA mo 7 (sh f (b + 1) N)), ?_, by rw [z]⟩
        simp (disch := omega) only [f_X12_worthAt_b71, pl_lit, pl_bl, pl_bd, pl_bd2, pl_bd3, pl_bd4, pl_bcT, pl_bcF, gd_t, pl_bcTrue, pl_bcFalse, pl_gdTrue, pl_in, pl_eq, pl_lt, pl_le, pl_ix, nI_add, pk_mul, pl_m1, pq1, pg, sA_s, d1]
      · have u : upd (sh f (b + 1) N) (b + 1) (nI (D.getD b 0)) = sh f b N := by
          rw [← hf b (by omega)]
          exact sh_s (by omega)
        refine Or.inl ⟨(nI b, setA mo 7 (sh f b N)), b, ?_, by omega, by omega, by omega, rfl⟩
        simp (disch := omega) only [f_X12_worthAt_b71, pl_lit, pl_bl, pl_bd, pl_bd2, pl_bd3, pl_bd4, pl_bcT, pl_bcF, gd_t, pl_bcTrue, pl_bcFalse, pl_gdTrue, pl_in, pl_eq, pl_lt, pl_le, pl_ix, nI_add, pk_mul, pl_m1, pq1, pg, sA_s, sAA, d1, pm1, u]) n N (nI N, setA mo 7 f) ⟨Nat.le_refl _, by omega, by rw [sh_n]⟩ (by omega)
  rw [← h2]
  exact h1
theorem X12_get {l w : Nat} (ha : okA a) (ht : TR (mo.2.1 0) a) (hl : l < a 1) : f_X12_get n mo (nI l) (nI 0) = some (nI (a (29 + 3 * l))) ∧ f_X12_get n mo (nI l) (nI 2) = some (nI (a (31 + 3 * l))) := by
  have h6 := okL ha
  obtain ⟨e1, e2, e3, -⟩ := trL ht hl
  have f1 : 29 + 3 * l + 0 = 29 + 3 * l := rfl
  have f3 : 29 + 3 * l + 2 = 31 + 3 * l := by omega
  constructor
  · simp (disch := omega) only [f_X12_get, pl_lit, pl_bl, pl_bd, pl_bd2, pl_bd3, pl_bd4, pl_bcT, pl_bcF, gd_t, pl_bcTrue, pl_bcFalse, pl_gdTrue, pl_in, pl_eq, pl_lt, pl_le, pl_ix, nI_add, pk_mul, pl_m1, f1, e1]
  · simp (disch := omega) only [f_X12_get, pl_lit, pl_bl, pl_bd, pl_bd2, pl_bd3, pl_bd4, pl_bcT, pl_bcF, gd_t, pl_bcTrue, pl_bcFalse, pl_gdTrue, pl_in, pl_eq, pl_lt, pl_le, pl_ix, nI_add, pk_mul, pl_m1, f3, e3]
theorem ML_T {pr : Nat → Nat} {q : Nat → Bool} {l : Nat} (c : q l = true) : ML pr q (l + 1) = insL id (pr l) (ML pr q l) := if_pos c
theorem ML_F {pr : Nat → Nat} {q : Nat → Bool} {l : Nat} (c : ¬ q l = true) : ML pr q (l + 1) = ML pr q l := if_neg c
theorem X12_worRow {p : Nat} {f : Nat → Int32} (hn : 100 ≤ n) (ha : okA a) (ht : TR (mo.2.1 0) a) (hm : m < a 0) (hp : p ≤ 99) : ∃ f', f_X12_worthAt_l16 n n (setA mo 7 f) (nI (a (24 + m))) (nI m) (nI p) (nI 0) (nI 0) = some (nI (ML (postN a) (stQ a m p) (a 1)).length, setA mo 7 f') ∧ arr f' (ML (postN a) (stQ a m p) (a 1)) := by
  have h6 := okL ha
  have c1 := (okM ha hm).1
  have rl := reachN_le (a (24 + m))
  have bl' := bearsN_le (a (24 + m))
  obtain ⟨r, h1, f', h2, h3⟩ := lp_inv (body := fun q => f_X12_worthAt_b16 n q.2.2 q.1 (nI (a (24 + m))) q.2.1 (nI m) (nI p)) (fun k st => ∃ (l : Nat) (f' : Nat → Int32), l ≤ a 1 ∧ k = a 1 - l ∧ st = (nI l, nI (ML (postN a) (stQ a m p) l).length, setA mo 7 f') ∧ arr f' (ML (postN a) (stQ a m p) l)) (fun r => ∃ f', r = (nI (ML (postN a) (stQ a m p) (a 1)).length, setA mo 7 f') ∧ arr f' (ML (postN a) (stQ a m p) (a 1))) (by
    rintro k st ⟨l, f', hl, rfl, rfl, e7⟩
    have eL := X12_letters (n := n) (mo := setA mo 7 f') (a := a) ht.2.1
    by_cases c : l < a 1
    · have x1 := X12_lies (n := n) (mo := setA mo 7 f') ha ht c
      obtain ⟨g0, g2⟩ := X12_get (n := n) (mo := setA mo 7 f') (w := 0) ha ht c
      obtain ⟨o1, o2, o3, o4, o5⟩ := okT ha c
      have mi := X12_miles (n := n) o1 hp
      have ml := absd_le o1 hp
      have rr := X12_reachAs (n := n) c1
      have br := X12_bearsAs (n := n) c1
      have len := ML_len (pr := postN a) (q := stQ a m p) l
      by_cases cl : a (5 + l) = 6
      · rw [bI_T cl] at x1
        by_cases cr : absd (a (29 + 3 * l)) p ≤ reachN (a (24 + m))
        · by_cases cb : a (31 + 3 * l) ≤ bearsN (a (24 + m))
          · have q : stQ a m p l = true := decide_eq_true ⟨cl, cr, cb⟩
            have mem : ∀ j, j < (ML (postN a) (stQ a m p) l).length → (ML (postN a) (stQ a m p) l).getD j 0 ≤ 63 := fun j hj => by
              apply ML_mem (pr := postN a) (q := stQ a m p) l (fun i hi => (postN_le ha (show i < a 1 by omega)).2)
              rw [List.getD_eq_getElem?_getD, List.getElem?_eq_getElem hj]
              exact List.getElem_mem hj
            have wi := X12_worIn (n := n) (mo := mo) (v4 := nI (a (24 + m))) (v3 := nI (ML (postN a) (stQ a m p) l).length) (v1 := nI m) (v2 := nI p) hn ha ht c (by omega) rfl (ML_srt l) mem e7
            have pp := pos_le (key := id) (x := postN a l) (ML (postN a) (stQ a m p) l)
            have pg := fun g => X12_postage (n := n) (mo := setA mo 7 g) ha ht c
            refine Or.inl ⟨(nI (l + 1), nI ((ML (postN a) (stQ a m p) l).length + 1), setA mo 7 (upd (sh f' (posL id (postN a l) (ML (postN a) (stQ a m p) l)) (ML (postN a) (stQ a m p) l).length) (posL id (postN a l) (ML (postN a) (stQ a m p) l)) (nI (postN a l)))), a 1 - (l + 1), ?_, by omega, l + 1, upd (sh f' (posL id (postN a l) (ML (postN a) (stQ a m p) l)) (ML (postN a) (stQ a m p) l).length) (posL id (postN a l) (ML (postN a) (stQ a m p) l)) (nI (postN a l)), by omega, rfl, ?_, ?_⟩
            · simp (disch := omega) only [f_X12_worthAt_b16, f_X12_worthAt_j116, f_X12_worthAt_j132, eL, pl_lit, pl_bl, pl_bd, pl_bd2, pl_bd3, pl_bd4, pl_bcT, pl_bcF, gd_t, pl_bcTrue, pl_bcFalse, pl_gdTrue, pl_in, pl_eq, pl_lt, pl_le, pl_ix, nI_add, pk_mul, pl_m1, x1, g0, g2, mi, rr, br, wi, pg, sA_s, sAA]
            · rw [ML_T q, ins_len]
            · rw [ML_T q]
              exact arr_ins (key := id) (l := postN a l) e7 rfl
          · have q : ¬ stQ a m p l = true := fun z => cb (of_decide_eq_true z).2.2
            refine Or.inl ⟨(nI (l + 1), nI (ML (postN a) (stQ a m p) l).length, setA mo 7 f'), a 1 - (l + 1), ?_, by omega, l + 1, f', by omega, rfl, by rw [ML_F q], by rw [ML_F q]; exact e7⟩
            simp (disch := omega) only [f_X12_worthAt_b16, f_X12_worthAt_j132, eL, pl_lit, pl_bl, pl_bd, pl_bd2, pl_bd3, pl_bd4, pl_bcT, pl_bcF, gd_t, pl_bcTrue, pl_bcFalse, pl_gdTrue, pl_in, pl_eq, pl_lt, pl_le, pl_ix, nI_add, pk_mul, pl_m1, x1, g0, g2, mi, rr, br]
        · have q : ¬ stQ a m p l = true := fun z => cr (of_decide_eq_true z).2.1
          refine Or.inl ⟨(nI (l + 1), nI (ML (postN a) (stQ a m p) l).length, setA mo 7 f'), a 1 - (l + 1), ?_, by omega, l + 1, f', by omega, rfl, by rw [ML_F q], by rw [ML_F q]; exact e7⟩
          simp (disch := omega) only [f_X12_worthAt_b16, f_X12_worthAt_j132, eL, pl_lit, pl_bl, pl_bd, pl_bd2, pl_bd3, pl_bd4, pl_bcT, pl_bcF, gd_t, pl_bcTrue, pl_bcFalse, pl_gdTrue, pl_in, pl_eq, pl_lt, pl_le, pl_ix, nI_add, pk_mul, pl_m1, x1, g0, mi, rr]
      · rw [bI_F cl] at x1
        have q : ¬ stQ a m p l = true := fun z => cl (of_decide_eq_true z).1
        refine Or.inl ⟨(nI (l + 1), nI (ML (postN a) (stQ a m p) l).length, setA mo 7 f'), a 1 - (l + 1), ?_, by omega, l + 1, f', by omega, rfl, by rw [ML_F q], by rw [ML_F q]; exact e7⟩
        simp (disch := omega) only [f_X12_worthAt_b16, f_X12_worthAt_j132, eL, pl_lit, pl_bl, pl_bd, pl_bd2, pl_bd3, pl_bd4, pl_bcT, pl_bcF, gd_t, pl_bcTrue, pl_bcFalse, pl_gdTrue, pl_in, pl_eq, pl_lt, pl_le, pl_ix, nI_add, pk_mul, pl_m1, x1]
    · have : l = a 1 := by omega
      subst this
      refine Or.inr ⟨(nI (ML (postN a) (stQ a m p) (a 1)).length, setA mo 7 f'), ?_, f', rfl, e7⟩
      simp (disch := omega) only [f_X12_worthAt_b16, eL, pl_lit, pl_bl, pl_bd, pl_bd2, pl_bd3, pl_bd4, pl_bcT, pl_bcF, gd_t, pl_bcTrue, pl_bcFalse, pl_gdTrue, pl_in, pl_eq, pl_lt, pl_le, pl_ix, nI_add, pk_mul, pl_m1]) n (a 1) (nI 0, nI 0, setA mo 7 f) ⟨0, f, by omega, by omega, rfl, fun j hj => absurd hj (Nat.not_lt_zero j)⟩ (by omega)
  exact ⟨f', by rw [← h2]; exact h1, h3⟩
theorem X12_worthAt {p : Nat} {f : Nat → Int32} (hn : 100 ≤ n) (ha : okA a) (ht : TR (mo.2.1 0) a) (hm : m < a 0) (hp : p ≤ 99) : ∃ f', f_X12_worthAt n (setA mo 7 f) (nI m) (nI p) = some (nI (gr (postN a) (stQ a m p) (DL (postN a) (a 1)) (signsN (a (24 + m)) (a 23) - a (11 + m))), setA mo 7 f') := by
  have h6 := okL ha
  have c1 := (okM ha hm).1
  have c3 := (okM ha hm).2.2
  obtain ⟨e1, e2, e3⟩ := trM ht hm
  have eD : mo.2.1 0 23 = nI (a 23) := ht.2.2.2.2.2.1
  have hs := signsN_le (a (24 + m)) (a 23)
  have hk := X12_coversAs (n := n) (k := a (24 + m)) (d := a 23) c1 (by omega)
  obtain ⟨f', g1, g2⟩ := X12_worRow (n := n) (f := f) hn ha ht hm hp
  have len := ML_len (pr := postN a) (q := stQ a m p) (a 1)
  rw [gr_tk, ← ML_DL, tk_sm]
  generalize ML (postN a) (stQ a m p) (a 1) = L at g1 g2 len
  have s0 : ∀ j, (setA mo 7 f').2.1 0 j = mo.2.1 0 j := fun j => rfl
  obtain ⟨r, h1, h2⟩ := lp_inv (body := fun q => f_X12_worthAt_b144 n (setA mo 7 f') q.1 q.2 (nI (a (24 + m))) (nI L.length) (nI m)) (fun k st => ∃ i, i ≤ min (signsN (a (24 + m)) (a 23) - a (11 + m)) L.length ∧ k = min (signsN (a (24 + m)) (a 23) - a (11 + m)) L.length - i ∧ st = (nI i, nI (sm (fun k => L.getD k 0) i))) (fun r => r = nI (sm (fun k => L.getD k 0) (min (signsN (a (24 + m)) (a 23) - a (11 + m)) L.length))) (by
    rintro k st ⟨i, hi, rfl, rfl⟩
    by_cases c : i < L.length
    · by_cases d : i < signsN (a (24 + m)) (a 23) - a (11 + m)
      · have g := g2 i c
        refine Or.inl ⟨(nI (i + 1), nI (sm (fun k => L.getD k 0) (i + 1))), min (signsN (a (24 + m)) (a 23) - a (11 + m)) L.length - (i + 1), ?_, by omega, i + 1, by omega, rfl, rfl⟩
        simp (disch := omega) only [f_X12_worthAt_b144, pl_lit, pl_bl, pl_bd, pl_bd2, pl_bd3, pl_bd4, pl_bcT, pl_bcF, gd_t, pl_bcTrue, pl_bcFalse, pl_gdTrue, pl_in, pl_eq, pl_lt, pl_le, pl_ix, nI_add, pk_mul, pl_m1, s0, eD, hk, e3, cmp_c, sA_s, g, sm]
      · have z : min (signsN (a (24 + m)) (a 23) - a (11 + m)) L.length = i := by omega
        refine Or.inr ⟨nI (sm (fun k => L.getD k 0) i), ?_, by rw [z]⟩
        simp (disch := omega) only [f_X12_worthAt_b144, pl_lit, pl_bl, pl_bd, pl_bd2, pl_bd3, pl_bd4, pl_bcT, pl_bcF, gd_t, pl_bcTrue, pl_bcFalse, pl_gdTrue, pl_in, pl_eq, pl_lt, pl_le, pl_ix, nI_add, pk_mul, pl_m1, s0, eD, hk, e3, cmp_c]
    · have z : min (signsN (a (24 + m)) (a 23) - a (11 + m)) L.length = i := by omega
      refine Or.inr ⟨nI (sm (fun k => L.getD k 0) i), ?_, by rw [z]⟩
      simp (disch := omega) only [f_X12_worthAt_b144, pl_lit, pl_bl, pl_bd, pl_bd2, pl_bd3, pl_bd4, pl_bcT, pl_bcF, gd_t, pl_bcTrue, pl_bcFalse, pl_gdTrue, pl_in, pl_eq, pl_lt, pl_le, pl_ix, nI_add, pk_mul, pl_m1]) n (min (signsN (a (24 + m)) (a 23) - a (11 + m)) L.length) (nI 0, nI 0) ⟨0, by omega, by omega, rfl⟩ (by omega)
  have h1' : f_X12_worthAt_l144 n n (setA mo 7 f') (nI (a (24 + m))) (nI L.length) (nI m) (nI 0) (nI 0) = some r := h1
  refine ⟨f', ?_⟩
  simp (disch := omega) only [f_X12_worthAt, f_X12_worthAt_j195, pl_lit, pl_bl, pl_bd, pl_bd2, pl_bd3, pl_bd4, pl_bcT, pl_bcF, gd_t, pl_bcTrue, pl_bcFalse, pl_gdTrue, pl_in, pl_eq, pl_lt, pl_le, pl_ix, nI_add, pk_mul, pl_m1, s0, sA_n, e1, g1, h1', h2]
end STD
theorem sim_stand {n : Nat} (hn : 200 ≤ n) : SIM_stand n INV := by
  intro xo nv rv h0 h1 h2 h3 nt0 cv0 nt1 cv1 nt2 cv2 nt3 cv3 ps0 ps1 ps2 ps3 mo v1 v2 hI
  have hI0 := hI
  obtain ⟨⟨a, ha, ht, hh, hc, hn', hp⟩, i2⟩ := hI
  have h6 := okL ha
  have p1 := X11_isMember (n := n) (xo := xo) (h := h0) (v := v1) (M := a 0) (by omega) hh.1
  have p2 := X12_isMember (n := n) (mo := mo) (v := v1) (M := a 0) (by omega) ht.1
  have q1 := w11 (n := n) (v := v2) (K := 1) (by omega)
  have q2 := w12 (n := n) (v := v2) (K := 1) (by omega)
  refine inR_cases (v := v1) (N := a 0) (fun m hm e => ?_) (fun c => ?_)
  · subst e
    rw [bI_in hm] at p1 p2
    refine inR_cases (v := v2) (N := 2) (fun w hw e => ?_) (fun c => ?_)
    · subst e
      rw [bI_in hw] at q1 q2
      obtain ⟨nv1, s1, s2, s3⟩ := X3_sortByPostage (n := n) (nv := nv) (by omega) ha hh
      have cL := X1_coversLeft (n := n) ha hh hm
      have c3 := (okM ha hm).2.2
      have sl := signsN_le (a (24 + m)) (a 23)
      obtain ⟨r1, r2, g1, g2, pl, nv2, f, k1, k2, k3⟩ := lp_two (b1 := fun q => f_X3_bestPlace_b22 n q.2.2 h0 q.1 q.2.1 (nI (signsN (a (24 + m)) (a 23) - a (11 + m))) (nI m)) (b2 := fun q => f_X12_stand_b33 n q.2.2.2 q.1 q.2.1 q.2.2.1 (nI m) (nI w)) 100 (fun i s1 s2 => ∃ (pl : Int32) (nv2 : MV) (f : Nat → Int32), s1 = (nI i, pl, nv2) ∧ s2 = (nI i, nv2.1 1, pl, setA mo 7 f) ∧ nv2.2.1 = nv1.2.1) (fun r1 r2 => ∃ (pl : Int32) (nv2 : MV) (f : Nat → Int32), r1 = (pl, nv2) ∧ r2 = (nv2.1 1, pl, setA mo 7 f) ∧ nv2.2.1 = nv1.2.1) (fun i s1 s2' hi r => by
          obtain ⟨pl, nv2, f, rfl, rfl, k3⟩ := r
          have w1 := X3_worthAt (n := n) (nv := nv2) (p := i) (C := signsN (a (24 + m)) (a 23) - a (11 + m)) (by omega) ha hh hm (by omega) (by omega) (by rw [k3]; exact s2) (by rw [k3]; exact s3)
          obtain ⟨f', w2⟩ := X12_worthAt (n := n) (mo := mo) (f := f) (p := i) (by omega) ha ht hm (by omega)
          generalize gr (postN a) (stQ a m i) (DL (postN a) (a 1)) (signsN (a (24 + m)) (a 23) - a (11 + m)) = W at w1 w2
          by_cases c : nI W ≤ nv2.1 1
          · refine ⟨(nI (i + 1), pl, nv2), (nI (i + 1), nv2.1 1, pl, setA mo 7 f'), ?_, ?_, pl, nv2, f', rfl, rfl, k3⟩
            · simp (disch := omega) only [f_X3_bestPlace_b22, f_X3_bestPlace_j59, pl_lit, pl_bl, pl_bd, pl_bd2, pl_bd3, pl_bd4, pl_bcT, pl_bcF, gd_t, pl_bcTrue, pl_bcFalse, pl_gdTrue, pl_in, pl_eq, pl_lt, pl_le, pl_ix, nI_add, pk_mul, pl_m1, w1, c]
            · simp (disch := omega) only [f_X12_stand_b33, f_X12_stand_j62, f_X12_stand_j77, pl_lit, pl_bl, pl_bd, pl_bd2, pl_bd3, pl_bd4, pl_bcT, pl_bcF, gd_t, pl_bcTrue, pl_bcFalse, pl_gdTrue, pl_in, pl_eq, pl_lt, pl_le, pl_ix, nI_add, pk_mul, pl_m1, w2, c]
          · refine ⟨(nI (i + 1), nI i, setS nv2 1 (nI W)), (nI (i + 1), nI W, nI i, setA mo 7 f'), ?_, ?_, nI i, setS nv2 1 (nI W), f', rfl, rfl, k3⟩
            · simp (disch := omega) only [f_X3_bestPlace_b22, f_X3_bestPlace_j59, pl_lit, pl_bl, pl_bd, pl_bd2, pl_bd3, pl_bd4, pl_bcT, pl_bcF, gd_t, pl_bcTrue, pl_bcFalse, pl_gdTrue, pl_in, pl_eq, pl_lt, pl_le, pl_ix, nI_add, pk_mul, pl_m1, w1, c]
            · simp (disch := omega) only [f_X12_stand_b33, f_X12_stand_j62, f_X12_stand_j77, pl_lit, pl_bl, pl_bd, pl_bd2, pl_bd3, pl_bd4, pl_bcT, pl_bcF, gd_t, pl_bcTrue, pl_bcFalse, pl_gdTrue, pl_in, pl_eq, pl_lt, pl_le, pl_ix, nI_add, pk_mul, pl_m1, w2, c]) (fun s1 s2' r => by
          obtain ⟨pl, nv2, f, rfl, rfl, k3⟩ := r
          refine ⟨(pl, nv2), (nv2.1 1, pl, setA mo 7 f), ?_, ?_, pl, nv2, f, rfl, rfl, k3⟩
          · simp (disch := omega) only [f_X3_bestPlace_b22, pl_lit, pl_bl, pl_bd, pl_bd2, pl_bd3, pl_bd4, pl_bcT, pl_bcF, gd_t, pl_bcTrue, pl_bcFalse, pl_gdTrue, pl_in, pl_eq, pl_lt, pl_le, pl_ix, nI_add, pk_mul, pl_m1]
          · simp (disch := omega) only [f_X12_stand_b33, pl_lit, pl_bl, pl_bd, pl_bd2, pl_bd3, pl_bd4, pl_bcT, pl_bcF, gd_t, pl_bcTrue, pl_bcFalse, pl_gdTrue, pl_in, pl_eq, pl_lt, pl_le, pl_ix, nI_add, pk_mul, pl_m1]) 100 0 (nI 0, nI 0, setS nv1 1 m1) (nI 0, m1, nI 0, mo) n n (by omega) ⟨nI 0, setS nv1 1 m1, mo.2.1 7, rfl, by rw [sA_id]; rfl, rfl⟩ (by omega) (by omega)
      subst k1
      subst k2
      have g1' : f_X3_bestPlace_l22 n n (setS nv1 1 m1) h0 (nI (signsN (a (24 + m)) (a 23) - a (11 + m))) (nI m) (nI 0) (nI 0) = some (pl, nv2) := g1
      have g2' : f_X12_stand_l33 n n mo (nI m) (nI w) (nI 0) m1 (nI 0) = some (nv2.1 1, pl, setA mo 7 f) := g2
      have bp : f_X3_bestPlace n nv h0 (nI m) = some (pl, nv2) := by
        simp (disch := omega) only [f_X3_bestPlace, s1, cL, pl_lit, pl_bl, pl_bd, pl_bd2, pl_bd3, pl_bd4, pl_bcT, pl_bcF, gd_t, pl_bcTrue, pl_bcFalse, pl_gdTrue, pl_in, pl_eq, pl_lt, pl_le, pl_ix, nI_add, pk_mul, pl_m1, g1']
      have tw : w = 0 ∨ w = 1 := by omega
      rcases tw with rfl | rfl
      · refine ⟨pl, xo, nv2, setA mo 7 f, ?_, ?_, hI0⟩
        · simp (disch := omega) only [f_X11_stand, f_X11_stand_j50, p1, q1, bp, pl_lit, pl_bl, pl_bd, pl_bd2, pl_bd3, pl_bd4, pl_bcT, pl_bcF, gd_t, pl_bcTrue, pl_bcFalse, pl_gdTrue, pl_in, pl_eq, pl_lt, pl_le, pl_ix, nI_add, pk_mul, pl_m1]
        · rw [nI_l (by omega)] at q2
          simp (disch := omega) only [f_X12_stand, f_X12_stand_j95, p2, q2, pl_litL, nI_l, g2', pl_lit, pl_bl, pl_bd, pl_bd2, pl_bd3, pl_bd4, pl_bcT, pl_bcF, gd_t, pl_bcTrue, pl_bcFalse, pl_gdTrue, pl_in, pl_eq, pl_lt, pl_le, pl_ix, nI_add, pk_mul, pl_m1]
      · refine ⟨nv2.1 1, xo, nv2, setA mo 7 f, ?_, ?_, hI0⟩
        · simp (disch := omega) only [f_X11_stand, f_X11_stand_j50, p1, q1, bp, pl_lit, pl_bl, pl_bd, pl_bd2, pl_bd3, pl_bd4, pl_bcT, pl_bcF, gd_t, pl_bcTrue, pl_bcFalse, pl_gdTrue, pl_in, pl_eq, pl_lt, pl_le, pl_ix, nI_add, pk_mul, pl_m1]
        · rw [nI_l (by omega)] at q2
          simp (disch := omega) only [f_X12_stand, f_X12_stand_j95, p2, q2, pl_litL, nI_l, g2', pl_lit, pl_bl, pl_bd, pl_bd2, pl_bd3, pl_bd4, pl_bcT, pl_bcF, gd_t, pl_bcTrue, pl_bcFalse, pl_gdTrue, pl_in, pl_eq, pl_lt, pl_le, pl_ix, nI_add, pk_mul, pl_m1]
    · rw [bI_nin c] at q1 q2
      refine ⟨-2, badX xo, nv, refM mo 0, ?_, ?_, hI0.bad⟩
      · simp (disch := omega) only [f_X11_stand, f_X11_stand_j17, p1, q1, pl_lit, pl_bl, pl_bd, pl_bd2, pl_bd3, pl_bd4, pl_bcT, pl_bcF, gd_t, pl_bcTrue, pl_bcFalse, pl_gdTrue, pl_in, pl_eq, pl_lt, pl_le, pl_ix, nI_add, pk_mul, pl_m1, X11_bad]
      · simp (disch := omega) only [f_X12_stand, f_X12_stand_j18, pl_litL, p2, q2, pl_lit, pl_bl, pl_bd, pl_bd2, pl_bd3, pl_bd4, pl_bcT, pl_bcF, gd_t, pl_bcTrue, pl_bcFalse, pl_gdTrue, pl_in, pl_eq, pl_lt, pl_le, pl_ix, nI_add, pk_mul, pl_m1, X12_bad]
  · rw [bI_nin c] at p1 p2
    refine ⟨-2, badX xo, nv, refM mo 0, ?_, ?_, hI0.bad⟩
    · simp (disch := omega) only [f_X11_stand, f_X11_stand_j17, p1, pl_lit, pl_bl, pl_bd, pl_bd2, pl_bd3, pl_bd4, pl_bcT, pl_bcF, gd_t, pl_bcTrue, pl_bcFalse, pl_gdTrue, pl_in, pl_eq, pl_lt, pl_le, pl_ix, nI_add, pk_mul, pl_m1, X11_bad]
    · simp (disch := omega) only [f_X12_stand, f_X12_stand_j18, p2, pl_lit, pl_bl, pl_bd, pl_bd2, pl_bd3, pl_bd4, pl_bcT, pl_bcF, gd_t, pl_bcTrue, pl_bcFalse, pl_gdTrue, pl_in, pl_eq, pl_lt, pl_le, pl_ix, nI_add, pk_mul, pl_m1, X12_bad]
