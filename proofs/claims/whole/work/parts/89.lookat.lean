/-! read: the model's tokens, words on both sides -/
section LKA
variable {n : Nat} {rv mo : MV} {B : Nat → Nat} {T s e j : Nat} {p : Nat → Bool}
def byM (mo : MV) (B : Nat → Nat) (T : Nat) : Prop := mo.1 0 = nI T ∧ ∀ i, i < T → mo.2.1 11 i = nI (B i)
theorem X12_skip (hn : 200 ≤ n) (hT : T ≤ 150) (hB : ∀ i, i < T → B i < 128) (h0 : byM mo B T) (he : e ≤ T) (h2 : mo.1 1 = nI e) : ∃ mo', f_X12_lookAt_l5 n n mo = some mo' ∧ mo'.1 0 = nI T ∧ mo'.1 1 = nI (skp B (T - e) e) ∧ mo'.2 = mo.2 := by
  obtain ⟨r, g1, g2⟩ := lp_inv (body := fun q => f_X12_lookAt_b5 n q) (fun k st => ∃ j, j ≤ T ∧ k = T - j ∧ st.1 0 = nI T ∧ st.1 1 = nI j ∧ st.2 = mo.2 ∧ skp B (T - j) j = skp B (T - e) e) (fun r => r.1 0 = nI T ∧ r.1 1 = nI (skp B (T - e) e) ∧ r.2 = mo.2) (by
    rintro k st ⟨j, hj, rfl, e0, e2, er, es⟩
    by_cases c : j < T
    · have hb : st.2.1 11 j = nI (B j) := by rw [er]; exact h0.2 j c
      have bl' := hB j c
      by_cases d : B j = 32
      · refine Or.inl ⟨setS st 1 (nI (j + 1)), T - (j + 1), ?_, by omega, j + 1, by omega, rfl, e0, rfl, er, by rw [← skp_T c d]; exact es⟩
        simp (disch := omega) only [f_X12_lookAt_b5, e0, e2, pl_lit, pl_bl, pl_bd, pl_bd2, pl_bd3, pl_bd4, pl_bcT, pl_bcF, gd_t, pl_bcTrue, pl_bcFalse, pl_gdTrue, pl_in, pl_eq, pl_lt, pl_le, pl_ix, nI_add, pk_mul, pl_m1, hb, d]
      · refine Or.inr ⟨st, ?_, e0, by rw [← es, skp_F c d]; exact e2, er⟩
        simp (disch := omega) only [f_X12_lookAt_b5, e0, e2, pl_lit, pl_bl, pl_bd, pl_bd2, pl_bd3, pl_bd4, pl_bcT, pl_bcF, gd_t, pl_bcTrue, pl_bcFalse, pl_gdTrue, pl_in, pl_eq, pl_lt, pl_le, pl_ix, nI_add, pk_mul, pl_m1, hb, d]
    · refine Or.inr ⟨st, ?_, e0, by rw [← es, skp_0 (by omega)]; exact e2, er⟩
      simp (disch := omega) only [f_X12_lookAt_b5, e0, e2, pl_lit, pl_bl, pl_bd, pl_bd2, pl_bd3, pl_bd4, pl_bcT, pl_bcF, gd_t, pl_bcTrue, pl_bcFalse, pl_gdTrue, pl_in, pl_eq, pl_lt, pl_le, pl_ix, nI_add, pk_mul, pl_m1]) n (T - e) mo ⟨e, he, rfl, h0.1, h2, rfl, rfl⟩ (by omega)
  exact ⟨r, g1, g2⟩
theorem in_K {x y b : Nat} (hb : b < 1000000) (hx : x < 1000000) (hy : y < 1000000) : f_X12_in n (lN b) (lN x) (lN y) = some (bI (x ≤ b ∧ b ≤ y)) := by
  have h := X12_in (n := n) (v := nI b) (x := nI x) (y := nI y)
  rw [nI_l (by omega), nI_l (by omega), nI_l (by omega)] at h
  rw [h]
  refine congrArg some (bI_congr ?_)
  rw [nI_leI (by omega) (by omega), nI_leI (by omega) (by omega)]
theorem X12_isSmall (hB : B j < 128) : f_X12_isSmall n (nI (B j)) = some (bI (lowB B j = true)) := by
  have h := in_K (n := n) (x := 97) (y := 122) (b := B j) (by omega) (by omega) (by omega)
  simp (disch := omega) only [f_X12_isSmall, nI_l, pl_litL, h, pl_bd, pl_lit, bI_01n, pl_gdTrue]
  exact congrArg some (bI_congr ⟨fun z => decide_eq_true z, fun z => of_decide_eq_true z⟩)
theorem X12_isFigure (hB : B j < 128) : f_X12_isFigure n (nI (B j)) = some (bI (figB B j = true)) := by
  have h := in_K (n := n) (x := 48) (y := 57) (b := B j) (by omega) (by omega) (by omega)
  simp (disch := omega) only [f_X12_isFigure, nI_l, pl_litL, h, pl_bd, pl_lit, bI_01n, pl_gdTrue]
  exact congrArg some (bI_congr ⟨fun z => decide_eq_true z, fun z => of_decide_eq_true z⟩)
theorem X12_goes {tk : Nat} (htk : tk = 1 ∧ p = lowB B ∨ tk = 2 ∧ p = figB B) (hn : 200 ≤ n) (hT : T ≤ 150) (hB : ∀ i, i < T → B i < 128) (h0 : byM mo B T) (hs : s < T) (h1 : mo.1 1 = nI s) (h2 : mo.1 2 = nI 1) (h3 : mo.1 3 = nI tk) (hp : p s = true) : ∃ mo', f_X12_lookAt_l136 n n mo (nI 1) = some mo' ∧ mo'.1 0 = nI T ∧ mo'.1 1 = nI s ∧ mo'.1 2 = nI (rnl p (T - s) s) ∧ mo'.1 3 = nI tk ∧ mo'.1 4 = mo.1 4 ∧ mo'.2 = mo.2 := by
  obtain ⟨r, g1, g2⟩ := lp_inv (body := fun q => f_X12_lookAt_b136 n q.2 q.1) (fun k st => ∃ (g : Prop) (x : Nat) (mo' : MV), st = (bI g, mo') ∧ mo'.1 0 = nI T ∧ mo'.1 1 = nI s ∧ mo'.1 2 = nI x ∧ mo'.1 3 = nI tk ∧ mo'.1 4 = mo.1 4 ∧ mo'.2 = mo.2 ∧ s + x ≤ T ∧ k = T - (s + x) + iI g 1 ∧ (g → x + rnl p (T - (s + x)) (s + x) = rnl p (T - s) s) ∧ (¬ g → x = rnl p (T - s) s)) (fun r => r.1 0 = nI T ∧ r.1 1 = nI s ∧ r.1 2 = nI (rnl p (T - s) s) ∧ r.1 3 = nI tk ∧ r.1 4 = mo.1 4 ∧ r.2 = mo.2) (by
    rintro k st ⟨g, x, mo', rfl, e0, e1, e2, e3, e4, er, hx, rfl, q1, q2⟩
    by_cases cg : g
    · have q1 := q1 cg
      by_cases c : s + x < T
      · have hb : mo'.2.1 11 (s + x) = nI (B (s + x)) := by rw [er]; exact h0.2 _ c
        have hb' := hB _ c
        have key : f_X12_lookAt_b136 n mo' (nI 1) = f_X12_lookAt_j193 n mo' (bI (p (s + x) = true)) := by
          rcases htk with ⟨rfl, rfl⟩ | ⟨rfl, rfl⟩
          · have iS := X12_isSmall (n := n) (B := B) (j := s + x) hb'
            simp (disch := omega) only [f_X12_lookAt_b136, e0, e1, e2, e3, pl_lit, pl_bl, pl_bd, pl_bd2, pl_bd3, pl_bd4, pl_bcT, pl_bcF, gd_t, pl_bcTrue, pl_bcFalse, pl_gdTrue, pl_in, pl_eq, pl_lt, pl_le, pl_ix, nI_add, pk_mul, pl_m1, hb, iS]
          · have iS := X12_isFigure (n := n) (B := B) (j := s + x) hb'
            simp (disch := omega) only [f_X12_lookAt_b136, e0, e1, e2, e3, pl_lit, pl_bl, pl_bd, pl_bd2, pl_bd3, pl_bd4, pl_bcT, pl_bcF, gd_t, pl_bcTrue, pl_bcFalse, pl_gdTrue, pl_in, pl_eq, pl_lt, pl_le, pl_ix, nI_add, pk_mul, pl_m1, hb, iS]
        by_cases d : p (s + x) = true
        · rw [rnl_T c d] at q1
          refine Or.inl ⟨(nI 1, setS mo' 2 (nI (x + 1))), T - (s + (x + 1)) + iI True 1, ?_, ?_, True, x + 1, setS mo' 2 (nI (x + 1)), by rw [bI_Tn trivial], e0, e1, rfl, e3, e4, er, by omega, rfl, fun _ => ?_, fun z => absurd trivial z⟩
          · show f_X12_lookAt_b136 n mo' (bI g) = _
            rw [bI_Tn cg, key, bI_Tn d]
            simp (disch := omega) only [f_X12_lookAt_j193, f_X12_lookAt_j208, pl_lit, pl_bl, pl_bd, pl_bd2, pl_bd3, pl_bd4, pl_bcT, pl_bcF, gd_t, pl_bcTrue, pl_bcFalse, pl_gdTrue, pl_in, pl_eq, pl_lt, pl_le, pl_ix, nI_add, pk_mul, pl_m1, e2]
          · rw [iI_T cg, iI_T trivial]
            omega
          · rw [show s + (x + 1) = s + x + 1 by omega]
            omega
        · rw [rnl_F c d] at q1
          refine Or.inl ⟨(nI 0, setS mo' 2 (nI x)), T - (s + x) + iI False 1, ?_, ?_, False, x, setS mo' 2 (nI x), by rw [bI_Fn id], e0, e1, rfl, e3, e4, er, by omega, rfl, fun z => absurd z id, fun _ => by omega⟩
          · show f_X12_lookAt_b136 n mo' (bI g) = _
            rw [bI_Tn cg, key, bI_Fn d]
            simp (disch := omega) only [f_X12_lookAt_j193, f_X12_lookAt_j208, pl_lit, pl_bl, pl_bd, pl_bd2, pl_bd3, pl_bd4, pl_bcT, pl_bcF, gd_t, pl_bcTrue, pl_bcFalse, pl_gdTrue, pl_in, pl_eq, pl_lt, pl_le, pl_ix, nI_add, pk_mul, pl_m1, e2, Nat.add_zero]
          · rw [iI_T cg, iI_F id]
            omega
      · rw [rnl_0 (by omega)] at q1
        refine Or.inr ⟨mo', ?_, e0, e1, by rw [e2, ← q1, Nat.add_zero], e3, e4, er⟩
        show f_X12_lookAt_b136 n mo' (bI g) = _
        rw [bI_Tn cg]
        simp (disch := omega) only [f_X12_lookAt_b136, e0, e1, e2, pl_lit, pl_bl, pl_bd, pl_bd2, pl_bd3, pl_bd4, pl_bcT, pl_bcF, gd_t, pl_bcTrue, pl_bcFalse, pl_gdTrue, pl_in, pl_eq, pl_lt, pl_le, pl_ix, nI_add, pk_mul, pl_m1]
    · have q2 := q2 cg
      refine Or.inr ⟨mo', ?_, e0, e1, by rw [e2, ← q2], e3, e4, er⟩
      show f_X12_lookAt_b136 n mo' (bI g) = _
      rw [bI_Fn cg]
      simp (disch := omega) only [f_X12_lookAt_b136, pl_lit, pl_bl, pl_bd, pl_bd2, pl_bd3, pl_bd4, pl_bcT, pl_bcF, gd_t, pl_bcTrue, pl_bcFalse, pl_gdTrue, pl_in, pl_eq, pl_lt, pl_le, pl_ix, nI_add, pk_mul, pl_m1]) n (T - (s + 1) + iI True 1) (nI 1, mo) ⟨True, 1, mo, by rw [bI_Tn trivial], h0.1, h1, h2, h3, rfl, rfl, by omega, rfl, fun _ => by rw [rnl_T hs hp]; omega, fun z => absurd trivial z⟩ (by rw [iI_T trivial]; omega)
  exact ⟨r, g1, g2⟩
theorem X12_value {L : Nat} (hn : 200 ≤ n) (hT : T ≤ 150) (hB : ∀ i, i < T → B i < 128) (h0 : byM mo B T) (hs : s + L ≤ T) (hf : ∀ k, k < L → k < 2 → figB B (s + k) = true) (h1 : mo.1 1 = nI s) (h2 : mo.1 2 = nI L) (h3 : mo.1 3 = nI 2) (h4 : mo.1 4 = nI 0) : ∃ mo', f_X12_lookAt_l218 n n mo (nI 0) = some mo' ∧ mo'.1 0 = nI T ∧ mo'.1 1 = nI s ∧ mo'.1 2 = nI L ∧ mo'.1 3 = nI 2 ∧ mo'.1 4 = nI (vN B s (min 2 L)) ∧ mo'.2 = mo.2 := by
  obtain ⟨r, g1, g2⟩ := lp_inv (body := fun q => f_X12_lookAt_b218 n q.2 q.1) (fun k st => ∃ (i : Nat) (mo' : MV), i ≤ min 2 L ∧ k = min 2 L - i ∧ st = (nI i, mo') ∧ mo'.1 0 = nI T ∧ mo'.1 1 = nI s ∧ mo'.1 2 = nI L ∧ mo'.1 3 = nI 2 ∧ mo'.1 4 = nI (vN B s i) ∧ mo'.2 = mo.2) (fun r => r.1 0 = nI T ∧ r.1 1 = nI s ∧ r.1 2 = nI L ∧ r.1 3 = nI 2 ∧ r.1 4 = nI (vN B s (min 2 L)) ∧ r.2 = mo.2) (by
    rintro k st ⟨i, mo', hi, rfl, rfl, e0, e1, e2, e3, e4, er⟩
    by_cases c : i < L
    · by_cases d : i < 2
      · have hb : mo'.2.1 11 (s + i) = nI (B (s + i)) := by rw [er]; exact h0.2 _ (by omega)
        have hb' := hB (s + i) (by omega)
        have vs := vN_s (B := B) (s := s) d (fig_48 (hf i c d)).1
        refine Or.inl ⟨(nI (i + 1), setS mo' 4 (nI (vN B s (i + 1)))), min 2 L - (i + 1), ?_, by omega, i + 1, _, by omega, rfl, rfl, e0, e1, e2, e3, rfl, er⟩
        simp (disch := omega) only [f_X12_lookAt_b218, e0, e1, e2, e3, e4, pl_lit, pl_bl, pl_bd, pl_bd2, pl_bd3, pl_bd4, pl_bcT, pl_bcF, gd_t, pl_bcTrue, pl_bcFalse, pl_gdTrue, pl_in, pl_eq, pl_lt, pl_le, pl_ix, nI_add, pk_mul, pl_m1, hb, vs]
      · refine Or.inr ⟨mo', ?_, e0, e1, e2, e3, by rw [e4, show min 2 L = i by omega], er⟩
        simp (disch := omega) only [f_X12_lookAt_b218, e2, pl_lit, pl_bl, pl_bd, pl_bd2, pl_bd3, pl_bd4, pl_bcT, pl_bcF, gd_t, pl_bcTrue, pl_bcFalse, pl_gdTrue, pl_in, pl_eq, pl_lt, pl_le, pl_ix, nI_add, pk_mul, pl_m1]
    · refine Or.inr ⟨mo', ?_, e0, e1, e2, e3, by rw [e4, show min 2 L = i by omega], er⟩
      simp (disch := omega) only [f_X12_lookAt_b218, e2, pl_lit, pl_bl, pl_bd, pl_bd2, pl_bd3, pl_bd4, pl_bcT, pl_bcF, gd_t, pl_bcTrue, pl_bcFalse, pl_gdTrue, pl_in, pl_eq, pl_lt, pl_le, pl_ix, nI_add, pk_mul, pl_m1]) n (min 2 L) (nI 0, mo) ⟨0, mo, by omega, by omega, rfl, h0.1, h1, h2, h3, h4, rfl⟩ (by omega)
  exact ⟨r, g1, g2⟩
def MTK (mo : MV) (B : Nat → Nat) (T s : Nat) : Prop := byM mo B T ∧ mo.1 3 = nI (tS B T s) ∧ mo.1 1 = nI s ∧ mo.1 2 = nI (tL B T s) ∧ (tS B T s = 2 → mo.1 4 = nI (tV B T s))
theorem rnl_two {k : Nat} (hs : s < T) (hk : k < rnl p (T - s) s) (h2 : k < 2) : p (s + k) = true := by
  have c0 : p s = true := by
    by_cases c : p s = true
    · exact c
    · rw [rnl_F hs c] at hk; omega
  have : k = 0 ∨ k = 1 := by omega
  rcases this with rfl | rfl
  · exact c0
  · rw [rnl_T hs c0] at hk
    by_cases c : p (s + 1) = true
    · exact c
    · by_cases d : s + 1 < T
      · rw [rnl_F d c] at hk; omega
      · rw [rnl_0 (by omega)] at hk; omega
theorem X12_lookAt (hn : 200 ≤ n) (hT : T ≤ 150) (hB : ∀ i, i < T → B i < 128) (h0 : byM mo B T) (he : e ≤ T) : ∃ mo', f_X12_lookAt n mo (nI e) = some mo' ∧ MTK mo' B T (skp B (T - e) e) ∧ mo'.2 = mo.2 := by
  obtain ⟨r, g1, g2, g3, g4⟩ := X12_skip (n := n) (mo := setS mo 1 (nI e)) hn hT hB h0 he rfl
  have sl := skp_le (B := B) (T - e) e
  generalize hs : skp B (T - e) e = s at g3 sl
  have hby : byM (setS (setS (setS r 2 (nI 0)) 3 (nI 0)) 4 (nI 0)) B T := ⟨g2, by show ∀ i, i < T → r.2.1 11 i = _; rw [g4]; exact h0.2⟩
  have E : f_X12_lookAt n mo (nI e) = f_X12_lookAt_j43 n r := by
    simp (disch := omega) only [f_X12_lookAt, pl_lit, pl_bl, pl_bd, pl_bd2, pl_bd3, pl_bd4, pl_bcT, pl_bcF, gd_t, pl_bcTrue, pl_bcFalse, pl_gdTrue, pl_in, pl_eq, pl_lt, pl_le, pl_ix, nI_add, pk_mul, pl_m1, g1]
  rw [E]
  have er : (setS (setS (setS r 2 (nI 0)) 3 (nI 0)) 4 (nI 0)).2 = mo.2 := g4
  generalize hR : setS (setS (setS r 2 (nI 0)) 3 (nI 0)) 4 (nI 0) = R at hby er
  have r1 : R.1 1 = nI s := by rw [← hR]; exact g3
  have r4 : R.1 4 = nI 0 := by rw [← hR]; rfl
  have r3 : R.1 3 = nI 0 := by rw [← hR]; rfl
  have r2 : R.1 2 = nI 0 := by rw [← hR]; rfl
  by_cases c : T ≤ s
  · have : s = T := by omega
    subst this
    have ts : tS B s s = 0 := by unfold tS; rw [if_pos c]
    have tl : tL B s s = 0 := by unfold tL; rw [if_pos c]
    refine ⟨R, ?_, ⟨hby, by rw [ts]; exact r3, r1, by rw [tl]; exact r2, fun z => by omega⟩, er⟩
    simp (disch := omega) only [f_X12_lookAt_j43, pl_lit, pl_bl, pl_bd, pl_bd2, pl_bd3, pl_bd4, pl_bcT, pl_bcF, gd_t, pl_bcTrue, pl_bcFalse, pl_gdTrue, pl_in, pl_eq, pl_lt, pl_le, pl_ix, nI_add, pk_mul, pl_m1, hR, r1, hby.1]
  · have c' : s < T := by omega
    have hb := hby.2 s c'
    have hb' := hB s c'
    have iS := X12_isSmall (n := n) (B := B) (j := s) hb'
    have iF := X12_isFigure (n := n) (B := B) (j := s) hb'
    by_cases d : lowB B s = true
    · rw [bI_T d] at iS
      have ts : tS B T s = 1 := by unfold tS; rw [if_neg c, if_pos d]
      have tl : tL B T s = rnl (lowB B) (T - s) s := by unfold tL; rw [if_neg c, if_pos d]
      have tp := tL_pos (B := B) c'
      obtain ⟨R2, k1, k2, k3, k4, k5, k6, k7⟩ := X12_goes (n := n) (mo := setS (setS R 3 (nI 1)) 2 (nI 1)) (tk := 1) (p := lowB B) (Or.inl ⟨rfl, rfl⟩) hn hT hB hby c' r1 rfl rfl d
      rw [← tl] at k4
      have v : f_X12_lookAt_l218 n n R2 (nI 0) = some R2 := by
        refine lp_end (by omega) ?_
        have tle := tL_le (B := B) (show s ≤ T by omega)
        simp (disch := omega) only [f_X12_lookAt_b218, k4, k5, pl_lit, pl_bl, pl_bd, pl_bd2, pl_bd3, pl_bd4, pl_bcT, pl_bcF, gd_t, pl_bcTrue, pl_bcFalse, pl_gdTrue, pl_in, pl_eq, pl_lt, pl_le, pl_ix, nI_add, pk_mul, pl_m1]
      refine ⟨setS R2 3 (nI 1), ?_, ⟨⟨k2, by show ∀ i, i < T → R2.2.1 11 i = _; rw [k7]; exact hby.2⟩, by rw [ts]; rfl, k3, k4, fun z => by omega⟩, k7.trans er⟩
      simp (disch := omega) only [f_X12_lookAt_j43, f_X12_lookAt_j114, f_X12_lookAt_j135, f_X12_lookAt_j215, f_X12_lookAt_j274, f_X12_lookAt_j295, f_X12_lookAt_j299, pl_lit, pl_bl, pl_bd, pl_bd2, pl_bd3, pl_bd4, pl_bcT, pl_bcF, gd_t, pl_bcTrue, pl_bcFalse, pl_gdTrue, pl_in, pl_eq, pl_lt, pl_le, pl_ix, nI_add, pk_mul, pl_m1, hR, g2, g3, r1, hby.1, hb, iS, sS_s, sS_n, k1, v, k5]
    · rw [bI_F d] at iS
      by_cases f : figB B s = true
      · rw [bI_T f] at iF
        have tl : tL B T s = rnl (figB B) (T - s) s := by unfold tL; rw [if_neg c, if_neg d, if_pos f]
        have tle := tL_le (B := B) (show s ≤ T by omega)
        obtain ⟨R2, k1, k2, k3, k4, k5, k6, k7⟩ := X12_goes (n := n) (mo := setS (setS R 3 (nI 2)) 2 (nI 1)) (tk := 2) (p := figB B) (Or.inr ⟨rfl, rfl⟩) hn hT hB hby c' r1 rfl rfl f
        have hby2 : byM R2 B T := ⟨k2, by rw [k7]; exact hby.2⟩
        obtain ⟨R3, m1', m2', m3', m4', m5', m6', m7'⟩ := X12_value (n := n) (mo := R2) (L := rnl (figB B) (T - s) s) (s := s) hn hT hB hby2 (by omega) (fun k h1 h2 => rnl_two c' h1 h2) k3 k4 k5 (by rw [k6]; exact r4)
        have hby3 : byM R3 B T := ⟨m2', by rw [m7']; exact hby2.2⟩
        rw [← tl] at m4'
        by_cases q : rnl (figB B) (T - s) s ≤ 2
        · have ts : tS B T s = 2 := by unfold tS; rw [if_neg c, if_neg d, if_pos f, if_pos q]
          refine ⟨setS R3 3 (nI 2), ?_, ⟨hby3, by rw [ts]; rfl, m3', m4', fun _ => m6'⟩, m7'.trans (k7.trans er)⟩
          simp (disch := omega) only [f_X12_lookAt_j43, f_X12_lookAt_j114, f_X12_lookAt_j135, f_X12_lookAt_j215, f_X12_lookAt_j274, f_X12_lookAt_j295, f_X12_lookAt_j299, pl_lit, pl_bl, pl_bd, pl_bd2, pl_bd3, pl_bd4, pl_bcT, pl_bcF, gd_t, pl_bcTrue, pl_bcFalse, pl_gdTrue, pl_in, pl_eq, pl_lt, pl_le, pl_ix, nI_add, pk_mul, pl_m1, hR, g2, g3, r1, hby.1, hb, iS, iF, sS_s, sS_n, k1, m1', m5', m4']
        · have ts : tS B T s = 4 := by unfold tS; rw [if_neg c, if_neg d, if_pos f, if_neg q]
          refine ⟨setS R3 3 (nI 4), ?_, ⟨hby3, by rw [ts]; rfl, m3', m4', fun z => by omega⟩, m7'.trans (k7.trans er)⟩
          simp (disch := omega) only [f_X12_lookAt_j43, f_X12_lookAt_j114, f_X12_lookAt_j135, f_X12_lookAt_j215, f_X12_lookAt_j274, f_X12_lookAt_j295, f_X12_lookAt_j299, pl_lit, pl_bl, pl_bd, pl_bd2, pl_bd3, pl_bd4, pl_bcT, pl_bcF, gd_t, pl_bcTrue, pl_bcFalse, pl_gdTrue, pl_in, pl_eq, pl_lt, pl_le, pl_ix, nI_add, pk_mul, pl_m1, hR, g2, g3, r1, hby.1, hb, iS, iF, sS_s, sS_n, k1, m1', m5', m4']
      · rw [bI_F f] at iF
        have tl : tL B T s = 1 := by unfold tL; rw [if_neg c, if_neg d, if_neg f]
        have fin : ∀ k, 3 ≤ k → k ≤ 4 → tS B T s = k → ∃ mo', f_X12_lookAt_j114 n R (nI k) = some mo' ∧ MTK mo' B T s ∧ mo'.2 = mo.2 := fun k h3 h4 ts => by
          have g : f_X12_lookAt_l136 n n (setS (setS R 3 (nI k)) 2 (nI 1)) (nI 0) = some (setS (setS R 3 (nI k)) 2 (nI 1)) := by
            refine lp_end (by omega) ?_
            simp (disch := omega) only [f_X12_lookAt_b136, pl_lit, pl_bl, pl_bd, pl_bd2, pl_bd3, pl_bd4, pl_bcT, pl_bcF, gd_t, pl_bcTrue, pl_bcFalse, pl_gdTrue, pl_in, pl_eq, pl_lt, pl_le, pl_ix, nI_add, pk_mul, pl_m1]
          have v : f_X12_lookAt_l218 n n (setS (setS R 3 (nI k)) 2 (nI 1)) (nI 0) = some (setS (setS R 3 (nI k)) 2 (nI 1)) := by
            refine lp_end (by omega) ?_
            simp (disch := omega) only [f_X12_lookAt_b218, sS_s, sS_n, pl_lit, pl_bl, pl_bd, pl_bd2, pl_bd3, pl_bd4, pl_bcT, pl_bcF, gd_t, pl_bcTrue, pl_bcFalse, pl_gdTrue, pl_in, pl_eq, pl_lt, pl_le, pl_ix, nI_add, pk_mul, pl_m1]
          refine ⟨setS (setS (setS R 3 (nI k)) 2 (nI 1)) 3 (nI k), ?_, ⟨hby, by rw [ts]; rfl, r1, by rw [tl]; rfl, fun z => by omega⟩, er⟩
          simp (disch := omega) only [f_X12_lookAt_j114, f_X12_lookAt_j135, f_X12_lookAt_j215, f_X12_lookAt_j274, f_X12_lookAt_j295, f_X12_lookAt_j299, pl_lit, pl_bl, pl_bd, pl_bd2, pl_bd3, pl_bd4, pl_bcT, pl_bcF, gd_t, pl_bcTrue, pl_bcFalse, pl_gdTrue, pl_in, pl_eq, pl_lt, pl_le, pl_ix, nI_add, pk_mul, pl_m1, sS_s, sS_n, g, v]
        by_cases q : B s = 59
        · obtain ⟨mo', z1, z2⟩ := fin 3 (by omega) (by omega) (by unfold tS; rw [if_neg c, if_neg d, if_neg f, if_pos q])
          refine ⟨mo', ?_, z2⟩
          rw [← z1]
          rw [q] at iS iF hb
          simp (disch := omega) only [f_X12_lookAt_j43, pl_lit, pl_bl, pl_bd, pl_bd2, pl_bd3, pl_bd4, pl_bcT, pl_bcF, gd_t, pl_bcTrue, pl_bcFalse, pl_gdTrue, pl_in, pl_eq, pl_lt, pl_le, pl_ix, nI_add, pk_mul, pl_m1, hR, g2, g3, r1, hby.1, hb, iS, iF]
        · obtain ⟨mo', z1, z2⟩ := fin 4 (by omega) (by omega) (by unfold tS; rw [if_neg c, if_neg d, if_neg f, if_neg q])
          refine ⟨mo', ?_, z2⟩
          rw [← z1]
          simp (disch := omega) only [f_X12_lookAt_j43, pl_lit, pl_bl, pl_bd, pl_bd2, pl_bd3, pl_bd4, pl_bcT, pl_bcF, gd_t, pl_bcTrue, pl_bcFalse, pl_gdTrue, pl_in, pl_eq, pl_lt, pl_le, pl_ix, nI_add, pk_mul, pl_m1, hR, g2, g3, r1, hby.1, hb, iS, iF, q]
end LKA
