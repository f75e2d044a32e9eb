/-! all, fewest: the class -/
def mI : Nat → Int32
  | 0 => m1
  | k + 1 => nI k
theorem mI_toInt {M : Nat} (h : M < 1000000) : (mI M).toInt = (M : Int) - 1 := by
  cases M with
  | zero => rfl
  | succ k =>
    show (nI k).toInt = _
    rw [nI_toInt (by omega)]
    omega
theorem mI_lt {M x : Nat} (h : M < 1000000) (hx : x < 1000000) : (mI M < nI x) = (M < x + 1) := by
  apply propext
  rw [Int32.lt_iff_toInt_lt, mI_toInt h, nI_toInt (by omega)]
  omega
theorem mI_le {M x : Nat} (h : M < 1000000) (hx : x < 1000000) : (mI x ≤ mI M) = (x ≤ M) := by
  apply propext
  rw [Int32.le_iff_toInt_le, mI_toInt h, mI_toInt hx]
  omega
theorem nI_m1 {l : Nat} : nI l + m1 = mI l := by
  cases l with
  | zero => rfl
  | succ k => exact pm1
theorem nI_p1 {l : Nat} : nI l - nI 1 = mI l := by
  cases l with
  | zero => rfl
  | succ k => exact pq1
theorem narB {c : Prop} : vp_nar .boolean (bI c) = bI c := by
  by_cases h : c
  · rw [bI_T h]; rfl
  · rw [bI_F h]; rfl
def liA (a : Nat → Nat) (l : Nat) : Prop := a (5 + l) = 6
def qA (a : Nat → Nat) (A : Nat → Prop) (l m : Nat) : Prop := m < a 0 ∧ mayN a l m ∧ A m
noncomputable def CA (a : Nat → Nat) (m : Nat) : Nat := if m < a 0 then signsN (a (24 + m)) (a 23) - a (11 + m) else 0
noncomputable def prA (a : Nat → Nat) (A : Nat → Prop) (l : Nat) : Nat := iI (∃ m, m < 6 ∧ qA a A l m) (postN a l)
theorem CA_le {a : Nat → Nat} {m : Nat} : CA a m ≤ 13 := by
  have := signsN_le (a (24 + m)) (a 23)
  unfold CA
  split <;> omega
def NV (a : Nat → Nat) (A : Nat → Prop) (nv : MV) (l : Nat) (c w : Nat → Nat) (σ : ST) : Prop :=
  nv.1 0 = nI (a 1) ∧ nv.1 1 = mI σ.1 ∧ σ.1 ≤ 1000 ∧
  (∀ i, i < a 1 → nv.2.1 0 i = nI (bs (qA a A i)) ∧ nv.2.1 1 i = nI (prA a A i) ∧ nv.2.1 2 i = bI (liA a i)) ∧
  (∀ m, m < 5 → nv.2.1 3 m = nI (c m) ∧ c m ≤ 13) ∧
  (∀ i, i < l → nv.2.1 4 i = nI (w i)) ∧
  (0 < σ.1 → ∀ i, i < a 1 → nv.2.1 5 i = nI (σ.2 i))
section PLC
variable {n : Nat} {h nv : MV} {t : Nat → Int32} {a : Nat → Nat} {A : Nat → Prop} {l m v : Nat} {c w : Nat → Nat} {σ : ST}
theorem NV_set4 (H : NV a A nv l c w σ) : NV a A (setA nv 4 (upd (nv.2.1 4) l (nI v))) (l + 1) c (uN w l v) σ := by
  obtain ⟨h1, h2, h3, h4, h5, h6, h7⟩ := H
  refine ⟨h1, h2, h3, h4, h5, fun i hi => ?_, h7⟩
  show upd (nv.2.1 4) l (nI v) i = nI (if i = l then v else w i)
  by_cases e : i = l
  · rw [if_pos e, e, pk_us]
  · rw [if_neg e, pk_un e]
    exact h6 i (by omega)
theorem NV_down (H : NV a A nv (l + 1) c (uN w l v) σ) : NV a A nv l c w σ := by
  obtain ⟨h1, h2, h3, h4, h5, h6, h7⟩ := H
  refine ⟨h1, h2, h3, h4, h5, fun i hi => ?_, h7⟩
  have := h6 i (by omega)
  rw [show uN w l v i = w i from if_neg (by omega)] at this
  exact this
theorem NV_set3 {x : Nat} (H : NV a A nv l c w σ) (hx : x ≤ 13) : NV a A (setA nv 3 (upd (nv.2.1 3) m (nI x))) l (uN c m x) w σ := by
  obtain ⟨h1, h2, h3, h4, h5, h6, h7⟩ := H
  refine ⟨h1, h2, h3, h4, fun i hi => ?_, h6, h7⟩
  show upd (nv.2.1 3) m (nI x) i = nI (if i = m then x else c i) ∧ (if i = m then x else c i) ≤ 13
  by_cases e : i = m
  · rw [if_pos e, e, pk_us]
    exact ⟨rfl, hx⟩
  · rw [if_neg e, pk_un e]
    exact h5 i hi
theorem de_u : uN c m (c m - 1) = deN c m := by
  funext j
  show (if j = m then c m - 1 else c j) = if j = m then c j - 1 else c j
  by_cases e : j = m
  · rw [if_pos e, if_pos e, e]
  · rw [if_neg e, if_neg e]
theorem u_de : uN (deN c m) m (c m) = c := by
  funext j
  show (if j = m then c m else if j = m then c j - 1 else c j) = c j
  by_cases e : j = m
  · rw [if_pos e, e]
  · rw [if_neg e, if_neg e]
theorem de_m : deN c m m = c m - 1 := if_pos rfl
theorem q_pr (h5 : a 0 ≤ 5) (hq : qA a A l m) : prA a A l = postN a l := iI_T ⟨m, by have := hq.1; omega, hq⟩
theorem pr_n (hl : ¬ liA a l) : prA a A l = 0 := iI_F (fun ⟨m, _, z⟩ => hl z.2.1.1)
theorem place_loop {k o s d' : Nat} (h5 : a 0 ≤ 5) (hn : 100 ≤ n) (hl : l < a 1) (h6 : a 1 ≤ 6) (ho : o = prA a A l + opn (prA a A) k (l + 1)) (hs : s + o ≤ 999)
    (ih : ∀ nv c s w σ, s + opn (prA a A) k (l + 1) ≤ 999 → NV a A nv (l + 1) c w σ → ∃ nv', f_X3_place d' n nv (nI (l + 1)) (nI s) (nI (opn (prA a A) k (l + 1))) = some nv' ∧ NV a A nv' (l + 1) c w (FF (liA a) (qA a A) (postN a) k (l + 1) c s w σ))
    (H : NV a A nv l c w σ) : ∃ nv', f_X3_place_l70 n n (f_X3_place d' n) nv (nI l) (nI s) (nI o) (nI 0) = some nv' ∧ NV a A nv' l c w (rf (fm (liA a) (qA a A) (postN a) k l c s w) 5 σ) := by
  obtain ⟨r, h1, h2⟩ := lp_inv (body := fun q => f_X3_place_b70 n (f_X3_place d' n) q.2 q.1 (nI l) (nI s) (nI o)) (fun j st => ∃ (m : Nat) (nv' : MV), m ≤ 5 ∧ j = 5 - m ∧ st = (nI m, nv') ∧ NV a A nv' l c w (rf (fm (liA a) (qA a A) (postN a) k l c s w) m σ)) (fun r => NV a A r l c w (rf (fm (liA a) (qA a A) (postN a) k l c s w) 5 σ)) (by
    rintro j st ⟨m, nv', hm, rfl, rfl, H'⟩
    by_cases c5 : m < 5
    · have e0 := (H'.2.2.2.1 l hl).1
      have e1 := (H'.2.2.2.1 l hl).2.1
      obtain ⟨e3, cl⟩ := H'.2.2.2.2.1 m c5
      by_cases cq : qA a A l m
      · by_cases cc : 0 < c m
        · have pe := q_pr h5 cq
          have H1 : NV a A (setA nv' 3 (upd (nv'.2.1 3) m (nI (c m - 1)))) l (deN c m) w (rf (fm (liA a) (qA a A) (postN a) k l c s w) m σ) := by
            rw [← de_u]
            exact NV_set3 H' (by omega)
          have H2 := NV_set4 (v := m) H1
          obtain ⟨nv2, g1, g2⟩ := ih _ _ (s + postN a l) _ _ (by omega) H2
          have g1 : f_X3_place d' n (setA (setA nv' 3 (upd (nv'.2.1 3) m (nI (c m - 1)))) 4 (upd (nv'.2.1 4) l (nI m))) (nI (l + 1)) (nI (s + postN a l)) (nI (opn (prA a A) k (l + 1))) = some nv2 := g1
          have e4 := (g2.2.2.2.2.1 m c5).1
          rw [de_m] at e4
          have H3 : NV a A (setA nv2 3 (upd (nv2.2.1 3) m (nI (c m)))) l c w (rf (fm (liA a) (qA a A) (postN a) k l c s w) (m + 1) σ) := by
            have := NV_set3 (m := m) (x := c m) (NV_down g2) cl
            rw [u_de] at this
            show NV a A _ l c w (fm (liA a) (qA a A) (postN a) k l c s w m (rf (fm (liA a) (qA a A) (postN a) k l c s w) m σ))
            rw [fm_T ⟨cq, cc⟩]
            exact this
          refine Or.inl ⟨(nI (m + 1), setA nv2 3 (upd (nv2.2.1 3) m (nI (c m)))), 5 - (m + 1), ?_, by omega, m + 1, _, by omega, rfl, rfl, H3⟩
          have oe : o - postN a l = opn (prA a A) k (l + 1) := by omega
          have ce : c m - 1 + 1 = c m := by omega
          simp (disch := omega) only [f_X3_place_b70, f_X3_place_j154, pl_lit, pl_bl, pl_bd, pl_bd2, pl_bd3, pl_bd4, pl_bcT, pl_bcF, gd_t, pl_bcTrue, pl_bcFalse, pl_gdTrue, pl_in, pl_eq, pl_lt, pl_le, pl_ix, nI_add, pk_mul, pl_m1, e0, e1, e3, e4, tbs, cq, pk_sub, sA_n, pe, oe, g1, ce]
        · refine Or.inl ⟨(nI (m + 1), nv'), 5 - (m + 1), ?_, by omega, m + 1, nv', by omega, rfl, rfl, ?_⟩
          · simp (disch := omega) only [f_X3_place_b70, f_X3_place_j154, pl_lit, pl_bl, pl_bd, pl_bd2, pl_bd3, pl_bd4, pl_bcT, pl_bcF, gd_t, pl_bcTrue, pl_bcFalse, pl_gdTrue, pl_in, pl_eq, pl_lt, pl_le, pl_ix, nI_add, pk_mul, pl_m1, e0, e3, tbs, cq]
          · show NV a A _ l c w (fm (liA a) (qA a A) (postN a) k l c s w m (rf (fm (liA a) (qA a A) (postN a) k l c s w) m σ))
            rw [fm_F (fun z => cc z.2)]
            exact H'
      · refine Or.inl ⟨(nI (m + 1), nv'), 5 - (m + 1), ?_, by omega, m + 1, nv', by omega, rfl, rfl, ?_⟩
        · simp (disch := omega) only [f_X3_place_b70, f_X3_place_j154, pl_lit, pl_bl, pl_bd, pl_bd2, pl_bd3, pl_bd4, pl_bcT, pl_bcF, gd_t, pl_bcTrue, pl_bcFalse, pl_gdTrue, pl_in, pl_eq, pl_lt, pl_le, pl_ix, nI_add, pk_mul, pl_m1, e0, tbs, cq]
        · show NV a A _ l c w (fm (liA a) (qA a A) (postN a) k l c s w m (rf (fm (liA a) (qA a A) (postN a) k l c s w) m σ))
          rw [fm_F (fun z => cq z.1)]
          exact H'
    · have : m = 5 := by omega
      subst this
      refine Or.inr ⟨nv', ?_, H'⟩
      simp (disch := omega) only [f_X3_place_b70, pl_lit, pl_bl, pl_bd, pl_bd2, pl_bd3, pl_bd4, pl_bcT, pl_bcF, gd_t, pl_bcTrue, pl_bcFalse, pl_gdTrue, pl_in, pl_eq, pl_lt, pl_le, pl_ix, nI_add, pk_mul, pl_m1]) n 5 (nI 0, nv) ⟨0, nv, by omega, by omega, rfl, H⟩ (by omega)
  exact ⟨r, h1, h2⟩
theorem place_ok (h5 : a 0 ≤ 5) (hn : 100 ≤ n) (h6 : a 1 ≤ 6) : ∀ k d l nv c s w σ, l + k = a 1 → k < d → s + opn (prA a A) k l ≤ 999 → NV a A nv l c w σ → ∃ nv', f_X3_place d n nv (nI l) (nI s) (nI (opn (prA a A) k l)) = some nv' ∧ NV a A nv' l c w (FF (liA a) (qA a A) (postN a) k l c s w σ) := by
  intro k
  induction k with
  | zero =>
    intro d l nv c s w σ hl hd hs H
    obtain ⟨d', rfl⟩ : ∃ d', d = d' + 1 := ⟨d - 1, by omega⟩
    show ∃ nv', f_X3_place_step n (f_X3_place d' n) nv (nI l) (nI s) (nI 0) = some nv' ∧ NV a A nv' l c w (if σ.1 < s + 1 then (s + 1, w) else σ)
    have hs : s + 0 ≤ 999 := hs
    obtain ⟨h1, h2, h3, h4, h5', h6', h7⟩ := H
    have hσ : σ.1 < 1000000 := by omega
    by_cases p : σ.1 < s + 1
    · rw [if_pos p]
      refine ⟨setA (setS nv 1 (nI s)) 5 (va_cpy (nv.2.1 4) (nv.2.1 5) 0 0 6), ?_, h1, rfl, (by show s + 1 ≤ 1000; omega), h4, h5', h6', fun _ i hi => ?_⟩
      · have cp : cpOK (nI 0) (nI 0) (nI 6) 6 6 := cpk 0 0 6 6 6 (by omega)
        have e5 : ∀ k, (setS nv 1 (nI s)).2.1 k = nv.2.1 k := fun k => rfl
        simp (disch := omega) only [f_X3_place_step, pl_lit, pl_bl, pl_bd, pl_bd2, pl_bd3, pl_bd4, pl_bcT, pl_bcF, gd_t, pl_bcTrue, pl_bcFalse, pl_gdTrue, pl_in, pl_eq, pl_lt, pl_le, pl_ix, nI_add, pk_mul, pl_m1, h1, h2, mI_lt, p, cp, e5, Nat.add_zero]
      · show va_cpy (nv.2.1 4) (nv.2.1 5) 0 0 6 i = nI (w i)
        rw [cpy_i (i := i) (by omega) (by omega), Nat.zero_add]
        exact h6' i (by omega)
    · rw [if_neg p]
      refine ⟨nv, ?_, h1, h2, h3, h4, h5', h6', h7⟩
      simp (disch := omega) only [f_X3_place_step, pl_lit, pl_bl, pl_bd, pl_bd2, pl_bd3, pl_bd4, pl_bcT, pl_bcF, gd_t, pl_bcTrue, pl_bcFalse, pl_gdTrue, pl_in, pl_eq, pl_lt, pl_le, pl_ix, nI_add, pk_mul, pl_m1, h2, mI_lt, p, Nat.add_zero]
  | succ k ih =>
    intro d l nv c s w σ hl hd hs H
    obtain ⟨d', rfl⟩ : ∃ d', d = d' + 1 := ⟨d - 1, by omega⟩
    show ∃ nv', f_X3_place_step n (f_X3_place d' n) nv (nI l) (nI s) (nI (opn (prA a A) (k + 1) l)) = some nv' ∧ _
    have oe : opn (prA a A) (k + 1) l = prA a A l + opn (prA a A) k (l + 1) := rfl
    have h1 := H.1
    have h2 := H.2.1
    have h3 := H.2.2.1
    have hl' : l < a 1 := by omega
    have hσ : σ.1 < 1000000 := by omega
    by_cases p : σ.1 < s + opn (prA a A) (k + 1) l + 1
    · obtain ⟨e0, e1, e2⟩ := H.2.2.2.1 l hl'
      by_cases cl : liA a l
      · rw [FF_T cl]
        obtain ⟨nv1, g1, g2⟩ := place_loop (n := n) (d' := d') (k := k) (o := opn (prA a A) (k + 1) l) (s := s) h5 hn hl' h6 oe hs (fun nv c s w σ hs H => ih d' (l + 1) nv c s w σ (by omega) (by omega) hs H) H
        obtain ⟨nv2, g3, g4⟩ := ih d' (l + 1) _ c s _ _ (by omega) (by omega) (by omega) (NV_set4 (v := 5) g2)
        refine ⟨nv2, ?_, NV_down g4⟩
        have e1' := (g2.2.2.2.1 l hl').2.1
        have oe' : opn (prA a A) (k + 1) l - prA a A l = opn (prA a A) k (l + 1) := by omega
        simp (disch := omega) only [f_X3_place_step, pl_lit, pl_bl, pl_bd, pl_bd2, pl_bd3, pl_bd4, pl_bcT, pl_bcF, gd_t, pl_bcTrue, pl_bcFalse, pl_gdTrue, pl_in, pl_eq, pl_lt, pl_le, pl_ix, nI_add, pk_mul, pl_m1, h1, h2, mI_lt, p, e2, bI_T cl, g1, sA_n, e1', pk_sub, oe', g3]
      · rw [FF_F cl]
        have pz : prA a A l = 0 := pr_n cl
        obtain ⟨nv2, g3, g4⟩ := ih d' (l + 1) _ c s _ _ (by omega) (by omega) (by omega) (NV_set4 (v := 6) H)
        refine ⟨nv2, ?_, NV_down g4⟩
        have oe' : opn (prA a A) (k + 1) l = opn (prA a A) k (l + 1) := by omega
        rw [oe'] at p
        rw [oe']
        simp (disch := omega) only [f_X3_place_step, pl_lit, pl_bl, pl_bd, pl_bd2, pl_bd3, pl_bd4, pl_bcT, pl_bcF, gd_t, pl_bcTrue, pl_bcFalse, pl_gdTrue, pl_in, pl_eq, pl_lt, pl_le, pl_ix, nI_add, pk_mul, pl_m1, h1, h2, mI_lt, p, e2, bI_F cl, g3]
    · rw [FF_prune (pr := prA a A) (fun l m z => q_pr h5 z) (k + 1) l c s w σ (by omega)]
      refine ⟨nv, ?_, H⟩
      simp (disch := omega) only [f_X3_place_step, pl_lit, pl_bl, pl_bd, pl_bd2, pl_bd3, pl_bd4, pl_bcT, pl_bcF, gd_t, pl_bcTrue, pl_bcFalse, pl_gdTrue, pl_in, pl_eq, pl_lt, pl_le, pl_ix, nI_add, pk_mul, pl_m1, h2, mI_lt, p]
/-- what the class lays out first -/
theorem who_bs : ∀ M, M ≤ 5 → whoB a l M = nI (bs (fun m => m < M ∧ mayN a l m))
  | 0, _ => by
    show nI 0 = _
    refine congrArg nI (bs_ext (by omega) (fun k hk => ?_))
    rw [Nat.zero_testBit]
    exact ⟨fun z => (by cases z), fun z => absurd z.1 (Nat.not_lt_zero k)⟩
  | M + 1, h => by
    have ih := who_bs M (by omega)
    by_cases d : mayN a l M
    · rw [show whoB a l (M + 1) = whoB a l M ||| (nI 1 <<< (nI M &&& nI 31)) from if_pos d, ih]
      exact own_1 (by omega) d
    · rw [show whoB a l (M + 1) = whoB a l M from if_neg d, ih]
      exact own_0 d
theorem opn_sm {pr : Nat → Nat} : ∀ k l, sm pr l + opn pr k l = sm pr (l + k)
  | 0, l => rfl
  | k + 1, l => by
    have := opn_sm (pr := pr) k (l + 1)
    show sm pr l + (pr l + opn pr k (l + 1)) = sm pr (l + (k + 1))
    have e : sm pr (l + 1) = sm pr l + pr l := rfl
    rw [show l + (k + 1) = l + 1 + k by omega]
    omega
theorem prA_le (ha : okA a) (hl : l < a 1) : prA a A l ≤ 63 := by
  have := (postN_le ha hl).2
  unfold prA
  by_cases d : ∃ m, m < 6 ∧ qA a A l m
  · rw [iI_T d]; exact this
  · rw [iI_F d]; omega
def lay1 (a : Nat → Nat) (A : Nat → Prop) (nv : MV) (l : Nat) : Prop :=
  nv.1 0 = nI (a 1) ∧ ∀ i, i < l → nv.2.1 0 i = nI (bs (qA a A i)) ∧ nv.2.1 1 i = nI (prA a A i) ∧ nv.2.1 2 i = bI (liA a i)
theorem solve_1 {S : Nat} (hn : 100 ≤ n) (ha : okA a) (hh : HO h t a) (hS : nI S = nI (bs A)) (e0 : nv.1 0 = nI (a 1)) : ∃ nv', f_X3_solve_l13 n n nv h (nI S) (nI 0) (nI 0) = some (nI (sm (prA a A) (a 1)), nv') ∧ lay1 a A nv' (a 1) := by
  have h6 := okL ha
  obtain ⟨r, h1, nv', h2, h3⟩ := lp_inv (body := fun q => f_X3_solve_b13 n q.2.2 h q.1 q.2.1 (nI S)) (fun k st => ∃ (l : Nat) (nv' : MV), l ≤ a 1 ∧ k = a 1 - l ∧ st = (nI l, nI (sm (prA a A) l), nv') ∧ lay1 a A nv' l) (fun r => ∃ nv', r = (nI (sm (prA a A) (a 1)), nv') ∧ lay1 a A nv' (a 1)) (by
    rintro k st ⟨l, nv', hl, rfl, rfl, e1, e2⟩
    by_cases c : l < a 1
    · have x1 := X1_lies (n := n) ha hh c
      have x2 := X1_whoMayFrank (n := n) hn ha hh c
      rw [who_bs (a 0) h6.1] at x2
      have x3 := X1_postage (n := n) ha hh c
      have ab : nI (bs (fun m => m < a 0 ∧ mayN a l m)) &&& nI S = nI (bs (qA a A l)) := by
        rw [hS, and_bs]
        exact congrArg nI (bs_congr (fun k _ => ⟨fun z => ⟨z.1.1, z.1.2, z.2⟩, fun z => ⟨⟨z.1, z.2.1⟩, z.2.2⟩⟩))
      have L : ∀ p : Int32, p = nI (prA a A l) → lay1 a A (setA (setA (setA nv' 2 (upd (nv'.2.1 2) l (bI (liA a l)))) 0 (upd (nv'.2.1 0) l (nI (bs (qA a A l))))) 1 (upd (nv'.2.1 1) l p)) (l + 1) := fun p hp => by
        refine ⟨e1, fun i hi => ?_⟩
        show upd (nv'.2.1 0) l (nI (bs (qA a A l))) i = _ ∧ upd (nv'.2.1 1) l p i = _ ∧ upd (nv'.2.1 2) l (bI (liA a l)) i = _
        by_cases z : i = l
        · rw [z, pk_us, pk_us, pk_us]
          exact ⟨rfl, hp, rfl⟩
        · rw [pk_un z, pk_un z, pk_un z]
          exact e2 i (by omega)
      by_cases d : ∀ k, k < 6 → ¬ qA a A l k
      · have dz : (nI (bs (qA a A l)) = nI 0) = True := by rw [bs_z]; exact eq_true d
        have pz : prA a A l = 0 := iI_F (fun ⟨m, hm, z⟩ => d m hm z)
        refine Or.inl ⟨(nI (l + 1), nI (sm (prA a A) (l + 1)), setA (setA (setA nv' 2 (upd (nv'.2.1 2) l (bI (liA a l)))) 0 (upd (nv'.2.1 0) l (nI (bs (qA a A l))))) 1 (upd (nv'.2.1 1) l (nI 0))), a 1 - (l + 1), ?_, by omega, l + 1, _, by omega, rfl, rfl, L (nI 0) (by rw [pz])⟩
        have x1' : f_X1_lies n h (nI l) = some (bI (liA a l)) := x1
        simp (disch := omega) only [f_X3_solve_b13, f_X3_solve_j76, pl_lit, pl_bl, pl_bd, pl_bd2, pl_bd3, pl_bd4, pl_bcT, pl_bcF, gd_t, pl_bcTrue, pl_bcFalse, pl_gdTrue, pl_in, pl_eq, pl_lt, pl_le, pl_ix, nI_add, pk_mul, pl_m1, e1, x1', x2, narB, sA_n, sA_s, pk_us, ab, dz, sm, pz, Nat.add_zero]
      · have dz : (nI (bs (qA a A l)) = nI 0) = False := by rw [bs_z]; exact eq_false d
        have pz : prA a A l = postN a l := iI_T (Classical.byContradiction (fun z => d (fun k hk w => z ⟨k, hk, w⟩)))
        refine Or.inl ⟨(nI (l + 1), nI (sm (prA a A) (l + 1)), setA (setA (setA nv' 2 (upd (nv'.2.1 2) l (bI (liA a l)))) 0 (upd (nv'.2.1 0) l (nI (bs (qA a A l))))) 1 (upd (nv'.2.1 1) l (nI (postN a l)))), a 1 - (l + 1), ?_, by omega, l + 1, _, by omega, rfl, rfl, L (nI (postN a l)) (by rw [pz])⟩
        have x1' : f_X1_lies n h (nI l) = some (bI (liA a l)) := x1
        simp (disch := omega) only [f_X3_solve_b13, f_X3_solve_j76, pl_lit, pl_bl, pl_bd, pl_bd2, pl_bd3, pl_bd4, pl_bcT, pl_bcF, gd_t, pl_bcTrue, pl_bcFalse, pl_gdTrue, pl_in, pl_eq, pl_lt, pl_le, pl_ix, nI_add, pk_mul, pl_m1, e1, x1', x2, x3, narB, sA_n, sA_s, pk_us, ab, dz, sm, pz]
    · have : l = a 1 := by omega
      subst this
      refine Or.inr ⟨(nI (sm (prA a A) (a 1)), nv'), ?_, nv', rfl, e1, e2⟩
      simp (disch := omega) only [f_X3_solve_b13, pl_lit, pl_bl, pl_bd, pl_bd2, pl_bd3, pl_bd4, pl_bcT, pl_bcF, gd_t, pl_bcTrue, pl_bcFalse, pl_gdTrue, pl_in, pl_eq, pl_lt, pl_le, pl_ix, nI_add, pk_mul, pl_m1, e1]) n (a 1) (nI 0, nI 0, nv) ⟨0, nv, by omega, by omega, rfl, e0, fun i hi => absurd hi (Nat.not_lt_zero i)⟩ (by omega)
  exact ⟨nv', by rw [← h2]; exact h1, h3⟩
theorem solve_2 {v3 : Int32} (hn : 100 ≤ n) (ha : okA a) (hh : HO h t a) (H : lay1 a A nv (a 1)) : ∃ nv', f_X3_solve_l96 n n nv h v3 (nI 0) = some nv' ∧ lay1 a A nv' (a 1) ∧ ∀ m, m < 5 → nv'.2.1 3 m = nI (CA a m) := by
  have h6 := okL ha
  have eM : h.1 0 = nI (a 0) := hh.1
  obtain ⟨r, h1, h2, h3⟩ := lp_inv (body := fun q => f_X3_solve_b96 n q.2 h q.1 v3) (fun k st => ∃ (m : Nat) (nv' : MV), m ≤ 5 ∧ k = 5 - m ∧ st = (nI m, nv') ∧ lay1 a A nv' (a 1) ∧ ∀ i, i < m → nv'.2.1 3 i = nI (CA a i)) (fun r => lay1 a A r (a 1) ∧ ∀ m, m < 5 → r.2.1 3 m = nI (CA a m)) (by
    rintro k st ⟨m, nv', hm, rfl, rfl, e1, e2⟩
    by_cases c : m < 5
    · have L : ∀ x : Int32, x = nI (CA a m) → lay1 a A (setA nv' 3 (upd (nv'.2.1 3) m x)) (a 1) ∧ ∀ i, i < m + 1 → (setA nv' 3 (upd (nv'.2.1 3) m x)).2.1 3 i = nI (CA a i) := fun x hx => by
        refine ⟨e1, fun i hi => ?_⟩
        show upd (nv'.2.1 3) m x i = _
        by_cases z : i = m
        · rw [z, pk_us, hx]
        · rw [pk_un z]
          exact e2 i (by omega)
      by_cases d : m < a 0
      · have x := X1_coversLeft (n := n) ha hh d
        have y : CA a m = signsN (a (24 + m)) (a 23) - a (11 + m) := if_pos d
        obtain ⟨l1, l2⟩ := L _ (by rw [y])
        refine Or.inl ⟨_, 5 - (m + 1), ?_, by omega, m + 1, _, by omega, rfl, rfl, l1, l2⟩
        simp (disch := omega) only [f_X3_solve_b96, f_X3_solve_j127, pl_lit, pl_bl, pl_bd, pl_bd2, pl_bd3, pl_bd4, pl_bcT, pl_bcF, gd_t, pl_bcTrue, pl_bcFalse, pl_gdTrue, pl_in, pl_eq, pl_lt, pl_le, pl_ix, nI_add, pk_mul, pl_m1, eM, x]
      · have y : CA a m = 0 := if_neg d
        obtain ⟨l1, l2⟩ := L _ (by rw [y])
        refine Or.inl ⟨_, 5 - (m + 1), ?_, by omega, m + 1, _, by omega, rfl, rfl, l1, l2⟩
        simp (disch := omega) only [f_X3_solve_b96, f_X3_solve_j127, pl_lit, pl_bl, pl_bd, pl_bd2, pl_bd3, pl_bd4, pl_bcT, pl_bcF, gd_t, pl_bcTrue, pl_bcFalse, pl_gdTrue, pl_in, pl_eq, pl_lt, pl_le, pl_ix, nI_add, pk_mul, pl_m1, eM]
    · have : m = 5 := by omega
      subst this
      refine Or.inr ⟨nv', ?_, e1, e2⟩
      simp (disch := omega) only [f_X3_solve_b96, pl_lit, pl_bl, pl_bd, pl_bd2, pl_bd3, pl_bd4, pl_bcT, pl_bcF, gd_t, pl_bcTrue, pl_bcFalse, pl_gdTrue, pl_in, pl_eq, pl_lt, pl_le, pl_ix, nI_add, pk_mul, pl_m1]) n 5 (nI 0, nv) ⟨0, nv, by omega, by omega, rfl, H, fun i hi => absurd hi (Nat.not_lt_zero i)⟩ (by omega)
  exact ⟨r, h1, h2, h3⟩
noncomputable def bestS (a : Nat → Nat) (A : Nat → Prop) : ST := rf (stp (liA a) (qA a A) (CA a) (postN a) (a 1)) (6 ^ a 1) (0, fun _ => 0)
theorem X3_solve {S : Nat} (hn : 100 ≤ n) (ha : okA a) (hh : HO h t a) (hS : nI S = nI (bs A)) : ∃ nv', f_X3_solve n nv h (nI S) = some (mI (bestS a A).1, nv') ∧ (bestS a A).1 ≤ 1000 ∧ (0 < (bestS a A).1 → ∀ i, i < a 1 → nv'.2.1 5 i = nI ((bestS a A).2 i)) := by
  have h6 := okL ha
  have eL : h.1 1 = nI (a 1) := hh.2.1
  obtain ⟨nv1, g1, g2⟩ := solve_1 (n := n) (A := A) (nv := setS nv 0 (nI (a 1))) hn ha hh hS rfl
  obtain ⟨nv2, g3, g4, g5⟩ := solve_2 (n := n) (v3 := nI (sm (prA a A) (a 1))) hn ha hh g2
  have os := opn_sm (pr := prA a A) (a 1) 0
  have os : 0 + opn (prA a A) (a 1) 0 = sm (prA a A) (0 + a 1) := os
  rw [Nat.zero_add, Nat.zero_add] at os
  have ol : sm (prA a A) (a 1) ≤ a 1 * 63 := sm_le (fun i hi => prA_le ha hi)
  have H : NV a A (setS nv2 1 m1) 0 (CA a) (fun _ => 0) (0, fun _ => 0) := ⟨g4.1, rfl, by show 0 ≤ 1000; omega, g4.2, fun m hm => ⟨g5 m hm, CA_le⟩, fun i hi => absurd hi (Nat.not_lt_zero i), fun z => absurd z (Nat.lt_irrefl 0)⟩
  obtain ⟨nv3, g6, g7⟩ := place_ok (n := n) h6.1 hn h6.2.1 (a 1) 8 0 _ _ 0 _ _ (by omega) (by omega) (by omega) H
  rw [os] at g6
  have ff := (ff_rf (li := liA a) (q := qA a A) (C := CA a) (po := postN a) (L := a 1) (a 1) 0 0 (0, fun _ => 0) (by omega)).1 trivial
  have z : (fun r => stp (liA a) (qA a A) (CA a) (postN a) (a 1) (0 * 6 ^ a 1 + r)) = stp (liA a) (qA a A) (CA a) (postN a) (a 1) := by
    funext r
    rw [Nat.zero_mul, Nat.zero_add]
  rw [z] at ff
  have ff' : FF (liA a) (qA a A) (postN a) (a 1) 0 (CA a) 0 (fun _ => 0) (0, fun _ => 0) = bestS a A := ff
  rw [ff'] at g7
  obtain ⟨-, k2, k3, -, -, -, k7⟩ := g7
  refine ⟨nv3, ?_, k3, k7⟩
  simp (disch := omega) only [f_X3_solve, pl_lit, pl_bl, pl_bd, pl_bd2, pl_bd3, pl_bd4, pl_bcT, pl_bcF, gd_t, pl_bcTrue, pl_bcFalse, pl_gdTrue, pl_in, pl_eq, pl_lt, pl_le, pl_ix, nI_add, pk_mul, pl_m1, eL, g1, g3, g6, k2]
end PLC
