/-! all, fewest: the model -/
def SM (mo mo' : MV) : Prop := mo'.1 = mo.1 ∧ mo'.2.2 = mo.2.2 ∧ ∀ k, k ≠ 4 → k ≠ 5 → k ≠ 6 → mo'.2.1 k = mo.2.1 k
section SAV
variable {n : Nat} {mo mo' mo2 : MV} {t : Nat → Int32} {a : Nat → Nat} {l m : Nat} {v1 v3 v4 v5 : Int32}
theorem SM_rf : SM mo mo := ⟨rfl, rfl, fun _ _ _ _ => rfl⟩
theorem SM_tr (h1 : SM mo mo') (h2 : SM mo' mo2) : SM mo mo2 := ⟨h2.1.trans h1.1, h2.2.1.trans h1.2.1, fun k a b c => (h2.2.2 k a b c).trans (h1.2.2 k a b c)⟩
theorem SM_set {k : Nat} {f : Nat → Int32} (hk : k = 4 ∨ k = 5 ∨ k = 6) (h : SM mo mo') : SM mo (setA mo' k f) := ⟨h.1, h.2.1, fun j h4 h5 h6 => by rw [sA_n (by omega)]; exact h.2.2 j h4 h5 h6⟩
theorem SM_0 (h : SM mo mo') : mo'.2.1 0 = mo.2.1 0 := h.2.2 0 (by omega) (by omega) (by omega)
theorem SM_TR (h : SM mo mo') (ht : TR (mo.2.1 0) a) : TR (mo'.2.1 0) a := by rw [SM_0 h]; exact ht
def SB (mo mo' : MV) : Prop := mo'.1 = mo.1 ∧ mo'.2.2 = mo.2.2 ∧ ∀ k, k ≠ 4 → k ≠ 6 → mo'.2.1 k = mo.2.1 k
theorem SB_rf : SB mo mo := ⟨rfl, rfl, fun _ _ _ => rfl⟩
theorem SB_set {k : Nat} {f : Nat → Int32} (hk : k = 4 ∨ k = 6) (h : SB mo mo') : SB mo (setA mo' k f) := ⟨h.1, h.2.1, fun j h4 h6 => by rw [sA_n (by omega)]; exact h.2.2 j h4 h6⟩
theorem SB_0 (h : SB mo mo') : mo'.2.1 0 = mo.2.1 0 := h.2.2 0 (by omega) (by omega)
theorem SB_TR (h : SB mo mo') (ht : TR (mo.2.1 0) a) : TR (mo'.2.1 0) a := by rw [SB_0 h]; exact ht
theorem SB_SM (h : SB mo mo') : SM mo mo' := ⟨h.1, h.2.1, fun k a _ c => h.2.2 k a c⟩
theorem X12_layCovers (hn : 100 ≤ n) (ha : okA a) (ht : TR (mo.2.1 0) a) : ∃ mo', f_X12_layCovers n mo = some mo' ∧ SB mo mo' ∧ ∀ m, m < a 0 → mo'.2.1 6 m = nI (signsN (a (24 + m)) (a 23)) - nI (a (11 + m)) := by
  have h6 := okL ha
  obtain ⟨r, h1, h2, h3⟩ := lp_inv (body := fun q => f_X12_layCovers_b2 n q.2 q.1) (fun k st => ∃ (m : Nat) (mo' : MV), m ≤ a 0 ∧ k = a 0 - m ∧ st = (nI m, mo') ∧ SB mo mo' ∧ ∀ i, i < m → mo'.2.1 6 i = nI (signsN (a (24 + i)) (a 23)) - nI (a (11 + i))) (fun r => SB mo r ∧ ∀ m, m < a 0 → r.2.1 6 m = nI (signsN (a (24 + m)) (a 23)) - nI (a (11 + m))) (by
    rintro k st ⟨m, mo', hm, rfl, rfl, hs, hc⟩
    have t0 := SB_0 hs
    have eM := X12_members (n := n) (mo := mo') (a := a) (by rw [t0]; exact ht.1)
    by_cases c : m < a 0
    · obtain ⟨e1, e2, e3⟩ := trM ht c
      have c1 := (okM ha c).1
      have eD : mo.2.1 0 23 = nI (a 23) := ht.2.2.2.2.2.1
      have hk := X12_coversAs (n := n) (k := a (24 + m)) (d := a 23) c1 (by omega)
      refine Or.inl ⟨(nI (m + 1), setA mo' 6 (upd (mo'.2.1 6) m (nI (signsN (a (24 + m)) (a 23)) - nI (a (11 + m))))), a 0 - (m + 1), ?_, by omega, m + 1, _, by omega, rfl, rfl, SB_set (by omega) hs, fun i hi => ?_⟩
      · simp (disch := omega) only [f_X12_layCovers_b2, eM, pl_lit, pl_bl, pl_bd, pl_bd2, pl_bd3, pl_bd4, pl_bcT, pl_bcF, gd_t, pl_bcTrue, pl_bcFalse, pl_gdTrue, pl_in, pl_eq, pl_lt, pl_le, pl_ix, nI_add, pk_mul, pl_m1, t0, e1, eD, hk, e3]
      · show upd (mo'.2.1 6) m _ i = _
        by_cases z : i = m
        · rw [z, pk_us]
        · rw [pk_un z]
          exact hc i (by omega)
    · have : m = a 0 := by omega
      subst this
      refine Or.inr ⟨mo', ?_, hs, hc⟩
      simp (disch := omega) only [f_X12_layCovers_b2, eM, pl_lit, pl_bl, pl_bd, pl_bd2, pl_bd3, pl_bd4, pl_bcT, pl_bcF, gd_t, pl_bcTrue, pl_bcFalse, pl_gdTrue, pl_in, pl_eq, pl_lt, pl_le, pl_ix, nI_add, pk_mul, pl_m1]) n (a 0) (nI 0, mo) ⟨0, mo, by omega, by omega, rfl, SB_rf, fun i hi => absurd hi (Nat.not_lt_zero i)⟩ (by omega)
  refine ⟨r, ?_, h2, h3⟩
  have h1' : f_X12_layCovers_l2 n n mo (nI 0) = some r := h1
  unfold f_X12_layCovers
  simp only [pl_lit, h1', pl_bd]
def qT (a : Nat → Nat) : Nat → Nat → Prop := qA a (fun _ => True)
def covI (a : Nat → Nat) (mo : MV) (u : Nat → Nat) : Prop := ∀ m, m < a 0 → mo.2.1 6 m = nI (signsN (a (24 + m)) (a 23)) - nI (a (11 + m) + u m)
theorem sv_step {P s : Nat} {b : Prop} {u : Nat → Nat} (ha : okA a) (ht : TR (mo.2.1 0) a) (hs : SB mo mo') (hl : l < a 1) (hP : P < 50000) (hu : ∀ m, u m ≤ 100) (hc : covI a mo' u) : ∃ mo2, f_X12_savedBy_b19 n mo' (nI l) (bI b) (nI s) (nI P) = some (.inl (mI l, bI (b ∧ okD (liA a) (qT a) (CA a) u l (P % 6)), nI (s + iI (liA a l ∧ P % 6 ≠ 5) (postN a l)), nI (P / 6), mo2)) ∧ SB mo mo2 ∧ covI a mo2 (fun m => u m + iI (liA a l ∧ P % 6 ≠ 5 ∧ P % 6 = m) 1) ∧ mo2.2.1 4 = upd (mo'.2.1 4) l (nI (wv (liA a) l (P % 6))) := by
  have h6 := okL ha
  have ht' := SB_TR hs ht
  have x0 : f_X12_lies n mo' (nI l) = some (bI (liA a l)) := X12_lies ha ht' hl
  have x1 : ∀ f, f_X12_lies n (setA mo' 4 f) (nI l) = some (bI (liA a l)) := fun f => X12_lies (mo := setA mo' 4 f) ha ht' hl
  have xM : ∀ f, f_X12_members n (setA mo' 4 f) = some (nI (a 0)) := fun f => X12_members (mo := setA mo' 4 f) ht'.1
  have xP : ∀ f g, f_X12_postage n (setA (setA mo' 4 f) 6 g) (nI l) = some (nI (postN a l)) := fun f g => X12_postage (mo := setA (setA mo' 4 f) 6 g) ha ht' hl
  have hd6 : P % 6 < 6 := Nat.mod_lt _ (by omega)
  generalize hd : P % 6 = d at hd6
  have e6 : nI P - nI (P / 6 * 6) = nI d := by rw [pl_rem2, hd]
  by_cases cl : liA a l
  · have wz : wv (liA a) l d = d := if_pos cl
    rw [bI_T cl] at x0
    have x1 : ∀ f, f_X12_lies n (setA mo' 4 f) (nI l) = some (nI 1) := fun f => by rw [x1 f, bI_T cl]; rfl
    by_cases c5 : d = 5
    · have z1 : ¬ (liA a l ∧ d ≠ 5) := fun z => z.2 c5
      have ok : okD (liA a) (qT a) (CA a) u l d := Or.inl ⟨cl, Or.inl c5⟩
      refine ⟨setA mo' 4 (upd (mo'.2.1 4) l (nI d)), ?_, SB_set (by omega) hs, fun m hm => ?_, by rw [wz]; rfl⟩
      · rw [iI_F z1, Nat.add_zero]
        by_cases cb : b
        · rw [bI_Tn cb, bI_Tn (show b ∧ _ from ⟨cb, ok⟩)]
          simp (disch := omega) only [f_X12_savedBy_b19, f_X12_savedBy_j57, f_X12_savedBy_j82, f_X12_savedBy_j78, f_X12_savedBy_j83, f_X12_savedBy_j165, pl_lit, pl_bl, pl_bd, pl_bd2, pl_bd3, pl_bd4, pl_bcT, pl_bcF, gd_t, pl_bcTrue, pl_bcFalse, pl_gdTrue, pl_in, pl_eq, pl_lt, pl_le, pl_ix, nI_add, pk_mul, pl_m1, pl_div, e6, x0, x1, nI_m1]
        · rw [bI_Fn cb, bI_Fn (show ¬ (b ∧ _) from fun z => cb z.1)]
          simp (disch := omega) only [f_X12_savedBy_b19, f_X12_savedBy_j57, f_X12_savedBy_j82, f_X12_savedBy_j78, f_X12_savedBy_j83, f_X12_savedBy_j165, pl_lit, pl_bl, pl_bd, pl_bd2, pl_bd3, pl_bd4, pl_bcT, pl_bcF, gd_t, pl_bcTrue, pl_bcFalse, pl_gdTrue, pl_in, pl_eq, pl_lt, pl_le, pl_ix, nI_add, pk_mul, pl_m1, pl_div, e6, x0, x1, nI_m1]
      · show _ = nI (signsN (a (24 + m)) (a 23)) - nI (a (11 + m) + (u m + iI (liA a l ∧ d ≠ 5 ∧ d = m) 1))
        rw [iI_F (fun z => z1 ⟨z.1, z.2.1⟩)]
        exact hc m hm
    · have z1 : liA a l ∧ d ≠ 5 := ⟨cl, c5⟩
      have d5 : d < 5 := by omega
      refine ⟨setA (setA mo' 4 (upd (mo'.2.1 4) l (nI d))) 6 (upd (mo'.2.1 6) d (mo'.2.1 6 d - nI 1)), ?_, SB_set (by omega) (SB_set (by omega) hs), fun m hm => ?_, by rw [wz]; rfl⟩
      · rw [iI_T z1]
        by_cases cb : b
        · rw [bI_Tn cb]
          by_cases c1 : d < a 0
          · have xF := X12_mayFrank (n := n) (z := 235) (by omega) ha ht' hl c1
            have c3 := (okM ha c1).2.2
            have sl := signsN_le (a (24 + d)) (a 23)
            have hcd := hc d c1
            have hud := hu d
            have CAd : CA a d = signsN (a (24 + d)) (a 23) - a (11 + d) := if_pos c1
            by_cases c2 : mayN a l d
            · by_cases c4 : u d < CA a d
              · rw [bI_Tn (show b ∧ okD (liA a) (qT a) (CA a) u l d from ⟨cb, Or.inl ⟨cl, Or.inr ⟨⟨c1, c2, trivial⟩, c4⟩⟩⟩)]
                rw [CAd] at c4
                have cc : (nI (signsN (a (24 + d)) (a 23)) - nI (a (11 + d) + u d) ≤ nI 0) = False := by rw [cmp_c (by omega) (by omega) (by omega)]; exact eq_false (by omega)
                simp (disch := omega) only [f_X12_savedBy_b19, f_X12_savedBy_j57, f_X12_savedBy_j82, f_X12_savedBy_j78, f_X12_savedBy_j83, f_X12_savedBy_j142, f_X12_savedBy_j143, f_X12_savedBy_j165, pl_lit, pl_bl, pl_bd, pl_bd2, pl_bd3, pl_bd4, pl_bcT, pl_bcF, gd_t, pl_bcTrue, pl_bcFalse, pl_gdTrue, pl_in, pl_eq, pl_lt, pl_le, pl_ix, nI_add, pk_mul, pl_m1, pl_div, e6, x0, x1, xM, sA_n, xF, bI_T c2, hcd, cc, xP, nI_m1]
              · rw [bI_Fn (show ¬ (b ∧ okD (liA a) (qT a) (CA a) u l d) from fun z => by
                  rcases z.2 with w | w
                  · rcases w.2 with x | x
                    · exact c5 x
                    · exact c4 x.2
                  · exact w.1 cl)]
                rw [CAd] at c4
                have cc : (nI (signsN (a (24 + d)) (a 23)) - nI (a (11 + d) + u d) ≤ nI 0) = True := by rw [cmp_c (by omega) (by omega) (by omega)]; exact eq_true (by omega)
                simp (disch := omega) only [f_X12_savedBy_b19, f_X12_savedBy_j57, f_X12_savedBy_j82, f_X12_savedBy_j78, f_X12_savedBy_j83, f_X12_savedBy_j142, f_X12_savedBy_j143, f_X12_savedBy_j165, pl_lit, pl_bl, pl_bd, pl_bd2, pl_bd3, pl_bd4, pl_bcT, pl_bcF, gd_t, pl_bcTrue, pl_bcFalse, pl_gdTrue, pl_in, pl_eq, pl_lt, pl_le, pl_ix, nI_add, pk_mul, pl_m1, pl_div, e6, x0, x1, xM, sA_n, xF, bI_T c2, hcd, cc, xP, nI_m1]
            · rw [bI_Fn (show ¬ (b ∧ okD (liA a) (qT a) (CA a) u l d) from fun z => by
                rcases z.2 with w | w
                · rcases w.2 with x | x
                  · exact c5 x
                  · exact c2 x.1.2.1
                · exact w.1 cl)]
              simp (disch := omega) only [f_X12_savedBy_b19, f_X12_savedBy_j57, f_X12_savedBy_j82, f_X12_savedBy_j78, f_X12_savedBy_j83, f_X12_savedBy_j142, f_X12_savedBy_j143, f_X12_savedBy_j165, pl_lit, pl_bl, pl_bd, pl_bd2, pl_bd3, pl_bd4, pl_bcT, pl_bcF, gd_t, pl_bcTrue, pl_bcFalse, pl_gdTrue, pl_in, pl_eq, pl_lt, pl_le, pl_ix, nI_add, pk_mul, pl_m1, pl_div, e6, x0, x1, xM, sA_n, xF, bI_F c2, xP, nI_m1]
          · rw [bI_Fn (show ¬ (b ∧ okD (liA a) (qT a) (CA a) u l d) from fun z => by
              rcases z.2 with w | w
              · rcases w.2 with x | x
                · exact c5 x
                · exact c1 x.1.1
              · exact w.1 cl)]
            simp (disch := omega) only [f_X12_savedBy_b19, f_X12_savedBy_j57, f_X12_savedBy_j82, f_X12_savedBy_j78, f_X12_savedBy_j83, f_X12_savedBy_j142, f_X12_savedBy_j143, f_X12_savedBy_j165, pl_lit, pl_bl, pl_bd, pl_bd2, pl_bd3, pl_bd4, pl_bcT, pl_bcF, gd_t, pl_bcTrue, pl_bcFalse, pl_gdTrue, pl_in, pl_eq, pl_lt, pl_le, pl_ix, nI_add, pk_mul, pl_m1, pl_div, e6, x0, x1, xM, sA_n, xP, nI_m1]
        · rw [bI_Fn cb, bI_Fn (show ¬ (b ∧ _) from fun z => cb z.1)]
          simp (disch := omega) only [f_X12_savedBy_b19, f_X12_savedBy_j57, f_X12_savedBy_j82, f_X12_savedBy_j78, f_X12_savedBy_j83, f_X12_savedBy_j142, f_X12_savedBy_j143, f_X12_savedBy_j165, pl_lit, pl_bl, pl_bd, pl_bd2, pl_bd3, pl_bd4, pl_bcT, pl_bcF, gd_t, pl_bcTrue, pl_bcFalse, pl_gdTrue, pl_in, pl_eq, pl_lt, pl_le, pl_ix, nI_add, pk_mul, pl_m1, pl_div, e6, x0, x1, sA_n, xP, nI_m1]
      · show upd (mo'.2.1 6) d (mo'.2.1 6 d - nI 1) m = nI (signsN (a (24 + m)) (a 23)) - nI (a (11 + m) + (u m + iI (liA a l ∧ d ≠ 5 ∧ d = m) 1))
        by_cases e : m = d
        · subst e
          rw [pk_us, iI_T ⟨cl, c5, rfl⟩, hc m hm, Int32.sub_sub, nI_add, Nat.add_assoc]
        · rw [pk_un e, iI_F (fun z => e z.2.2.symm)]
          exact hc m hm
  · have wz : wv (liA a) l d = 6 := if_neg cl
    rw [bI_F cl] at x0
    have x1 : ∀ f, f_X12_lies n (setA mo' 4 f) (nI l) = some (nI 0) := fun f => by rw [x1 f, bI_F cl]; rfl
    have z1 : ¬ (liA a l ∧ d ≠ 5) := fun z => cl z.1
    refine ⟨setA mo' 4 (upd (mo'.2.1 4) l (nI 6)), ?_, SB_set (by omega) hs, fun m hm => ?_, by rw [wz]; rfl⟩
    · rw [iI_F z1, Nat.add_zero]
      by_cases cb : b
      · by_cases c5 : d = 5
        · rw [bI_Tn cb, bI_Tn (show b ∧ okD (liA a) (qT a) (CA a) u l d from ⟨cb, Or.inr ⟨cl, c5⟩⟩)]
          simp (disch := omega) only [f_X12_savedBy_b19, f_X12_savedBy_j57, f_X12_savedBy_j82, f_X12_savedBy_j78, f_X12_savedBy_j83, f_X12_savedBy_j165, pl_lit, pl_bl, pl_bd, pl_bd2, pl_bd3, pl_bd4, pl_bcT, pl_bcF, gd_t, pl_bcTrue, pl_bcFalse, pl_gdTrue, pl_in, pl_eq, pl_lt, pl_le, pl_ix, nI_add, pk_mul, pl_m1, pl_div, e6, x0, x1, nI_m1]
        · rw [bI_Tn cb, bI_Fn (show ¬ (b ∧ okD (liA a) (qT a) (CA a) u l d) from fun z => by
            rcases z.2 with w | w
            · exact cl w.1
            · exact c5 w.2)]
          simp (disch := omega) only [f_X12_savedBy_b19, f_X12_savedBy_j57, f_X12_savedBy_j82, f_X12_savedBy_j78, f_X12_savedBy_j83, f_X12_savedBy_j165, pl_lit, pl_bl, pl_bd, pl_bd2, pl_bd3, pl_bd4, pl_bcT, pl_bcF, gd_t, pl_bcTrue, pl_bcFalse, pl_gdTrue, pl_in, pl_eq, pl_lt, pl_le, pl_ix, nI_add, pk_mul, pl_m1, pl_div, e6, x0, x1, nI_m1]
      · rw [bI_Fn cb, bI_Fn (show ¬ (b ∧ _) from fun z => cb z.1)]
        simp (disch := omega) only [f_X12_savedBy_b19, f_X12_savedBy_j57, f_X12_savedBy_j82, f_X12_savedBy_j78, f_X12_savedBy_j83, f_X12_savedBy_j165, pl_lit, pl_bl, pl_bd, pl_bd2, pl_bd3, pl_bd4, pl_bcT, pl_bcF, gd_t, pl_bcTrue, pl_bcFalse, pl_gdTrue, pl_in, pl_eq, pl_lt, pl_le, pl_ix, nI_add, pk_mul, pl_m1, pl_div, e6, x0, x1, nI_m1]
    · show _ = nI (signsN (a (24 + m)) (a 23)) - nI (a (11 + m) + (u m + iI (liA a l ∧ d ≠ 5 ∧ d = m) 1))
      rw [iI_F (fun z => z1 ⟨z.1, z.2.1⟩)]
      exact hc m hm
theorem qT_5 (h5 : a 0 ≤ 5) : ∀ l d, qT a l d → d < 5 := fun l d z => by
  have := z.1
  omega
theorem iI_1 {p : Prop} {x : Nat} : iI p x ≤ x := by
  by_cases h : p
  · rw [iI_T h]; exact Nat.le_refl _
  · rw [iI_F h]; exact Nat.zero_le _
theorem wP_lo {li : Nat → Prop} {l P i : Nat} (hi : i < l) : wP li (l + 1) P i = wP li l (P / 6) i := if_neg (by omega)
theorem wP_at {li : Nat → Prop} {l P : Nat} : wP li (l + 1) P l = wv li l (P % 6) := if_pos rfl
theorem mI_S {k : Nat} : mI (k + 1) = nI k := rfl
theorem mI_0 : mI 0 = m1 := rfl
theorem m1_lt : (m1 < nI 0) = True := eq_true (by decide)
theorem X12_savedBy {code : Nat} (hn : 100 ≤ n) (ha : okA a) (ht : TR (mo.2.1 0) a) (hcd : code < 46656) : ∃ mo', f_X12_savedBy n mo (nI code) = some (mI (iI (PV (liA a) (qT a) (CA a) (a 1) code) (sP (liA a) (postN a) (a 1) code + 1)), mo') ∧ SB mo mo' ∧ ∀ i, i < a 1 → mo'.2.1 4 i = nI (wP (liA a) (a 1) code i) := by
  have h6 := okL ha
  obtain ⟨mo1, g1, g2, g3⟩ := X12_layCovers (n := n) hn ha ht
  have eL := X12_letters (n := n) (mo := mo1) (a := a) (by rw [SB_0 g2]; exact ht.2.1)
  obtain ⟨r, h1, mo', h2, h3, h4⟩ := lp_inv (body := fun q => f_X12_savedBy_b19 n q.2.2.2.2 q.1 q.2.1 q.2.2.1 q.2.2.2.1) (fun k st => ∃ (P s : Nat) (b : Prop) (mo' : MV) (u : Nat → Nat), k ≤ a 1 ∧ P < 46656 ∧ st = (mI k, bI b, nI s, nI P, mo') ∧ SB mo mo' ∧ covI a mo' u ∧ (∀ m, u m ≤ a 1 - k) ∧ ((b ∧ BV (liA a) (qT a) (CA a) k P u) ↔ PV (liA a) (qT a) (CA a) (a 1) code) ∧ s + sP (liA a) (postN a) k P = sP (liA a) (postN a) (a 1) code ∧ (∀ i, i < k → wP (liA a) k P i = wP (liA a) (a 1) code i) ∧ (∀ i, k ≤ i → i < a 1 → mo'.2.1 4 i = nI (wP (liA a) (a 1) code i))) (fun r => ∃ mo', r = (bI (PV (liA a) (qT a) (CA a) (a 1) code), nI (sP (liA a) (postN a) (a 1) code), mo') ∧ SB mo mo' ∧ ∀ i, i < a 1 → mo'.2.1 4 i = nI (wP (liA a) (a 1) code i)) (by
    rintro k st ⟨P, s, b, mo', u, hk, hP, rfl, k1, k2, k3, k4, k5, k6, k7⟩
    cases k with
    | zero =>
      refine Or.inr ⟨(bI b, nI s, mo'), ?_, mo', ?_, k1, fun i hi => k7 i (by omega) hi⟩
      · show f_X12_savedBy_b19 n mo' m1 (bI b) (nI s) (nI P) = _
        simp (disch := omega) only [f_X12_savedBy_b19, pl_lit, pl_bl, pl_bd, pl_bd2, pl_bd3, pl_bd4, pl_bcT, pl_bcF, gd_t, pl_bcTrue, pl_bcFalse, pl_gdTrue, pl_in, pl_eq, pl_lt, pl_le, pl_ix, nI_add, pk_mul, pl_m1, m1_lt]
      · have k5 : s + 0 = sP (liA a) (postN a) (a 1) code := k5
        rw [← k5, Nat.add_zero, bI_congr (show b ↔ _ from ⟨fun z => k4.mp ⟨z, trivial⟩, fun z => (k4.mpr z).1⟩)]
    | succ l =>
      have hl : l < a 1 := by omega
      obtain ⟨mo2, q1, q2, q3, q4⟩ := sv_step (n := n) (s := s) (b := b) ha ht k1 hl (show P < 50000 by omega) (fun m => by have := k3 m; omega) k2
      refine Or.inl ⟨_, l, q1, by omega, P / 6, _, _, mo2, _, by omega, by omega, rfl, q2, q3, fun m => ?_, ?_, ?_, fun i hi => ?_, fun i hi1 hi2 => ?_⟩
      · have := k3 m
        have := iI_1 (p := liA a l ∧ P % 6 ≠ 5 ∧ P % 6 = m) (x := 1)
        omega
      · rw [← k4]
        show ((b ∧ _) ∧ _) ↔ (b ∧ (_ ∧ _))
        exact ⟨fun z => ⟨z.1.1, z.1.2, z.2⟩, fun z => ⟨⟨z.1, z.2.1⟩, z.2.2⟩⟩
      · rw [← k5]
        show s + _ + _ = s + (_ + _)
        omega
      · rw [← k6 i (by omega), wP_lo hi]
      · rw [q4]
        by_cases e : i = l
        · subst e
          rw [pk_us, ← k6 i (by omega), wP_at]
        · rw [pk_un e]
          exact k7 i (by omega) hi2) n (a 1) (mI (a 1), bI True, nI 0, nI code, mo1) ⟨code, 0, True, mo1, fun _ => 0, Nat.le_refl _, hcd, rfl, g2, g3, fun _ => Nat.zero_le _, ⟨fun z => (bv_0 (qT_5 h6.1)).mp z.2, fun z => ⟨trivial, (bv_0 (qT_5 h6.1)).mpr z⟩⟩, Nat.zero_add _, fun _ _ => rfl, fun i hi1 hi2 => absurd hi1 (by omega)⟩ (by omega)
  rw [bI_Tn trivial] at h1
  have h1' : f_X12_savedBy_l19 n n mo1 (mI (a 1)) (nI 1) (nI 0) (nI code) = some r := h1
  refine ⟨mo', ?_, h3, h4⟩
  subst h2
  by_cases c : PV (liA a) (qT a) (CA a) (a 1) code
  · rw [bI_Tn c] at h1'
    rw [iI_T c]
    simp (disch := omega) only [f_X12_savedBy, f_X12_savedBy_j181, g1, eL, pl_lit, pl_bl, pl_bd, pl_bd2, pl_bd3, pl_bd4, pl_bcT, pl_bcF, gd_t, pl_bcTrue, pl_bcFalse, pl_gdTrue, pl_in, pl_eq, pl_lt, pl_le, pl_ix, nI_add, pk_mul, pl_m1, nI_p1, h1', mI_S, mI_0]
  · rw [bI_Fn c] at h1'
    rw [iI_F c]
    simp (disch := omega) only [f_X12_savedBy, f_X12_savedBy_j181, g1, eL, pl_lit, pl_bl, pl_bd, pl_bd2, pl_bd3, pl_bd4, pl_bcT, pl_bcF, gd_t, pl_bcTrue, pl_bcFalse, pl_gdTrue, pl_in, pl_eq, pl_lt, pl_le, pl_ix, nI_add, pk_mul, pl_m1, nI_p1, h1', mI_S, mI_0]
theorem p6_le : ∀ i, i < 7 → 6 ^ i ≤ 46656 := by decide +kernel
theorem X12_codes (hn : 100 ≤ n) (ha : okA a) (e : mo.2.1 0 1 = nI (a 1)) : f_X12_codes n mo = some (nI (6 ^ a 1)) := by
  have h6 := okL ha
  have eL := X12_letters (n := n) e
  have : f_X12_codes_l4 n n mo (nI 0) (nI 1) = some (nI (6 ^ a 1)) := by
    refine lp_cnt' (a 1) (fun i => nI (6 ^ i)) _ _ rfl (fun i hi => ?_) ?_ (by omega)
    · simp (disch := omega) only [f_X12_codes_b4, eL, pl_lit, pl_bl, pl_bd, pl_bd2, pl_bd3, pl_bd4, pl_bcT, pl_bcF, gd_t, pl_bcTrue, pl_bcFalse, pl_gdTrue, pl_in, pl_eq, pl_lt, pl_le, pl_ix, nI_add, pk_mul, pl_m1, Nat.pow_succ]
    · simp (disch := omega) only [f_X12_codes_b4, eL, pl_lit, pl_bl, pl_bd, pl_bd2, pl_bd3, pl_bd4, pl_bcT, pl_bcF, gd_t, pl_bcTrue, pl_bcFalse, pl_gdTrue, pl_in, pl_eq, pl_lt, pl_le, pl_ix, nI_add, pk_mul, pl_m1]
  unfold f_X12_codes
  simp only [pl_lit, this, pl_bd]
theorem sP_le {li : Nat → Prop} {po : Nat → Nat} : ∀ l P, (∀ i, i < l → po i ≤ 63) → sP li po l P ≤ l * 63
  | 0, _, _ => Nat.zero_le _
  | l + 1, P, h => by
    have ih := sP_le (li := li) l (P / 6) (fun i hi => h i (by omega))
    have h1 := h l (by omega)
    have h2 := iI_1 (p := li l ∧ P % 6 ≠ 5) (x := po l)
    show sP li po l (P / 6) + iI (li l ∧ P % 6 ≠ 5) (po l) ≤ _
    omega
theorem all_copy {x M : Nat} (hn : 100 ≤ n) (ha : okA a) (ht : TR (mo.2.1 0) a) (hs : SM mo mo') (hx : x ≤ 1000) (hM : M < x) : ∃ mo2, f_X12_all_l47 n n mo' (mI x) v3 (mI M) v1 (nI 0) = some mo2 ∧ SM mo mo2 ∧ ∀ i, i < a 1 → mo2.2.1 5 i = mo'.2.1 4 i := by
  have h6 := okL ha
  obtain ⟨r, h1, h2, h3⟩ := lp_inv (body := fun q => f_X12_all_b47 n q.2 q.1 (mI x) v3 (mI M) v1) (fun k st => ∃ (i : Nat) (mo2 : MV), i ≤ a 1 ∧ k = a 1 - i ∧ st = (nI i, mo2) ∧ SM mo mo2 ∧ mo2.2.1 4 = mo'.2.1 4 ∧ ∀ j, j < i → mo2.2.1 5 j = mo'.2.1 4 j) (fun r => SM mo r ∧ ∀ i, i < a 1 → r.2.1 5 i = mo'.2.1 4 i) (by
    rintro k st ⟨i, mo2, hi, rfl, rfl, k1, k2, k3⟩
    have eL := X12_letters (n := n) (mo := mo2) (a := a) (by rw [SM_0 k1]; exact ht.2.1)
    by_cases c : i < a 1
    · refine Or.inl ⟨(nI (i + 1), setA mo2 5 (upd (mo2.2.1 5) i (mo2.2.1 4 i))), a 1 - (i + 1), ?_, by omega, i + 1, _, by omega, rfl, rfl, SM_set (by omega) k1, k2, fun j hj => ?_⟩
      · have cc : (mI x ≤ mI M) = False := by rw [mI_le (by omega) (by omega)]; exact eq_false (by omega)
        simp (disch := omega) only [f_X12_all_b47, eL, pl_lit, pl_bl, pl_bd, pl_bd2, pl_bd3, pl_bd4, pl_bcT, pl_bcF, gd_t, pl_bcTrue, pl_bcFalse, pl_gdTrue, pl_in, pl_eq, pl_lt, pl_le, pl_ix, nI_add, pk_mul, pl_m1, cc]
      · show upd (mo2.2.1 5) i (mo2.2.1 4 i) j = _
        by_cases e : j = i
        · rw [e, pk_us, k2]
        · rw [pk_un e]
          exact k3 j (by omega)
    · have : i = a 1 := by omega
      subst this
      refine Or.inr ⟨mo2, ?_, k1, k3⟩
      simp (disch := omega) only [f_X12_all_b47, eL, pl_lit, pl_bl, pl_bd, pl_bd2, pl_bd3, pl_bd4, pl_bcT, pl_bcF, gd_t, pl_bcTrue, pl_bcFalse, pl_gdTrue, pl_in, pl_eq, pl_lt, pl_le, pl_ix, nI_add, pk_mul, pl_m1]) n (a 1) (nI 0, mo') ⟨0, mo', by omega, by omega, rfl, hs, rfl, fun j hj => absurd hj (Nat.not_lt_zero j)⟩ (by omega)
  exact ⟨r, h1, h2, h3⟩
theorem all_nocopy {x M : Nat} (hn : 100 ≤ n) (ha : okA a) (ht : TR (mo.2.1 0) a) (hs : SM mo mo') (hx : M ≤ 1000) (hM : x ≤ M) : f_X12_all_l47 n n mo' (mI x) v3 (mI M) v1 (nI 0) = some mo' := by
  have h6 := okL ha
  have eL := X12_letters (n := n) (mo := mo') (a := a) (by rw [SM_0 hs]; exact ht.2.1)
  have cc : (mI x ≤ mI M) = True := by rw [mI_le (by omega) (by omega)]; exact eq_true (by omega)
  refine lp_end (by omega) ?_
  by_cases c : a 1 ≤ 0
  · simp (disch := omega) only [f_X12_all_b47, eL, pl_lit, pl_bl, pl_bd, pl_bd2, pl_bd3, pl_bd4, pl_bcT, pl_bcF, gd_t, pl_bcTrue, pl_bcFalse, pl_gdTrue, pl_in, pl_eq, pl_lt, pl_le, pl_ix, nI_add, pk_mul, pl_m1]
  · simp (disch := omega) only [f_X12_all_b47, eL, pl_lit, pl_bl, pl_bd, pl_bd2, pl_bd3, pl_bd4, pl_bcT, pl_bcF, gd_t, pl_bcTrue, pl_bcFalse, pl_gdTrue, pl_in, pl_eq, pl_lt, pl_le, pl_ix, nI_add, pk_mul, pl_m1, cc]
theorem X12_allL (hn : 50000 ≤ n) (ha : okA a) (ht : TR (mo.2.1 0) a) : ∃ mo', f_X12_all_l29 n n mo v1 (nI 0) m1 = some (mI (bestS a (fun _ => True)).1, mo') ∧ SM mo mo' ∧ (0 < (bestS a (fun _ => True)).1 → ∀ i, i < a 1 → mo'.2.1 5 i = nI ((bestS a (fun _ => True)).2 i)) := by
  have h6 := okL ha
  have pl := p6_le (a 1) (by omega)
  have pp : 0 < 6 ^ a 1 := Nat.pow_pos (by omega)
  obtain ⟨r, h1, mo', h2, h3, h4⟩ := lp_inv (body := fun q => f_X12_all_b29 n q.2.2 q.1 q.2.1 v1) (fun k st => ∃ (i : Nat) (mo' : MV), i ≤ 6 ^ a 1 ∧ k = 6 ^ a 1 - i ∧ st = (nI i, mI (rf (stp (liA a) (qT a) (CA a) (postN a) (a 1)) i (0, fun _ => 0)).1, mo') ∧ SM mo mo' ∧ (rf (stp (liA a) (qT a) (CA a) (postN a) (a 1)) i (0, fun _ => 0)).1 ≤ 1000 ∧ (0 < (rf (stp (liA a) (qT a) (CA a) (postN a) (a 1)) i (0, fun _ => 0)).1 → ∀ j, j < a 1 → mo'.2.1 5 j = nI ((rf (stp (liA a) (qT a) (CA a) (postN a) (a 1)) i (0, fun _ => 0)).2 j))) (fun r => ∃ mo', r = (mI (bestS a (fun _ => True)).1, mo') ∧ SM mo mo' ∧ (0 < (bestS a (fun _ => True)).1 → ∀ i, i < a 1 → mo'.2.1 5 i = nI ((bestS a (fun _ => True)).2 i))) (by
    rintro k st ⟨i, mo', hi, rfl, rfl, k1, k2, k3⟩
    have eC := X12_codes (n := n) (mo := mo') (a := a) (by omega) ha (by rw [SM_0 k1]; exact ht.2.1)
    by_cases c : i < 6 ^ a 1
    · obtain ⟨mo2, g1, g2, g3⟩ := X12_savedBy (n := n) (mo := mo') (code := i) (by omega) ha (SM_TR k1 ht) (by omega)
      have sl := sP_le (li := liA a) (po := postN a) (a 1) i (fun j hj => (postN_le ha hj).2)
      have k12 := SM_tr k1 (SB_SM g2)
      have k5 : mo2.2.1 5 = mo'.2.1 5 := g2.2.2 5 (by omega) (by omega)
      have il := iI_1 (p := PV (liA a) (qT a) (CA a) (a 1) i) (x := sP (liA a) (postN a) (a 1) i + 1)
      have s1 : rf (stp (liA a) (qT a) (CA a) (postN a) (a 1)) (i + 1) (0, fun _ => 0) = stp (liA a) (qT a) (CA a) (postN a) (a 1) i (rf (stp (liA a) (qT a) (CA a) (postN a) (a 1)) i (0, fun _ => 0)) := rfl
      generalize rf (stp (liA a) (qT a) (CA a) (postN a) (a 1)) i (0, fun _ => 0) = σ at k2 k3 s1 ⊢
      show (∃ s' k', f_X12_all_b29 n mo' (nI i) (mI σ.1) v1 = some (.inl s') ∧ _) ∨ _
      by_cases d : PV (liA a) (qT a) (CA a) (a 1) i ∧ σ.1 < sP (liA a) (postN a) (a 1) i + 1
      · rw [iI_T d.1] at g1
        obtain ⟨mo3, q1, q2, q3⟩ := all_copy (n := n) (v3 := nI i) (v1 := v1) (by omega) ha ht k12 (show sP (liA a) (postN a) (a 1) i + 1 ≤ 1000 by omega) d.2
        refine Or.inl ⟨(nI (i + 1), mI (sP (liA a) (postN a) (a 1) i + 1), mo3), 6 ^ a 1 - (i + 1), ?_, by omega, i + 1, mo3, by omega, rfl, ?_, q2, ?_, fun _ j hj => ?_⟩
        · have cc : (mI (sP (liA a) (postN a) (a 1) i + 1) ≤ mI σ.1) = False := by rw [mI_le (by omega) (by omega)]; exact eq_false (by omega)
          simp (disch := omega) only [f_X12_all_b29, f_X12_all_j82, f_X12_all_j94, eC, pl_lit, pl_bl, pl_bd, pl_bd2, pl_bd3, pl_bd4, pl_bcT, pl_bcF, gd_t, pl_bcTrue, pl_bcFalse, pl_gdTrue, pl_in, pl_eq, pl_lt, pl_le, pl_ix, nI_add, pk_mul, pl_m1, g1, q1, cc]
        · rw [s1, stp_T d]
        · rw [s1, stp_T d]
          show sP (liA a) (postN a) (a 1) i + 1 ≤ 1000
          omega
        · rw [s1, stp_T d, q3 j hj, g3 j hj]
      · have xl : iI (PV (liA a) (qT a) (CA a) (a 1) i) (sP (liA a) (postN a) (a 1) i + 1) ≤ σ.1 := by
          by_cases e : PV (liA a) (qT a) (CA a) (a 1) i
          · rw [iI_T e]
            exact Nat.le_of_not_lt (fun z => d ⟨e, z⟩)
          · rw [iI_F e]
            exact Nat.zero_le _
        have q1 := all_nocopy (n := n) (v3 := nI i) (v1 := v1) (by omega) ha ht k12 k2 xl
        refine Or.inl ⟨(nI (i + 1), mI σ.1, mo2), 6 ^ a 1 - (i + 1), ?_, by omega, i + 1, mo2, by omega, rfl, ?_, k12, ?_, fun z j hj => ?_⟩
        · have cc : (mI (iI (PV (liA a) (qT a) (CA a) (a 1) i) (sP (liA a) (postN a) (a 1) i + 1)) ≤ mI σ.1) = True := by rw [mI_le (by omega) (by omega)]; exact eq_true (by omega)
          simp (disch := omega) only [f_X12_all_b29, f_X12_all_j82, f_X12_all_j94, eC, pl_lit, pl_bl, pl_bd, pl_bd2, pl_bd3, pl_bd4, pl_bcT, pl_bcF, gd_t, pl_bcTrue, pl_bcFalse, pl_gdTrue, pl_in, pl_eq, pl_lt, pl_le, pl_ix, nI_add, pk_mul, pl_m1, g1, q1, cc]
        · rw [s1, stp_F d]
        · rw [s1, stp_F d]
          exact k2
        · rw [s1, stp_F d] at z
          rw [s1, stp_F d]
          rw [k5]
          exact k3 z j hj
    · have : i = 6 ^ a 1 := by omega
      subst this
      refine Or.inr ⟨(mI (rf (stp (liA a) (qT a) (CA a) (postN a) (a 1)) (6 ^ a 1) (0, fun _ => 0)).1, mo'), ?_, mo', rfl, k1, k3⟩
      simp (disch := omega) only [f_X12_all_b29, eC, pl_lit, pl_bl, pl_bd, pl_bd2, pl_bd3, pl_bd4, pl_bcT, pl_bcF, gd_t, pl_bcTrue, pl_bcFalse, pl_gdTrue, pl_in, pl_eq, pl_lt, pl_le, pl_ix, nI_add, pk_mul, pl_m1]) n (6 ^ a 1) (nI 0, m1, mo) ⟨0, mo, by omega, by omega, rfl, SM_rf, by show 0 ≤ 1000; omega, fun z => absurd z (Nat.lt_irrefl 0)⟩ (by omega)
  exact ⟨mo', by rw [← h2]; exact h1, h3, h4⟩
end SAV
