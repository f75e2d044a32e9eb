/-! read: items -/
def RFr (mo mo' : MV) : Prop := mo'.1 0 = mo.1 0 ∧ mo'.2.2 = mo.2.2 ∧ ∀ j, j ≠ 12 → j ≠ 13 → mo'.2.1 j = mo.2.1 j
def Zr (t : Nat → Int32) : Prop := t 2 = nI 0 ∧ t 3 = nI 0 ∧ t 4 = nI 0
def IT (B : Nat → Nat) (T s : Nat) (ok : Prop) (rv h mo : MV) : Prop :=
  (ok ∧ ∃ (s' : Nat) (a : Nat → Nat), s ≤ s' ∧ s' ≤ T ∧ RTK rv B T s' ∧ MTK mo B T (nx B T s') ∧ KR h (mo.2.1 12) a ∧ Zr (mo.2.1 12)) ∨
  (¬ ok ∧ ∃ s' : Nat, RTK rv B T s' ∧ mo.1 1 = nI s')
section ITM
variable {n : Nat} {rv h mo mo' mo2 : MV} {B : Nat → Nat} {T s : Nat} {a : Nat → Nat}
theorem RFr_rf : RFr mo mo := ⟨rfl, rfl, fun _ _ _ => rfl⟩
theorem RFr_tr (h1 : RFr mo mo') (h2 : RFr mo' mo2) : RFr mo mo2 := ⟨h2.1.trans h1.1, h2.2.1.trans h1.2.1, fun k a b => (h2.2.2 k a b).trans (h1.2.2 k a b)⟩
theorem RFr_of (h1 : MTK mo B T s) {s2 : Nat} (h2 : MTK mo' B T s2) (e : mo'.2 = mo.2) : RFr mo mo' := ⟨by rw [h2.1.1, h1.1.1], by rw [e], fun k _ _ => by rw [e]⟩
theorem RFr_13 (h1 : MTK mo B T s) {s2 : Nat} {f : Nat → Int32} (h2 : MTK mo' B T s2) (e : mo'.2 = (setA mo 13 f).2) : RFr mo mo' := ⟨by rw [h2.1.1, h1.1.1], by rw [e]; rfl, fun k _ h13 => by rw [e]; exact sA_n h13⟩
theorem RFr_12 {f : Nat → Int32} : RFr mo (setA mo 12 f) := ⟨rfl, rfl, fun k h12 _ => sA_n h12⟩
theorem e13 {k : Nat} {v : Int32} (e : mo'.2 = (setA mo 13 (upd (mo.2.1 13) k v)).2) : mo'.2.1 12 = mo.2.1 12 ∧ mo'.2.1 13 = upd (mo.2.1 13) k v := by
  rw [e]
  exact ⟨rfl, rfl⟩
theorem it_member (hn : 200 ≤ n) (hT : T ≤ 150) (hB : ∀ i, B i < 128) (hs : s ≤ T) (hr : RTK rv B T s) (hm : MTK mo B T s) (hk : KR h (mo.2.1 12) a) (hz : Zr (mo.2.1 12)) : ∃ (ok : Prop) (rv' h' mo' : MV), f_X6_readMember n rv h = some (bI ok, rv', h') ∧ f_X12_takesMember n mo = some (bI ok, mo') ∧ RFr mo mo' ∧ IT B T s ok rv' h' mo' := by
  have e0 : h.1 0 = nI (a 0) := hk.2.2.2.1.1
  have t0 : mo.2.1 12 0 = nI (a 0) := hk.1.2.2.2.1
  have h5 : a 0 ≤ 5 := hk.1.1
  by_cases c : a 0 = 5
  · refine ⟨False, rv, h, mo, ?_, ?_, RFr_rf, Or.inr ⟨id, s, hr, hm.2.2.1⟩⟩
    · rw [bI_Fn id]
      simp (disch := omega) only [f_X6_readMember, f_X6_readMember_j17, e0, pl_lit, pl_bl, pl_bd, pl_bd2, pl_bd3, pl_bd4, pl_bcT, pl_bcF, gd_t, pl_bcTrue, pl_bcFalse, pl_gdTrue, pl_in, pl_eq, pl_lt, pl_le, pl_ix, nI_add, pk_mul, pl_m1]
    · rw [bI_Fn id]
      simp (disch := omega) only [f_X12_takesMember, t0, pl_lit, pl_bl, pl_bd, pl_bd2, pl_bd3, pl_bd4, pl_bcT, pl_bcF, gd_t, pl_bcTrue, pl_bcFalse, pl_gdTrue, pl_in, pl_eq, pl_lt, pl_le, pl_ix, nI_add, pk_mul, pl_m1]
  · obtain ⟨mo1, g1, g2, g3⟩ := X12_goBehind (n := n) hn hT hB hs hm
    have n1 := nx_le (B := B) hs
    obtain ⟨rv1, k1, k2⟩ := X6_takesNumber (n := n) (R1 0 5 (by omega) (by omega)) hn hT hB hs hr
    by_cases c1 : tS B T (nx B T s) = 2 ∧ (0 ≤ tV B T (nx B T s) ∧ tV B T (nx B T s) ≤ 5)
    · rw [bI_T c1] at k1
      obtain ⟨mo2, g4, g5, g6⟩ := X12_takesT (n := n) (k := 0) (by omega) (R1 0 5 (by omega) (by omega)) hn hT hB n1.2 g2 c1
      obtain ⟨x12, x13⟩ := e13 g6
      have n2 := nx_le (B := B) n1.2
      obtain ⟨rv2, k3, k4⟩ := X6_takesNumber (n := n) (R1 0 99 (by omega) (by omega)) hn hT hB n1.2 k2
      have v1 := k2.2.2.2.2 c1.1
      by_cases c2 : tS B T (nx B T (nx B T s)) = 2 ∧ (0 ≤ tV B T (nx B T (nx B T s)) ∧ tV B T (nx B T (nx B T s)) ≤ 99)
      · rw [bI_T c2] at k3
        obtain ⟨mo3, g7, g8, g9⟩ := X12_takesT (n := n) (k := 1) (by omega) (R1 0 99 (by omega) (by omega)) hn hT hB n2.2 g5 c2
        obtain ⟨y12, y13⟩ := e13 g9
        have v2 := k4.2.2.2.2 c2.1
        have z12 : mo3.2.1 12 = mo.2.1 12 := by rw [y12, x12, g3]
        have z0 : mo3.2.1 13 0 = nI (tV B T (nx B T s)) := by rw [y13, pk_un (by omega), x13, pk_us]
        have z1 : mo3.2.1 13 1 = nI (tV B T (nx B T (nx B T s))) := by rw [y13, pk_us]
        have am := X1_addMember (n := n) (k := tV B T (nx B T s)) (p := tV B T (nx B T (nx B T s))) e0 (by omega)
        have lm := X12_layMember (n := n) (z := 83) (k := tV B T (nx B T s)) (p := tV B T (nx B T (nx B T s))) (Nat.le_refl _) t0 (by omega)
        have km := KR_mem (k := tV B T (nx B T s)) (p := tV B T (nx B T (nx B T s))) hk (by omega) (by omega) (by omega)
        refine ⟨True, rv2, memH h (a 0) (tV B T (nx B T s)) (tV B T (nx B T (nx B T s))), setA mo3 12 (memT (mo.2.1 12) (a 0) (tV B T (nx B T s)) (tV B T (nx B T (nx B T s)))), ?_, ?_, RFr_tr (RFr_of hm g2 g3) (RFr_tr (RFr_13 g2 g5 g6) (RFr_tr (RFr_13 g5 g8 g9) RFr_12)), Or.inl ⟨trivial, nx B T (nx B T s), _, by omega, n2.2, k4, g8, km, ?_⟩⟩
        · rw [bI_Tn trivial]
          simp (disch := omega) only [f_X6_readMember, e0, pl_lit, pl_bl, pl_bd, pl_bd2, pl_bd3, pl_bd4, pl_bcT, pl_bcF, gd_t, pl_bcTrue, pl_bcFalse, pl_gdTrue, pl_in, pl_eq, pl_lt, pl_le, pl_ix, nI_add, pk_mul, pl_m1, k1, k3, v1, v2, am]
        · rw [bI_Tn trivial]
          simp (disch := omega) only [f_X12_takesMember, t0, pl_lit, pl_bl, pl_bd, pl_bd2, pl_bd3, pl_bd4, pl_bcT, pl_bcF, gd_t, pl_bcTrue, pl_bcFalse, pl_gdTrue, pl_in, pl_eq, pl_lt, pl_le, pl_ix, nI_add, pk_mul, pl_m1, g1, g4, g7, z0, z1, z12, lm]
        · refine ⟨?_, ?_, ?_⟩
          · exact (memT_n (by omega)).trans hz.1
          · exact (memT_n (by omega)).trans hz.2.1
          · exact (memT_n (by omega)).trans hz.2.2
      · rw [bI_F c2] at k3
        have g7 := X12_takesF (n := n) (k := 1) (R1 0 99 (by omega) (by omega)) hB g5 c2
        refine ⟨False, rv2, h, mo2, ?_, ?_, RFr_tr (RFr_of hm g2 g3) (RFr_13 g2 g5 g6), Or.inr ⟨id, _, k4, g5.2.2.1⟩⟩
        · rw [bI_Fn id]
          simp (disch := omega) only [f_X6_readMember, f_X6_readMember_j17, e0, pl_lit, pl_bl, pl_bd, pl_bd2, pl_bd3, pl_bd4, pl_bcT, pl_bcF, gd_t, pl_bcTrue, pl_bcFalse, pl_gdTrue, pl_in, pl_eq, pl_lt, pl_le, pl_ix, nI_add, pk_mul, pl_m1, k1, k3, v1]
        · rw [bI_Fn id]
          simp (disch := omega) only [f_X12_takesMember, f_X12_takesMember_j37, t0, pl_lit, pl_bl, pl_bd, pl_bd2, pl_bd3, pl_bd4, pl_bcT, pl_bcF, gd_t, pl_bcTrue, pl_bcFalse, pl_gdTrue, pl_in, pl_eq, pl_lt, pl_le, pl_ix, nI_add, pk_mul, pl_m1, g1, g4, g7]
    · rw [bI_F c1] at k1
      have g4 := X12_takesF (n := n) (k := 0) (R1 0 5 (by omega) (by omega)) hB g2 c1
      refine ⟨False, rv1, h, mo1, ?_, ?_, RFr_of hm g2 g3, Or.inr ⟨id, _, k2, g2.2.2.1⟩⟩
      · rw [bI_Fn id]
        simp (disch := omega) only [f_X6_readMember, f_X6_readMember_j17, e0, pl_lit, pl_bl, pl_bd, pl_bd2, pl_bd3, pl_bd4, pl_bcT, pl_bcF, gd_t, pl_bcTrue, pl_bcFalse, pl_gdTrue, pl_in, pl_eq, pl_lt, pl_le, pl_ix, nI_add, pk_mul, pl_m1, k1]
      · rw [bI_Fn id]
        simp (disch := omega) only [f_X12_takesMember, f_X12_takesMember_j37, t0, pl_lit, pl_bl, pl_bd, pl_bd2, pl_bd3, pl_bd4, pl_bcT, pl_bcF, gd_t, pl_bcTrue, pl_bcFalse, pl_gdTrue, pl_in, pl_eq, pl_lt, pl_le, pl_ix, nI_add, pk_mul, pl_m1, g1, g4]
theorem it_letter (hn : 200 ≤ n) (hT : T ≤ 150) (hB : ∀ i, B i < 128) (hs : s ≤ T) (hr : RTK rv B T s) (hm : MTK mo B T s) (hk : KR h (mo.2.1 12) a) (hz : Zr (mo.2.1 12)) : ∃ (ok : Prop) (rv' h' mo' : MV), f_X6_readLetter n rv h = some (bI ok, rv', h') ∧ f_X12_takesLetter n mo = some (bI ok, mo') ∧ RFr mo mo' ∧ IT B T s ok rv' h' mo' := by
  have e0 : h.1 1 = nI (a 1) := hk.2.2.2.1.2.1
  have t0 : mo.2.1 12 1 = nI (a 1) := hk.1.2.2.2.2.1
  have h5 : a 1 ≤ 6 := hk.1.2.1
  by_cases c : a 1 = 6
  · refine ⟨False, rv, h, mo, ?_, ?_, RFr_rf, Or.inr ⟨id, s, hr, hm.2.2.1⟩⟩
    · rw [bI_Fn id]
      simp (disch := omega) only [f_X6_readLetter, f_X6_readLetter_j19, e0, pl_lit, pl_bl, pl_bd, pl_bd2, pl_bd3, pl_bd4, pl_bcT, pl_bcF, gd_t, pl_bcTrue, pl_bcFalse, pl_gdTrue, pl_in, pl_eq, pl_lt, pl_le, pl_ix, nI_add, pk_mul, pl_m1]
    · rw [bI_Fn id]
      simp (disch := omega) only [f_X12_takesLetter, t0, pl_lit, pl_bl, pl_bd, pl_bd2, pl_bd3, pl_bd4, pl_bcT, pl_bcF, gd_t, pl_bcTrue, pl_bcFalse, pl_gdTrue, pl_in, pl_eq, pl_lt, pl_le, pl_ix, nI_add, pk_mul, pl_m1]
  · obtain ⟨mo1, g1, g2, g3⟩ := X12_goBehind (n := n) hn hT hB hs hm
    have n1 := nx_le (B := B) hs
    obtain ⟨rv1, k1, k2⟩ := X6_takesNumber (n := n) (R1 0 99 (by omega) (by omega)) hn hT hB hs hr
    by_cases c1 : tS B T (nx B T s) = 2 ∧ (0 ≤ tV B T (nx B T s) ∧ tV B T (nx B T s) ≤ 99)
    · rw [bI_T c1] at k1
      obtain ⟨mo2, g4, g5, g6⟩ := X12_takesT (n := n) (k := 0) (by omega) (R1 0 99 (by omega) (by omega)) hn hT hB n1.2 g2 c1
      obtain ⟨x12, x13⟩ := e13 g6
      have n2 := nx_le (B := B) n1.2
      obtain ⟨rv2, k3, k4⟩ := X6_takesNumber (n := n) (R1 0 99 (by omega) (by omega)) hn hT hB n1.2 k2
      have v1 := k2.2.2.2.2 c1.1
      by_cases c2 : tS B T (nx B T (nx B T s)) = 2 ∧ (0 ≤ tV B T (nx B T (nx B T s)) ∧ tV B T (nx B T (nx B T s)) ≤ 99)
      · rw [bI_T c2] at k3
        obtain ⟨mo3, g7, g8, g9⟩ := X12_takesT (n := n) (k := 1) (by omega) (R1 0 99 (by omega) (by omega)) hn hT hB n2.2 g5 c2
        obtain ⟨y12, y13⟩ := e13 g9
        have v2 := k4.2.2.2.2 c2.1
        have n3 := nx_le (B := B) n2.2
        obtain ⟨rv3, k5, k6⟩ := X6_takesNumber (n := n) (R1 1 9 (by omega) (by omega)) hn hT hB n2.2 k4
        by_cases c3 : tS B T (nx B T (nx B T (nx B T s))) = 2 ∧ (1 ≤ tV B T (nx B T (nx B T (nx B T s))) ∧ tV B T (nx B T (nx B T (nx B T s))) ≤ 9)
        · rw [bI_T c3] at k5
          obtain ⟨mo4, g10, g11, g12⟩ := X12_takesT (n := n) (k := 2) (by omega) (R1 1 9 (by omega) (by omega)) hn hT hB n3.2 g8 c3
          obtain ⟨w12, w13⟩ := e13 g12
          have v3 := k6.2.2.2.2 c3.1
          have z12 : mo4.2.1 12 = mo.2.1 12 := by rw [w12, y12, x12, g3]
          have z0 : mo4.2.1 13 0 = nI (tV B T (nx B T s)) := by rw [w13, pk_un (by omega), y13, pk_un (by omega), x13, pk_us]
          have z1 : mo4.2.1 13 1 = nI (tV B T (nx B T (nx B T s))) := by rw [w13, pk_un (by omega), y13, pk_us]
          have z2 : mo4.2.1 13 2 = nI (tV B T (nx B T (nx B T (nx B T s)))) := by rw [w13, pk_us]
          have am := X1_addLetter (n := n) (x := tV B T (nx B T s)) (y := tV B T (nx B T (nx B T s))) (w := tV B T (nx B T (nx B T (nx B T s)))) e0 (by omega)
          have lm := X12_layLetter (n := n) (z := 83) (x := tV B T (nx B T s)) (y := tV B T (nx B T (nx B T s))) (w := tV B T (nx B T (nx B T (nx B T s)))) (Nat.le_refl _) t0 (by omega)
          have km := KR_let (x := tV B T (nx B T s)) (y := tV B T (nx B T (nx B T s))) (w := tV B T (nx B T (nx B T (nx B T s)))) hk (by omega) (by omega) (by omega) (by omega) (by omega)
          refine ⟨True, rv3, letH h (a 1) (tV B T (nx B T s)) (tV B T (nx B T (nx B T s))) (tV B T (nx B T (nx B T (nx B T s)))), setA mo4 12 (letT (mo.2.1 12) (a 1) (tV B T (nx B T s)) (tV B T (nx B T (nx B T s))) (tV B T (nx B T (nx B T (nx B T s))))), ?_, ?_, RFr_tr (RFr_of hm g2 g3) (RFr_tr (RFr_13 g2 g5 g6) (RFr_tr (RFr_13 g5 g8 g9) (RFr_tr (RFr_13 g8 g11 g12) RFr_12))), Or.inl ⟨trivial, nx B T (nx B T (nx B T s)), _, by omega, n3.2, k6, g11, km, ?_⟩⟩
          · rw [bI_Tn trivial]
            simp (disch := omega) only [f_X6_readLetter, e0, pl_lit, pl_bl, pl_bd, pl_bd2, pl_bd3, pl_bd4, pl_bcT, pl_bcF, gd_t, pl_bcTrue, pl_bcFalse, pl_gdTrue, pl_in, pl_eq, pl_lt, pl_le, pl_ix, nI_add, pk_mul, pl_m1, k1, k3, k5, v1, v2, v3, am]
          · rw [bI_Tn trivial]
            simp (disch := omega) only [f_X12_takesLetter, t0, pl_lit, pl_bl, pl_bd, pl_bd2, pl_bd3, pl_bd4, pl_bcT, pl_bcF, gd_t, pl_bcTrue, pl_bcFalse, pl_gdTrue, pl_in, pl_eq, pl_lt, pl_le, pl_ix, nI_add, pk_mul, pl_m1, g1, g4, g7, g10, z0, z1, z2, z12, lm]
          · refine ⟨?_, ?_, ?_⟩
            · exact (letT_n (by omega)).trans hz.1
            · exact (letT_n (by omega)).trans hz.2.1
            · exact (letT_n (by omega)).trans hz.2.2
        · rw [bI_F c3] at k5
          have g10 := X12_takesF (n := n) (k := 2) (R1 1 9 (by omega) (by omega)) hB g8 c3
          refine ⟨False, rv3, h, mo3, ?_, ?_, RFr_tr (RFr_of hm g2 g3) (RFr_tr (RFr_13 g2 g5 g6) (RFr_13 g5 g8 g9)), Or.inr ⟨id, _, k6, g8.2.2.1⟩⟩
          · rw [bI_Fn id]
            simp (disch := omega) only [f_X6_readLetter, f_X6_readLetter_j19, e0, pl_lit, pl_bl, pl_bd, pl_bd2, pl_bd3, pl_bd4, pl_bcT, pl_bcF, gd_t, pl_bcTrue, pl_bcFalse, pl_gdTrue, pl_in, pl_eq, pl_lt, pl_le, pl_ix, nI_add, pk_mul, pl_m1, k1, k3, k5, v1, v2]
          · rw [bI_Fn id]
            simp (disch := omega) only [f_X12_takesLetter, f_X12_takesLetter_j50, t0, pl_lit, pl_bl, pl_bd, pl_bd2, pl_bd3, pl_bd4, pl_bcT, pl_bcF, gd_t, pl_bcTrue, pl_bcFalse, pl_gdTrue, pl_in, pl_eq, pl_lt, pl_le, pl_ix, nI_add, pk_mul, pl_m1, g1, g4, g7, g10]
      · rw [bI_F c2] at k3
        have g7 := X12_takesF (n := n) (k := 1) (R1 0 99 (by omega) (by omega)) hB g5 c2
        refine ⟨False, rv2, h, mo2, ?_, ?_, RFr_tr (RFr_of hm g2 g3) (RFr_13 g2 g5 g6), Or.inr ⟨id, _, k4, g5.2.2.1⟩⟩
        · rw [bI_Fn id]
          simp (disch := omega) only [f_X6_readLetter, f_X6_readLetter_j19, e0, pl_lit, pl_bl, pl_bd, pl_bd2, pl_bd3, pl_bd4, pl_bcT, pl_bcF, gd_t, pl_bcTrue, pl_bcFalse, pl_gdTrue, pl_in, pl_eq, pl_lt, pl_le, pl_ix, nI_add, pk_mul, pl_m1, k1, k3, v1]
        · rw [bI_Fn id]
          simp (disch := omega) only [f_X12_takesLetter, f_X12_takesLetter_j50, t0, pl_lit, pl_bl, pl_bd, pl_bd2, pl_bd3, pl_bd4, pl_bcT, pl_bcF, gd_t, pl_bcTrue, pl_bcFalse, pl_gdTrue, pl_in, pl_eq, pl_lt, pl_le, pl_ix, nI_add, pk_mul, pl_m1, g1, g4, g7]
    · rw [bI_F c1] at k1
      have g4 := X12_takesF (n := n) (k := 0) (R1 0 99 (by omega) (by omega)) hB g2 c1
      refine ⟨False, rv1, h, mo1, ?_, ?_, RFr_of hm g2 g3, Or.inr ⟨id, _, k2, g2.2.2.1⟩⟩
      · rw [bI_Fn id]
        simp (disch := omega) only [f_X6_readLetter, f_X6_readLetter_j19, e0, pl_lit, pl_bl, pl_bd, pl_bd2, pl_bd3, pl_bd4, pl_bcT, pl_bcF, gd_t, pl_bcTrue, pl_bcFalse, pl_gdTrue, pl_in, pl_eq, pl_lt, pl_le, pl_ix, nI_add, pk_mul, pl_m1, k1]
      · rw [bI_Fn id]
        simp (disch := omega) only [f_X12_takesLetter, f_X12_takesLetter_j50, t0, pl_lit, pl_bl, pl_bd, pl_bd2, pl_bd3, pl_bd4, pl_bcT, pl_bcF, gd_t, pl_bcTrue, pl_bcFalse, pl_gdTrue, pl_in, pl_eq, pl_lt, pl_le, pl_ix, nI_add, pk_mul, pl_m1, g1, g4]
theorem kr_post (hk : KR h (mo.2.1 12) a) {l : Nat} (hl : l < a 1) : 1 ≤ postN a l ∧ postN a l ≤ 63 := by
  have := postN_le (KR_okA hk) (l := l) (by rw [cut_n (by omega)]; exact hl)
  rw [cut_post] at this
  exact this
theorem it_frank (hn : 200 ≤ n) (hT : T ≤ 150) (hB : ∀ i, B i < 128) (hs : s ≤ T) (hr : RTK rv B T s) (hm : MTK mo B T s) (hk : KR h (mo.2.1 12) a) (hz : Zr (mo.2.1 12)) : ∃ (ok : Prop) (rv' h' mo' : MV), f_X6_readFrank n rv h = some (bI ok, rv', h') ∧ f_X12_takesFrank n mo = some (bI ok, mo') ∧ RFr mo mo' ∧ IT B T s ok rv' h' mo' := by
  have e0 : h.1 0 = nI (a 0) := hk.2.2.2.1.1
  have t0 : mo.2.1 12 0 = nI (a 0) := hk.1.2.2.2.1
  have h5 : a 0 ≤ 5 := hk.1.1
  have e1 : h.1 1 = nI (a 1) := hk.2.2.2.1.2.1
  have t1 : mo.2.1 12 1 = nI (a 1) := hk.1.2.2.2.2.1
  have h6 : a 1 ≤ 6 := hk.1.2.1
  obtain ⟨mo1, g1, g2, g3⟩ := X12_goBehind (n := n) hn hT hB hs hm
  have n1 := nx_le (B := B) hs
  have t1' : mo1.2.1 12 1 = nI (a 1) := by rw [g3]; exact t1
  obtain ⟨rv1, k1, k2⟩ := X6_takesNumber (n := n) (R2 (a 1) (by omega)) hn hT hB hs hr
  by_cases c1 : tS B T (nx B T s) = 2 ∧ tV B T (nx B T s) < a 1
  · rw [bI_T c1] at k1
    obtain ⟨mo2, g4, g5, g6⟩ := X12_takesT (n := n) (k := 0) (by omega) (R2 (a 1) (by omega)) hn hT hB n1.2 g2 c1
    obtain ⟨x12, x13⟩ := e13 g6
    have n2 := nx_le (B := B) n1.2
    obtain ⟨rv2, k3, k4⟩ := X6_takesNumber (n := n) (R2 (a 0) (by omega)) hn hT hB n1.2 k2
    have v1 := k2.2.2.2.2 c1.1
    have w12 : mo2.2.1 12 = mo.2.1 12 := by rw [x12, g3]
    have w13 : mo2.2.1 13 0 = nI (tV B T (nx B T s)) := by rw [x13, pk_us]
    have m3 := g5.2.1
    have sl := tS_le (B := B) (T := T) (s := nx B T (nx B T s))
    have vl := tV_le (B := B) (T := T) (s := nx B T (nx B T s)) hB
    by_cases c2 : tS B T (nx B T (nx B T s)) = 2 ∧ tV B T (nx B T (nx B T s)) < a 0
    · rw [bI_T c2] at k3
      have v2 := k4.2.2.2.2 c2.1
      have m4 := g5.2.2.2.2 c2.1
      have c21 := c2.1
      have ii := X12_in (n := n) (v := nI (tV B T (nx B T (nx B T s)))) (x := nI 0) (y := nI (a 0) - nI 1)
      rw [bI_T ((R2 (a 0) (by omega) _ vl).mpr c2.2)] at ii
      rw [show (nI 0 : Int32).toInt64 = lN 0 from nI_l (by omega)] at ii
      have f1 := KX1_mayFrank (n := n) hk c1.2 c2.2
      have f2 := KX12_mayFrank (n := n) (z := 83) (Nat.le_refl _) hk c1.2 c2.2
      by_cases cf : mayN a (tV B T (nx B T s)) (tV B T (nx B T (nx B T s)))
      · rw [bI_T cf] at f1 f2
        obtain ⟨mo3, g7, g8, g9⟩ := X12_takesT (n := n) (k := 1) (by omega) (R1 0 4 (by omega) (by omega)) hn hT hB n2.2 g5 ⟨c2.1, Nat.zero_le _, by omega⟩
        obtain ⟨y12, y13⟩ := e13 g9
        have z12 : mo3.2.1 12 = mo.2.1 12 := by rw [y12, w12]
        have z0 : mo3.2.1 13 0 = nI (tV B T (nx B T s)) := by rw [y13, pk_un (by omega), w13]
        have z1 : mo3.2.1 13 1 = nI (tV B T (nx B T (nx B T s))) := by rw [y13, pk_us]
        have s1 := X1_sign (n := n) hk c1.2 c2.2
        have s2 := X12_goFrank (n := n) (z := 83) (Nat.le_refl _) hk c1.2 c2.2
        have km := KR_sign hk c1.2 c2.2 cf
        have pp := kr_post hk c1.2
        refine ⟨True, rv2, signH h (tV B T (nx B T s)) (tV B T (nx B T (nx B T s))) (postN a (tV B T (nx B T s))), setA mo3 12 (signT (mo.2.1 12) (tV B T (nx B T s)) (tV B T (nx B T (nx B T s))) (postN a (tV B T (nx B T s)))), ?_, ?_, RFr_tr (RFr_of hm g2 g3) (RFr_tr (RFr_13 g2 g5 g6) (RFr_tr (RFr_13 g5 g8 g9) RFr_12)), Or.inl ⟨trivial, nx B T (nx B T s), _, by omega, n2.2, k4, g8, km, ?_⟩⟩
        · rw [bI_Tn trivial]
          simp (disch := omega) only [f_X6_readFrank, e0, e1, pl_lit, pl_bl, pl_bd, pl_bd2, pl_bd3, pl_bd4, pl_bcT, pl_bcF, gd_t, pl_bcTrue, pl_bcFalse, pl_gdTrue, pl_in, pl_eq, pl_lt, pl_le, pl_ix, nI_add, pk_mul, pl_m1, k1, k3, v1, v2, f1, s1]
        · rw [bI_Tn trivial]
          simp (disch := omega) only [f_X12_takesFrank, f_X12_takesFrank_j111, t0, t1', pl_lit, pl_bl, pl_bd, pl_bd2, pl_bd3, pl_bd4, pl_bcT, pl_bcF, gd_t, pl_bcTrue, pl_bcFalse, pl_gdTrue, pl_in, pl_eq, pl_lt, pl_le, pl_ix, nI_add, pk_mul, pl_m1, g1, g4, m3, c21, m4, w12, w13, pl_litL, ii, f2, g7, z0, z1, z12, s2, true_or, or_true]
        · refine ⟨?_, ?_, ?_⟩
          · exact (signT_n (p := postN a (tV B T (nx B T s))) (by omega)).trans hz.1
          · exact (signT_n (p := postN a (tV B T (nx B T s))) (by omega)).trans hz.2.1
          · exact (signT_n (p := postN a (tV B T (nx B T s))) (by omega)).trans hz.2.2
      · rw [bI_F cf] at f1 f2
        refine ⟨False, rv2, h, mo2, ?_, ?_, RFr_tr (RFr_of hm g2 g3) (RFr_13 g2 g5 g6), Or.inr ⟨id, _, k4, g5.2.2.1⟩⟩
        · rw [bI_Fn id]
          simp (disch := omega) only [f_X6_readFrank, f_X6_readFrank_j47, e0, e1, pl_lit, pl_bl, pl_bd, pl_bd2, pl_bd3, pl_bd4, pl_bcT, pl_bcF, gd_t, pl_bcTrue, pl_bcFalse, pl_gdTrue, pl_in, pl_eq, pl_lt, pl_le, pl_ix, nI_add, pk_mul, pl_m1, k1, k3, v1, v2, f1]
        · rw [bI_Fn id]
          simp (disch := omega) only [f_X12_takesFrank, f_X12_takesFrank_j82, t0, t1', pl_lit, pl_bl, pl_bd, pl_bd2, pl_bd3, pl_bd4, pl_bcT, pl_bcF, gd_t, pl_bcTrue, pl_bcFalse, pl_gdTrue, pl_in, pl_eq, pl_lt, pl_le, pl_ix, nI_add, pk_mul, pl_m1, g1, g4, m3, c21, m4, w12, w13, pl_litL, ii, f2]
    · rw [bI_F c2] at k3
      refine ⟨False, rv2, h, mo2, ?_, ?_, RFr_tr (RFr_of hm g2 g3) (RFr_13 g2 g5 g6), Or.inr ⟨id, _, k4, g5.2.2.1⟩⟩
      · rw [bI_Fn id]
        simp (disch := omega) only [f_X6_readFrank, f_X6_readFrank_j47, e0, e1, pl_lit, pl_bl, pl_bd, pl_bd2, pl_bd3, pl_bd4, pl_bcT, pl_bcF, gd_t, pl_bcTrue, pl_bcFalse, pl_gdTrue, pl_in, pl_eq, pl_lt, pl_le, pl_ix, nI_add, pk_mul, pl_m1, k1, k3, v1]
      · rw [bI_Fn id]
        by_cases c21 : tS B T (nx B T (nx B T s)) = 2
        · have m4 := g5.2.2.2.2 c21
          have ii := X12_in (n := n) (v := nI (tV B T (nx B T (nx B T s)))) (x := nI 0) (y := nI (a 0) - nI 1)
          rw [bI_F (fun z => c2 ⟨c21, (R2 (a 0) (by omega) _ vl).mp z⟩)] at ii
          rw [show (nI 0 : Int32).toInt64 = lN 0 from nI_l (by omega)] at ii
          simp (disch := omega) only [f_X12_takesFrank, f_X12_takesFrank_j82, t0, t1', pl_lit, pl_bl, pl_bd, pl_bd2, pl_bd3, pl_bd4, pl_bcT, pl_bcF, gd_t, pl_bcTrue, pl_bcFalse, pl_gdTrue, pl_in, pl_eq, pl_lt, pl_le, pl_ix, nI_add, pk_mul, pl_m1, g1, g4, m3, c21, m4, w12, w13, pl_litL, ii]
        · simp (disch := omega) only [f_X12_takesFrank, f_X12_takesFrank_j82, t0, t1', pl_lit, pl_bl, pl_bd, pl_bd2, pl_bd3, pl_bd4, pl_bcT, pl_bcF, gd_t, pl_bcTrue, pl_bcFalse, pl_gdTrue, pl_in, pl_eq, pl_lt, pl_le, pl_ix, nI_add, pk_mul, pl_m1, g1, g4, m3]
  · rw [bI_F c1] at k1
    have g4 := X12_takesF (n := n) (k := 0) (R2 (a 1) (by omega)) hB g2 c1
    refine ⟨False, rv1, h, mo1, ?_, ?_, RFr_of hm g2 g3, Or.inr ⟨id, _, k2, g2.2.2.1⟩⟩
    · rw [bI_Fn id]
      simp (disch := omega) only [f_X6_readFrank, f_X6_readFrank_j47, e0, e1, pl_lit, pl_bl, pl_bd, pl_bd2, pl_bd3, pl_bd4, pl_bcT, pl_bcF, gd_t, pl_bcTrue, pl_bcFalse, pl_gdTrue, pl_in, pl_eq, pl_lt, pl_le, pl_ix, nI_add, pk_mul, pl_m1, k1]
    · rw [bI_Fn id]
      simp (disch := omega) only [f_X12_takesFrank, f_X12_takesFrank_j82, t0, t1', pl_lit, pl_bl, pl_bd, pl_bd2, pl_bd3, pl_bd4, pl_bcT, pl_bcF, gd_t, pl_bcTrue, pl_bcFalse, pl_gdTrue, pl_in, pl_eq, pl_lt, pl_le, pl_ix, nI_add, pk_mul, pl_m1, g1, g4]
end ITM
