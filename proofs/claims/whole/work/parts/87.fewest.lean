/-! fewest: both sides -/
theorem mI_eq {M x : Nat} (h : M < 1000000) (hx : x < 1000000) : (mI M = nI x) = (M = x + 1) := by
  apply propext
  constructor
  · intro z
    have := congrArg Int32.toInt z
    rw [mI_toInt h, nI_toInt (by omega)] at this
    omega
  · rintro rfl
    rfl
theorem sub_iff {u S : Nat} : u &&& S = u ↔ ∀ m, u.testBit m = true → S.testBit m = true := by
  constructor
  · intro h m hm
    rw [← h, Nat.testBit_and, Bool.and_eq_true] at hm
    exact hm.2
  · intro h
    apply Nat.eq_of_testBit_eq
    intro m
    rw [Nat.testBit_and]
    by_cases c : u.testBit m = true
    · rw [c, h m c]
      rfl
    · have : u.testBit m = false := by rw [← Bool.not_eq_true]; exact c
      rw [this]
      rfl
section FW3
variable {n : Nat} {xo h nv mo mo' : MV} {t : Nat → Int32} {a : Nat → Nat} {v1 v2 : Int32}
theorem us_sub {c S : Nat} : usA a c &&& S = usA a c ↔ ∀ i, i < a 1 → wP (liA a) (a 1) c i < 5 → S.testBit (wP (liA a) (a 1) c i) = true := by
  rw [sub_iff]
  constructor
  · intro h i hi hw
    exact h _ ((usW_t (a 1)).mpr ⟨hw, i, hi, rfl⟩)
  · intro h m hm
    obtain ⟨z1, i, z2, z3⟩ := (usW_t (a 1)).mp hm
    rw [← z3]
    exact h i z2 (by omega)
theorem fe_iff (ha : okA a) {S : Nat} : feA a S ↔ ∃ c, c < 6 ^ a 1 ∧ VFa a c ∧ usA a c &&& S = usA a c := by
  have h6 := okL ha
  obtain ⟨m1', m2'⟩ := mx_spec (li := liA a) (q := qA a (fun m => S.testBit m = true)) (C := CA a) (po := postN a) (L := a 1) (w0 := fun _ => 0) (6 ^ a 1)
  have m1' : ∀ code, code < 6 ^ a 1 → PV (liA a) (qA a (fun m => S.testBit m = true)) (CA a) (a 1) code → sP (liA a) (postN a) (a 1) code + 1 ≤ (bestS a (fun m => S.testBit m = true)).1 := m1'
  have m2' : (bestS a (fun m => S.testBit m = true)).1 = 0 ∨ ∃ code, code < 6 ^ a 1 ∧ PV (liA a) (qA a (fun m => S.testBit m = true)) (CA a) (a 1) code ∧ sP (liA a) (postN a) (a 1) code + 1 = (bestS a (fun m => S.testBit m = true)).1 := m2'
  unfold feA
  generalize (bestS a (fun m => S.testBit m = true)).1 = X at m1' m2'
  constructor
  · intro e
    rcases m2' with z | ⟨c, c1, c2, c3⟩
    · omega
    · obtain ⟨f1, f2⟩ := fu_iff ha (a 1) c (Nat.le_refl _)
      obtain ⟨p1, p2⟩ := (pv_A h6.1 (a 1) c).mp c2
      exact ⟨c, c1, ⟨p1, f2.mp (by omega)⟩, us_sub.mpr p2⟩
  · rintro ⟨c, c1, ⟨c2, c3⟩, c4⟩
    obtain ⟨f1, f2⟩ := fu_iff ha (a 1) c (Nat.le_refl _)
    have f3 := f2.mpr c3
    have k1 := m1' c c1 ((pv_A h6.1 (a 1) c).mpr ⟨c2, us_sub.mp c4⟩)
    rcases m2' with z | ⟨c', d1, d2, d3⟩
    · omega
    · have := (fu_iff ha (a 1) c' (Nat.le_refl _)).1
      omega
theorem us_lt (ha : okA a) {c : Nat} (hV : VFa a c) : usA a c < 2 ^ a 0 := by
  refine Nat.lt_pow_two_of_testBit _ (fun i hi => ?_)
  rw [← Bool.not_eq_true]
  intro z
  obtain ⟨z1, j, z2, z3⟩ := (usW_t (a 1)).mp z
  have := pv_M (a 1) c hV.1 j z2 (by omega)
  omega
theorem X11_fewL (hn : 100 ≤ n) (ha : okA a) (hh : HO h t a) : ∃ nv', f_X11_fewest_l12 n n xo nv h (nI (sm (dueN a) (a 1))) (nI 0) m1 = some (oI (rbN (feA a) (2 ^ a 0)), nv') := by
  have h6 := okL ha
  have pl := p_lt (a 0) (by omega)
  have pp : 0 < 2 ^ a 0 := Nat.pow_pos (by omega)
  have eE := X11_everyMember (n := n) (xo := xo) (h := h) (M := a 0) h6.1 hh.1
  have dl : sm (dueN a) (a 1) ≤ a 1 * 63 := sm_le (fun i hi => by
    have := (postN_le ha hi).2
    unfold dueN
    split <;> omega)
  obtain ⟨r, h1, nv', h2⟩ := lp_inv (body := fun q => f_X11_fewest_b12 n xo q.2.2 h q.1 q.2.1 (nI (sm (dueN a) (a 1)))) (fun k st => ∃ (i : Nat) (nv' : MV), i ≤ 2 ^ a 0 ∧ k = 2 ^ a 0 - i ∧ st = (nI i, oI (rbN (feA a) i), nv')) (fun r => ∃ nv', r = (oI (rbN (feA a) (2 ^ a 0)), nv')) (by
    rintro k st ⟨i, nv', hi, rfl, rfl⟩
    by_cases c : i < 2 ^ a 0
    · obtain ⟨nv2, g1, g2, -⟩ := X3_solve (n := n) (nv := nv') (A := fun m => i.testBit m = true) (S := i) hn ha hh (by rw [← self_bs (show i < 64 by omega)])
      have me : (mI (bestS a (fun m => i.testBit m = true)).1 = nI (sm (dueN a) (a 1))) = feA a i := mI_eq (by omega) (by omega)
      have b1 := J6_bitCount (n := n) (show i < 64 by omega)
      have l1 := bcN_le i
      cases hE : rbN (feA a) i with
      | none =>
        by_cases d : feA a i
        · have q : rbN (feA a) (i + 1) = some i := rb_T ⟨d, fun b h => by rw [hE] at h; cases h⟩
          refine Or.inl ⟨(nI (i + 1), nI i, nv2), 2 ^ a 0 - (i + 1), ?_, by omega, i + 1, nv2, by omega, rfl, by rw [q]; rfl⟩
          simp (disch := omega) only [f_X11_fewest_b12, f_X11_fewest_j36, f_X11_fewest_j41, f_X11_fewest_j66, eE, oI, pl_lit, pl_bl, pl_bd, pl_bd2, pl_bd3, pl_bd4, pl_bcT, pl_bcF, gd_t, pl_bcTrue, pl_bcFalse, pl_gdTrue, pl_in, pl_eq, pl_lt, pl_le, pl_ix, nI_add, pk_mul, pl_m1, g1, me, d]
        · have q : rbN (feA a) (i + 1) = none := by rw [rb_F (fun z => d z.1), hE]
          refine Or.inl ⟨(nI (i + 1), m1, nv2), 2 ^ a 0 - (i + 1), ?_, by omega, i + 1, nv2, by omega, rfl, by rw [q]; rfl⟩
          simp (disch := omega) only [f_X11_fewest_b12, f_X11_fewest_j36, f_X11_fewest_j41, f_X11_fewest_j66, eE, oI, pl_lit, pl_bl, pl_bd, pl_bd2, pl_bd3, pl_bd4, pl_bcT, pl_bcF, gd_t, pl_bcTrue, pl_bcFalse, pl_gdTrue, pl_in, pl_eq, pl_lt, pl_le, pl_ix, nI_add, pk_mul, pl_m1, g1, me, d]
      | some b =>
        have hb := ((rb_spec i).1 b hE).2.1
        have b2 := J6_bitCount (n := n) (show b < 64 by omega)
        have l2 := bcN_le b
        by_cases c3 : bcN i < bcN b
        · by_cases d : feA a i
          · have q : rbN (feA a) (i + 1) = some i := rb_T ⟨d, fun b' h => by rw [hE] at h; cases h; exact c3⟩
            refine Or.inl ⟨(nI (i + 1), nI i, nv2), 2 ^ a 0 - (i + 1), ?_, by omega, i + 1, nv2, by omega, rfl, by rw [q]; rfl⟩
            simp (disch := omega) only [f_X11_fewest_b12, f_X11_fewest_j36, f_X11_fewest_j41, f_X11_fewest_j66, eE, oI, pl_lit, pl_bl, pl_bd, pl_bd2, pl_bd3, pl_bd4, pl_bcT, pl_bcF, gd_t, pl_bcTrue, pl_bcFalse, pl_gdTrue, pl_in, pl_eq, pl_lt, pl_le, pl_ix, nI_add, pk_mul, pl_m1, pl_nem1, b1, b2, g1, me, d]
          · have q : rbN (feA a) (i + 1) = some b := by rw [rb_F (fun z => d z.1), hE]
            refine Or.inl ⟨(nI (i + 1), nI b, nv2), 2 ^ a 0 - (i + 1), ?_, by omega, i + 1, nv2, by omega, rfl, by rw [q]; rfl⟩
            simp (disch := omega) only [f_X11_fewest_b12, f_X11_fewest_j36, f_X11_fewest_j41, f_X11_fewest_j66, eE, oI, pl_lit, pl_bl, pl_bd, pl_bd2, pl_bd3, pl_bd4, pl_bcT, pl_bcF, gd_t, pl_bcTrue, pl_bcFalse, pl_gdTrue, pl_in, pl_eq, pl_lt, pl_le, pl_ix, nI_add, pk_mul, pl_m1, pl_nem1, b1, b2, g1, me, d]
        · have q : rbN (feA a) (i + 1) = some b := by rw [rb_F (fun z => c3 (z.2 b hE)), hE]
          refine Or.inl ⟨(nI (i + 1), nI b, nv'), 2 ^ a 0 - (i + 1), ?_, by omega, i + 1, nv', by omega, rfl, by rw [q]; rfl⟩
          simp (disch := omega) only [f_X11_fewest_b12, f_X11_fewest_j36, f_X11_fewest_j41, f_X11_fewest_j66, eE, oI, pl_lit, pl_bl, pl_bd, pl_bd2, pl_bd3, pl_bd4, pl_bcT, pl_bcF, gd_t, pl_bcTrue, pl_bcFalse, pl_gdTrue, pl_in, pl_eq, pl_lt, pl_le, pl_ix, nI_add, pk_mul, pl_m1, pl_nem1, b1, b2]
    · have : i = 2 ^ a 0 := by omega
      subst this
      refine Or.inr ⟨(oI (rbN (feA a) (2 ^ a 0)), nv'), ?_, nv', rfl⟩
      simp (disch := omega) only [f_X11_fewest_b12, eE, pl_lit, pl_bl, pl_bd, pl_bd2, pl_bd3, pl_bd4, pl_bcT, pl_bcF, gd_t, pl_bcTrue, pl_bcFalse, pl_gdTrue, pl_in, pl_eq, pl_lt, pl_le, pl_ix, nI_add, pk_mul, pl_m1]) n (2 ^ a 0) (nI 0, m1, nv) ⟨0, nv, by omega, by omega, rfl⟩ (by omega)
  exact ⟨nv', by rw [← h2]; exact h1⟩
theorem X12_fewIn {b0 : Prop} {w : Nat → Nat} (hn : 100 ≤ n) (ha : okA a) (e1 : mo.2.1 0 1 = nI (a 1)) (hw : ∀ i, w i ≤ 6) (e4 : ∀ i, i < a 1 → mo.2.1 4 i = nI (w i)) : f_X12_fewest_l33 n n mo v2 v1 (nI 0) (bI b0) (nI 0) = some (bI (b0 ∧ ∀ i, i < a 1 → w i ≠ 5), nI (usW w (a 1))) := by
  have h6 := okL ha
  have eL := X12_letters (n := n) e1
  refine lp_cnt' (a 1) (fun i => (bI (b0 ∧ ∀ j, j < i → w j ≠ 5), nI (usW w i))) _ _ ?_ (fun i hi => ?_) ?_ (by omega)
  · show (bI (b0 ∧ ∀ j, j < 0 → w j ≠ 5), nI 0) = (bI b0, nI 0)
    rw [bI_congr (show (b0 ∧ ∀ j, j < 0 → w j ≠ 5) ↔ b0 from ⟨fun z => z.1, fun z => ⟨z, fun j hj => absurd hj (Nat.not_lt_zero j)⟩⟩)]
  · have e := e4 i hi
    have wi := hw i
    have ul := usW_lt (w := w) i
    have od := or_dec (usW w i) ul
    have st : (b0 ∧ ∀ j, j < i + 1 → w j ≠ 5) ↔ (b0 ∧ ∀ j, j < i → w j ≠ 5) ∧ w i ≠ 5 := by
      constructor
      · rintro ⟨z1, z2⟩
        exact ⟨⟨z1, fun j hj => z2 j (by omega)⟩, z2 i (by omega)⟩
      · rintro ⟨⟨z1, z2⟩, z3⟩
        refine ⟨z1, fun j hj => ?_⟩
        by_cases g : j = i
        · rw [g]; exact z3
        · exact z2 j (by omega)
    show f_X12_fewest_b33 n mo (nI i) (bI (b0 ∧ ∀ j, j < i → w j ≠ 5)) (nI (usW w i)) v2 v1 = some (.inl (nI (i + 1), bI (b0 ∧ ∀ j, j < i + 1 → w j ≠ 5), nI (usW w (i + 1))))
    rw [bI_congr st]
    generalize (b0 ∧ ∀ j, j < i → w j ≠ 5) = B
    by_cases c5 : w i = 5
    · rw [bI_Fn (show ¬ (B ∧ w i ≠ 5) from fun z => z.2 c5), show usW w (i + 1) = usW w i from if_neg (by omega)]
      by_cases cB : B
      · rw [bI_Tn cB]
        simp (disch := omega) only [f_X12_fewest_b33, f_X12_fewest_j62, f_X12_fewest_j63, f_X12_fewest_j90, eL, pl_lit, pl_bl, pl_bd, pl_bd2, pl_bd3, pl_bd4, pl_bcT, pl_bcF, gd_t, pl_bcTrue, pl_bcFalse, pl_gdTrue, pl_in, pl_eq, pl_lt, pl_le, pl_ix, nI_add, pk_mul, pl_m1, e, or_n0]
      · rw [bI_Fn cB]
        simp (disch := omega) only [f_X12_fewest_b33, f_X12_fewest_j62, f_X12_fewest_j63, f_X12_fewest_j90, eL, pl_lit, pl_bl, pl_bd, pl_bd2, pl_bd3, pl_bd4, pl_bcT, pl_bcF, gd_t, pl_bcTrue, pl_bcFalse, pl_gdTrue, pl_in, pl_eq, pl_lt, pl_le, pl_ix, nI_add, pk_mul, pl_m1, e, or_n0]
    · by_cases cl : w i < 5
      · rw [show usW w (i + 1) = usW w i ||| 2 ^ w i from if_pos cl]
        have od' := od (w i) (by omega)
        by_cases cB : B
        · rw [bI_Tn cB, bI_Tn (show B ∧ w i ≠ 5 from ⟨cB, c5⟩)]
          simp (disch := omega) only [f_X12_fewest_b33, f_X12_fewest_j62, f_X12_fewest_j63, f_X12_fewest_j90, eL, pl_lit, pl_bl, pl_bd, pl_bd2, pl_bd3, pl_bd4, pl_bcT, pl_bcF, gd_t, pl_bcTrue, pl_bcFalse, pl_gdTrue, pl_in, pl_eq, pl_lt, pl_le, pl_ix, nI_add, pk_mul, pl_m1, e, od']
        · rw [bI_Fn cB, bI_Fn (show ¬ (B ∧ w i ≠ 5) from fun z => cB z.1)]
          simp (disch := omega) only [f_X12_fewest_b33, f_X12_fewest_j62, f_X12_fewest_j63, f_X12_fewest_j90, eL, pl_lit, pl_bl, pl_bd, pl_bd2, pl_bd3, pl_bd4, pl_bcT, pl_bcF, gd_t, pl_bcTrue, pl_bcFalse, pl_gdTrue, pl_in, pl_eq, pl_lt, pl_le, pl_ix, nI_add, pk_mul, pl_m1, e, od']
      · rw [show usW w (i + 1) = usW w i from if_neg cl]
        by_cases cB : B
        · rw [bI_Tn cB, bI_Tn (show B ∧ w i ≠ 5 from ⟨cB, c5⟩)]
          simp (disch := omega) only [f_X12_fewest_b33, f_X12_fewest_j62, f_X12_fewest_j63, f_X12_fewest_j90, eL, pl_lit, pl_bl, pl_bd, pl_bd2, pl_bd3, pl_bd4, pl_bcT, pl_bcF, gd_t, pl_bcTrue, pl_bcFalse, pl_gdTrue, pl_in, pl_eq, pl_lt, pl_le, pl_ix, nI_add, pk_mul, pl_m1, e, or_n0]
        · rw [bI_Fn cB, bI_Fn (show ¬ (B ∧ w i ≠ 5) from fun z => cB z.1)]
          simp (disch := omega) only [f_X12_fewest_b33, f_X12_fewest_j62, f_X12_fewest_j63, f_X12_fewest_j90, eL, pl_lit, pl_bl, pl_bd, pl_bd2, pl_bd3, pl_bd4, pl_bcT, pl_bcF, gd_t, pl_bcTrue, pl_bcFalse, pl_gdTrue, pl_in, pl_eq, pl_lt, pl_le, pl_ix, nI_add, pk_mul, pl_m1, e, or_n0]
  · show f_X12_fewest_b33 n mo (nI (a 1)) (bI (b0 ∧ ∀ j, j < a 1 → w j ≠ 5)) (nI (usW w (a 1))) v2 v1 = _
    simp (disch := omega) only [f_X12_fewest_b33, eL, pl_lit, pl_bl, pl_bd, pl_bd2, pl_bd3, pl_bd4, pl_bcT, pl_bcF, gd_t, pl_bcTrue, pl_bcFalse, pl_gdTrue, pl_in, pl_eq, pl_lt, pl_le, pl_ix, nI_add, pk_mul, pl_m1]
theorem mb_lt {VF : Nat → Prop} {us : Nat → Nat} (hu : ∀ c, us c < 64) {i b : Nat} (h : mbF VF us i = some b) : b < 64 := by
  obtain ⟨⟨c, _, _, e⟩, _⟩ := (mb_spec (VF := VF) (us := us) i).1 b h
  rw [← e]
  exact hu c
theorem X12_fewJ {i : Nat} (hn : 100 ≤ n) (ha : okA a) (e1 : mo.2.1 0 1 = nI (a 1)) (e4 : ∀ j, j < a 1 → mo.2.1 4 j = nI (wP (liA a) (a 1) i j)) : f_X12_fewest_j28 n mo (nI 0) (nI i) (oI (mbF (VFa a) (usA a) i)) (bI (PV (liA a) (qT a) (CA a) (a 1) i)) = some (.inl (nI (i + 1), oI (mbF (VFa a) (usA a) (i + 1)), mo)) := by
  have fi := X12_fewIn (n := n) (mo := mo) (v2 := nI i) (v1 := oI (mbF (VFa a) (usA a) i)) (b0 := PV (liA a) (qT a) (CA a) (a 1) i) (w := wP (liA a) (a 1) i) hn ha e1 (fun j => wP_le (a 1) i j) e4
  have fi : f_X12_fewest_l33 n n mo (nI i) (oI (mbF (VFa a) (usA a) i)) (nI 0) (bI (PV (liA a) (qT a) (CA a) (a 1) i)) (nI 0) = some (bI (VFa a i), nI (usA a i)) := fi
  have ul : ∀ c, usA a c < 64 := fun c => usW_lt (a 1)
  have u1 := ul i
  have g1 := X12_bits (n := n) hn u1
  have l1 := bcN_le (usA a i)
  generalize bI (PV (liA a) (qT a) (CA a) (a 1) i) = x at fi
  cases hE : mbF (VFa a) (usA a) i with
  | none =>
    rw [hE] at fi
    have fi : f_X12_fewest_l33 n n mo (nI i) m1 (nI 0) x (nI 0) = some (bI (VFa a i), nI (usA a i)) := fi
    by_cases d : VFa a i
    · rw [bI_Tn d] at fi
      rw [mb_T ⟨d, fun b h => by rw [hE] at h; cases h⟩]
      simp (disch := omega) only [f_X12_fewest_j28, f_X12_fewest_j130, f_X12_fewest_j134, f_X12_fewest_j135, f_X12_fewest_j151, f_X12_fewest_j152, oI, pl_lit, pl_bl, pl_bd, pl_bd2, pl_bd3, pl_bd4, pl_bcT, pl_bcF, gd_t, pl_bcTrue, pl_bcFalse, pl_gdTrue, pl_in, pl_eq, pl_lt, pl_le, pl_ix, nI_add, pk_mul, pl_m1, fi]
    · rw [bI_Fn d] at fi
      rw [mb_F (fun z => d z.1), hE]
      simp (disch := omega) only [f_X12_fewest_j28, f_X12_fewest_j130, f_X12_fewest_j134, f_X12_fewest_j135, f_X12_fewest_j151, f_X12_fewest_j152, oI, pl_lit, pl_bl, pl_bd, pl_bd2, pl_bd3, pl_bd4, pl_bcT, pl_bcF, gd_t, pl_bcTrue, pl_bcFalse, pl_gdTrue, pl_in, pl_eq, pl_lt, pl_le, pl_ix, nI_add, pk_mul, pl_m1, fi]
  | some b =>
    rw [hE] at fi
    have fi : f_X12_fewest_l33 n n mo (nI i) (nI b) (nI 0) x (nI 0) = some (bI (VFa a i), nI (usA a i)) := fi
    have u2 := mb_lt ul hE
    have g2 := X12_bits (n := n) hn u2
    have l2 := bcN_le b
    by_cases k : bcN (usA a i) < bcN b ∨ (bcN (usA a i) = bcN b ∧ usA a i < b)
    · by_cases d : VFa a i
      · rw [bI_Tn d] at fi
        rw [mb_T ⟨d, fun b' h => by rw [hE] at h; cases h; exact k⟩]
        by_cases k1 : bcN (usA a i) < bcN b
        · simp (disch := omega) only [f_X12_fewest_j28, f_X12_fewest_j130, f_X12_fewest_j134, f_X12_fewest_j135, f_X12_fewest_j151, f_X12_fewest_j152, oI, pl_lit, pl_bl, pl_bd, pl_bd2, pl_bd3, pl_bd4, pl_bcT, pl_bcF, gd_t, pl_bcTrue, pl_bcFalse, pl_gdTrue, pl_in, pl_eq, pl_lt, pl_le, pl_ix, nI_add, pk_mul, pl_m1, fi, pl_nem1, g1, g2]
        · simp (disch := omega) only [f_X12_fewest_j28, f_X12_fewest_j130, f_X12_fewest_j134, f_X12_fewest_j135, f_X12_fewest_j151, f_X12_fewest_j152, oI, pl_lit, pl_bl, pl_bd, pl_bd2, pl_bd3, pl_bd4, pl_bcT, pl_bcF, gd_t, pl_bcTrue, pl_bcFalse, pl_gdTrue, pl_in, pl_eq, pl_lt, pl_le, pl_ix, nI_add, pk_mul, pl_m1, fi, pl_nem1, g1, g2]
      · rw [bI_Fn d] at fi
        rw [mb_F (fun z => d z.1), hE]
        by_cases k1 : bcN (usA a i) < bcN b
        · simp (disch := omega) only [f_X12_fewest_j28, f_X12_fewest_j130, f_X12_fewest_j134, f_X12_fewest_j135, f_X12_fewest_j151, f_X12_fewest_j152, oI, pl_lit, pl_bl, pl_bd, pl_bd2, pl_bd3, pl_bd4, pl_bcT, pl_bcF, gd_t, pl_bcTrue, pl_bcFalse, pl_gdTrue, pl_in, pl_eq, pl_lt, pl_le, pl_ix, nI_add, pk_mul, pl_m1, fi, pl_nem1, g1, g2]
        · simp (disch := omega) only [f_X12_fewest_j28, f_X12_fewest_j130, f_X12_fewest_j134, f_X12_fewest_j135, f_X12_fewest_j151, f_X12_fewest_j152, oI, pl_lit, pl_bl, pl_bd, pl_bd2, pl_bd3, pl_bd4, pl_bcT, pl_bcF, gd_t, pl_bcTrue, pl_bcFalse, pl_gdTrue, pl_in, pl_eq, pl_lt, pl_le, pl_ix, nI_add, pk_mul, pl_m1, fi, pl_nem1, g1, g2]
    · rw [mb_F (fun z => k (z.2 b hE)), hE]
      by_cases d : VFa a i
      · rw [bI_Tn d] at fi
        by_cases k1 : bcN (usA a i) = bcN b
        · simp (disch := omega) only [f_X12_fewest_j28, f_X12_fewest_j130, f_X12_fewest_j134, f_X12_fewest_j135, f_X12_fewest_j151, f_X12_fewest_j152, oI, pl_lit, pl_bl, pl_bd, pl_bd2, pl_bd3, pl_bd4, pl_bcT, pl_bcF, gd_t, pl_bcTrue, pl_bcFalse, pl_gdTrue, pl_in, pl_eq, pl_lt, pl_le, pl_ix, nI_add, pk_mul, pl_m1, fi, pl_nem1, g1, g2]
        · simp (disch := omega) only [f_X12_fewest_j28, f_X12_fewest_j130, f_X12_fewest_j134, f_X12_fewest_j135, f_X12_fewest_j151, f_X12_fewest_j152, oI, pl_lit, pl_bl, pl_bd, pl_bd2, pl_bd3, pl_bd4, pl_bcT, pl_bcF, gd_t, pl_bcTrue, pl_bcFalse, pl_gdTrue, pl_in, pl_eq, pl_lt, pl_le, pl_ix, nI_add, pk_mul, pl_m1, fi, pl_nem1, g1, g2]
      · rw [bI_Fn d] at fi
        by_cases k1 : bcN (usA a i) = bcN b
        · simp (disch := omega) only [f_X12_fewest_j28, f_X12_fewest_j130, f_X12_fewest_j134, f_X12_fewest_j135, f_X12_fewest_j151, f_X12_fewest_j152, oI, pl_lit, pl_bl, pl_bd, pl_bd2, pl_bd3, pl_bd4, pl_bcT, pl_bcF, gd_t, pl_bcTrue, pl_bcFalse, pl_gdTrue, pl_in, pl_eq, pl_lt, pl_le, pl_ix, nI_add, pk_mul, pl_m1, fi, pl_nem1, g1, g2]
        · simp (disch := omega) only [f_X12_fewest_j28, f_X12_fewest_j130, f_X12_fewest_j134, f_X12_fewest_j135, f_X12_fewest_j151, f_X12_fewest_j152, oI, pl_lit, pl_bl, pl_bd, pl_bd2, pl_bd3, pl_bd4, pl_bcT, pl_bcF, gd_t, pl_bcTrue, pl_bcFalse, pl_gdTrue, pl_in, pl_eq, pl_lt, pl_le, pl_ix, nI_add, pk_mul, pl_m1, fi, pl_nem1, g1, g2]
theorem X12_fewL (hn : 50000 ≤ n) (ha : okA a) (ht : TR (mo.2.1 0) a) : ∃ mo', f_X12_fewest_l4 n n mo (nI 0) m1 = some (oI (mbF (VFa a) (usA a) (6 ^ a 1)), mo') ∧ SM mo mo' := by
  have h6 := okL ha
  have pl := p6_le (a 1) (by omega)
  have pp : 0 < 6 ^ a 1 := Nat.pow_pos (by omega)
  obtain ⟨r, h1, mo', h2, h3⟩ := lp_inv (body := fun q => f_X12_fewest_b4 n q.2.2 q.1 q.2.1) (fun k st => ∃ (i : Nat) (mo' : MV), i ≤ 6 ^ a 1 ∧ k = 6 ^ a 1 - i ∧ st = (nI i, oI (mbF (VFa a) (usA a) i), mo') ∧ SM mo mo') (fun r => ∃ mo', r = (oI (mbF (VFa a) (usA a) (6 ^ a 1)), mo') ∧ SM mo mo') (by
    rintro k st ⟨i, mo', hi, rfl, rfl, k1⟩
    have eC := X12_codes (n := n) (mo := mo') (a := a) (by omega) ha (by rw [SM_0 k1]; exact ht.2.1)
    by_cases c : i < 6 ^ a 1
    · obtain ⟨mo2, g1, g2, g3⟩ := X12_savedBy (n := n) (mo := mo') (code := i) (by omega) ha (SM_TR k1 ht) (by omega)
      have sl := sP_le (li := liA a) (po := postN a) (a 1) i (fun j hj => (postN_le ha hj).2)
      have k12 := SM_tr k1 (SB_SM g2)
      have fj := X12_fewJ (n := n) (mo := mo2) (i := i) (by omega) ha (by rw [SM_0 k12]; exact ht.2.1) g3
      refine Or.inl ⟨(nI (i + 1), oI (mbF (VFa a) (usA a) (i + 1)), mo2), 6 ^ a 1 - (i + 1), ?_, by omega, i + 1, mo2, by omega, rfl, rfl, k12⟩
      by_cases d : PV (liA a) (qT a) (CA a) (a 1) i
      · rw [iI_T d] at g1
        rw [bI_Tn d] at fj
        simp (disch := omega) only [f_X12_fewest_b4, eC, pl_lit, pl_bl, pl_bd, pl_bd2, pl_bd3, pl_bd4, pl_bcT, pl_bcF, gd_t, pl_bcTrue, pl_bcFalse, pl_gdTrue, pl_in, pl_eq, pl_lt, pl_le, pl_ix, nI_add, pk_mul, pl_m1, g1, mI_S, pl_nem1, fj]
      · rw [iI_F d] at g1
        rw [bI_Fn d] at fj
        simp (disch := omega) only [f_X12_fewest_b4, eC, pl_lit, pl_bl, pl_bd, pl_bd2, pl_bd3, pl_bd4, pl_bcT, pl_bcF, gd_t, pl_bcTrue, pl_bcFalse, pl_gdTrue, pl_in, pl_eq, pl_lt, pl_le, pl_ix, nI_add, pk_mul, pl_m1, g1, mI_0, fj]
    · have : i = 6 ^ a 1 := by omega
      subst this
      refine Or.inr ⟨(oI (mbF (VFa a) (usA a) (6 ^ a 1)), mo'), ?_, mo', rfl, k1⟩
      simp (disch := omega) only [f_X12_fewest_b4, eC, pl_lit, pl_bl, pl_bd, pl_bd2, pl_bd3, pl_bd4, pl_bcT, pl_bcF, gd_t, pl_bcTrue, pl_bcFalse, pl_gdTrue, pl_in, pl_eq, pl_lt, pl_le, pl_ix, nI_add, pk_mul, pl_m1]) n (6 ^ a 1) (nI 0, m1, mo) ⟨0, mo, by omega, by omega, rfl, SM_rf⟩ (by omega)
  exact ⟨mo', by rw [← h2]; exact h1, h3⟩
end FW3
theorem sim_fewest {n : Nat} (hn : 50000 ≤ n) : SIM_fewest n INV := by
  intro xo nv rv h0 h1 h2 h3 nt0 cv0 nt1 cv1 nt2 cv2 nt3 cv3 ps0 ps1 ps2 ps3 mo hI
  have hI0 := hI
  obtain ⟨⟨a, ha, ht, hh, hc, hn', hp⟩, i2⟩ := hI
  have h6 := okL ha
  have pl := p_lt (a 0) (by omega)
  have du := X1_postageDue (n := n) (by omega) ha hh
  obtain ⟨nv', g1⟩ := X11_fewL (n := n) (xo := xo) (nv := nv) (by omega) ha hh
  obtain ⟨mo', g2, g3⟩ := X12_fewL (n := n) (mo := mo) hn ha ht
  rw [few_eq (VF := VFa a) (us := usA a) (N := 6 ^ a 1) (by omega) (fun c _ hV => us_lt ha hV) (fun S _ => fe_iff ha)] at g1
  refine ⟨oI (mbF (VFa a) (usA a) (6 ^ a 1)), nv', mo', ?_, ?_, SM_INV g3 hI0⟩
  · simp (disch := omega) only [f_X11_fewest, du, pl_lit, pl_bl, pl_bd, pl_bd2, pl_bd3, pl_bd4, pl_bcT, pl_bcF, gd_t, pl_bcTrue, pl_bcFalse, pl_gdTrue, pl_in, pl_eq, pl_lt, pl_le, pl_ix, nI_add, pk_mul, pl_m1, g1]
  · simp (disch := omega) only [f_X12_fewest, pl_lit, pl_bl, pl_bd, pl_bd2, pl_bd3, pl_bd4, pl_bcT, pl_bcF, gd_t, pl_bcTrue, pl_bcFalse, pl_gdTrue, pl_in, pl_eq, pl_lt, pl_le, pl_ix, nI_add, pk_mul, pl_m1, g2]
