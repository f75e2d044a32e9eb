/-! forged -/
def bcN (s : Nat) : Nat := s % 2 + s / 2 % 2 + s / 4 % 2 + s / 8 % 2 + s / 16 % 2 + s / 32 % 2
def bc32 (v0 : Int32) : Int32 :=
  let v1 := v0 - (((v0.toUInt32 >>> ((1 : Int32).toUInt32 &&& Int32.toUInt32 31)).toInt32) &&& 1431655765)
  let v2 := (v1 &&& 858993459) + (((v1.toUInt32 >>> ((2 : Int32).toUInt32 &&& Int32.toUInt32 31)).toInt32) &&& 858993459)
  let v3 := (v2 + ((v2.toUInt32 >>> ((4 : Int32).toUInt32 &&& Int32.toUInt32 31)).toInt32)) &&& 252645135
  let v4 := v3 + ((v3.toUInt32 >>> ((8 : Int32).toUInt32 &&& Int32.toUInt32 31)).toInt32)
  let v5 := v4 + ((v4.toUInt32 >>> ((16 : Int32).toUInt32 &&& Int32.toUInt32 31)).toInt32)
  v5 &&& 63
theorem bc32_dec : ∀ s, s < 64 → bc32 (nI s) = nI (bcN s) := by decide +kernel
theorem J6_bitCount {n s : Nat} (hs : s < 64) : f_J6_bitCount n (nI s) = some (nI (bcN s)) := by
  rw [← bc32_dec s hs]
  rfl
theorem shr1_dec : ∀ s, s < 64 → nI s >>> (nI 1 &&& nI 31) = nI (s / 2) := by decide +kernel
theorem and1_dec : ∀ s, s < 64 → nI s &&& nI 1 = nI (s % 2) := by decide +kernel
theorem bcN_h : ∀ s, s < 64 → bcN s = s % 2 + bcN (s / 2) := by decide +kernel
theorem bcN_le (s : Nat) : bcN s ≤ 6 := by unfold bcN; omega
theorem X12_bits {n s : Nat} (hn : 100 ≤ n) (hs : s < 64) : f_X12_bits n (nI s) = some (nI (bcN s)) := by
  have hl := bcN_le s
  obtain ⟨r, h1, h2⟩ := lp_inv (body := fun q => f_X12_bits_b4 n q.1 q.2) (fun k st => ∃ x c, x < 64 ∧ c ≤ 6 ∧ k = x ∧ st = (nI x, nI c) ∧ c + bcN x = bcN s) (fun r => r = nI (bcN s)) (by
    rintro k st ⟨x, c, hx, hc, rfl, rfl, hb⟩
    by_cases d : k = 0
    · refine Or.inr ⟨nI c, ?_, ?_⟩
      · subst d
        simp (disch := omega) only [f_X12_bits_b4, pl_lit, pl_bl, pl_bd, pl_bd2, pl_bd3, pl_bd4, pl_bcT, pl_bcF, gd_t, pl_bcTrue, pl_bcFalse, pl_gdTrue, pl_in, pl_eq, pl_lt, pl_le, pl_ix, nI_add, pk_mul, pl_m1]
      · subst d
        rw [← hb]
        rfl
    · have e1 := shr1_dec k hx
      have e2 := and1_dec k hx
      have e3 := bcN_h k hx
      refine Or.inl ⟨(nI (k / 2), nI (c + k % 2)), k / 2, ?_, by omega, k / 2, c + k % 2, by omega, by omega, rfl, rfl, by omega⟩
      simp (disch := omega) only [f_X12_bits_b4, pl_lit, pl_bl, pl_bd, pl_bd2, pl_bd3, pl_bd4, pl_bcT, pl_bcF, gd_t, pl_bcTrue, pl_bcFalse, pl_gdTrue, pl_in, pl_eq, pl_lt, pl_le, pl_ix, nI_add, pk_mul, pl_m1, e1, e2]) n s (nI s, nI 0) ⟨s, 0, hs, by omega, rfl, rfl, by omega⟩ (by omega)
  have h1' : f_X12_bits_l4 n n (nI s) (nI 0) = some r := h1
  unfold f_X12_bits
  simp only [pl_lit, h1', pl_bd, h2]
theorem bcN_or : ∀ k, k < 6 → ∀ s, s < 64 → s < 2 ^ k → bcN (s ||| 2 ^ k) = bcN s + 1 := by decide +kernel
theorem num_T {P : Nat → Prop} {n : Nat} (c : P n) : numN P (n + 1) = numN P n + 1 := by
  show numN P n + _ = _
  rw [if_pos c]
theorem num_F {P : Nat → Prop} {n : Nat} (c : ¬ P n) : numN P (n + 1) = numN P n := by
  show numN P n + _ = _
  rw [if_neg c]
  rfl
theorem bcN_set {P : Nat → Prop} : ∀ n, n ≤ 6 → bcN (setN P n) = numN P n
  | 0, _ => by
    show bcN 0 = 0
    rfl
  | n + 1, h => by
    have ih := bcN_set (P := P) n (by omega)
    by_cases c : P n
    · have hl := setN_lt (P := P) n
      have hp := p_lt n (by omega)
      rw [show setN P (n + 1) = setN P n ||| 2 ^ n from if_pos c, num_T c, bcN_or n (by omega) _ (by omega) hl, ih]
    · rw [show setN P (n + 1) = setN P n from if_neg c, num_F c, ih]
theorem num_congr {P Q : Nat → Prop} : ∀ n, (∀ i, i < n → (P i ↔ Q i)) → numN P n = numN Q n
  | 0, _ => rfl
  | n + 1, h => by
    have ih := num_congr n (fun i hi => h i (by omega))
    have h1 := h n (by omega)
    by_cases c : P n
    · rw [num_T c, num_T (h1.mp c), ih]
    · rw [num_F c, num_F (fun z => c (h1.mpr z)), ih]
theorem num_ext {P : Nat → Prop} {A : Nat} (h : ∀ k, A ≤ k → ¬ P k) : ∀ j, numN P (A + j) = numN P A
  | 0 => rfl
  | j + 1 => by
    rw [← Nat.add_assoc, num_F (h (A + j) (by omega)), num_ext h j]
theorem num_0 {P : Nat → Prop} : ∀ n, (∀ i, i < n → ¬ P i) → numN P n = 0
  | 0, _ => rfl
  | n + 1, h => by rw [num_F (h n (by omega)), num_0 n (fun i hi => h i (by omega))]
theorem bcN_bs {P Q : Nat → Prop} {A : Nat} (hA : A ≤ 6) (h1 : ∀ k, A ≤ k → ¬ P k) (h2 : ∀ k, k < A → (P k ↔ Q k)) : bcN (bs P) = numN Q A := by
  show bcN (setN P 6) = _
  rw [bcN_set 6 (by omega), show 6 = A + (6 - A) by omega, num_ext h1, num_congr A h2]
/-- loops that end early -/
theorem bI_Tn {c : Prop} (h : c) : bI c = nI 1 := bI_T h
theorem bI_Fn {c : Prop} (h : ¬ c) : bI c = nI 0 := bI_F h
theorem lp_all {body : (Int32 × Int32) → Option ((Int32 × Int32) ⊕ Int32)} (L : Nat) (A0 : Prop) (P : Nat → Prop) (hx : ∀ i, i ≤ L → body (nI i, nI 0) = some (.inr (nI 0))) (he : body (nI L, nI 1) = some (.inr (nI 1))) (hb : ∀ i, i < L → body (nI i, nI 1) = some (.inl (nI (i + 1), bI (P i)))) {fuel : Nat} (hf : L < fuel) : lp body fuel (nI 0, bI A0) = some (bI (A0 ∧ allP P L)) := by
  obtain ⟨r, h1, h2⟩ := lp_inv (body := body) (fun k s => ∃ i, i ≤ L ∧ k = L - i ∧ s = (nI i, bI (A0 ∧ allP P i))) (fun r => r = bI (A0 ∧ allP P L)) (by
    rintro k s ⟨i, hi, rfl, rfl⟩
    by_cases c : A0 ∧ allP P i
    · rw [bI_Tn c]
      by_cases h : i < L
      · refine Or.inl ⟨_, L - (i + 1), hb i h, by omega, i + 1, by omega, rfl, ?_⟩
        rw [bI_congr (show P i ↔ A0 ∧ allP P (i + 1) from ⟨fun z => ⟨c.1, allP_s.mpr ⟨c.2, z⟩⟩, fun z => (allP_s.mp z.2).2⟩)]
      · have : i = L := by omega
        subst this
        exact Or.inr ⟨nI 1, he, (bI_Tn c).symm⟩
    · rw [bI_Fn c]
      refine Or.inr ⟨nI 0, hx i hi, ?_⟩
      rw [bI_Fn (fun z => c ⟨z.1, fun j hj => z.2 j (by omega)⟩)]) fuel L (nI 0, bI A0) ⟨0, by omega, by omega, by rw [bI_congr (show A0 ↔ A0 ∧ allP P 0 from ⟨fun z => ⟨z, allP_0⟩, fun z => z.1⟩)]⟩ hf
  rw [h1, h2]
theorem lp_any {body : (Int32 × Int32) → Option ((Int32 × Int32) ⊕ Int32)} (L : Nat) (P : Nat → Prop) (hx : ∀ i, i ≤ L → body (nI i, nI 1) = some (.inr (nI 1))) (he : body (nI L, nI 0) = some (.inr (nI 0))) (hb : ∀ i, i < L → body (nI i, nI 0) = some (.inl (nI (i + 1), bI (P i)))) {fuel : Nat} (hf : L < fuel) : lp body fuel (nI 0, nI 0) = some (bI (∃ i, i < L ∧ P i)) := by
  obtain ⟨r, h1, h2⟩ := lp_inv (body := body) (fun k s => ∃ i, i ≤ L ∧ k = L - i ∧ s = (nI i, bI (∃ j, j < i ∧ P j))) (fun r => r = bI (∃ i, i < L ∧ P i)) (by
    rintro k s ⟨i, hi, rfl, rfl⟩
    by_cases c : ∃ j, j < i ∧ P j
    · rw [bI_Tn c]
      refine Or.inr ⟨nI 1, hx i hi, ?_⟩
      obtain ⟨j, hj, hP⟩ := c
      rw [bI_Tn (⟨j, by omega, hP⟩ : ∃ i, i < L ∧ P i)]
    · rw [bI_Fn c]
      by_cases h : i < L
      · refine Or.inl ⟨_, L - (i + 1), hb i h, by omega, i + 1, by omega, rfl, ?_⟩
        rw [bI_congr (show P i ↔ ∃ j, j < i + 1 ∧ P j from ⟨fun z => ⟨i, by omega, z⟩, fun ⟨j, hj, z⟩ => by
          by_cases e : j = i
          · rw [← e]; exact z
          · exact absurd ⟨j, by omega, z⟩ c⟩)]
      · have : i = L := by omega
        subst this
        exact Or.inr ⟨nI 0, he, (bI_Fn c).symm⟩) fuel L (nI 0, nI 0) ⟨0, by omega, by omega, by rw [bI_Fn (fun ⟨j, hj, _⟩ => absurd hj (Nat.not_lt_zero j))]⟩ hf
  rw [h1, h2]
/-- what the model asks of a day -/
def trueP (a : Nat → Nat) (m d s : Nat) : Prop := (∃ p, p < 100 ∧ allP (fitP (valN a) (covP a m d s) (reachN (a (24 + m))) p) (a 2)) ∧ numN (covP a m d s) (a 2) ≤ signsN (a (24 + m)) d
def forP (a : Nat → Nat) (m s k : Nat) : Prop := (a (47 + 3 * k) = m ∧ trueP a m (a (48 + 3 * k)) s) ∨ (¬ a (47 + 3 * k) = m ∧ s.testBit k = false)
def valP (a : Nat → Nat) (m s : Nat) : Prop := allP (forP a m s) (a 2)
section FRG
variable {n : Nat} {h mo cv : MV} {t : Nat → Int32} {a : Nat → Nat} {m d s : Nat} {v2 v3 v4 v5 : Int32}
theorem X12_trueN (hn : 200 ≤ n) (ha : okA a) (ht : TR (mo.2.1 0) a) (hm : m < a 0) (hd : d ≤ 99) (hs : s < 64) : f_X12_areTrue_l9 n n mo v5 (nI m) (nI d) (nI s) (nI 0) (nI 0) = some (nI (numN (covP a m d s) (a 2))) := by
  have h6 := okL ha
  have e : mo.2.1 0 2 = nI (a 2) := ht.2.2.1
  refine lp_cnt (a 2) (fun i => nI (numN (covP a m d s) i)) _ (fun i hi => ?_) ?_ (by omega)
  · have g1 := X12_isCoverOf (n := n) (m := m) (d := d) ha ht hi (by omega) (by omega)
    have g2 := X12_has (n := n) hs (show i < 6 by omega)
    by_cases c1 : a (47 + 3 * i) = m ∧ a (48 + 3 * i) = d
    · by_cases c2 : s.testBit i = true
      · have q : ¬ covP a m d s i := fun z => by rw [z.2.2] at c2; cases c2
        simp (disch := omega) only [f_X12_areTrue_b9, f_X12_areTrue_j46, f_X12_areTrue_j47, e, pl_lit, pl_bl, pl_bd, pl_bd2, pl_bd3, pl_bd4, pl_bcT, pl_bcF, gd_t, pl_bcTrue, pl_bcFalse, pl_gdTrue, pl_in, pl_eq, pl_lt, pl_le, pl_ix, nI_add, pk_mul, pl_m1, g1, g2, bI_T c1, bI_T c2, num_F q, Nat.add_zero]
      · have q : covP a m d s i := ⟨c1.1, c1.2, by rw [← Bool.not_eq_true]; exact c2⟩
        simp (disch := omega) only [f_X12_areTrue_b9, f_X12_areTrue_j46, f_X12_areTrue_j47, e, pl_lit, pl_bl, pl_bd, pl_bd2, pl_bd3, pl_bd4, pl_bcT, pl_bcF, gd_t, pl_bcTrue, pl_bcFalse, pl_gdTrue, pl_in, pl_eq, pl_lt, pl_le, pl_ix, nI_add, pk_mul, pl_m1, g1, g2, bI_T c1, bI_F c2, num_T q]
    · have q : ¬ covP a m d s i := fun z => c1 ⟨z.1, z.2.1⟩
      simp (disch := omega) only [f_X12_areTrue_b9, f_X12_areTrue_j46, f_X12_areTrue_j47, e, pl_lit, pl_bl, pl_bd, pl_bd2, pl_bd3, pl_bd4, pl_bcT, pl_bcF, gd_t, pl_bcTrue, pl_bcFalse, pl_gdTrue, pl_in, pl_eq, pl_lt, pl_le, pl_ix, nI_add, pk_mul, pl_m1, g1, bI_F c1, num_F q, Nat.add_zero]
  · simp (disch := omega) only [f_X12_areTrue_b9, e, pl_lit, pl_bl, pl_bd, pl_bd2, pl_bd3, pl_bd4, pl_bcT, pl_bcF, gd_t, pl_bcTrue, pl_bcFalse, pl_gdTrue, pl_in, pl_eq, pl_lt, pl_le, pl_ix, nI_add, pk_mul, pl_m1]
theorem X12_trueS (hn : 200 ≤ n) (ha : okA a) (ht : TR (mo.2.1 0) a) (hm : m < a 0) (hd : d ≤ 99) (hs : s < 64) : f_X12_areTrue_l59 n n mo v4 (nI m) (nI d) (nI s) (nI 0) (nI 0) = some (bI (∃ p, p < 100 ∧ allP (fitP (valN a) (covP a m d s) (reachN (a (24 + m))) p) (a 2))) := by
  refine lp_any 100 (fun p => allP (fitP (valN a) (covP a m d s) (reachN (a (24 + m))) p) (a 2)) (fun i hi => ?_) ?_ (fun i hi => ?_) (by omega)
  · by_cases c : i < 100
    · simp (disch := omega) only [f_X12_areTrue_b59, pl_lit, pl_bl, pl_bd, pl_bd2, pl_bd3, pl_bd4, pl_bcT, pl_bcF, gd_t, pl_bcTrue, pl_bcFalse, pl_gdTrue, pl_in, pl_eq, pl_lt, pl_le, pl_ix, nI_add, pk_mul, pl_m1]
    · simp (disch := omega) only [f_X12_areTrue_b59, pl_lit, pl_bl, pl_bd, pl_bd2, pl_bd3, pl_bd4, pl_bcT, pl_bcF, gd_t, pl_bcTrue, pl_bcFalse, pl_gdTrue, pl_in, pl_eq, pl_lt, pl_le, pl_ix, nI_add, pk_mul, pl_m1]
  · simp (disch := omega) only [f_X12_areTrue_b59, pl_lit, pl_bl, pl_bd, pl_bd2, pl_bd3, pl_bd4, pl_bcT, pl_bcF, gd_t, pl_bcTrue, pl_bcFalse, pl_gdTrue, pl_in, pl_eq, pl_lt, pl_le, pl_ix, nI_add, pk_mul, pl_m1]
  · have g := X12_canBeAt (n := n) (mo := mo) (p := i) (s := s) (d := d) (by omega) ha ht hm (by omega) (by omega) hs
    simp (disch := omega) only [f_X12_areTrue_b59, pl_lit, pl_bl, pl_bd, pl_bd2, pl_bd3, pl_bd4, pl_bcT, pl_bcF, gd_t, pl_bcTrue, pl_bcFalse, pl_gdTrue, pl_in, pl_eq, pl_lt, pl_le, pl_ix, nI_add, pk_mul, pl_m1, g]
theorem X12_areTrue (hn : 200 ≤ n) (ha : okA a) (ht : TR (mo.2.1 0) a) (hm : m < a 0) (hd : d ≤ 99) (hs : s < 64) : f_X12_areTrue n mo (nI m) (nI d) (nI s) = some (bI (trueP a m d s)) := by
  have h6 := okL ha
  have eK := (trM ht hm).1
  have oK := (okM ha hm).1
  have g1 := fun v5 => X12_trueN (n := n) (mo := mo) (v5 := v5) hn ha ht hm hd hs
  have g2 := fun v4 => X12_trueS (n := n) (mo := mo) (v4 := v4) hn ha ht hm hd hs
  have g3 := X12_coversAs (n := n) (k := a (24 + m)) (d := d) oK (by omega)
  have sl := signsN_le (a (24 + m)) d
  have nl := numN_le (P := covP a m d s) (a 2)
  by_cases c1 : ∃ p, p < 100 ∧ allP (fitP (valN a) (covP a m d s) (reachN (a (24 + m))) p) (a 2)
  · by_cases c2 : numN (covP a m d s) (a 2) ≤ signsN (a (24 + m)) d
    · rw [bI_Tn (show trueP a m d s from ⟨c1, c2⟩)]
      simp (disch := omega) only [f_X12_areTrue, f_X12_areTrue_j88, f_X12_areTrue_j115, f_X12_areTrue_j116, pl_lit, pl_bl, pl_bd, pl_bd2, pl_bd3, pl_bd4, pl_bcT, pl_bcF, gd_t, pl_bcTrue, pl_bcFalse, pl_gdTrue, pl_in, pl_eq, pl_lt, pl_le, pl_ix, nI_add, pk_mul, pl_m1, g1, g2, g3, eK, bI_T c1, true_or, or_true]
    · rw [bI_Fn (show ¬ trueP a m d s from fun z => c2 z.2)]
      simp (disch := omega) only [f_X12_areTrue, f_X12_areTrue_j88, f_X12_areTrue_j115, f_X12_areTrue_j116, pl_lit, pl_bl, pl_bd, pl_bd2, pl_bd3, pl_bd4, pl_bcT, pl_bcF, gd_t, pl_bcTrue, pl_bcFalse, pl_gdTrue, pl_in, pl_eq, pl_lt, pl_le, pl_ix, nI_add, pk_mul, pl_m1, g1, g2, g3, eK, bI_T c1, true_or, or_true]
  · rw [bI_Fn (show ¬ trueP a m d s from fun z => c1 z.1)]
    simp (disch := omega) only [f_X12_areTrue, f_X12_areTrue_j88, f_X12_areTrue_j115, f_X12_areTrue_j116, pl_lit, pl_bl, pl_bd, pl_bd2, pl_bd3, pl_bd4, pl_bcT, pl_bcF, gd_t, pl_bcTrue, pl_bcFalse, pl_gdTrue, pl_in, pl_eq, pl_lt, pl_le, pl_ix, nI_add, pk_mul, pl_m1, g1, g2, bI_F c1, true_or, or_true]
theorem X12_forgedI {A0 : Prop} (hn : 200 ≤ n) (ha : okA a) (ht : TR (mo.2.1 0) a) (hm : m < a 0) (hs : s < 64) : f_X12_forged_l57 n n mo (nI s) v2 (nI m) (nI 0) (bI A0) = some (bI (A0 ∧ valP a m s)) := by
  have h6 := okL ha
  have e : mo.2.1 0 2 = nI (a 2) := ht.2.2.1
  refine lp_all (a 2) A0 (forP a m s) (fun i hi => ?_) ?_ (fun i hi => ?_) (by omega)
  · by_cases c : i < a 2
    · simp (disch := omega) only [f_X12_forged_b57, e, pl_lit, pl_bl, pl_bd, pl_bd2, pl_bd3, pl_bd4, pl_bcT, pl_bcF, gd_t, pl_bcTrue, pl_bcFalse, pl_gdTrue, pl_in, pl_eq, pl_lt, pl_le, pl_ix, nI_add, pk_mul, pl_m1]
    · simp (disch := omega) only [f_X12_forged_b57, e, pl_lit, pl_bl, pl_bd, pl_bd2, pl_bd3, pl_bd4, pl_bcT, pl_bcF, gd_t, pl_bcTrue, pl_bcFalse, pl_gdTrue, pl_in, pl_eq, pl_lt, pl_le, pl_ix, nI_add, pk_mul, pl_m1]
  · simp (disch := omega) only [f_X12_forged_b57, e, pl_lit, pl_bl, pl_bd, pl_bd2, pl_bd3, pl_bd4, pl_bcT, pl_bcF, gd_t, pl_bcTrue, pl_bcFalse, pl_gdTrue, pl_in, pl_eq, pl_lt, pl_le, pl_ix, nI_add, pk_mul, pl_m1]
  · obtain ⟨e1, e2, e3⟩ := ht.2.2.2.2.2.2.2.2.1 i hi
    obtain ⟨o1, o2, o3⟩ := ha.2.2.2.2.2.2.2.2.1 i hi
    have f1 : 47 + 3 * i + 1 = 48 + 3 * i := by omega
    by_cases c : a (47 + 3 * i) = m
    · have g := X12_areTrue (n := n) (mo := mo) (d := a (48 + 3 * i)) hn ha ht hm o2 hs
      have q : bI (forP a m s i) = bI (trueP a m (a (48 + 3 * i)) s) := bI_congr ⟨fun z => by
        rcases z with z | z
        · exact z.2
        · exact absurd c z.1, fun z => Or.inl ⟨c, z⟩⟩
      simp (disch := omega) only [f_X12_forged_b57, f_X12_forged_j94, f_X12_forged_j138, e, pl_lit, pl_bl, pl_bd, pl_bd2, pl_bd3, pl_bd4, pl_bcT, pl_bcF, gd_t, pl_bcTrue, pl_bcFalse, pl_gdTrue, pl_in, pl_eq, pl_lt, pl_le, pl_ix, nI_add, pk_mul, pl_m1, f1, e1, e2, g, q, c]
    · have g := X12_has (n := n) hs (show i < 6 by omega)
      by_cases c2 : s.testBit i = true
      · have q : ¬ forP a m s i := fun z => by
          rcases z with z | z
          · exact c z.1
          · rw [z.2] at c2; cases c2
        simp (disch := omega) only [f_X12_forged_b57, f_X12_forged_j94, f_X12_forged_j138, e, pl_lit, pl_bl, pl_bd, pl_bd2, pl_bd3, pl_bd4, pl_bcT, pl_bcF, gd_t, pl_bcTrue, pl_bcFalse, pl_gdTrue, pl_in, pl_eq, pl_lt, pl_le, pl_ix, nI_add, pk_mul, pl_m1, f1, e1, e2, g, bI_Fn q, c, bI_T c2]
      · have q : forP a m s i := Or.inr ⟨c, by rw [← Bool.not_eq_true]; exact c2⟩
        simp (disch := omega) only [f_X12_forged_b57, f_X12_forged_j94, f_X12_forged_j138, e, pl_lit, pl_bl, pl_bd, pl_bd2, pl_bd3, pl_bd4, pl_bcT, pl_bcF, gd_t, pl_bcTrue, pl_bcFalse, pl_gdTrue, pl_in, pl_eq, pl_lt, pl_le, pl_ix, nI_add, pk_mul, pl_m1, f1, e1, e2, g, bI_Tn q, c, bI_F c2]
/-- the fewest, the least of these -/
noncomputable def rbN (V : Nat → Prop) : Nat → Option Nat
  | 0 => none
  | i + 1 => @ite _ (V i ∧ ∀ b, rbN V i = some b → bcN i < bcN b) (Classical.propDecidable _) (some i) (rbN V i)
def oI : Option Nat → Int32
  | none => m1
  | some b => nI b
theorem rb_T {V : Nat → Prop} {i : Nat} (c : V i ∧ ∀ b, rbN V i = some b → bcN i < bcN b) : rbN V (i + 1) = some i := if_pos c
theorem rb_F {V : Nat → Prop} {i : Nat} (c : ¬ (V i ∧ ∀ b, rbN V i = some b → bcN i < bcN b)) : rbN V (i + 1) = rbN V i := if_neg c
theorem rb_spec {V : Nat → Prop} : ∀ n, (∀ b, rbN V n = some b → V b ∧ b < n ∧ (∀ j, j < n → V j → bcN b ≤ bcN j) ∧ (∀ j, j < b → V j → bcN b < bcN j)) ∧ (rbN V n = none → ∀ j, j < n → ¬ V j)
  | 0 => ⟨fun b h => absurd (show (none : Option Nat) = some b from h) (by simp), fun _ j hj => absurd hj (Nat.not_lt_zero j)⟩
  | n + 1 => by
    obtain ⟨h1, h2⟩ := rb_spec (V := V) n
    by_cases c : V n ∧ ∀ b, rbN V n = some b → bcN n < bcN b
    · rw [rb_T c]
      have key : ∀ j, j < n → V j → bcN n < bcN j := fun j hj hV => by
        cases hE : rbN V n with
        | none => exact absurd hV (h2 hE j hj)
        | some b =>
          have k1 := c.2 b hE
          have k2 := (h1 b hE).2.2.1 j hj hV
          omega
      refine ⟨fun b h => ?_, fun h => by cases h⟩
      cases h
      refine ⟨c.1, by omega, fun j hj hV => ?_, fun j hj hV => key j hj hV⟩
      by_cases e : j = n
      · rw [e]; exact Nat.le_refl _
      · exact Nat.le_of_lt (key j (by omega) hV)
    · rw [rb_F c]
      refine ⟨fun b h => ?_, fun h j hj hV => ?_⟩
      · obtain ⟨k1, k2, k3, k4⟩ := h1 b h
        refine ⟨k1, by omega, fun j hj hV => ?_, k4⟩
        by_cases e : j = n
        · subst e
          by_cases g : bcN j < bcN b
          · exact absurd ⟨hV, fun b' h' => by rw [h] at h'; cases h'; exact g⟩ c
          · omega
        · exact k3 j (by omega) hV
      · by_cases e : j = n
        · subst e
          exact c ⟨hV, fun b h' => by rw [h] at h'; cases h'⟩
        · exact h2 h j (by omega) hV
theorem shl_dec : ∀ k, k < 7 → nI 1 <<< (nI k &&& nI 31) = nI (2 ^ k) := by decide +kernel
theorem p_le : ∀ i, i < 7 → 2 ^ i ≤ 64 := by decide +kernel
theorem X12_forgedL (hn : 200 ≤ n) (ha : okA a) (ht : TR (mo.2.1 0) a) (hm : m < a 0) : f_X12_forged_l19 n n mo (nI m) (nI 0) m1 = some (oI (rbN (valP a m) (2 ^ a 2))) := by
  have h6 := okL ha
  have e : mo.2.1 0 2 = nI (a 2) := ht.2.2.1
  have es := shl_dec (a 2) (by omega)
  have pl := p_le (a 2) (by omega)
  refine lp_cnt' (2 ^ a 2) (fun i => oI (rbN (valP a m) i)) _ _ rfl (fun i hi => ?_) ?_ (by omega)
  · have i64 : i < 64 := by omega
    have g1 : ∀ v2, f_X12_forged_l57 n n mo (nI i) v2 (nI m) (nI 0) (nI 1) = some (bI (valP a m i)) := fun v2 => by
      have := X12_forgedI (n := n) (mo := mo) (v2 := v2) (A0 := True) hn ha ht hm i64
      rw [bI_Tn trivial] at this
      rw [this]
      exact congrArg some (bI_congr ⟨fun z => z.2, fun z => ⟨trivial, z⟩⟩)
    have g0 : ∀ v2, f_X12_forged_l57 n n mo (nI i) v2 (nI m) (nI 0) (nI 0) = some (nI 0) := fun v2 => by
      have := X12_forgedI (n := n) (mo := mo) (v2 := v2) (A0 := False) hn ha ht hm i64
      rw [bI_Fn id] at this
      rw [this, bI_Fn (fun z => z.1)]
    have gb := X12_bits (n := n) (by omega) i64
    have bl1 := bcN_le i
    cases hE : rbN (valP a m) i with
    | none =>
      show f_X12_forged_b19 n mo (nI i) (oI none) (nI m) = _
      by_cases c : valP a m i
      · have q : rbN (valP a m) (i + 1) = some i := rb_T ⟨c, fun b h => by rw [hE] at h; cases h⟩
        simp (disch := omega) only [f_X12_forged_b19, f_X12_forged_j47, f_X12_forged_j52, f_X12_forged_j146, f_X12_forged_j156, oI, e, es, pl_lit, pl_bl, pl_bd, pl_bd2, pl_bd3, pl_bd4, pl_bcT, pl_bcF, gd_t, pl_bcTrue, pl_bcFalse, pl_gdTrue, pl_in, pl_eq, pl_lt, pl_le, pl_ix, nI_add, pk_mul, pl_m1, g1, bI_T c, q]
      · have q : rbN (valP a m) (i + 1) = none := by rw [rb_F (fun z => c z.1), hE]
        simp (disch := omega) only [f_X12_forged_b19, f_X12_forged_j47, f_X12_forged_j52, f_X12_forged_j146, f_X12_forged_j156, oI, e, es, pl_lit, pl_bl, pl_bd, pl_bd2, pl_bd3, pl_bd4, pl_bcT, pl_bcF, gd_t, pl_bcTrue, pl_bcFalse, pl_gdTrue, pl_in, pl_eq, pl_lt, pl_le, pl_ix, nI_add, pk_mul, pl_m1, g1, bI_F c, q]
    | some b =>
      have hb := ((rb_spec i).1 b hE).2.1
      have gb2 := X12_bits (n := n) (s := b) (by omega) (by omega)
      have bl2 := bcN_le b
      show f_X12_forged_b19 n mo (nI i) (oI (some b)) (nI m) = _
      by_cases c3 : bcN i < bcN b
      · by_cases c : valP a m i
        · have q : rbN (valP a m) (i + 1) = some i := rb_T ⟨c, fun b' h => by rw [hE] at h; cases h; exact c3⟩
          simp (disch := omega) only [f_X12_forged_b19, f_X12_forged_j47, f_X12_forged_j52, f_X12_forged_j146, f_X12_forged_j156, oI, e, es, pl_lit, pl_bl, pl_bd, pl_bd2, pl_bd3, pl_bd4, pl_bcT, pl_bcF, gd_t, pl_bcTrue, pl_bcFalse, pl_gdTrue, pl_in, pl_eq, pl_lt, pl_le, pl_ix, nI_add, pk_mul, pl_m1, pl_nem1, gb, gb2, g1, bI_T c, q]
        · have q : rbN (valP a m) (i + 1) = some b := by rw [rb_F (fun z => c z.1), hE]
          simp (disch := omega) only [f_X12_forged_b19, f_X12_forged_j47, f_X12_forged_j52, f_X12_forged_j146, f_X12_forged_j156, oI, e, es, pl_lit, pl_bl, pl_bd, pl_bd2, pl_bd3, pl_bd4, pl_bcT, pl_bcF, gd_t, pl_bcTrue, pl_bcFalse, pl_gdTrue, pl_in, pl_eq, pl_lt, pl_le, pl_ix, nI_add, pk_mul, pl_m1, pl_nem1, gb, gb2, g1, bI_F c, q]
      · have q : rbN (valP a m) (i + 1) = some b := by rw [rb_F (fun z => c3 (z.2 b hE)), hE]
        simp (disch := omega) only [f_X12_forged_b19, f_X12_forged_j47, f_X12_forged_j52, f_X12_forged_j146, f_X12_forged_j156, oI, e, es, pl_lit, pl_bl, pl_bd, pl_bd2, pl_bd3, pl_bd4, pl_bcT, pl_bcF, gd_t, pl_bcTrue, pl_bcFalse, pl_gdTrue, pl_in, pl_eq, pl_lt, pl_le, pl_ix, nI_add, pk_mul, pl_m1, pl_nem1, gb, gb2, g0, q]
  · simp (disch := omega) only [f_X12_forged_b19, e, es, pl_lit, pl_bl, pl_bd, pl_bd2, pl_bd3, pl_bd4, pl_bcT, pl_bcF, gd_t, pl_bcTrue, pl_bcFalse, pl_gdTrue, pl_in, pl_eq, pl_lt, pl_le, pl_ix, nI_add, pk_mul, pl_m1]
end FRG
