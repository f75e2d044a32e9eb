/-! where, look: both sides -/
theorem low_congr {v : Nat → Nat} {P Q : Nat → Prop} {r : Nat} : ∀ n, (∀ i, i < n → (P i ↔ Q i)) → lowN v P r n = lowN v Q r n
  | 0, _ => rfl
  | n + 1, h => by
    have h1 := low_congr (v := v) (r := r) n (fun i hi => h i (by omega))
    have h2 := h n (by omega)
    unfold lowN
    rw [h1]
    by_cases c : P n
    · rw [if_pos c, if_pos (h2.mp c)]
    · rw [if_neg c, if_neg (fun z => c (h2.mpr z))]
theorem high_congr {v : Nat → Nat} {P Q : Nat → Prop} {r : Nat} : ∀ n, (∀ i, i < n → (P i ↔ Q i)) → highN v P r n = highN v Q r n
  | 0, _ => rfl
  | n + 1, h => by
    have h1 := high_congr (v := v) (r := r) n (fun i hi => h i (by omega))
    have h2 := h n (by omega)
    unfold highN
    rw [h1]
    by_cases c : P n
    · rw [if_pos c, if_pos (h2.mp c)]
    · rw [if_neg c, if_neg (fun z => c (h2.mpr z))]
theorem plc_congr {a : Nat → Nat} {P Q : Nat → Prop} {r : Nat} (h : ∀ i, i < a 2 → (P i ↔ Q i)) : plcN a P r = plcN a Q r := by
  unfold plcN
  rw [low_congr (a 2) h, high_congr (a 2) h]
/-- the class's set and the model's words for it -/
theorem day_cov {a : Nat → Nat} {m d i : Nat} (hi : i < a 2) : (i < a 2 ∧ a (47 + 3 * i) = m ∧ a (48 + 3 * i) = d) ↔ covP a m d 0 i :=
  ⟨fun z => ⟨z.2.1, z.2.2, Nat.zero_testBit i⟩, fun z => ⟨hi, z.1, z.2.1⟩⟩
noncomputable def cLo (a : Nat → Nat) (m d : Nat) : Nat := lowN (valN a) (covP a m d 0) (reachN (a (24 + m))) (a 2)
noncomputable def cHi (a : Nat → Nat) (m d : Nat) : Nat := highN (valN a) (covP a m d 0) (reachN (a (24 + m))) (a 2)
def canP (a : Nat → Nat) (m d p : Nat) : Prop := allP (fitP (valN a) (covP a m d 0) (reachN (a (24 + m))) p) (a 2)
theorem can_iff {a : Nat → Nat} {m d p : Nat} (hp : p < 100) : canP a m d p ↔ cLo a m d ≤ p ∧ p ≤ cHi a m d := fit_iff (by omega) (a 2)
theorem can_cnt {a : Nat → Nat} {m d i : Nat} (hi : i ≤ 100) : numN (canP a m d) i = min i (cHi a m d + 1) - cLo a m d := cnt_iv i (fun p hp => can_iff (by omega))
noncomputable def lstI (a : Nat → Nat) (m d i : Nat) : Int32 := if numN (canP a m d) i = 0 then m1 else nI (cLo a m d)
noncomputable def manyN (a : Nat → Nat) (m d : Nat) : Nat := cHi a m d + 1 - cLo a m d
theorem many_cnt {a : Nat → Nat} {m d : Nat} : numN (canP a m d) 100 = manyN a m d := by
  have h := highN_le (v := valN a) (P := covP a m d 0) (r := reachN (a (24 + m))) (a 2)
  have h' : cHi a m d ≤ 99 := h
  rw [can_cnt (by omega)]
  unfold manyN
  omega
section LOOK
variable {n : Nat} {h mo cv : MV} {t : Nat → Int32} {a : Nat → Nat} {m d : Nat} {v3 v4 v5 : Int32}
theorem X12_whereL (hn : 200 ≤ n) (ha : okA a) (ht : TR (mo.2.1 0) a) (hm : m < a 0) (hd : d ≤ 99) : f_X12_where_l46 n n mo (nI m) (nI d) v3 (nI 0) m1 (nI 0) = some (lstI a m d 100, nI (numN (canP a m d) 100)) := by
  have h6 := okL ha
  have h2 := lowN_le (v := valN a) (P := covP a m d 0) (r := reachN (a (24 + m))) (a 2) (okV ha)
  have h2' : cLo a m d ≤ 99 := h2
  refine lp_cnt' 100 (fun i => (lstI a m d i, nI (numN (canP a m d) i))) _ _ ?_ (fun i hi => ?_) ?_ (by omega)
  · show (lstI a m d 0, nI 0) = (m1, nI 0)
    rw [show lstI a m d 0 = m1 from if_pos rfl]
  · have g := X12_canBeAt (n := n) (p := i) (s := 0) (d := d) (by omega) ha ht hm (by omega) (by omega) (by omega)
    have g : f_X12_canBeAt n mo (nI m) (nI d) (nI i) (nI 0) = some (bI (canP a m d i)) := g
    have ci := can_iff (a := a) (m := m) (d := d) hi
    have c0 := can_cnt (a := a) (m := m) (d := d) (i := i) (by omega)
    have cl := numN_le (P := canP a m d) i
    by_cases c : canP a m d i
    · have s1 : numN (canP a m d) (i + 1) = numN (canP a m d) i + 1 := by
        show numN (canP a m d) i + _ = _
        rw [if_pos c]
      have w := ci.mp c
      have q : lstI a m d (i + 1) = nI (cLo a m d) := by
        unfold lstI
        rw [if_neg (by omega)]
      by_cases c1 : numN (canP a m d) i = 0
      · have q2 : i = cLo a m d := by omega
        have q3 : nI i = lstI a m d (i + 1) := by rw [q, ← q2]
        simp (disch := omega) only [f_X12_where_j82, f_X12_where_j77, f_X12_where_b46, f_X12_where_l46, f_X12_where_j99, f_X12_where_j30, f_X12_where, pl_lit, pl_bl, pl_bd, pl_bd2, pl_bd3, pl_bd4, pl_bcT, pl_bcF, gd_t, pl_bcTrue, pl_bcFalse, pl_gdTrue, pl_in, pl_eq, pl_lt, pl_le, pl_ix, nI_add, pk_mul, pl_m1, g, bI_T c, c1, s1, q3.symm]
      · have q3 : lstI a m d i = lstI a m d (i + 1) := by
          rw [q]
          unfold lstI
          rw [if_neg c1]
        simp (disch := omega) only [f_X12_where_j82, f_X12_where_j77, f_X12_where_b46, f_X12_where_l46, f_X12_where_j99, f_X12_where_j30, f_X12_where, pl_lit, pl_bl, pl_bd, pl_bd2, pl_bd3, pl_bd4, pl_bcT, pl_bcF, gd_t, pl_bcTrue, pl_bcFalse, pl_gdTrue, pl_in, pl_eq, pl_lt, pl_le, pl_ix, nI_add, pk_mul, pl_m1, g, bI_T c, c1, s1, q3]
    · have s1 : numN (canP a m d) (i + 1) = numN (canP a m d) i := by
        show numN (canP a m d) i + _ = _
        rw [if_neg c]
        rfl
      have q3 : lstI a m d (i + 1) = lstI a m d i := by
        unfold lstI
        rw [s1]
      simp (disch := omega) only [f_X12_where_j82, f_X12_where_j77, f_X12_where_b46, f_X12_where_l46, f_X12_where_j99, f_X12_where_j30, f_X12_where, pl_lit, pl_bl, pl_bd, pl_bd2, pl_bd3, pl_bd4, pl_bcT, pl_bcF, gd_t, pl_bcTrue, pl_bcFalse, pl_gdTrue, pl_in, pl_eq, pl_lt, pl_le, pl_ix, nI_add, pk_mul, pl_m1, g, bI_F c, s1, q3]
  · simp (disch := omega) only [f_X12_where_j82, f_X12_where_j77, f_X12_where_b46, f_X12_where_l46, f_X12_where_j99, f_X12_where_j30, f_X12_where, pl_lit, pl_bl, pl_bd, pl_bd2, pl_bd3, pl_bd4, pl_bcT, pl_bcF, gd_t, pl_bcTrue, pl_bcFalse, pl_gdTrue, pl_in, pl_eq, pl_lt, pl_le, pl_ix, nI_add, pk_mul, pl_m1]
theorem X12_lookC (hn : 200 ≤ n) (ha : okA a) (ht : TR (mo.2.1 0) a) (hm : m < a 0) (hd : d ≤ 99) : f_X12_look_l39 n n mo v5 v4 (nI m) (nI d) (nI 0) (nI 0) = some (nI (numN (canP a m d) 100)) := by
  refine lp_cnt 100 (fun i => nI (numN (canP a m d) i)) _ (fun i hi => ?_) ?_ (by omega)
  · have g := X12_canBeAt (n := n) (p := i) (s := 0) (d := d) (by omega) ha ht hm (by omega) (by omega) (by omega)
    have g : f_X12_canBeAt n mo (nI m) (nI d) (nI i) (nI 0) = some (bI (canP a m d i)) := g
    by_cases c : canP a m d i
    · simp (disch := omega) only [f_X12_look_b39, f_X12_look_j64, pl_lit, pl_bl, pl_bd, pl_bd2, pl_bd3, pl_bd4, pl_bcT, pl_bcF, gd_t, pl_bcTrue, pl_bcFalse, pl_gdTrue, pl_in, pl_eq, pl_lt, pl_le, pl_ix, nI_add, pk_mul, pl_m1, g, bI_T c, numN, if_pos c]
    · simp (disch := omega) only [f_X12_look_b39, f_X12_look_j64, pl_lit, pl_bl, pl_bd, pl_bd2, pl_bd3, pl_bd4, pl_bcT, pl_bcF, gd_t, pl_bcTrue, pl_bcFalse, pl_gdTrue, pl_in, pl_eq, pl_lt, pl_le, pl_ix, nI_add, pk_mul, pl_m1, g, bI_F c, numN, if_neg c]
  · simp (disch := omega) only [f_X12_look_b39, pl_lit, pl_bl, pl_bd, pl_bd2, pl_bd3, pl_bd4, pl_bcT, pl_bcF, gd_t, pl_bcTrue, pl_bcFalse, pl_gdTrue, pl_in, pl_eq, pl_lt, pl_le, pl_ix, nI_add, pk_mul, pl_m1]
/-- those in reach of p -/
def yesP (a : Nat → Nat) (m d p q : Nat) : Prop := absd p q ≤ reachN (a (24 + m)) ∧ canP a m d q
noncomputable def yesN (a : Nat → Nat) (m d p : Nat) : Nat := min (cHi a m d) (p + reachN (a (24 + m))) + 1 - max (cLo a m d) (p - reachN (a (24 + m)))
theorem yes_cnt {p : Nat} : numN (yesP a m d p) 100 = yesN a m d p := by
  have h := highN_le (v := valN a) (P := covP a m d 0) (r := reachN (a (24 + m))) (a 2)
  have h' : cHi a m d ≤ 99 := h
  rw [cnt_iv (lo := max (cLo a m d) (p - reachN (a (24 + m)))) (hi := min (cHi a m d) (p + reachN (a (24 + m)))) 100 (fun q hq => by
    unfold yesP
    rw [can_iff hq, absd_iff]
    omega)]
  unfold yesN
  omega
theorem X12_lookY {p : Nat} (hn : 200 ≤ n) (ha : okA a) (ht : TR (mo.2.1 0) a) (hm : m < a 0) (hd : d ≤ 99) (hp : p ≤ 99) : f_X12_look_l92 n n mo (nI p) v5 v4 v3 (nI m) (nI d) (nI 0) (nI 0) = some (nI (yesN a m d p)) := by
  have h6 := okL ha
  have eK := (trM ht hm).1
  have oK := (okM ha hm).1
  have rl := reachN_le (a (24 + m))
  rw [← yes_cnt]
  refine lp_cnt 100 (fun i => nI (numN (yesP a m d p) i)) _ (fun i hi => ?_) ?_ (by omega)
  · have g := X12_canBeAt (n := n) (p := i) (s := 0) (d := d) (by omega) ha ht hm (by omega) (by omega) (by omega)
    have g : f_X12_canBeAt n mo (nI m) (nI d) (nI i) (nI 0) = some (bI (canP a m d i)) := g
    have g3 := X12_miles (n := n) (x := p) (y := i) (by omega) (by omega)
    have al := absd_le (x := p) (y := i) (b := 99) (by omega) (by omega)
    have g4 := X12_reachAs (n := n) oK
    by_cases c3 : absd p i ≤ reachN (a (24 + m))
    · by_cases c : canP a m d i
      · have q : yesP a m d p i := ⟨c3, c⟩
        simp (disch := omega) only [f_X12_look_b92, f_X12_look_j139, f_X12_look_j140, pl_lit, pl_bl, pl_bd, pl_bd2, pl_bd3, pl_bd4, pl_bcT, pl_bcF, gd_t, pl_bcTrue, pl_bcFalse, pl_gdTrue, pl_in, pl_eq, pl_lt, pl_le, pl_ix, nI_add, pk_mul, pl_m1, g, g3, g4, eK, bI_T c, numN, if_pos q]
      · have q : ¬ yesP a m d p i := fun z => c z.2
        simp (disch := omega) only [f_X12_look_b92, f_X12_look_j139, f_X12_look_j140, pl_lit, pl_bl, pl_bd, pl_bd2, pl_bd3, pl_bd4, pl_bcT, pl_bcF, gd_t, pl_bcTrue, pl_bcFalse, pl_gdTrue, pl_in, pl_eq, pl_lt, pl_le, pl_ix, nI_add, pk_mul, pl_m1, g, g3, g4, eK, bI_F c, numN, if_neg q]
    · have q : ¬ yesP a m d p i := fun z => c3 z.1
      simp (disch := omega) only [f_X12_look_b92, f_X12_look_j139, f_X12_look_j140, pl_lit, pl_bl, pl_bd, pl_bd2, pl_bd3, pl_bd4, pl_bcT, pl_bcF, gd_t, pl_bcTrue, pl_bcFalse, pl_gdTrue, pl_in, pl_eq, pl_lt, pl_le, pl_ix, nI_add, pk_mul, pl_m1, g, g3, g4, eK, numN, if_neg q]
  · simp (disch := omega) only [f_X12_look_b92, pl_lit, pl_bl, pl_bd, pl_bd2, pl_bd3, pl_bd4, pl_bcT, pl_bcF, gd_t, pl_bcTrue, pl_bcFalse, pl_gdTrue, pl_in, pl_eq, pl_lt, pl_le, pl_ix, nI_add, pk_mul, pl_m1]
/-- the least of a row, the first one -/
def LBp (f : Nat → Nat) : Nat → Nat
  | 0 => 0
  | i + 1 => if f (i + 1) < f (LBp f i) then i + 1 else LBp f i
theorem LBp_le (f : Nat → Nat) : ∀ i, LBp f i ≤ i
  | 0 => Nat.le_refl _
  | i + 1 => by
    have := LBp_le f i
    unfold LBp
    split <;> omega
def gLB (z : Int32) (f : Nat → Nat) : Nat → Int32 × Int32
  | 0 => (z, m1)
  | i + 1 => (nI (f (LBp f i)), nI (LBp f i))
noncomputable def prtN (a : Nat → Nat) (m d p : Nat) : Nat := max (yesN a m d p) (manyN a m d - yesN a m d p)
theorem yes_le {p : Nat} : yesN a m d p ≤ manyN a m d := by unfold yesN manyN; omega
theorem X12_lookB (hn : 200 ≤ n) (ha : okA a) (ht : TR (mo.2.1 0) a) (hm : m < a 0) (hd : d ≤ 99) (h0 : 0 < manyN a m d) : f_X12_look_l75 n n mo (nI (manyN a m d)) (nI m) (nI d) (nI 0) (nI 1000000) m1 = some (nI (LBp (prtN a m d) 99)) := by
  have h := highN_le (v := valN a) (P := covP a m d 0) (r := reachN (a (24 + m))) (a 2)
  have h' : cHi a m d ≤ 99 := h
  have ml : manyN a m d ≤ 100 := by unfold manyN; omega
  have pl : ∀ j, prtN a m d j ≤ 100 := fun j => by
    have := yes_le (a := a) (m := m) (d := d) (p := j)
    unfold prtN
    omega
  refine lp_cnt' 100 (gLB (nI 1000000) (prtN a m d)) _ _ rfl (fun i hi => ?_) ?_ (by omega)
  · have gy := fun v5 v4 v3 => X12_lookY (n := n) (mo := mo) (v5 := v5) (v4 := v4) (v3 := v3) (p := i) hn ha ht hm hd (by omega)
    have yl := yes_le (a := a) (m := m) (d := d) (p := i)
    have pi := pl i
    have q1 : 2 * yesN a m d i ≤ manyN a m d → manyN a m d - yesN a m d i = prtN a m d i := fun z => by unfold prtN; omega
    have q2 : ¬ 2 * yesN a m d i ≤ manyN a m d → yesN a m d i = prtN a m d i := fun z => by unfold prtN; omega
    have key : ∀ v5 v4, f_X12_look_b75 n mo (nI i) v5 v4 (nI (manyN a m d)) (nI m) (nI d) = f_X12_look_j166 n mo (nI i) v5 v4 (nI (manyN a m d)) (nI m) (nI d) (nI (prtN a m d i)) := by
      intro v5 v4
      by_cases c : 2 * yesN a m d i ≤ manyN a m d
      · simp (disch := omega) only [f_X12_look_b75, pl_lit, pl_bl, pl_bd, pl_bd2, pl_bd3, pl_bd4, pl_bcT, pl_bcF, gd_t, pl_bcTrue, pl_bcFalse, pl_gdTrue, pl_in, pl_eq, pl_lt, pl_le, pl_ix, nI_add, pk_mul, pl_m1, gy, c, pk_sub, q1 c]
      · have e := q2 c
        simp (disch := omega) only [f_X12_look_b75, pl_lit, pl_bl, pl_bd, pl_bd2, pl_bd3, pl_bd4, pl_bcT, pl_bcF, gd_t, pl_bcTrue, pl_bcFalse, pl_gdTrue, pl_in, pl_eq, pl_lt, pl_le, pl_ix, nI_add, pk_mul, pl_m1, gy, c]
        rw [e]
    show f_X12_look_b75 n mo (nI i) (gLB (nI 1000000) (prtN a m d) i).1 (gLB (nI 1000000) (prtN a m d) i).2 (nI (manyN a m d)) (nI m) (nI d) = _
    rw [key]
    cases i with
    | zero =>
      simp (disch := omega) only [gLB, f_X12_look_j166, f_X12_look_j182, f_X12_look_j198, pl_lit, pl_bl, pl_bd, pl_bd2, pl_bd3, pl_bd4, pl_bcT, pl_bcF, gd_t, pl_bcTrue, pl_bcFalse, pl_gdTrue, pl_in, pl_eq, pl_lt, pl_le, pl_ix, nI_add, pk_mul, pl_m1, LBp]
    | succ j =>
      have pj := pl (LBp (prtN a m d) j)
      by_cases c : prtN a m d (j + 1) < prtN a m d (LBp (prtN a m d) j)
      · simp (disch := omega) only [gLB, f_X12_look_j166, f_X12_look_j182, f_X12_look_j198, pl_lit, pl_bl, pl_bd, pl_bd2, pl_bd3, pl_bd4, pl_bcT, pl_bcF, gd_t, pl_bcTrue, pl_bcFalse, pl_gdTrue, pl_in, pl_eq, pl_lt, pl_le, pl_ix, nI_add, pk_mul, pl_m1, LBp, if_pos c]
      · simp (disch := omega) only [gLB, f_X12_look_j166, f_X12_look_j182, f_X12_look_j198, pl_lit, pl_bl, pl_bd, pl_bd2, pl_bd3, pl_bd4, pl_bcT, pl_bcF, gd_t, pl_bcTrue, pl_bcFalse, pl_gdTrue, pl_in, pl_eq, pl_lt, pl_le, pl_ix, nI_add, pk_mul, pl_m1, LBp, if_neg c]
  · show f_X12_look_b75 n mo (nI 100) (nI (prtN a m d (LBp (prtN a m d) 99))) (nI (LBp (prtN a m d) 99)) (nI (manyN a m d)) (nI m) (nI d) = _
    simp (disch := omega) only [f_X12_look_b75, pl_lit, pl_bl, pl_bd, pl_bd2, pl_bd3, pl_bd4, pl_bcT, pl_bcF, gd_t, pl_bcTrue, pl_bcFalse, pl_gdTrue, pl_in, pl_eq, pl_lt, pl_le, pl_ix, nI_add, pk_mul, pl_m1]
theorem X8_nextL (hn : 200 ≤ n) (ha : okA a) (hr : reachN (a (24 + m)) ≤ 40) (h0 : 0 < manyN a m d) : f_X8_nextPlace_l33 n n cv (nI (manyN a m d)) (nI (cHi a m d)) (nI (cLo a m d)) (nI (reachN (a (24 + m)))) (nI 0) (nI (manyN a m d)) m1 = some (nI (LBp (prtN a m d) 99)) := by
  have h := highN_le (v := valN a) (P := covP a m d 0) (r := reachN (a (24 + m))) (a 2)
  have h' : cHi a m d ≤ 99 := h
  have h2 := lowN_le (v := valN a) (P := covP a m d 0) (r := reachN (a (24 + m))) (a 2) (okV ha)
  have h2' : cLo a m d ≤ 99 := h2
  have ml : manyN a m d ≤ 100 := by unfold manyN; omega
  have pl : ∀ j, prtN a m d j ≤ 100 := fun j => by
    have := yes_le (a := a) (m := m) (d := d) (p := j)
    unfold prtN
    omega
  refine lp_cnt' 100 (gLB (nI (manyN a m d)) (prtN a m d)) _ _ rfl (fun i hi => ?_) ?_ (by omega)
  · have yl := yes_le (a := a) (m := m) (d := d) (p := i)
    have pi := pl i
    have e1 : min (cHi a m d) (i + reachN (a (24 + m))) + 1 - max (cLo a m d) (i - reachN (a (24 + m))) = yesN a m d i := rfl
    have e2 : max (yesN a m d i) (manyN a m d - yesN a m d i) = prtN a m d i := rfl
    cases i with
    | zero =>
      show f_X8_nextPlace_b33 n cv (nI 0) (nI (manyN a m d)) m1 (nI (manyN a m d)) (nI (cHi a m d)) (nI (cLo a m d)) (nI (reachN (a (24 + m)))) = _
      simp (disch := omega) only [f_X8_nextPlace_b33, f_X8_nextPlace_j96, f_X8_nextPlace_j104, pl_lit, pl_bl, pl_bd, pl_bd2, pl_bd3, pl_bd4, pl_bcT, pl_bcF, gd_t, pl_bcTrue, pl_bcFalse, pl_gdTrue, pl_in, pl_eq, pl_lt, pl_le, pl_ix, nI_add, pk_mul, pl_m1, minI, maxI, span_c, span2, e1, e2, gLB, LBp]
    | succ j =>
      have pj := pl (LBp (prtN a m d) j)
      have lj := LBp_le (prtN a m d) j
      show f_X8_nextPlace_b33 n cv (nI (j + 1)) (nI (prtN a m d (LBp (prtN a m d) j))) (nI (LBp (prtN a m d) j)) (nI (manyN a m d)) (nI (cHi a m d)) (nI (cLo a m d)) (nI (reachN (a (24 + m)))) = _
      by_cases c : prtN a m d (j + 1) < prtN a m d (LBp (prtN a m d) j)
      · simp (disch := omega) only [f_X8_nextPlace_b33, f_X8_nextPlace_j96, f_X8_nextPlace_j104, pl_lit, pl_bl, pl_bd, pl_bd2, pl_bd3, pl_bd4, pl_bcT, pl_bcF, gd_t, pl_bcTrue, pl_bcFalse, pl_gdTrue, pl_in, pl_eq, pl_lt, pl_le, pl_ix, nI_add, pk_mul, pl_m1, minI, maxI, span_c, span2, e1, e2, pl_nem1, gLB, LBp, if_pos c]
      · simp (disch := omega) only [f_X8_nextPlace_b33, f_X8_nextPlace_j96, f_X8_nextPlace_j104, pl_lit, pl_bl, pl_bd, pl_bd2, pl_bd3, pl_bd4, pl_bcT, pl_bcF, gd_t, pl_bcTrue, pl_bcFalse, pl_gdTrue, pl_in, pl_eq, pl_lt, pl_le, pl_ix, nI_add, pk_mul, pl_m1, minI, maxI, span_c, span2, e1, e2, pl_nem1, gLB, LBp, if_neg c]
  · show f_X8_nextPlace_b33 n cv (nI 100) (nI (prtN a m d (LBp (prtN a m d) 99))) (nI (LBp (prtN a m d) 99)) (nI (manyN a m d)) (nI (cHi a m d)) (nI (cLo a m d)) (nI (reachN (a (24 + m)))) = _
    simp (disch := omega) only [f_X8_nextPlace_b33, pl_lit, pl_bl, pl_bd, pl_bd2, pl_bd3, pl_bd4, pl_bcT, pl_bcF, gd_t, pl_bcTrue, pl_bcFalse, pl_gdTrue, pl_in, pl_eq, pl_lt, pl_le, pl_ix, nI_add, pk_mul, pl_m1]
theorem lp_end {σ ρ : Type} {body : σ → Option (σ ⊕ ρ)} {s : σ} {r : ρ} {fuel : Nat} (hf : 0 < fuel) (he : body s = some (.inr r)) : lp body fuel s = some r := by
  cases fuel with
  | zero => exact absurd hf (Nat.lt_irrefl 0)
  | succ f => unfold lp; rw [he]
noncomputable def lookI (a : Nat → Nat) (m d : Nat) : Int32 := if manyN a m d = 0 then m1 else nI (LBp (prtN a m d) 99)
theorem X8_nextPlace (hn : 200 ≤ n) (ha : okA a) (hs : SO cv a (a 2) 47) : f_X8_nextPlace n cv (nI (bs (fun k => k < a 2 ∧ a (47 + 3 * k) = m ∧ a (48 + 3 * k) = d))) (nI (reachN (a (24 + m)))) = some (lookI a m d) := by
  have rl := reachN_le (a (24 + m))
  have c1 : lowN (valN a) (fun k => k < a 2 ∧ a (47 + 3 * k) = m ∧ a (48 + 3 * k) = d) (reachN (a (24 + m))) (a 2) = cLo a m d := low_congr (a 2) (fun i hi => day_cov hi)
  have c2 : highN (valN a) (fun k => k < a 2 ∧ a (47 + 3 * k) = m ∧ a (48 + 3 * k) = d) (reachN (a (24 + m))) (a 2) = cHi a m d := high_congr (a 2) (fun i hi => day_cov hi)
  have c3 : plcN a (fun k => k < a 2 ∧ a (47 + 3 * k) = m ∧ a (48 + 3 * k) = d) (reachN (a (24 + m))) = manyN a m d := plc_congr (fun i hi => day_cov hi)
  unfold f_X8_nextPlace
  rw [X8_lowest (by omega) ha hs rl, X8_highest (by omega) ha hs rl, X8_placesFor (by omega) ha hs rl, c1, c2, c3]
  unfold lookI
  by_cases c : manyN a m d = 0
  · rw [if_pos c]
    have e : f_X8_nextPlace_l33 n n cv (nI 0) (nI (cHi a m d)) (nI (cLo a m d)) (nI (reachN (a (24 + m)))) (nI 0) (nI 0) m1 = some m1 := by
      refine lp_end (by omega) ?_
      simp (disch := omega) only [f_X8_nextPlace_b33, pl_lit, pl_bl, pl_bd, pl_bd2, pl_bd3, pl_bd4, pl_bcT, pl_bcF, gd_t, pl_bcTrue, pl_bcFalse, pl_gdTrue, pl_in, pl_eq, pl_lt, pl_le, pl_ix, nI_add, pk_mul, pl_m1]
    rw [c]
    simp (disch := omega) only [f_X8_nextPlace_j110, pl_lit, pl_bl, pl_bd, pl_bd2, pl_bd3, pl_bd4, pl_bcT, pl_bcF, gd_t, pl_bcTrue, pl_bcFalse, pl_gdTrue, pl_in, pl_eq, pl_lt, pl_le, pl_ix, nI_add, pk_mul, pl_m1, e]
  · rw [if_neg c]
    have e := X8_nextL (n := n) (cv := cv) (m := m) (d := d) hn ha rl (by omega)
    simp (disch := omega) only [f_X8_nextPlace_j110, pl_lit, pl_bl, pl_bd, pl_bd2, pl_bd3, pl_bd4, pl_bcT, pl_bcF, gd_t, pl_bcTrue, pl_bcFalse, pl_gdTrue, pl_in, pl_eq, pl_lt, pl_le, pl_ix, nI_add, pk_mul, pl_m1, e]
theorem X12_lookR (hn : 200 ≤ n) (ha : okA a) (ht : TR (mo.2.1 0) a) (hm : m < a 0) (hd : d ≤ 99) : f_X12_look_l75 n n mo (nI (manyN a m d)) (nI m) (nI d) (nI 0) (nI 1000000) m1 = some (lookI a m d) := by
  unfold lookI
  by_cases c : manyN a m d = 0
  · rw [if_pos c, c]
    refine lp_end (by omega) ?_
    simp (disch := omega) only [f_X12_look_b75, pl_lit, pl_bl, pl_bd, pl_bd2, pl_bd3, pl_bd4, pl_bcT, pl_bcF, gd_t, pl_bcTrue, pl_bcFalse, pl_gdTrue, pl_in, pl_eq, pl_lt, pl_le, pl_ix, nI_add, pk_mul, pl_m1]
  · rw [if_neg c]
    exact X12_lookB hn ha ht hm hd (by omega)
end LOOK
theorem sim_look {n : Nat} (hn : 200 ≤ n) : SIM_look n INV := by
  intro xo nv rv h0 h1 h2 h3 nt0 cv0 nt1 cv1 nt2 cv2 nt3 cv3 ps0 ps1 ps2 ps3 mo v1 v2 hI
  have hI0 := hI
  obtain ⟨⟨a, ha, ht, hh, hc, hn', hp⟩, i2⟩ := hI
  have h6 := okL ha
  have p1 := X11_isMember (n := n) (xo := xo) (h := h0) (v := v1) (M := a 0) (by omega) hh.1
  have p2 := X12_isMember (n := n) (mo := mo) (v := v1) (M := a 0) (by omega) ht.1
  have q1 := X11_isSlipDay (n := n) (v := v2)
  have q2 : f_X12_in n v2.toInt64 0 99 = some (bI (inR v2 100)) := X12_inK (n := n) (v := v2) (K := 99) (by omega)
  refine inR_cases (v := v1) (N := a 0) (fun m hm e => ?_) (fun c => ?_)
  · subst e
    rw [bI_in hm] at p1 p2
    refine inR_cases (v := v2) (N := 100) (fun d hd e => ?_) (fun c => ?_)
    · subst e
      rw [bI_in hd] at q1 q2
      have kA := X1_kindAt (n := n) ha hh hm
      have kR := K_reach (n := n) (okM ha hm).1
      have oD := X8_onDay (n := n) (m := m) (d := d) (by omega) ha hc (by omega) (by omega)
      have nP := X8_nextPlace (n := n) (m := m) (d := d) hn ha hc
      have lC : f_X12_look_l39 n n mo (nI 1000000) m1 (nI m) (nI d) (nI 0) (nI 0) = some (nI (manyN a m d)) := by rw [X12_lookC hn ha ht hm (by omega), many_cnt]
      have lR := X12_lookR (n := n) (mo := mo) (d := d) hn ha ht hm (by omega)
      refine ⟨lookI a m d, xo, mo, ?_, ?_, hI0⟩
      · simp (disch := omega) only [f_X11_look, p1, q1, kA, kR, oD, nP, pl_lit, pl_bl, pl_bd, pl_bd2, pl_bd3, pl_bd4, pl_bcT, pl_bcF, gd_t, pl_bcTrue, pl_bcFalse, pl_gdTrue, pl_in, pl_eq, pl_lt, pl_le, pl_ix, nI_add, pk_mul, pl_m1]
      · unfold f_X12_look
        rw [p2, q2]
        simp (disch := omega) only [f_X12_look_j206, lC, lR, pl_lit, pl_bl, pl_bd, pl_bd2, pl_bd3, pl_bd4, pl_bcT, pl_bcF, gd_t, pl_bcTrue, pl_bcFalse, pl_gdTrue, pl_in, pl_eq, pl_lt, pl_le, pl_ix, nI_add, pk_mul, pl_m1]
    · rw [bI_nin c] at q1 q2
      refine ⟨-2, badX xo, refM mo 0, ?_, ?_, hI0.bad⟩
      · simp (disch := omega) only [f_X11_look, f_X11_look_j15, p1, q1, pl_lit, pl_bl, pl_bd, pl_bd2, pl_bd3, pl_bd4, pl_bcT, pl_bcF, gd_t, pl_bcTrue, pl_bcFalse, pl_gdTrue, pl_in, pl_eq, pl_lt, pl_le, pl_ix, nI_add, pk_mul, pl_m1, X11_bad]
      · unfold f_X12_look
        rw [p2, q2]
        simp (disch := omega) only [f_X12_look_j20, pl_lit, pl_bl, pl_bd, pl_bd2, pl_bd3, pl_bd4, pl_bcT, pl_bcF, gd_t, pl_bcTrue, pl_bcFalse, pl_gdTrue, pl_in, pl_eq, pl_lt, pl_le, pl_ix, nI_add, pk_mul, pl_m1, X12_bad]
  · rw [bI_nin c] at p1 p2
    refine ⟨-2, badX xo, refM mo 0, ?_, ?_, hI0.bad⟩
    · simp (disch := omega) only [f_X11_look, f_X11_look_j15, p1, pl_lit, pl_bl, pl_bd, pl_bd2, pl_bd3, pl_bd4, pl_bcT, pl_bcF, gd_t, pl_bcTrue, pl_bcFalse, pl_gdTrue, pl_in, pl_eq, pl_lt, pl_le, pl_ix, nI_add, pk_mul, pl_m1, X11_bad]
    · unfold f_X12_look
      rw [p2]
      simp (disch := omega) only [f_X12_look_j20, pl_lit, pl_bl, pl_bd, pl_bd2, pl_bd3, pl_bd4, pl_bcT, pl_bcF, gd_t, pl_bcTrue, pl_bcFalse, pl_gdTrue, pl_in, pl_eq, pl_lt, pl_le, pl_ix, nI_add, pk_mul, pl_m1, X12_bad]
theorem twoC {k : Nat} (h : k < 2) : k = 0 ∨ k = 1 := by omega
theorem sim_where {n : Nat} (hn : 200 ≤ n) : SIM_where n INV := by
  intro xo nv rv h0 h1 h2 h3 nt0 cv0 nt1 cv1 nt2 cv2 nt3 cv3 ps0 ps1 ps2 ps3 mo v1 v2 v3 hI
  have hI0 := hI
  obtain ⟨⟨a, ha, ht, hh, hc, hn', hp⟩, i2⟩ := hI
  have h6 := okL ha
  have p1 := X11_isMember (n := n) (xo := xo) (h := h0) (v := v1) (M := a 0) (by omega) hh.1
  have p2 := X12_isMember (n := n) (mo := mo) (v := v1) (M := a 0) (by omega) ht.1
  have q1 := X11_isSlipDay (n := n) (v := v2)
  have q2 : f_X12_in n v2.toInt64 0 99 = some (bI (inR v2 100)) := X12_inK (n := n) (v := v2) (K := 99) (by omega)
  have r1 : f_X11_within n v3 (nI 0) (nI 1) = some (bI (inR v3 2)) := X11_in (n := n) (v := v3) (K := 1) (by omega)
  have r2 : f_X12_in n v3.toInt64 0 1 = some (bI (inR v3 2)) := X12_inK (n := n) (v := v3) (K := 1) (by omega)
  refine inR_cases (v := v1) (N := a 0) (fun m hm e => ?_) (fun c => ?_)
  · subst e
    rw [bI_in hm] at p1 p2
    refine inR_cases (v := v2) (N := 100) (fun d hd e => ?_) (fun c => ?_)
    · subst e
      rw [bI_in hd] at q1 q2
      refine inR_cases (v := v3) (N := 2) (fun w hw e => ?_) (fun c => ?_)
      · subst e
        rw [bI_in hw] at r1 r2
        have kA := X1_kindAt (n := n) ha hh hm
        have kR := K_reach (n := n) (okM ha hm).1
        have rl := reachN_le (a (24 + m))
        have oD := X8_onDay (n := n) (m := m) (d := d) (by omega) ha hc (by omega) (by omega)
        have c1 : lowN (valN a) (fun k => k < a 2 ∧ a (47 + 3 * k) = m ∧ a (48 + 3 * k) = d) (reachN (a (24 + m))) (a 2) = cLo a m d := low_congr (a 2) (fun i hi => day_cov hi)
        have c3 : plcN a (fun k => k < a 2 ∧ a (47 + 3 * k) = m ∧ a (48 + 3 * k) = d) (reachN (a (24 + m))) = manyN a m d := plc_congr (fun i hi => day_cov hi)
        have pF := X8_placesFor (n := n) (P := fun k => k < a 2 ∧ a (47 + 3 * k) = m ∧ a (48 + 3 * k) = d) (by omega) ha hc rl
        rw [c3] at pF
        have lF := X8_lowest (n := n) (P := fun k => k < a 2 ∧ a (47 + 3 * k) = m ∧ a (48 + 3 * k) = d) (by omega) ha hc rl
        rw [c1] at lF
        have hh9 := highN_le (v := valN a) (P := covP a m d 0) (r := reachN (a (24 + m))) (a 2)
        have hh9' : cHi a m d ≤ 99 := hh9
        have ml : manyN a m d ≤ 100 := by unfold manyN; omega
        have wL := fun v3 => X12_whereL (n := n) (mo := mo) (d := d) (v3 := v3) hn ha ht hm (by omega)
        have e1 : numN (canP a m d) 100 = manyN a m d := many_cnt
        rcases twoC hw with rfl | rfl
        · refine ⟨nI (manyN a m d), xo, mo, ?_, ?_, hI0⟩
          · simp (disch := omega) only [f_X11_where, p1, q1, r1, kA, kR, oD, pF, pl_lit, pl_bl, pl_bd, pl_bd2, pl_bd3, pl_bd4, pl_bcT, pl_bcF, gd_t, pl_bcTrue, pl_bcFalse, pl_gdTrue, pl_in, pl_eq, pl_lt, pl_le, pl_ix, nI_add, pk_mul, pl_m1]
          · unfold f_X12_where
            rw [p2, q2, r2]
            simp (disch := omega) only [f_X12_where_j99, wL, pl_lit, pl_bl, pl_bd, pl_bd2, pl_bd3, pl_bd4, pl_bcT, pl_bcF, gd_t, pl_bcTrue, pl_bcFalse, pl_gdTrue, pl_in, pl_eq, pl_lt, pl_le, pl_ix, nI_add, pk_mul, pl_m1, e1]
        · by_cases c : manyN a m d = 0
          · have e2 : lstI a m d 100 = m1 := by unfold lstI; rw [e1, if_pos c]
            refine ⟨m1, xo, mo, ?_, ?_, hI0⟩
            · rw [c] at pF
              simp (disch := omega) only [f_X11_where, f_X11_where_j102, p1, q1, r1, kA, kR, oD, pF, pl_lit, pl_bl, pl_bd, pl_bd2, pl_bd3, pl_bd4, pl_bcT, pl_bcF, gd_t, pl_bcTrue, pl_bcFalse, pl_gdTrue, pl_in, pl_eq, pl_lt, pl_le, pl_ix, nI_add, pk_mul, pl_m1]
            · unfold f_X12_where
              rw [p2, q2, r2]
              simp (disch := omega) only [f_X12_where_j99, wL, pl_lit, pl_bl, pl_bd, pl_bd2, pl_bd3, pl_bd4, pl_bcT, pl_bcF, gd_t, pl_bcTrue, pl_bcFalse, pl_gdTrue, pl_in, pl_eq, pl_lt, pl_le, pl_ix, nI_add, pk_mul, pl_m1, e2]
          · have e2 : lstI a m d 100 = nI (cLo a m d) := by unfold lstI; rw [e1, if_neg c]
            refine ⟨nI (cLo a m d), xo, mo, ?_, ?_, hI0⟩
            · simp (disch := omega) only [f_X11_where, f_X11_where_j102, p1, q1, r1, kA, kR, oD, pF, lF, pl_lit, pl_bl, pl_bd, pl_bd2, pl_bd3, pl_bd4, pl_bcT, pl_bcF, gd_t, pl_bcTrue, pl_bcFalse, pl_gdTrue, pl_in, pl_eq, pl_lt, pl_le, pl_ix, nI_add, pk_mul, pl_m1]
            · unfold f_X12_where
              rw [p2, q2, r2]
              simp (disch := omega) only [f_X12_where_j99, wL, pl_lit, pl_bl, pl_bd, pl_bd2, pl_bd3, pl_bd4, pl_bcT, pl_bcF, gd_t, pl_bcTrue, pl_bcFalse, pl_gdTrue, pl_in, pl_eq, pl_lt, pl_le, pl_ix, nI_add, pk_mul, pl_m1, e2]
      · rw [bI_nin c] at r1 r2
        refine ⟨-2, badX xo, refM mo 0, ?_, ?_, hI0.bad⟩
        · simp (disch := omega) only [f_X11_where, f_X11_where_j24, p1, q1, r1, pl_lit, pl_bl, pl_bd, pl_bd2, pl_bd3, pl_bd4, pl_bcT, pl_bcF, gd_t, pl_bcTrue, pl_bcFalse, pl_gdTrue, pl_in, pl_eq, pl_lt, pl_le, pl_ix, nI_add, pk_mul, pl_m1, X11_bad]
        · unfold f_X12_where
          rw [p2, q2, r2]
          simp (disch := omega) only [f_X12_where_j30, pl_lit, pl_bl, pl_bd, pl_bd2, pl_bd3, pl_bd4, pl_bcT, pl_bcF, gd_t, pl_bcTrue, pl_bcFalse, pl_gdTrue, pl_in, pl_eq, pl_lt, pl_le, pl_ix, nI_add, pk_mul, pl_m1, X12_bad]
    · rw [bI_nin c] at q1 q2
      refine ⟨-2, badX xo, refM mo 0, ?_, ?_, hI0.bad⟩
      · simp (disch := omega) only [f_X11_where, f_X11_where_j24, p1, q1, pl_lit, pl_bl, pl_bd, pl_bd2, pl_bd3, pl_bd4, pl_bcT, pl_bcF, gd_t, pl_bcTrue, pl_bcFalse, pl_gdTrue, pl_in, pl_eq, pl_lt, pl_le, pl_ix, nI_add, pk_mul, pl_m1, X11_bad]
      · unfold f_X12_where
        rw [p2, q2]
        simp (disch := omega) only [f_X12_where_j30, pl_lit, pl_bl, pl_bd, pl_bd2, pl_bd3, pl_bd4, pl_bcT, pl_bcF, gd_t, pl_bcTrue, pl_bcFalse, pl_gdTrue, pl_in, pl_eq, pl_lt, pl_le, pl_ix, nI_add, pk_mul, pl_m1, X12_bad]
  · rw [bI_nin c] at p1 p2
    refine ⟨-2, badX xo, refM mo 0, ?_, ?_, hI0.bad⟩
    · simp (disch := omega) only [f_X11_where, f_X11_where_j24, p1, pl_lit, pl_bl, pl_bd, pl_bd2, pl_bd3, pl_bd4, pl_bcT, pl_bcF, gd_t, pl_bcTrue, pl_bcFalse, pl_gdTrue, pl_in, pl_eq, pl_lt, pl_le, pl_ix, nI_add, pk_mul, pl_m1, X11_bad]
    · unfold f_X12_where
      rw [p2]
      simp (disch := omega) only [f_X12_where_j30, pl_lit, pl_bl, pl_bd, pl_bd2, pl_bd3, pl_bd4, pl_bcT, pl_bcF, gd_t, pl_bcTrue, pl_bcFalse, pl_gdTrue, pl_in, pl_eq, pl_lt, pl_le, pl_ix, nI_add, pk_mul, pl_m1, X12_bad]
