/-! is, sell -/
theorem lp_find {ρ : Type} {body : Int32 → Option (Int32 ⊕ ρ)} (L : Nat) (P : Nat → Prop) (r1 r0 : ρ) (hb : ∀ i, i < L → P i → body (nI i) = some (.inl (nI (i + 1)))) (hx : ∀ i, i < L → ¬ P i → body (nI i) = some (.inr r0)) (he : body (nI L) = some (.inr r1)) {fuel : Nat} (hf : L < fuel) : lp body fuel (nI 0) = some (@ite _ (∀ i, i < L → P i) (Classical.propDecidable _) r1 r0) := by
  obtain ⟨r', h1, h2⟩ := lp_inv (body := body) (fun k s => ∃ i, i ≤ L ∧ k = L - i ∧ s = nI i ∧ ∀ j, j < i → P j) (fun r' => r' = @ite _ (∀ i, i < L → P i) (Classical.propDecidable _) r1 r0) (by
    rintro k s ⟨i, hi, rfl, rfl, hj⟩
    by_cases h : i < L
    · by_cases c : P i
      · exact Or.inl ⟨_, L - (i + 1), hb i h c, by omega, i + 1, by omega, rfl, rfl, fun j hj' => by
          by_cases d : j = i
          · rw [d]; exact c
          · exact hj j (by omega)⟩
      · refine Or.inr ⟨r0, hx i h c, ?_⟩
        rw [if_neg (fun z => c (z i h))]
    · have : i = L := by omega
      subst this
      refine Or.inr ⟨r1, he, ?_⟩
      rw [if_pos hj]) fuel L (nI 0) ⟨0, by omega, by omega, rfl, fun j hj => absurd hj (Nat.not_lt_zero j)⟩ hf
  rw [h1, h2]
noncomputable def orB (P : Nat → Prop) : Nat → Int32
  | 0 => nI 0
  | m + 1 => @ite _ (P m) (Classical.propDecidable _) (orB P m ||| (nI 1 <<< (nI m &&& nI 31))) (orB P m)
def allP (P : Nat → Prop) (i : Nat) : Prop := ∀ j, j < i → P j
theorem allP_s {P : Nat → Prop} {i : Nat} : allP P (i + 1) ↔ allP P i ∧ P i :=
  ⟨fun h => ⟨fun j hj => h j (by omega), h i (by omega)⟩, fun h j hj => by
    by_cases c : j = i
    · rw [c]; exact h.2
    · exact h.1 j (by omega)⟩
theorem allP_0 {P : Nat → Prop} : allP P 0 := fun j hj => absurd hj (Nat.not_lt_zero j)
/-- whether a note agrees with a kind -/
def agN (a : Nat → Nat) (m k i : Nat) : Prop := a (65 + 3 * i) = m → signsN k (a (65 + 1 + 3 * i)) = a (65 + 2 + 3 * i)
section ISS
variable {n : Nat} {h mo nt : MV} {t : Nat → Int32} {a : Nat → Nat} {m k : Nat}
theorem X8_agrees (hn : 100 ≤ n) (ha : okA a) (hs : SO nt a (a 3) 65) (hm : m < a 0) (hk : k < 6) : f_X8_agrees n nt k (nI m) = some (bI (allP (agN a m k) (a 3))) := by
  have h6 := okL ha
  have e : nt.1 0 = nI (a 3) := hs.1
  have : f_X8_agrees_l2 n n nt k (nI m) 0 = some (@ite _ (∀ i, i < a 3 → agN a m k i) (Classical.propDecidable _) (.inl ()) (.inr 0)) := by
    refine lp_find (a 3) (agN a m k) (Sum.inl () : Unit ⊕ Int32) (Sum.inr 0) (fun i hi c => ?_) (fun i hi c => ?_) ?_ (by omega)
    · obtain ⟨e1, e2, e3⟩ := hs.2 i hi
      obtain ⟨o1, o2, o3⟩ := ha.2.2.2.2.2.2.2.2.2.1 i hi
      have o2' : a (65 + 1 + 3 * i) ≤ 99 := o2
      have o3' : a (65 + 2 + 3 * i) ≤ 20 := o3
      have sg := K_signs (n := n) (k := k) (d := a (65 + 1 + 3 * i)) hk (by omega)
      have sl := signsN_le k (a (65 + 1 + 3 * i))
      unfold agN at c
      by_cases d : a (65 + 3 * i) = m
      · have c := c d
        simp (disch := omega) only [f_X8_agrees_j41, f_X8_agrees_b2, f_X8_agrees_l2, f_X8_agrees, e, pl_lit, pl_bl, pl_bd, pl_bd2, pl_bd3, pl_bd4, pl_bcT, pl_bcF, gd_t, pl_bcTrue, pl_bcFalse, pl_gdTrue, pl_in, pl_eq, pl_lt, pl_le, pl_ix, nI_add, pk_mul, pl_m1, e1, e2, e3, sg, d]
      · simp (disch := omega) only [f_X8_agrees_j41, f_X8_agrees_b2, f_X8_agrees_l2, f_X8_agrees, e, pl_lit, pl_bl, pl_bd, pl_bd2, pl_bd3, pl_bd4, pl_bcT, pl_bcF, gd_t, pl_bcTrue, pl_bcFalse, pl_gdTrue, pl_in, pl_eq, pl_lt, pl_le, pl_ix, nI_add, pk_mul, pl_m1, e1, e2, e3, sg, d]
    · obtain ⟨e1, e2, e3⟩ := hs.2 i hi
      obtain ⟨o1, o2, o3⟩ := ha.2.2.2.2.2.2.2.2.2.1 i hi
      have o2' : a (65 + 1 + 3 * i) ≤ 99 := o2
      have o3' : a (65 + 2 + 3 * i) ≤ 20 := o3
      have sg := K_signs (n := n) (k := k) (d := a (65 + 1 + 3 * i)) hk (by omega)
      have sl := signsN_le k (a (65 + 1 + 3 * i))
      unfold agN at c
      rw [Classical.not_imp] at c
      obtain ⟨d, c⟩ := c
      simp (disch := omega) only [f_X8_agrees_j41, f_X8_agrees_b2, f_X8_agrees_l2, f_X8_agrees, e, pl_lit, pl_bl, pl_bd, pl_bd2, pl_bd3, pl_bd4, pl_bcT, pl_bcF, gd_t, pl_bcTrue, pl_bcFalse, pl_gdTrue, pl_in, pl_eq, pl_lt, pl_le, pl_ix, nI_add, pk_mul, pl_m1, e1, e2, e3, sg, d]
    · simp (disch := omega) only [f_X8_agrees_j41, f_X8_agrees_b2, f_X8_agrees_l2, f_X8_agrees, e, pl_lit, pl_bl, pl_bd, pl_bd2, pl_bd3, pl_bd4, pl_bcT, pl_bcF, gd_t, pl_bcTrue, pl_bcFalse, pl_gdTrue, pl_in, pl_eq, pl_lt, pl_le, pl_ix, nI_add, pk_mul, pl_m1]
  unfold f_X8_agrees
  rw [this]
  by_cases c : allP (agN a m k) (a 3)
  · rw [bI_T c, if_pos (show ∀ i, i < a 3 → agN a m k i from c)]; rfl
  · rw [bI_F c, if_neg (show ¬ ∀ i, i < a 3 → agN a m k i from c)]; rfl
theorem X8_kindsNoted (hn : 100 ≤ n) (ha : okA a) (hs : SO nt a (a 3) 65) (hm : m < a 0) : f_X8_kindsNoted n nt (nI m) = some (orB (fun k => allP (agN a m k) (a 3)) 6) := by
  have : f_X8_kindsNoted_l5 n n nt (nI m) 0 0 = some (orB (fun k => allP (agN a m k) (a 3)) 6) := by
    refine lp_cnt 6 (fun i => orB (fun k => allP (agN a m k) (a 3)) i) _ (fun i hi => ?_) ?_ (by omega)
    · have g := X8_agrees (n := n) hn ha hs hm hi
      by_cases c : allP (agN a m i) (a 3)
      · simp (disch := omega) only [f_X8_kindsNoted_j31, f_X8_kindsNoted_b5, f_X8_kindsNoted_l5, f_X8_kindsNoted, pl_lit, pl_bl, pl_bd, pl_bd2, pl_bd3, pl_bd4, pl_bcT, pl_bcF, gd_t, pl_bcTrue, pl_bcFalse, pl_gdTrue, pl_in, pl_eq, pl_lt, pl_le, pl_ix, nI_add, pk_mul, pl_m1, g, bI_T c, orB, if_pos c]
      · simp (disch := omega) only [f_X8_kindsNoted_j31, f_X8_kindsNoted_b5, f_X8_kindsNoted_l5, f_X8_kindsNoted, pl_lit, pl_bl, pl_bd, pl_bd2, pl_bd3, pl_bd4, pl_bcT, pl_bcF, gd_t, pl_bcTrue, pl_bcFalse, pl_gdTrue, pl_in, pl_eq, pl_lt, pl_le, pl_ix, nI_add, pk_mul, pl_m1, g, bI_F c, orB, if_neg c]
    · simp (disch := omega) only [f_X8_kindsNoted_j31, f_X8_kindsNoted_b5, f_X8_kindsNoted_l5, f_X8_kindsNoted, pl_lit, pl_bl, pl_bd, pl_bd2, pl_bd3, pl_bd4, pl_bcT, pl_bcF, gd_t, pl_bcTrue, pl_bcFalse, pl_gdTrue, pl_in, pl_eq, pl_lt, pl_le, pl_ix, nI_add, pk_mul, pl_m1]
  unfold f_X8_kindsNoted
  rw [this]
  rfl
theorem X12_isIn {v2 : Int32} (hn : 100 ≤ n) (ha : okA a) (ht : TR (mo.2.1 0) a) (hm : m < a 0) (hk : k < 6) : f_X12_is_l31 n n mo (nI k) v2 (nI m) 0 1 = some (bI (allP (agN a m k) (a 3))) := by
  have h6 := okL ha
  have e : mo.2.1 0 3 = nI (a 3) := ht.2.2.2.1
  have z : (1 : Int32) = bI (allP (agN a m k) 0) := (bI_T allP_0).symm
  rw [z]
  refine lp_cnt (a 3) (fun i => bI (allP (agN a m k) i)) _ (fun i hi => ?_) ?_ (by omega)
  · obtain ⟨e1, e2, e3⟩ := ht.2.2.2.2.2.2.2.2.2.1 i hi
    obtain ⟨o1, o2, o3⟩ := ha.2.2.2.2.2.2.2.2.2.1 i hi
    have f1 : 65 + 3 * i + 1 = 66 + 3 * i := by omega
    have f2 : 65 + 3 * i + 2 = 67 + 3 * i := by omega
    have sg := X12_coversAs (n := n) (k := k) (d := a (66 + 3 * i)) hk (by omega)
    have sl := signsN_le k (a (66 + 3 * i))
    by_cases c : allP (agN a m k) i
    · by_cases d : a (65 + 3 * i) = m
      · by_cases d2 : signsN k (a (66 + 3 * i)) = a (67 + 3 * i)
        · have q : allP (agN a m k) (i + 1) := allP_s.mpr ⟨c, fun _ => d2⟩
          simp (disch := omega) only [f_X12_is_b31, f_X12_is_j92, f_X12_is_j96, f_X12_is_j97, e, pl_lit, pl_bl, pl_bd, pl_bd2, pl_bd3, pl_bd4, pl_bcT, pl_bcF, gd_t, pl_bcTrue, pl_bcFalse, pl_gdTrue, pl_in, pl_eq, pl_lt, pl_le, pl_ix, nI_add, pk_mul, pl_m1, f1, f2, e1, e2, e3, sg, d, d2, bI_T c, bI_T q]
        · have q : ¬ allP (agN a m k) (i + 1) := fun z => d2 ((allP_s.mp z).2 d)
          simp (disch := omega) only [f_X12_is_b31, f_X12_is_j92, f_X12_is_j96, f_X12_is_j97, e, pl_lit, pl_bl, pl_bd, pl_bd2, pl_bd3, pl_bd4, pl_bcT, pl_bcF, gd_t, pl_bcTrue, pl_bcFalse, pl_gdTrue, pl_in, pl_eq, pl_lt, pl_le, pl_ix, nI_add, pk_mul, pl_m1, f1, f2, e1, e2, e3, sg, d, d2, bI_T c, bI_F q]
      · have q : allP (agN a m k) (i + 1) := allP_s.mpr ⟨c, fun z => absurd z d⟩
        simp (disch := omega) only [f_X12_is_b31, f_X12_is_j92, f_X12_is_j96, f_X12_is_j97, e, pl_lit, pl_bl, pl_bd, pl_bd2, pl_bd3, pl_bd4, pl_bcT, pl_bcF, gd_t, pl_bcTrue, pl_bcFalse, pl_gdTrue, pl_in, pl_eq, pl_lt, pl_le, pl_ix, nI_add, pk_mul, pl_m1, f1, f2, e1, e2, e3, sg, d, bI_T c, bI_T q]
    · have q : ¬ allP (agN a m k) (i + 1) := fun z => c (allP_s.mp z).1
      simp (disch := omega) only [f_X12_is_b31, f_X12_is_j92, f_X12_is_j96, f_X12_is_j97, e, pl_lit, pl_bl, pl_bd, pl_bd2, pl_bd3, pl_bd4, pl_bcT, pl_bcF, gd_t, pl_bcTrue, pl_bcFalse, pl_gdTrue, pl_in, pl_eq, pl_lt, pl_le, pl_ix, nI_add, pk_mul, pl_m1, bI_F c, bI_F q]
  · simp (disch := omega) only [f_X12_is_b31, e, pl_lit, pl_bl, pl_bd, pl_bd2, pl_bd3, pl_bd4, pl_bcT, pl_bcF, gd_t, pl_bcTrue, pl_bcFalse, pl_gdTrue, pl_in, pl_eq, pl_lt, pl_le, pl_ix, nI_add, pk_mul, pl_m1]
theorem X12_isOut (hn : 100 ≤ n) (ha : okA a) (ht : TR (mo.2.1 0) a) (hm : m < a 0) : f_X12_is_l19 n n mo (nI m) 0 0 = some (orB (fun k => allP (agN a m k) (a 3)) 6) := by
  refine lp_cnt 6 (fun i => orB (fun k => allP (agN a m k) (a 3)) i) _ (fun i hi => ?_) ?_ (by omega)
  · have g := fun v2 => X12_isIn (n := n) (v2 := v2) hn ha ht hm hi
    have g' : ∀ v2, f_X12_is_l31 n n mo (nI i) v2 (nI m) (nI 0) (nI 1) = _ := g
    by_cases c : allP (agN a m i) (a 3)
    · simp (disch := omega) only [f_X12_is_b19, f_X12_is_j118, pl_lit, pl_bl, pl_bd, pl_bd2, pl_bd3, pl_bd4, pl_bcT, pl_bcF, gd_t, pl_bcTrue, pl_bcFalse, pl_gdTrue, pl_in, pl_eq, pl_lt, pl_le, pl_ix, nI_add, pk_mul, pl_m1, g', bI_T c, orB, if_pos c]
    · simp (disch := omega) only [f_X12_is_b19, f_X12_is_j118, pl_lit, pl_bl, pl_bd, pl_bd2, pl_bd3, pl_bd4, pl_bcT, pl_bcF, gd_t, pl_bcTrue, pl_bcFalse, pl_gdTrue, pl_in, pl_eq, pl_lt, pl_le, pl_ix, nI_add, pk_mul, pl_m1, g', bI_F c, orB, if_neg c, or_n0]
  · simp (disch := omega) only [f_X12_is_b19, pl_lit, pl_bl, pl_bd, pl_bd2, pl_bd3, pl_bd4, pl_bcT, pl_bcF, gd_t, pl_bcTrue, pl_bcFalse, pl_gdTrue, pl_in, pl_eq, pl_lt, pl_le, pl_ix, nI_add, pk_mul, pl_m1]
end ISS
theorem sim_is {n : Nat} (hn : 100 ≤ n) : SIM_is n INV := by
  intro xo nv rv h0 h1 h2 h3 nt0 cv0 nt1 cv1 nt2 cv2 nt3 cv3 ps0 ps1 ps2 ps3 mo v1 hI
  have hI0 := hI
  obtain ⟨⟨a, ha, ht, hh, hc, hn', hp⟩, i2⟩ := hI
  have h6 := okL ha
  have p1 := X11_isMember (n := n) (xo := xo) (h := h0) (v := v1) (M := a 0) (by omega) hh.1
  have p2 := X12_isMember (n := n) (mo := mo) (v := v1) (M := a 0) (by omega) ht.1
  refine inR_cases (v := v1) (N := a 0) (fun m hm e => ?_) (fun c => ?_)
  · subst e
    rw [bI_in hm] at p1 p2
    have g : f_X12_is_l19 n n mo (nI m) (nI 0) (nI 0) = _ := X12_isOut (n := n) hn ha ht hm
    refine ⟨orB (fun k => allP (agN a m k) (a 3)) 6, xo, mo, ?_, ?_, hI0⟩
    · simp (disch := omega) only [f_X11_is, p1, pl_lit, pl_bl, pl_bd, pl_bd2, pl_bd3, pl_bd4, pl_bcT, pl_bcF, gd_t, pl_bcTrue, pl_bcFalse, pl_gdTrue, pl_in, pl_eq, pl_lt, pl_le, pl_ix, nI_add, pk_mul, pl_m1, X8_kindsNoted hn ha hn' hm]
    · simp (disch := omega) only [f_X12_is, p2, pl_lit, pl_bl, pl_bd, pl_bd2, pl_bd3, pl_bd4, pl_bcT, pl_bcF, gd_t, pl_bcTrue, pl_bcFalse, pl_gdTrue, pl_in, pl_eq, pl_lt, pl_le, pl_ix, nI_add, pk_mul, pl_m1, g]
  · rw [bI_nin c] at p1 p2
    refine ⟨-2, badX xo, refM mo 0, ?_, ?_, hI0.bad⟩
    · simp (disch := omega) only [f_X11_is, p1, pl_lit, pl_bl, pl_bd, pl_bd2, pl_bd3, pl_bd4, pl_bcT, pl_bcF, gd_t, pl_bcTrue, pl_bcFalse, pl_gdTrue, pl_in, pl_eq, pl_lt, pl_le, pl_ix, nI_add, pk_mul, pl_m1, X11_bad]
    · simp (disch := omega) only [f_X12_is, p2, pl_lit, pl_bl, pl_bd, pl_bd2, pl_bd3, pl_bd4, pl_bcT, pl_bcF, gd_t, pl_bcTrue, pl_bcFalse, pl_gdTrue, pl_in, pl_eq, pl_lt, pl_le, pl_ix, nI_add, pk_mul, pl_m1, X12_bad]
/-- what one gains -/
noncomputable def gI (s o : Prop) (P : Int32) : Int32 := @ite _ s (Classical.propDecidable _) (@ite _ o (Classical.propDecidable _) (P / nI 2 - nI 1) P) (nI 0)
theorem gI_0 {s o : Prop} {P : Int32} (h : ¬ s) : gI s o P = nI 0 := if_neg h
theorem gI_1 {s o : Prop} {P : Int32} (h : s) (h' : ¬ o) : gI s o P = P := by unfold gI; rw [if_pos h, if_neg h']
theorem gI_2 {s o : Prop} {P : Int32} (h : s) (h' : o) : gI s o P = P / nI 2 - nI 1 := by unfold gI; rw [if_pos h, if_pos h']
def b0 (k : Nat) : Prop := k % 2 = 1
def b1 (k : Nat) : Prop := 2 ≤ k
def restP (A B : Prop) (P : Int32) (k : Nat) : Prop := gI (A ∧ ¬ b0 k) (B ∧ b1 k) P ≤ gI (A ∧ b0 k) (B ∧ b1 k) P ∧ gI (B ∧ ¬ b1 k) (A ∧ b0 k) P ≤ gI (B ∧ b1 k) (A ∧ b0 k) P
theorem four {k : Nat} (h : k < 4) : k = 0 ∨ k = 1 ∨ k = 2 ∨ k = 3 := by omega
section SELL
variable {n k : Nat} {A B X Y : Prop} {P v4 v5 v1 v2 v3 : Int32} {mo : MV}
theorem X3_gain : f_X3_gain n (bI X) (bI Y) P = some (gI X Y P) := by
  by_cases c : X
  · by_cases d : Y
    · simp (disch := omega) only [f_X3_gain_j19, f_X3_gain, pl_lit, pl_bl, pl_bd, pl_bd2, pl_bd3, pl_bd4, pl_bcT, pl_bcF, gd_t, pl_bcTrue, pl_bcFalse, pl_gdTrue, pl_in, pl_eq, pl_lt, pl_le, pl_ix, nI_add, pk_mul, pl_m1, bI_T c, bI_T d, gI_2 c d]
    · simp (disch := omega) only [f_X3_gain_j19, f_X3_gain, pl_lit, pl_bl, pl_bd, pl_bd2, pl_bd3, pl_bd4, pl_bcT, pl_bcF, gd_t, pl_bcTrue, pl_bcFalse, pl_gdTrue, pl_in, pl_eq, pl_lt, pl_le, pl_ix, nI_add, pk_mul, pl_m1, bI_T c, bI_F d, gI_1 c d]
  · simp (disch := omega) only [f_X3_gain_j19, f_X3_gain, pl_lit, pl_bl, pl_bd, pl_bd2, pl_bd3, pl_bd4, pl_bcT, pl_bcF, gd_t, pl_bcTrue, pl_bcFalse, pl_gdTrue, pl_in, pl_eq, pl_lt, pl_le, pl_ix, nI_add, pk_mul, pl_m1, bI_F c, gI_0 c]
theorem pr_and {Z : Prop} (h : (X ↔ Z)) : bI X = bI Z := bI_congr h
theorem and1_k (hk : k < 4) : (nI k &&& nI 1 = nI 0) = ¬ b0 k := by
  rcases four hk with rfl | rfl | rfl | rfl <;> simp [b0] <;> decide
theorem and1_k1 (hk : k < 4) : (nI k &&& nI 1 = nI 1) = b0 k := by
  rcases four hk with rfl | rfl | rfl | rfl <;> simp [b0] <;> decide
theorem and2_k (hk : k < 4) : (nI k &&& nI 2 = nI 0) = ¬ b1 k := by
  rcases four hk with rfl | rfl | rfl | rfl <;> simp [b1] <;> decide
theorem pr_6 (hk : k < 4) : f_X3_pairsThatRest_b6 n (nI k) v4 (bI A) (bI B) P = f_X3_pairsThatRest_j28 n (nI k) v4 (bI A) (bI B) P (bI (A ∧ b0 k)) := by
  by_cases c : A
  · by_cases d : b0 k
    · have q : A ∧ b0 k := ⟨c, d⟩
      have e : (nI k &&& nI 1 = nI 0) = False := by rw [and1_k hk]; exact eq_false (fun z => z d)
      simp (disch := omega) only [f_X3_pairsThatRest_b6, f_X3_pairsThatRest_j27, pl_lit, pl_bl, pl_bd, pl_bd2, pl_bd3, pl_bd4, pl_bcT, pl_bcF, gd_t, pl_bcTrue, pl_bcFalse, pl_gdTrue, pl_in, pl_eq, pl_lt, pl_le, pl_ix, nI_add, pk_mul, pl_m1, bI_T c, bI_T q, e]
    · have q : ¬ (A ∧ b0 k) := fun z => d z.2
      have e : (nI k &&& nI 1 = nI 0) = True := by rw [and1_k hk]; exact eq_true d
      simp (disch := omega) only [f_X3_pairsThatRest_b6, f_X3_pairsThatRest_j27, pl_lit, pl_bl, pl_bd, pl_bd2, pl_bd3, pl_bd4, pl_bcT, pl_bcF, gd_t, pl_bcTrue, pl_bcFalse, pl_gdTrue, pl_in, pl_eq, pl_lt, pl_le, pl_ix, nI_add, pk_mul, pl_m1, bI_T c, bI_F q, e]
  · have q : ¬ (A ∧ b0 k) := fun z => c z.1
    simp (disch := omega) only [f_X3_pairsThatRest_b6, f_X3_pairsThatRest_j27, pl_lit, pl_bl, pl_bd, pl_bd2, pl_bd3, pl_bd4, pl_bcT, pl_bcF, gd_t, pl_bcTrue, pl_bcFalse, pl_gdTrue, pl_in, pl_eq, pl_lt, pl_le, pl_ix, nI_add, pk_mul, pl_m1, bI_F c, bI_F q]
theorem pr_28 (hk : k < 4) : f_X3_pairsThatRest_j28 n (nI k) v4 (bI A) (bI B) P (bI X) = f_X3_pairsThatRest_j46 n (bI X) (nI k) v4 (bI A) (bI B) P (bI (B ∧ b1 k)) := by
  by_cases c : B
  · by_cases d : b1 k
    · have q : B ∧ b1 k := ⟨c, d⟩
      have e : (nI k &&& nI 2 = nI 0) = False := by rw [and2_k hk]; exact eq_false (fun z => z d)
      simp (disch := omega) only [f_X3_pairsThatRest_j28, f_X3_pairsThatRest_j45, pl_lit, pl_bl, pl_bd, pl_bd2, pl_bd3, pl_bd4, pl_bcT, pl_bcF, gd_t, pl_bcTrue, pl_bcFalse, pl_gdTrue, pl_in, pl_eq, pl_lt, pl_le, pl_ix, nI_add, pk_mul, pl_m1, bI_T c, bI_T q, e]
    · have q : ¬ (B ∧ b1 k) := fun z => d z.2
      have e : (nI k &&& nI 2 = nI 0) = True := by rw [and2_k hk]; exact eq_true d
      simp (disch := omega) only [f_X3_pairsThatRest_j28, f_X3_pairsThatRest_j45, pl_lit, pl_bl, pl_bd, pl_bd2, pl_bd3, pl_bd4, pl_bcT, pl_bcF, gd_t, pl_bcTrue, pl_bcFalse, pl_gdTrue, pl_in, pl_eq, pl_lt, pl_le, pl_ix, nI_add, pk_mul, pl_m1, bI_T c, bI_F q, e]
  · have q : ¬ (B ∧ b1 k) := fun z => c z.1
    simp (disch := omega) only [f_X3_pairsThatRest_j28, f_X3_pairsThatRest_j45, pl_lit, pl_bl, pl_bd, pl_bd2, pl_bd3, pl_bd4, pl_bcT, pl_bcF, gd_t, pl_bcTrue, pl_bcFalse, pl_gdTrue, pl_in, pl_eq, pl_lt, pl_le, pl_ix, nI_add, pk_mul, pl_m1, bI_F c, bI_F q]
theorem pr_46 : f_X3_pairsThatRest_j46 n (bI X) v5 v4 (bI A) (bI B) P (bI Y) = f_X3_pairsThatRest_j62 n (bI Y) (bI X) v5 v4 (bI A) (bI B) P (bI (A ∧ ¬ X)) := by
  by_cases c : A
  · by_cases d : X
    · have q : ¬ (A ∧ ¬ X) := fun z => z.2 d
      simp (disch := omega) only [f_X3_pairsThatRest_j46, f_X3_pairsThatRest_j61, pl_lit, pl_bl, pl_bd, pl_bd2, pl_bd3, pl_bd4, pl_bcT, pl_bcF, gd_t, pl_bcTrue, pl_bcFalse, pl_gdTrue, pl_in, pl_eq, pl_lt, pl_le, pl_ix, nI_add, pk_mul, pl_m1, bI_T c, bI_F q, bI_T d]
    · have q : A ∧ ¬ X := ⟨c, d⟩
      simp (disch := omega) only [f_X3_pairsThatRest_j46, f_X3_pairsThatRest_j61, pl_lit, pl_bl, pl_bd, pl_bd2, pl_bd3, pl_bd4, pl_bcT, pl_bcF, gd_t, pl_bcTrue, pl_bcFalse, pl_gdTrue, pl_in, pl_eq, pl_lt, pl_le, pl_ix, nI_add, pk_mul, pl_m1, bI_T c, bI_T q, bI_F d]
  · have q : ¬ (A ∧ ¬ X) := fun z => c z.1
    simp (disch := omega) only [f_X3_pairsThatRest_j46, f_X3_pairsThatRest_j61, pl_lit, pl_bl, pl_bd, pl_bd2, pl_bd3, pl_bd4, pl_bcT, pl_bcF, gd_t, pl_bcTrue, pl_bcFalse, pl_gdTrue, pl_in, pl_eq, pl_lt, pl_le, pl_ix, nI_add, pk_mul, pl_m1, bI_F c, bI_F q]
theorem pr_62 {Z : Prop} : f_X3_pairsThatRest_j62 n (bI Y) (bI X) v5 v4 (bI A) (bI B) P (bI Z) = f_X3_pairsThatRest_j78 n (bI Z) (bI Y) (bI X) v5 v4 (bI A) (bI B) P (bI (B ∧ ¬ Y)) := by
  by_cases c : B
  · by_cases d : Y
    · have q : ¬ (B ∧ ¬ Y) := fun z => z.2 d
      simp (disch := omega) only [f_X3_pairsThatRest_j62, f_X3_pairsThatRest_j77, pl_lit, pl_bl, pl_bd, pl_bd2, pl_bd3, pl_bd4, pl_bcT, pl_bcF, gd_t, pl_bcTrue, pl_bcFalse, pl_gdTrue, pl_in, pl_eq, pl_lt, pl_le, pl_ix, nI_add, pk_mul, pl_m1, bI_T c, bI_F q, bI_T d]
    · have q : B ∧ ¬ Y := ⟨c, d⟩
      simp (disch := omega) only [f_X3_pairsThatRest_j62, f_X3_pairsThatRest_j77, pl_lit, pl_bl, pl_bd, pl_bd2, pl_bd3, pl_bd4, pl_bcT, pl_bcF, gd_t, pl_bcTrue, pl_bcFalse, pl_gdTrue, pl_in, pl_eq, pl_lt, pl_le, pl_ix, nI_add, pk_mul, pl_m1, bI_T c, bI_T q, bI_F d]
  · have q : ¬ (B ∧ ¬ Y) := fun z => c z.1
    simp (disch := omega) only [f_X3_pairsThatRest_j62, f_X3_pairsThatRest_j77, pl_lit, pl_bl, pl_bd, pl_bd2, pl_bd3, pl_bd4, pl_bcT, pl_bcF, gd_t, pl_bcTrue, pl_bcFalse, pl_gdTrue, pl_in, pl_eq, pl_lt, pl_le, pl_ix, nI_add, pk_mul, pl_m1, bI_F c, bI_F q]
theorem pr_78 {Z W : Prop} : f_X3_pairsThatRest_j78 n (bI Z) (bI Y) (bI X) v5 v4 v1 v2 P (bI W) = some (.inl (v5 + nI 1, @ite _ (gI Z Y P ≤ gI X Y P ∧ gI W X P ≤ gI Y X P) (Classical.propDecidable _) (v4 ||| (nI 1 <<< (v5 &&& nI 31))) v4)) := by
  by_cases c : gI Z Y P ≤ gI X Y P
  · by_cases d : gI W X P ≤ gI Y X P
    · rw [if_pos ⟨c, d⟩]
      simp (disch := omega) only [f_X3_pairsThatRest_j78, f_X3_pairsThatRest_j104, f_X3_pairsThatRest_j130, f_X3_pairsThatRest_j151, X3_gain, pl_lit, pl_bl, pl_bd, pl_bd2, pl_bd3, pl_bd4, pl_bcT, pl_bcF, gd_t, pl_bcTrue, pl_bcFalse, pl_gdTrue, pl_in, pl_eq, pl_lt, pl_le, pl_ix, nI_add, pk_mul, pl_m1, c, d]
    · rw [if_neg (fun z => d z.2)]
      simp (disch := omega) only [f_X3_pairsThatRest_j78, f_X3_pairsThatRest_j104, f_X3_pairsThatRest_j130, f_X3_pairsThatRest_j151, X3_gain, pl_lit, pl_bl, pl_bd, pl_bd2, pl_bd3, pl_bd4, pl_bcT, pl_bcF, gd_t, pl_bcTrue, pl_bcFalse, pl_gdTrue, pl_in, pl_eq, pl_lt, pl_le, pl_ix, nI_add, pk_mul, pl_m1, c, d]
  · rw [if_neg (fun z => c z.1)]
    by_cases d : gI W X P ≤ gI Y X P
    · simp (disch := omega) only [f_X3_pairsThatRest_j78, f_X3_pairsThatRest_j104, f_X3_pairsThatRest_j130, f_X3_pairsThatRest_j151, X3_gain, pl_lit, pl_bl, pl_bd, pl_bd2, pl_bd3, pl_bd4, pl_bcT, pl_bcF, gd_t, pl_bcTrue, pl_bcFalse, pl_gdTrue, pl_in, pl_eq, pl_lt, pl_le, pl_ix, nI_add, pk_mul, pl_m1, c, d]
    · simp (disch := omega) only [f_X3_pairsThatRest_j78, f_X3_pairsThatRest_j104, f_X3_pairsThatRest_j130, f_X3_pairsThatRest_j151, X3_gain, pl_lit, pl_bl, pl_bd, pl_bd2, pl_bd3, pl_bd4, pl_bcT, pl_bcF, gd_t, pl_bcTrue, pl_bcFalse, pl_gdTrue, pl_in, pl_eq, pl_lt, pl_le, pl_ix, nI_add, pk_mul, pl_m1, c, d]
theorem X3_pairs (hn : 100 ≤ n) : f_X3_pairsThatRest n (bI A) (bI B) P = some (orB (restP A B P) 4) := by
  have : f_X3_pairsThatRest_l6 n n (bI A) (bI B) P 0 0 = some (orB (restP A B P) 4) := by
    refine lp_cnt 4 (fun i => orB (restP A B P) i) _ (fun i hi => ?_) ?_ (by omega)
    · show f_X3_pairsThatRest_b6 n (nI i) (orB (restP A B P) i) (bI A) (bI B) P = _
      rw [pr_6 hi, pr_28 hi, pr_46, pr_62, pr_78, nI_add]
      have e1 : (A ∧ ¬ (A ∧ b0 i)) = (A ∧ ¬ b0 i) := propext ⟨fun z => ⟨z.1, fun w => z.2 ⟨z.1, w⟩⟩, fun z => ⟨z.1, fun w => z.2 w.2⟩⟩
      have e2 : (B ∧ ¬ (B ∧ b1 i)) = (B ∧ ¬ b1 i) := propext ⟨fun z => ⟨z.1, fun w => z.2 ⟨z.1, w⟩⟩, fun z => ⟨z.1, fun w => z.2 w.2⟩⟩
      rw [e1, e2]
      rfl
    · show f_X3_pairsThatRest_b6 n (nI 4) _ (bI A) (bI B) P = _
      simp (disch := omega) only [f_X3_pairsThatRest_b6, pl_lit, pl_bl, pl_bd, pl_bd2, pl_bd3, pl_bd4, pl_bcT, pl_bcF, gd_t, pl_bcTrue, pl_bcFalse, pl_gdTrue, pl_in, pl_eq, pl_lt, pl_le, pl_ix, nI_add, pk_mul, pl_m1]
  unfold f_X3_pairsThatRest
  rw [this]
  rfl
/-- the model's two rows -/
def pre (v : Nat → Int32) (f : Nat → Int32) (i : Nat) : Nat → Int32 := fun j => if j < i then v j else f j
theorem pre_0 {v f : Nat → Int32} : pre v f 0 = f := by funext j; exact if_neg (Nat.not_lt_zero j)
theorem pre_s {v f : Nat → Int32} {i : Nat} : upd (pre v f i) i (v i) = pre v f (i + 1) := by
  funext j
  unfold pre
  by_cases c : j = i
  · subst c; rw [pk_us, if_pos (by omega)]
  · rw [pk_un c]
    by_cases d : j < i
    · rw [if_pos d, if_pos (by omega)]
    · rw [if_neg d, if_neg (by omega)]
theorem pre_i {v f : Nat → Int32} {i j : Nat} (h : j < i) : pre v f i j = v j := if_pos h
theorem sA_89 {x y z : Nat → Int32} : setA (setA (setA mo 8 x) 9 y) 8 z = setA (setA mo 8 z) 9 y := by
  unfold setA
  refine congrArg (fun w => (mo.1, w, mo.2.2)) ?_
  funext j
  by_cases c : j = 8
  · subst c; rfl
  · by_cases d : j = 9
    · subst d; rfl
    · simp only [c, d, if_false]
noncomputable def hisV (A B : Prop) (P : Int32) (k : Nat) : Int32 := gI (A ∧ b0 k) (B ∧ b1 k) P
noncomputable def theV (A B : Prop) (P : Int32) (k : Nat) : Int32 := gI (B ∧ b1 k) (A ∧ b0 k) P
theorem ms_108 (hk : k < 4) (hp : f_X12_postage n mo v3 = some P) : f_X12_sell_j108 n mo (bI X) (nI k) v1 v2 v3 (bI Y) = some (.inl (nI (k + 1), setA (setA mo 8 (upd (mo.2.1 8) k (gI X Y P))) 9 (upd (mo.2.1 9) k (gI Y X P)))) := by
  by_cases c : X
  · by_cases d : Y
    · simp (disch := omega) only [f_X12_sell_j108, f_X12_sell_j132, f_X12_sell_j137, f_X12_sell_j156, f_X12_sell_j174, hp, pl_lit, pl_bl, pl_bd, pl_bd2, pl_bd3, pl_bd4, pl_bcT, pl_bcF, gd_t, pl_bcTrue, pl_bcFalse, pl_gdTrue, pl_in, pl_eq, pl_lt, pl_le, pl_ix, nI_add, pk_mul, pl_m1, bI_T c, bI_T d, gI_2 c d, gI_2 d c, sA_n]
    · simp (disch := omega) only [f_X12_sell_j108, f_X12_sell_j132, f_X12_sell_j137, f_X12_sell_j156, f_X12_sell_j174, hp, pl_lit, pl_bl, pl_bd, pl_bd2, pl_bd3, pl_bd4, pl_bcT, pl_bcF, gd_t, pl_bcTrue, pl_bcFalse, pl_gdTrue, pl_in, pl_eq, pl_lt, pl_le, pl_ix, nI_add, pk_mul, pl_m1, bI_T c, bI_F d, gI_1 c d, gI_0 d, sA_n]
  · by_cases d : Y
    · simp (disch := omega) only [f_X12_sell_j108, f_X12_sell_j132, f_X12_sell_j137, f_X12_sell_j156, f_X12_sell_j174, hp, pl_lit, pl_bl, pl_bd, pl_bd2, pl_bd3, pl_bd4, pl_bcT, pl_bcF, gd_t, pl_bcTrue, pl_bcFalse, pl_gdTrue, pl_in, pl_eq, pl_lt, pl_le, pl_ix, nI_add, pk_mul, pl_m1, bI_F c, bI_T d, gI_0 c, gI_1 d c, sA_n]
    · simp (disch := omega) only [f_X12_sell_j108, f_X12_sell_j132, f_X12_sell_j137, f_X12_sell_j156, f_X12_sell_j174, hp, pl_lit, pl_bl, pl_bd, pl_bd2, pl_bd3, pl_bd4, pl_bcT, pl_bcF, gd_t, pl_bcTrue, pl_bcFalse, pl_gdTrue, pl_in, pl_eq, pl_lt, pl_le, pl_ix, nI_add, pk_mul, pl_m1, bI_F c, bI_F d, gI_0 c, gI_0 d, sA_n]
theorem ms_83 (hk : k < 4) (hB : f_X12_mayFrank n 235 (mo.2.1 0) v3 v2 = some (bI B)) : f_X12_sell_j83 n mo (nI k) v1 v2 v3 (bI X) = f_X12_sell_j108 n mo (bI X) (nI k) v1 v2 v3 (bI (B ∧ b1 k)) := by
  by_cases d : 2 ≤ k
  · by_cases c : B
    · have q : B ∧ b1 k := ⟨c, d⟩
      simp (disch := omega) only [f_X12_sell_j83, f_X12_sell_j107, hB, pl_lit, pl_bl, pl_bd, pl_bd2, pl_bd3, pl_bd4, pl_bcT, pl_bcF, gd_t, pl_bcTrue, pl_bcFalse, pl_gdTrue, pl_in, pl_eq, pl_lt, pl_le, pl_ix, nI_add, pk_mul, pl_m1, bI_T c, bI_T q]
    · have q : ¬ (B ∧ b1 k) := fun z => c z.1
      simp (disch := omega) only [f_X12_sell_j83, f_X12_sell_j107, hB, pl_lit, pl_bl, pl_bd, pl_bd2, pl_bd3, pl_bd4, pl_bcT, pl_bcF, gd_t, pl_bcTrue, pl_bcFalse, pl_gdTrue, pl_in, pl_eq, pl_lt, pl_le, pl_ix, nI_add, pk_mul, pl_m1, bI_F c, bI_F q]
  · have q : ¬ (B ∧ b1 k) := fun z => d z.2
    simp (disch := omega) only [f_X12_sell_j83, f_X12_sell_j107, hB, pl_lit, pl_bl, pl_bd, pl_bd2, pl_bd3, pl_bd4, pl_bcT, pl_bcF, gd_t, pl_bcTrue, pl_bcFalse, pl_gdTrue, pl_in, pl_eq, pl_lt, pl_le, pl_ix, nI_add, pk_mul, pl_m1, bI_F q]
theorem ms_52 (hk : k < 4) (hA : f_X12_mayFrank n 235 (mo.2.1 0) v3 v1 = some (bI A)) : f_X12_sell_b52 n mo (nI k) v1 v2 v3 = f_X12_sell_j83 n mo (nI k) v1 v2 v3 (bI (A ∧ b0 k)) := by
  by_cases d : b0 k
  · by_cases c : A
    · have q : A ∧ b0 k := ⟨c, d⟩
      have e : (nI k &&& nI 1 = nI 1) = True := by rw [and1_k1 hk]; exact eq_true d
      simp (disch := omega) only [f_X12_sell_b52, f_X12_sell_j82, hA, pl_lit, pl_bl, pl_bd, pl_bd2, pl_bd3, pl_bd4, pl_bcT, pl_bcF, gd_t, pl_bcTrue, pl_bcFalse, pl_gdTrue, pl_in, pl_eq, pl_lt, pl_le, pl_ix, nI_add, pk_mul, pl_m1, bI_T c, bI_T q, e]
    · have q : ¬ (A ∧ b0 k) := fun z => c z.1
      have e : (nI k &&& nI 1 = nI 1) = True := by rw [and1_k1 hk]; exact eq_true d
      simp (disch := omega) only [f_X12_sell_b52, f_X12_sell_j82, hA, pl_lit, pl_bl, pl_bd, pl_bd2, pl_bd3, pl_bd4, pl_bcT, pl_bcF, gd_t, pl_bcTrue, pl_bcFalse, pl_gdTrue, pl_in, pl_eq, pl_lt, pl_le, pl_ix, nI_add, pk_mul, pl_m1, bI_F c, bI_F q, e]
  · have q : ¬ (A ∧ b0 k) := fun z => d z.2
    have e : (nI k &&& nI 1 = nI 1) = False := by rw [and1_k1 hk]; exact eq_false d
    simp (disch := omega) only [f_X12_sell_b52, f_X12_sell_j82, hA, pl_lit, pl_bl, pl_bd, pl_bd2, pl_bd3, pl_bd4, pl_bcT, pl_bcF, gd_t, pl_bcTrue, pl_bcFalse, pl_gdTrue, pl_in, pl_eq, pl_lt, pl_le, pl_ix, nI_add, pk_mul, pl_m1, bI_F q, e]
theorem ms_l52 (hn : 100 ≤ n) (hA : f_X12_mayFrank n 235 (mo.2.1 0) v3 v1 = some (bI A)) (hB : f_X12_mayFrank n 235 (mo.2.1 0) v3 v2 = some (bI B)) (hp : ∀ m', m'.2.1 0 = mo.2.1 0 → f_X12_postage n m' v3 = some P) : f_X12_sell_l52 n n mo v1 v2 v3 0 = some (setA (setA mo 8 (pre (hisV A B P) (mo.2.1 8) 4)) 9 (pre (theV A B P) (mo.2.1 9) 4)) := by
  refine lp_cnt' 4 (fun i => setA (setA mo 8 (pre (hisV A B P) (mo.2.1 8) i)) 9 (pre (theV A B P) (mo.2.1 9) i)) mo _ ?_ (fun i hi => ?_) ?_ (by omega)
  · show setA (setA mo 8 (pre (hisV A B P) (mo.2.1 8) 0)) 9 (pre (theV A B P) (mo.2.1 9) 0) = mo
    rw [pre_0, pre_0, sA_id]
    exact sA_id
  · show f_X12_sell_b52 n (setA (setA mo 8 (pre (hisV A B P) (mo.2.1 8) i)) 9 (pre (theV A B P) (mo.2.1 9) i)) (nI i) v1 v2 v3 = _
    rw [ms_52 hi (show f_X12_mayFrank n 235 ((setA (setA mo 8 (pre (hisV A B P) (mo.2.1 8) i)) 9 (pre (theV A B P) (mo.2.1 9) i)).2.1 0) v3 v1 = some (bI A) from hA), ms_83 hi (show f_X12_mayFrank n 235 ((setA (setA mo 8 (pre (hisV A B P) (mo.2.1 8) i)) 9 (pre (theV A B P) (mo.2.1 9) i)).2.1 0) v3 v2 = some (bI B) from hB), ms_108 hi (hp (setA (setA mo 8 (pre (hisV A B P) (mo.2.1 8) i)) 9 (pre (theV A B P) (mo.2.1 9) i)) rfl), sA_s, sA_89, sAA]
    rw [sA_n (by omega), sA_s]
    have e1 : upd (pre (hisV A B P) (mo.2.1 8) i) i (gI (A ∧ b0 i) (B ∧ b1 i) P) = pre (hisV A B P) (mo.2.1 8) (i + 1) := pre_s
    have e2 : upd (pre (theV A B P) (mo.2.1 9) i) i (gI (B ∧ b1 i) (A ∧ b0 i) P) = pre (theV A B P) (mo.2.1 9) (i + 1) := pre_s
    rw [e1, e2]
  · show f_X12_sell_b52 n _ (nI 4) v1 v2 v3 = _
    simp (disch := omega) only [f_X12_sell_b52, pl_lit, pl_bl, pl_bd, pl_bd2, pl_bd3, pl_bd4, pl_bcT, pl_bcF, gd_t, pl_bcTrue, pl_bcFalse, pl_gdTrue, pl_in, pl_eq, pl_lt, pl_le, pl_ix, nI_add, pk_mul, pl_m1]
def x1k (k : Nat) : Nat := if k % 2 = 1 then k - 1 else k + 1
def x2k (k : Nat) : Nat := if 2 ≤ k then k - 2 else k + 2
theorem xor1 (hk : k < 4) : nI k ^^^ nI 1 = nI (x1k k) := by rcases four hk with rfl | rfl | rfl | rfl <;> decide
theorem xor2 (hk : k < 4) : nI k ^^^ nI 2 = nI (x2k k) := by rcases four hk with rfl | rfl | rfl | rfl <;> decide
theorem x1_b0 (hk : k < 4) : b0 (x1k k) = ¬ b0 k := by rcases four hk with rfl | rfl | rfl | rfl <;> simp [b0, x1k]
theorem x1_b1 (hk : k < 4) : b1 (x1k k) = b1 k := by rcases four hk with rfl | rfl | rfl | rfl <;> simp [b1, x1k]
theorem x2_b0 (hk : k < 4) : b0 (x2k k) = b0 k := by rcases four hk with rfl | rfl | rfl | rfl <;> simp [b0, x2k]
theorem x2_b1 (hk : k < 4) : b1 (x2k k) = ¬ b1 k := by rcases four hk with rfl | rfl | rfl | rfl <;> simp [b1, x2k]
theorem x1_lt (hk : k < 4) : x1k k < 4 := by rcases four hk with rfl | rfl | rfl | rfl <;> decide
theorem x2_lt (hk : k < 4) : x2k k < 4 := by rcases four hk with rfl | rfl | rfl | rfl <;> decide
theorem ms_l187 (hn : 100 ≤ n) (h8 : ∀ k, k < 4 → mo.2.1 8 k = hisV A B P k) (h9 : ∀ k, k < 4 → mo.2.1 9 k = theV A B P k) : f_X12_sell_l187 n n mo 0 0 = some (orB (restP A B P) 4) := by
  refine lp_cnt 4 (fun i => orB (restP A B P) i) _ (fun i hi => ?_) ?_ (by omega)
  · have l1 := x1_lt hi
    have l2 := x2_lt hi
    have r1 : hisV A B P (x1k i) = gI (A ∧ ¬ b0 i) (B ∧ b1 i) P := by unfold hisV; rw [x1_b0 hi, x1_b1 hi]
    have r2 : theV A B P (x2k i) = gI (B ∧ ¬ b1 i) (A ∧ b0 i) P := by unfold theV; rw [x2_b0 hi, x2_b1 hi]
    have e8 := h8 i hi
    have e9 := h9 i hi
    have f8 := (h8 (x1k i) l1).trans r1
    have f9 := (h9 (x2k i) l2).trans r2
    show f_X12_sell_b187 n mo (nI i) (orB (restP A B P) i) = _
    by_cases c : gI (A ∧ ¬ b0 i) (B ∧ b1 i) P ≤ gI (A ∧ b0 i) (B ∧ b1 i) P
    · have c' : ¬ hisV A B P i < gI (A ∧ ¬ b0 i) (B ∧ b1 i) P := Int32.not_lt.mpr c
      by_cases d : gI (B ∧ ¬ b1 i) (A ∧ b0 i) P ≤ gI (B ∧ b1 i) (A ∧ b0 i) P
      · have d' : ¬ theV A B P i < gI (B ∧ ¬ b1 i) (A ∧ b0 i) P := Int32.not_lt.mpr d
        have q : restP A B P i := ⟨c, d⟩
        simp (disch := omega) only [f_X12_sell_b187, f_X12_sell_j235, f_X12_sell_j236, f_X12_sell_j253, pl_lit, pl_bl, pl_bd, pl_bd2, pl_bd3, pl_bd4, pl_bcT, pl_bcF, gd_t, pl_bcTrue, pl_bcFalse, pl_gdTrue, pl_in, pl_eq, pl_lt, pl_le, pl_ix, nI_add, pk_mul, pl_m1, xor1 hi, xor2 hi, e8, e9, f8, f9, c', d', orB, if_pos q]
      · have d' : theV A B P i < gI (B ∧ ¬ b1 i) (A ∧ b0 i) P := Int32.not_le.mp d
        have q : ¬ restP A B P i := fun z => d z.2
        simp (disch := omega) only [f_X12_sell_b187, f_X12_sell_j235, f_X12_sell_j236, f_X12_sell_j253, pl_lit, pl_bl, pl_bd, pl_bd2, pl_bd3, pl_bd4, pl_bcT, pl_bcF, gd_t, pl_bcTrue, pl_bcFalse, pl_gdTrue, pl_in, pl_eq, pl_lt, pl_le, pl_ix, nI_add, pk_mul, pl_m1, xor1 hi, xor2 hi, e8, e9, f8, f9, c', d', orB, if_neg q, or_n0]
    · have c' : hisV A B P i < gI (A ∧ ¬ b0 i) (B ∧ b1 i) P := Int32.not_le.mp c
      have q : ¬ restP A B P i := fun z => c z.1
      simp (disch := omega) only [f_X12_sell_b187, f_X12_sell_j235, f_X12_sell_j236, f_X12_sell_j253, pl_lit, pl_bl, pl_bd, pl_bd2, pl_bd3, pl_bd4, pl_bcT, pl_bcF, gd_t, pl_bcTrue, pl_bcFalse, pl_gdTrue, pl_in, pl_eq, pl_lt, pl_le, pl_ix, nI_add, pk_mul, pl_m1, xor1 hi, xor2 hi, e8, f8, c', orB, if_neg q, or_n0]
  · show f_X12_sell_b187 n _ (nI 4) _ = _
    simp (disch := omega) only [f_X12_sell_b187, pl_lit, pl_bl, pl_bd, pl_bd2, pl_bd3, pl_bd4, pl_bcT, pl_bcF, gd_t, pl_bcTrue, pl_bcFalse, pl_gdTrue, pl_in, pl_eq, pl_lt, pl_le, pl_ix, nI_add, pk_mul, pl_m1]
end SELL
theorem sim_sell {n : Nat} (hn : 100 ≤ n) : SIM_sell n INV := by
  intro xo nv rv h0 h1 h2 h3 nt0 cv0 nt1 cv1 nt2 cv2 nt3 cv3 ps0 ps1 ps2 ps3 mo v1 v2 v3 hI
  have hI0 := hI
  obtain ⟨⟨a, ha, ht, hh, hc, hn', hp⟩, i2⟩ := hI
  have h6 := okL ha
  have p1 := X11_isMember (n := n) (xo := xo) (h := h0) (v := v1) (M := a 0) (by omega) hh.1
  have p2 := X12_isMember (n := n) (mo := mo) (v := v1) (M := a 0) (by omega) ht.1
  have q1 := X11_isMember (n := n) (xo := xo) (h := h0) (v := v2) (M := a 0) (by omega) hh.1
  have q2 := X12_isMember (n := n) (mo := mo) (v := v2) (M := a 0) (by omega) ht.1
  have s1 := X11_isLetter (n := n) (xo := xo) (h := h0) (v := v3) (M := a 1) (by omega) hh.2.1
  have s2 := X12_isLetter (n := n) (mo := mo) (v := v3) (M := a 1) (by omega) ht.2.1
  refine inR_cases (v := v1) (N := a 0) (fun x hx e => ?_) (fun c => ?_)
  · subst e
    rw [bI_in hx] at p1 p2
    refine inR_cases (v := v2) (N := a 0) (fun y hy e => ?_) (fun c => ?_)
    · subst e
      rw [bI_in hy] at q1 q2
      by_cases cxy : x = y
      · refine ⟨-2, badX xo, refM mo 0, ?_, ?_, hI0.bad⟩
        · simp (disch := omega) only [f_X11_sell_j29, f_X11_sell, p1, q1, pl_lit, pl_bl, pl_bd, pl_bd2, pl_bd3, pl_bd4, pl_bcT, pl_bcF, gd_t, pl_bcTrue, pl_bcFalse, pl_gdTrue, pl_in, pl_eq, pl_lt, pl_le, pl_ix, nI_add, pk_mul, pl_m1, X11_bad]
        · simp (disch := omega) only [f_X12_sell, f_X12_sell_j29, p2, q2, pl_lit, pl_bl, pl_bd, pl_bd2, pl_bd3, pl_bd4, pl_bcT, pl_bcF, gd_t, pl_bcTrue, pl_bcFalse, pl_gdTrue, pl_in, pl_eq, pl_lt, pl_le, pl_ix, nI_add, pk_mul, pl_m1, X12_bad]
      · refine inR_cases (v := v3) (N := a 1) (fun l hl e => ?_) (fun c => ?_)
        · subst e
          rw [bI_in hl] at s1 s2
          have f1 := X1_lies (n := n) ha hh hl
          have f2 := X12_lies (n := n) ha ht hl
          by_cases c : a (5 + l) = 6
          · rw [bI_T c] at f1 f2
            have g1 := X1_mayFrank (n := n) ha hh hl hx
            have g2 := X1_mayFrank (n := n) ha hh hl hy
            have k1 := X12_mayFrank (n := n) (z := 235) (by omega) ha ht hl hx
            have k2 := X12_mayFrank (n := n) (z := 235) (by omega) ha ht hl hy
            have m1' := ms_l52 (n := n) (mo := mo) (P := nI (postN a l)) hn k1 k2 (fun m' e => X12_postage ha (by rw [e]; exact ht) hl)
            have m1'' : f_X12_sell_l52 n n mo (nI x) (nI y) (nI l) (nI 0) = _ := m1'
            have m2' := ms_l187 (n := n) (A := mayN a l x) (B := mayN a l y) (P := nI (postN a l)) (mo := setA (setA mo 8 (pre (hisV (mayN a l x) (mayN a l y) (nI (postN a l))) (mo.2.1 8) 4)) 9 (pre (theV (mayN a l x) (mayN a l y) (nI (postN a l))) (mo.2.1 9) 4)) hn (fun k hk => by rw [sA_n (by omega), sA_s, pre_i hk]) (fun k hk => by rw [sA_s, pre_i hk])
            have m2'' : f_X12_sell_l187 n n _ (nI 0) (nI 0) = _ := m2'
            refine ⟨orB (restP (mayN a l x) (mayN a l y) (nI (postN a l))) 4, xo, setA (setA mo 8 (pre (hisV (mayN a l x) (mayN a l y) (nI (postN a l))) (mo.2.1 8) 4)) 9 (pre (theV (mayN a l x) (mayN a l y) (nI (postN a l))) (mo.2.1 9) 4), ?_, ?_, hI0⟩
            · simp (disch := omega) only [f_X11_sell_j29, f_X11_sell, p1, q1, s1, f1, pl_lit, pl_bl, pl_bd, pl_bd2, pl_bd3, pl_bd4, pl_bcT, pl_bcF, gd_t, pl_bcTrue, pl_bcFalse, pl_gdTrue, pl_in, pl_eq, pl_lt, pl_le, pl_ix, nI_add, pk_mul, pl_m1, g1, g2, X1_postage ha hh hl, X3_pairs hn, cxy]
            · simp (disch := omega) only [f_X12_sell, p2, q2, s2, f2, pl_lit, pl_bl, pl_bd, pl_bd2, pl_bd3, pl_bd4, pl_bcT, pl_bcF, gd_t, pl_bcTrue, pl_bcFalse, pl_gdTrue, pl_in, pl_eq, pl_lt, pl_le, pl_ix, nI_add, pk_mul, pl_m1, cxy, m1'', m2'']
          · rw [bI_F c] at f1 f2
            refine ⟨-3, noX xo, refM mo 1, ?_, ?_, hI0.no⟩
            · simp (disch := omega) only [f_X11_sell_j29, f_X11_sell, p1, q1, s1, f1, pl_lit, pl_bl, pl_bd, pl_bd2, pl_bd3, pl_bd4, pl_bcT, pl_bcF, gd_t, pl_bcTrue, pl_bcFalse, pl_gdTrue, pl_in, pl_eq, pl_lt, pl_le, pl_ix, nI_add, pk_mul, pl_m1, X11_no, cxy]
            · simp (disch := omega) only [f_X12_sell, f_X12_sell_j29, p2, q2, s2, f2, pl_lit, pl_bl, pl_bd, pl_bd2, pl_bd3, pl_bd4, pl_bcT, pl_bcF, gd_t, pl_bcTrue, pl_bcFalse, pl_gdTrue, pl_in, pl_eq, pl_lt, pl_le, pl_ix, nI_add, pk_mul, pl_m1, X12_no, cxy]
        · rw [bI_nin c] at s1 s2
          refine ⟨-2, badX xo, refM mo 0, ?_, ?_, hI0.bad⟩
          · simp (disch := omega) only [f_X11_sell_j29, f_X11_sell, p1, q1, s1, pl_lit, pl_bl, pl_bd, pl_bd2, pl_bd3, pl_bd4, pl_bcT, pl_bcF, gd_t, pl_bcTrue, pl_bcFalse, pl_gdTrue, pl_in, pl_eq, pl_lt, pl_le, pl_ix, nI_add, pk_mul, pl_m1, X11_bad, cxy]
          · simp (disch := omega) only [f_X12_sell, f_X12_sell_j29, p2, q2, s2, pl_lit, pl_bl, pl_bd, pl_bd2, pl_bd3, pl_bd4, pl_bcT, pl_bcF, gd_t, pl_bcTrue, pl_bcFalse, pl_gdTrue, pl_in, pl_eq, pl_lt, pl_le, pl_ix, nI_add, pk_mul, pl_m1, X12_bad, cxy]
    · rw [bI_nin c] at q1 q2
      refine ⟨-2, badX xo, refM mo 0, ?_, ?_, hI0.bad⟩
      · simp (disch := omega) only [f_X11_sell_j29, f_X11_sell, p1, q1, pl_lit, pl_bl, pl_bd, pl_bd2, pl_bd3, pl_bd4, pl_bcT, pl_bcF, gd_t, pl_bcTrue, pl_bcFalse, pl_gdTrue, pl_in, pl_eq, pl_lt, pl_le, pl_ix, nI_add, pk_mul, pl_m1, X11_bad]
      · simp (disch := omega) only [f_X12_sell, f_X12_sell_j29, p2, q2, pl_lit, pl_bl, pl_bd, pl_bd2, pl_bd3, pl_bd4, pl_bcT, pl_bcF, gd_t, pl_bcTrue, pl_bcFalse, pl_gdTrue, pl_in, pl_eq, pl_lt, pl_le, pl_ix, nI_add, pk_mul, pl_m1, X12_bad]
  · rw [bI_nin c] at p1 p2
    refine ⟨-2, badX xo, refM mo 0, ?_, ?_, hI0.bad⟩
    · simp (disch := omega) only [f_X11_sell_j29, f_X11_sell, p1, pl_lit, pl_bl, pl_bd, pl_bd2, pl_bd3, pl_bd4, pl_bcT, pl_bcF, gd_t, pl_bcTrue, pl_bcFalse, pl_gdTrue, pl_in, pl_eq, pl_lt, pl_le, pl_ix, nI_add, pk_mul, pl_m1, X11_bad]
    · simp (disch := omega) only [f_X12_sell, f_X12_sell_j29, p2, pl_lit, pl_bl, pl_bd, pl_bd2, pl_bd3, pl_bd4, pl_bcT, pl_bcF, gd_t, pl_bcTrue, pl_bcFalse, pl_gdTrue, pl_in, pl_eq, pl_lt, pl_le, pl_ix, nI_add, pk_mul, pl_m1, X12_bad]
