/-! forged: the class, and both -/
theorem bs_z {P : Nat → Prop} : (nI (bs P) = nI 0) = ∀ k, k < 6 → ¬ P k := by
  have hl : bs P < 64 := bs_lt
  rw [pl_eq (by omega) (by omega)]
  apply propext
  constructor
  · intro h k hk hP
    have : ((bs P).testBit k = true) := by rw [bs_t hk]; exact hP
    rw [h, Nat.zero_testBit] at this
    cases this
  · intro h
    exact (bs_ext (by omega) (fun k hk => by
      rw [Nat.zero_testBit]
      exact ⟨fun z => (by cases z), fun z => absurd z (h k hk)⟩)).symm
def owP (a : Nat → Nat) (m k : Nat) : Prop := k < a 2 ∧ a (47 + 3 * k) = m
def smP (a : Nat → Nat) (T : Nat → Prop) (i j : Nat) : Prop := T j ∧ j < a 2 ∧ a (47 + 3 * j) = a (47 + 3 * i) ∧ a (48 + 3 * j) = a (48 + 3 * i)
def ctP (a : Nat → Nat) (k : Nat) (T : Nat → Prop) (i : Nat) : Prop := T i → bcN (bs (smP a T i)) ≤ signsN k (a (48 + 3 * i)) ∧ ¬ plcN a (smP a T i) (reachN k) = 0
def cvP (a : Nat → Nat) (m i : Nat) : Prop := (∀ k, k < 6 → i.testBit k = true → owP a m k) ∧ allP (ctP a (a (24 + m)) (fun k => owP a m k ∧ ¬ i.testBit k = true)) (a 2)
noncomputable def cbN (V : Nat → Prop) (own : Nat) : Nat → Nat
  | 0 => own
  | i + 1 => @ite _ (V i ∧ bcN i < bcN (cbN V own i)) (Classical.propDecidable _) i (cbN V own i)
theorem cb_T {V : Nat → Prop} {own i : Nat} (c : V i ∧ bcN i < bcN (cbN V own i)) : cbN V own (i + 1) = i := if_pos c
theorem cb_F {V : Nat → Prop} {own i : Nat} (c : ¬ (V i ∧ bcN i < bcN (cbN V own i))) : cbN V own (i + 1) = cbN V own i := if_neg c
theorem sub_dec : ∀ s, s < 64 → ∀ t, t < 64 → s &&& t = s → s < t → bcN s < bcN t := by decide +kernel
theorem cb_spec {V : Nat → Prop} {own : Nat} (ho : own < 64) (hV : V own) (hs : ∀ j, j < 64 → V j → j &&& own = j) : ∀ n, n ≤ own → V (cbN V own n) ∧ (cbN V own n < n ∨ cbN V own n = own) ∧ bcN (cbN V own n) ≤ bcN own ∧ (∀ j, j < n → V j → bcN (cbN V own n) ≤ bcN j) ∧ (∀ j, j < n → j < cbN V own n → V j → bcN (cbN V own n) < bcN j)
  | 0, _ => ⟨hV, Or.inr rfl, Nat.le_refl _, fun j hj => absurd hj (Nat.not_lt_zero j), fun j hj => absurd hj (Nat.not_lt_zero j)⟩
  | n + 1, h => by
    obtain ⟨h1, h2, h3, h4, h5⟩ := cb_spec ho hV hs n (by omega)
    by_cases c : V n ∧ bcN n < bcN (cbN V own n)
    · rw [cb_T c]
      have c2 := c.2
      refine ⟨c.1, Or.inl (by omega), by omega, fun j hj hj2 => ?_, fun j _ hj hj2 => ?_⟩
      · by_cases e : j = n
        · rw [e]; exact Nat.le_refl _
        · have := h4 j (by omega) hj2
          omega
      · have := h4 j hj hj2
        omega
    · rw [cb_F c]
      refine ⟨h1, ?_, h3, fun j hj hj2 => ?_, fun j hj hj3 hj2 => ?_⟩
      · rcases h2 with z | z
        · exact Or.inl (by omega)
        · exact Or.inr z
      · by_cases e : j = n
        · subst e
          by_cases g : bcN j < bcN (cbN V own j)
          · exact absurd ⟨hj2, g⟩ c
          · omega
        · exact h4 j (by omega) hj2
      · by_cases e : j = n
        · subst e
          rcases h2 with z | z
          · omega
          · have k := sub_dec j (by omega) own ho (hs j (by omega) hj2) (by omega)
            rw [z] at c
            exact absurd ⟨hj2, k⟩ c
        · exact h5 j (by omega) hj3 hj2
theorem rb_cb {V : Nat → Prop} {own N : Nat} (ho : own < N) (hN : N ≤ 64) (hV : V own) (hs : ∀ j, j < 64 → V j → j &&& own = j) : rbN V N = some (cbN V own own) := by
  obtain ⟨h1, h2, h3, h4, h5⟩ := cb_spec (by omega) hV hs own (Nat.le_refl _)
  obtain ⟨r1, r2⟩ := rb_spec (V := V) N
  have le : cbN V own own ≤ own := by rcases h2 with z | z <;> omega
  cases hE : rbN V N with
  | none => exact absurd hV (r2 hE own ho)
  | some b =>
    obtain ⟨k1, k2, k3, k4⟩ := r1 b hE
    have b1 := hs b (by omega) k1
    have b2 : b ≤ own := by rw [← b1]; exact Nat.and_le_right
    have m1' : bcN (cbN V own own) ≤ bcN b := by
      by_cases e : b = own
      · rw [e]; exact h3
      · exact h4 b (by omega) k1
    have m2' := k3 (cbN V own own) (by omega) h1
    congr 1
    by_cases c1 : b < cbN V own own
    · have := h5 b (by omega) c1 k1
      omega
    · by_cases c2 : cbN V own own < b
      · have := k4 _ c2 h1
        omega
      · omega
section FRG2
variable {n : Nat} {h mo cv : MV} {t : Nat → Int32} {a : Nat → Nat} {m d s k : Nat} {T : Nat → Prop}
theorem X8_canStep (hn : 200 ≤ n) (ha : okA a) (hs : SO cv a (a 2) 47) (hk : k < 6) {i : Nat} (hi : i < a 2) (hT : T i) : f_X8_canBeTrue_b2 n cv k (nI i) (nI (bs T)) = @ite _ (ctP a k T i) (Classical.propDecidable _) (some (.inl (nI (i + 1)))) (some (.inr (.inr (nI 0)))) := by
  have h6 := okL ha
  have e : cv.1 0 = nI (a 2) := hs.1
  have rl := reachN_le k
  obtain ⟨e1, e2, e3⟩ := hs.2 i hi
  have e2 : cv.2.1 1 i = nI (a (48 + 3 * i)) := e2
  obtain ⟨o1, o2, o3⟩ := ha.2.2.2.2.2.2.2.2.1 i hi
  have oD := X8_onDay (n := n) (m := a (47 + 3 * i)) (d := a (48 + 3 * i)) (by omega) ha hs (by omega) (by omega)
  have ab : nI (bs T) &&& nI (bs (fun j => j < a 2 ∧ a (47 + 3 * j) = a (47 + 3 * i) ∧ a (48 + 3 * j) = a (48 + 3 * i))) = nI (bs (smP a T i)) := and_bs
  have bcc := J6_bitCount (n := n) (s := bs (smP a T i)) bs_lt
  have bl' := bcN_le (bs (smP a T i))
  have sg := K_signs (n := n) (k := k) (d := a (48 + 3 * i)) hk (by omega)
  have sl := signsN_le k (a (48 + 3 * i))
  have rr := K_reach (n := n) hk
  have pf := X8_placesFor (n := n) (P := smP a T i) (by omega) ha hs rl
  have hp := highN_le (v := valN a) (P := smP a T i) (r := reachN k) (a 2)
  have pl : plcN a (smP a T i) (reachN k) ≤ 100 := by unfold plcN; omega
  have v6 : vp_in (nI i) 6 := by rw [pl_in (by omega)]; omega
  have tT : ((nI (bs T) >>> (nI i &&& 31)) &&& 1) = 1 := by
    have := tbs (P := T) (k := i) (by omega)
    exact this.mpr hT
  have E : f_X8_canBeTrue_b2 n cv k (nI i) (nI (bs T)) = bc (nI (bcN (bs (smP a T i))) ≤ nI (signsN k (a (48 + 3 * i)))) (f_X8_canBeTrue_j62 n cv k (nI (bs (smP a T i))) (nI i) (nI (bs T)) 0) (f_X8_canBeTrue_j62 n cv k (nI (bs (smP a T i))) (nI i) (nI (bs T)) 1) := by
    unfold f_X8_canBeTrue_b2
    rw [e, bc_F (nI_ge hi (by omega)), bc_T tT, gd_t v6, gd_t v6, show ix (nI i) = i from pl_ix (by omega), e1, e2, oD]
    rw [pl_bd, ab, pl_bl, bcc, pl_bd, gd_t v6, sg, pl_bd]
  rw [E]
  by_cases c1 : bcN (bs (smP a T i)) ≤ signsN k (a (48 + 3 * i))
  · by_cases c2 : plcN a (smP a T i) (reachN k) = 0
    · rw [if_neg (show ¬ ctP a k T i from fun z => (z hT).2 c2)]
      simp (disch := omega) only [f_X8_canBeTrue_j62, f_X8_canBeTrue_j84, pl_lit, pl_bl, pl_bd, pl_bd2, pl_bd3, pl_bd4, pl_bcT, pl_bcF, gd_t, pl_bcTrue, pl_bcFalse, pl_gdTrue, pl_in, pl_eq, pl_lt, pl_le, pl_ix, nI_add, pk_mul, pl_m1, rr, pf, c1, c2]
    · rw [if_pos (show ctP a k T i from fun _ => ⟨c1, c2⟩)]
      simp (disch := omega) only [f_X8_canBeTrue_j62, f_X8_canBeTrue_j84, pl_lit, pl_bl, pl_bd, pl_bd2, pl_bd3, pl_bd4, pl_bcT, pl_bcF, gd_t, pl_bcTrue, pl_bcFalse, pl_gdTrue, pl_in, pl_eq, pl_lt, pl_le, pl_ix, nI_add, pk_mul, pl_m1, rr, pf, c1, c2]
  · rw [if_neg (show ¬ ctP a k T i from fun z => c1 (z hT).1)]
    simp (disch := omega) only [f_X8_canBeTrue_j62, f_X8_canBeTrue_j84, pl_lit, pl_bl, pl_bd, pl_bd2, pl_bd3, pl_bd4, pl_bcT, pl_bcF, gd_t, pl_bcTrue, pl_bcFalse, pl_gdTrue, pl_in, pl_eq, pl_lt, pl_le, pl_ix, nI_add, pk_mul, pl_m1, rr, pf, c1]
theorem X8_canBeTrue (hn : 200 ≤ n) (ha : okA a) (hs : SO cv a (a 2) 47) (hk : k < 6) : f_X8_canBeTrue n cv k (nI (bs T)) = some (bI (allP (ctP a k T) (a 2))) := by
  have h6 := okL ha
  have e : cv.1 0 = nI (a 2) := hs.1
  have rl := reachN_le k
  have this : f_X8_canBeTrue_l2 n n cv k (nI (bs T)) (nI 0) = some (@ite _ (∀ i, i < a 2 → ctP a k T i) (Classical.propDecidable _) (.inl ()) (.inr (nI 0))) := by
    refine lp_find (a 2) (ctP a k T) (Sum.inl () : Unit ⊕ Int32) (Sum.inr (nI 0)) (fun i hi c => ?_) (fun i hi c => ?_) ?_ (by omega)
    · by_cases hT : T i
      · rw [X8_canStep hn ha hs hk hi hT, if_pos c]
      · have i6 : i < 6 := by omega
        simp (disch := omega) only [f_X8_canBeTrue_b2, f_X8_canBeTrue_j62, f_X8_canBeTrue_j84, e, pl_lit, pl_bl, pl_bd, pl_bd2, pl_bd3, pl_bd4, pl_bcT, pl_bcF, gd_t, pl_bcTrue, pl_bcFalse, pl_gdTrue, pl_in, pl_eq, pl_lt, pl_le, pl_ix, nI_add, pk_mul, pl_m1, tbs, hT]
    · by_cases hT : T i
      · rw [X8_canStep hn ha hs hk hi hT, if_neg c]
      · exact absurd (fun z => absurd z hT) c
    · simp (disch := omega) only [f_X8_canBeTrue_b2, e, pl_lit, pl_bl, pl_bd, pl_bd2, pl_bd3, pl_bd4, pl_bcT, pl_bcF, gd_t, pl_bcTrue, pl_bcFalse, pl_gdTrue, pl_in, pl_eq, pl_lt, pl_le, pl_ix, nI_add, pk_mul, pl_m1]
  unfold f_X8_canBeTrue
  rw [show (0 : Int32) = nI 0 from rfl, this]
  by_cases c : allP (ctP a k T) (a 2)
  · rw [bI_T c, if_pos (show ∀ i, i < a 2 → ctP a k T i from c)]; rfl
  · rw [bI_F c, if_neg (show ¬ ∀ i, i < a 2 → ctP a k T i from c)]; rfl
theorem X8_fewestFalse (hn : 200 ≤ n) (ha : okA a) (hs : SO cv a (a 2) 47) (hm : m < a 0) : f_X8_fewestFalse n cv (a (24 + m)) (nI m) = some (nI (cbN (cvP a m) (bs (owP a m)) (bs (owP a m)))) := by
  have h6 := okL ha
  have oK := (okM ha hm).1
  have ow : f_X8_ownedBy n cv (nI m) = some (nI (bs (owP a m))) := X8_ownedBy (by omega) ha hs (by omega)
  have ol : bs (owP a m) < 64 := bs_lt
  have cl : ∀ i, i ≤ bs (owP a m) → cbN (cvP a m) (bs (owP a m)) i < 64 := by
    intro i
    induction i with
    | zero => intro _; exact ol
    | succ j ih =>
      intro hj
      have := ih (by omega)
      by_cases c : cvP a m j ∧ bcN j < bcN (cbN (cvP a m) (bs (owP a m)) j)
      · rw [cb_T c]; omega
      · rw [cb_F c]; exact this
  have this : f_X8_fewestFalse_l12 n n cv (a (24 + m)) (nI (bs (owP a m))) (nI 0) (nI (bs (owP a m))) = some (nI (cbN (cvP a m) (bs (owP a m)) (bs (owP a m)))) := by
    refine lp_cnt (bs (owP a m)) (fun i => nI (cbN (cvP a m) (bs (owP a m)) i)) _ (fun i hi => ?_) ?_ (by omega)
    · have i64 : i < 64 := by omega
      have ci := cl i (by omega)
      have b1 := J6_bitCount (n := n) i64
      have b2 := J6_bitCount (n := n) ci
      have l1 := bcN_le i
      have l2 := bcN_le (cbN (cvP a m) (bs (owP a m)) i)
      have d1 : nI i &&& (nI (bs (owP a m)) ^^^ m1) = nI (bs (fun k => i.testBit k = true ∧ ¬ owP a m k)) := dif_bs (self_bs i64) rfl
      have d2 : nI (bs (owP a m)) &&& (nI i ^^^ m1) = nI (bs (fun k => owP a m k ∧ ¬ i.testBit k = true)) := dif_bs rfl (self_bs i64)
      have g := X8_canBeTrue (n := n) (T := fun k => owP a m k ∧ ¬ i.testBit k = true) hn ha hs oK
      show f_X8_fewestFalse_b12 n cv (a (24 + m)) (nI i) (nI (cbN (cvP a m) (bs (owP a m)) i)) (nI (bs (owP a m))) = _
      by_cases c0 : ∀ k, k < 6 → ¬ (i.testBit k = true ∧ ¬ owP a m k)
      · have c0' : (nI (bs (fun k => i.testBit k = true ∧ ¬ owP a m k)) = nI 0) = True := by rw [bs_z]; exact eq_true c0
        by_cases c1 : bcN i < bcN (cbN (cvP a m) (bs (owP a m)) i)
        · by_cases c2 : allP (ctP a (a (24 + m)) (fun k => owP a m k ∧ ¬ i.testBit k = true)) (a 2)
          · have q : cvP a m i := ⟨fun k hk z => Classical.byContradiction (fun w => c0 k hk ⟨z, w⟩), c2⟩
            simp (disch := omega) only [f_X8_fewestFalse_b12, f_X8_fewestFalse_j44, f_X8_fewestFalse_j45, f_X8_fewestFalse_j70, pl_lit, pl_bl, pl_bd, pl_bd2, pl_bd3, pl_bd4, pl_bcT, pl_bcF, gd_t, pl_bcTrue, pl_bcFalse, pl_gdTrue, pl_in, pl_eq, pl_lt, pl_le, pl_ix, nI_add, pk_mul, pl_m1, d1, d2, c0', b1, b2, g, bI_T c2, cb_T ⟨q, c1⟩]
          · have q : ¬ (cvP a m i ∧ bcN i < bcN (cbN (cvP a m) (bs (owP a m)) i)) := fun z => c2 z.1.2
            simp (disch := omega) only [f_X8_fewestFalse_b12, f_X8_fewestFalse_j44, f_X8_fewestFalse_j45, f_X8_fewestFalse_j70, pl_lit, pl_bl, pl_bd, pl_bd2, pl_bd3, pl_bd4, pl_bcT, pl_bcF, gd_t, pl_bcTrue, pl_bcFalse, pl_gdTrue, pl_in, pl_eq, pl_lt, pl_le, pl_ix, nI_add, pk_mul, pl_m1, d1, d2, c0', b1, b2, g, bI_F c2, cb_F q]
        · have q : ¬ (cvP a m i ∧ bcN i < bcN (cbN (cvP a m) (bs (owP a m)) i)) := fun z => c1 z.2
          simp (disch := omega) only [f_X8_fewestFalse_b12, f_X8_fewestFalse_j44, f_X8_fewestFalse_j45, f_X8_fewestFalse_j70, pl_lit, pl_bl, pl_bd, pl_bd2, pl_bd3, pl_bd4, pl_bcT, pl_bcF, gd_t, pl_bcTrue, pl_bcFalse, pl_gdTrue, pl_in, pl_eq, pl_lt, pl_le, pl_ix, nI_add, pk_mul, pl_m1, d1, d2, c0', b1, b2, cb_F q]
      · have c0' : (nI (bs (fun k => i.testBit k = true ∧ ¬ owP a m k)) = nI 0) = False := by rw [bs_z]; exact eq_false c0
        have q : ¬ (cvP a m i ∧ bcN i < bcN (cbN (cvP a m) (bs (owP a m)) i)) := fun z => c0 (fun k hk w => w.2 (z.1.1 k hk w.1))
        simp (disch := omega) only [f_X8_fewestFalse_b12, f_X8_fewestFalse_j44, f_X8_fewestFalse_j45, f_X8_fewestFalse_j70, pl_lit, pl_bl, pl_bd, pl_bd2, pl_bd3, pl_bd4, pl_bcT, pl_bcF, gd_t, pl_bcTrue, pl_bcFalse, pl_gdTrue, pl_in, pl_eq, pl_lt, pl_le, pl_ix, nI_add, pk_mul, pl_m1, d1, d2, c0', cb_F q]
    · simp (disch := omega) only [f_X8_fewestFalse_b12, pl_lit, pl_bl, pl_bd, pl_bd2, pl_bd3, pl_bd4, pl_bcT, pl_bcF, gd_t, pl_bcTrue, pl_bcFalse, pl_gdTrue, pl_in, pl_eq, pl_lt, pl_le, pl_ix, nI_add, pk_mul, pl_m1]
  unfold f_X8_fewestFalse
  rw [ow]
  simp only [pl_lit, this, pl_bd]
/-- both ask the same -/
theorem own_lt (ha : okA a) : bs (owP a m) < 2 ^ a 2 := by
  refine Nat.lt_pow_two_of_testBit _ (fun i hi => ?_)
  rw [← Bool.not_eq_true]
  intro z
  exact absurd ((setN_t 6).mp z).2.1 (by omega)
theorem sm_cov (ha : okA a) {i0 i j : Nat} (hi0 : a (47 + 3 * i0) = m) (hj : j < a 2) : smP a (fun k => owP a m k ∧ ¬ i.testBit k = true) i0 j ↔ covP a m (a (48 + 3 * i0)) i j := by
  constructor
  · rintro ⟨⟨z1, z2⟩, z3, z4, z5⟩
    exact ⟨z1.2, z5, by rw [← Bool.not_eq_true]; exact z2⟩
  · rintro ⟨z1, z2, z3⟩
    exact ⟨⟨⟨hj, z1⟩, by rw [z3]; decide⟩, hj, z1.trans hi0.symm, z2⟩
theorem val_cv (ha : okA a) {i : Nat} (hi : i < 2 ^ a 2) : valP a m i ↔ cvP a m i := by
  have h6 := okL ha
  constructor
  · intro h
    refine ⟨fun k hk z => ?_, fun i0 hi0 hT => ?_⟩
    · have k2 : k < a 2 := by
        by_cases c : k < a 2
        · exact c
        · have : 2 ^ a 2 ≤ 2 ^ k := Nat.pow_le_pow_right (by omega) (by omega)
          rw [Nat.testBit_lt_two_pow (by omega)] at z
          cases z
      rcases h k k2 with w | w
      · exact ⟨k2, w.1⟩
      · rw [w.2] at z; cases z
    · obtain ⟨⟨_, t1⟩, t2⟩ := hT
      rcases h i0 hi0 with w | w
      · obtain ⟨_, ⟨p, hp, hf⟩, hc⟩ := w
        refine ⟨?_, ?_⟩
        · rw [bcN_bs (A := a 2) (Q := covP a m (a (48 + 3 * i0)) i) (by omega) (fun k hk z => absurd z.2.1 (by omega)) (fun k hk => sm_cov ha t1 hk)]
          exact hc
        · rw [plc_congr (Q := covP a m (a (48 + 3 * i0)) i) (fun k hk => sm_cov ha t1 hk)]
          have := (fit_iff (show p ≤ 99 by omega) (a 2)).mp hf
          unfold plcN
          omega
      · exact absurd t1 w.1
  · rintro ⟨h1, h2⟩ k hk
    by_cases c : a (47 + 3 * k) = m
    · refine Or.inl ⟨c, ?_⟩
      by_cases ex : ∃ j, j < a 2 ∧ covP a m (a (48 + 3 * k)) i j
      · obtain ⟨j, hj, z1, z2, z3⟩ := ex
        obtain ⟨w1, w2⟩ := h2 j hj ⟨⟨hj, z1⟩, by rw [z3]; decide⟩
        rw [bcN_bs (A := a 2) (Q := covP a m (a (48 + 3 * j)) i) (by omega) (fun k hk z => absurd z.2.1 (by omega)) (fun k hk => sm_cov ha z1 hk), z2] at w1
        rw [plc_congr (Q := covP a m (a (48 + 3 * j)) i) (fun k hk => sm_cov ha z1 hk), z2] at w2
        have ll := lowN_le (v := valN a) (P := covP a m (a (48 + 3 * k)) i) (r := reachN (a (24 + m))) (a 2) (okV ha)
        unfold plcN at w2
        exact ⟨⟨lowN (valN a) (covP a m (a (48 + 3 * k)) i) (reachN (a (24 + m))) (a 2), by omega, (fit_iff (by omega) (a 2)).mpr ⟨Nat.le_refl _, by omega⟩⟩, w1⟩
      · refine ⟨⟨0, by omega, fun j hj z => absurd ⟨j, hj, z⟩ ex⟩, ?_⟩
        rw [num_0 (a 2) (fun j hj z => ex ⟨j, hj, z⟩)]
        exact Nat.zero_le _
    · refine Or.inr ⟨c, ?_⟩
      rw [← Bool.not_eq_true]
      intro z
      exact c (h1 k (by omega) z).2
theorem own_cv (ha : okA a) : cvP a m (bs (owP a m)) := by
  have h6 := okL ha
  refine ⟨fun k hk z => ?_, fun i hi z => ?_⟩
  · rw [bs_t hk] at z; exact z
  · obtain ⟨z1, z2⟩ := z
    exact absurd ((setN_t 6).mpr ⟨by omega, z1⟩) z2
theorem cv_sub {j : Nat} (hj : j < 64) (h : cvP a m j) : j &&& bs (owP a m) = j := by
  apply Nat.eq_of_testBit_eq
  intro k
  rw [Nat.testBit_and]
  by_cases hk : k < 6
  · by_cases c : j.testBit k = true
    · have := h.1 k hk c
      rw [c, show (bs (owP a m)).testBit k = true by rw [bs_t hk]; exact this]
      rfl
    · have : j.testBit k = false := by rw [← Bool.not_eq_true]; exact c
      rw [this]
      rfl
  · have : 2 ^ 6 ≤ 2 ^ k := Nat.pow_le_pow_right (by omega) (by omega)
    rw [Nat.testBit_lt_two_pow (show j < 2 ^ k by omega)]
    rfl
theorem rb_congr {V V' : Nat → Prop} : ∀ n, (∀ i, i < n → (V i ↔ V' i)) → rbN V n = rbN V' n
  | 0, _ => rfl
  | n + 1, h => by
    have ih := rb_congr n (fun i hi => h i (by omega))
    have h1 := h n (by omega)
    by_cases c : V n ∧ ∀ b, rbN V n = some b → bcN n < bcN b
    · rw [rb_T c, rb_T ⟨h1.mp c.1, by rw [← ih]; exact c.2⟩]
    · rw [rb_F c, rb_F (fun z => c ⟨h1.mpr z.1, by rw [ih]; exact z.2⟩), ih]
end FRG2
theorem sim_forged {n : Nat} (hn : 200 ≤ n) : SIM_forged n INV := by
  intro xo nv rv h0 h1 h2 h3 nt0 cv0 nt1 cv1 nt2 cv2 nt3 cv3 ps0 ps1 ps2 ps3 mo v1 hI
  have hI0 := hI
  obtain ⟨⟨a, ha, ht, hh, hc, hn', hp⟩, i2⟩ := hI
  have h6 := okL ha
  have p1 := X11_isMember (n := n) (xo := xo) (h := h0) (v := v1) (M := a 0) (by omega) hh.1
  have p2 := X12_isMember (n := n) (mo := mo) (v := v1) (M := a 0) (by omega) ht.1
  refine inR_cases (v := v1) (N := a 0) (fun m hm e => ?_) (fun c => ?_)
  · subst e
    rw [bI_in hm] at p1 p2
    have kA := X1_kindAt (n := n) ha hh hm
    have fF := X8_fewestFalse (n := n) hn ha hc hm
    have fL := X12_forgedL (n := n) hn ha ht hm
    have pl := p_le (a 2) (by omega)
    have ol := own_lt (m := m) ha
    rw [rb_congr (V' := cvP a m) _ (fun i hi => val_cv ha hi), rb_cb (V := cvP a m) (own := bs (owP a m)) ol pl (own_cv ha) (fun j hj z => cv_sub hj z)] at fL
    refine ⟨nI (cbN (cvP a m) (bs (owP a m)) (bs (owP a m))), xo, mo, ?_, ?_, hI0⟩
    · simp (disch := omega) only [f_X11_forged, p1, kA, fF, pl_lit, pl_bl, pl_bd, pl_bd2, pl_bd3, pl_bd4, pl_bcT, pl_bcF, gd_t, pl_bcTrue, pl_bcFalse, pl_gdTrue, pl_in, pl_eq, pl_lt, pl_le, pl_ix, nI_add, pk_mul, pl_m1]
    · simp (disch := omega) only [f_X12_forged, p2, fL, pl_lit, pl_bl, pl_bd, pl_bd2, pl_bd3, pl_bd4, pl_bcT, pl_bcF, gd_t, pl_bcTrue, pl_bcFalse, pl_gdTrue, pl_in, pl_eq, pl_lt, pl_le, pl_ix, nI_add, pk_mul, pl_m1, oI]
  · rw [bI_nin c] at p1 p2
    refine ⟨-2, badX xo, refM mo 0, ?_, ?_, hI0.bad⟩
    · simp (disch := omega) only [f_X11_forged, p1, pl_lit, pl_bl, pl_bd, pl_bd2, pl_bd3, pl_bd4, pl_bcT, pl_bcF, gd_t, pl_bcTrue, pl_bcFalse, pl_gdTrue, pl_in, pl_eq, pl_lt, pl_le, pl_ix, nI_add, pk_mul, pl_m1, X11_bad]
    · simp (disch := omega) only [f_X12_forged, p2, pl_lit, pl_bl, pl_bd, pl_bd2, pl_bd3, pl_bd4, pl_bcT, pl_bcF, gd_t, pl_bcTrue, pl_bcFalse, pl_gdTrue, pl_in, pl_eq, pl_lt, pl_le, pl_ix, nI_add, pk_mul, pl_m1, X12_bad]
