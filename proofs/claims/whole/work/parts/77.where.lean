/-! sets of slips as bits; where, look -/
theorem tb_dec : ∀ s, s < 64 → ∀ k, k < 6 → decide ((nI s >>> (nI k &&& nI 31)) &&& nI 1 = nI 1) = s.testBit k := by decide +kernel
theorem tb {s k : Nat} (hs : s < 64) (hk : k < 6) : ((nI s >>> (nI k &&& nI 31)) &&& nI 1 = nI 1) = (s.testBit k = true) := by
  rw [← tb_dec s hs k hk, decide_eq_true_eq]
theorem or_dec : ∀ s, s < 64 → ∀ k, k < 6 → nI s ||| (nI 1 <<< (nI k &&& nI 31)) = nI (s ||| 2 ^ k) := by decide +kernel
theorem clr_dec : ∀ s, s < 64 → ∀ k, k < 6 → nI s &&& ((nI 1 <<< (nI k &&& nI 31)) ^^^ m1) = nI (s &&& (63 ^^^ 2 ^ k)) := by decide +kernel
theorem dif_dec : ∀ s, s < 64 → ∀ k, k < 64 → nI s &&& (nI k ^^^ m1) = nI (s &&& (63 ^^^ k)) := by decide +kernel
theorem and_dec : ∀ s, s < 64 → ∀ k, k < 64 → nI s &&& nI k = nI (s &&& k) := by decide +kernel
theorem t63_dec : ∀ k, k < 6 → (63).testBit k = true := by decide +kernel
noncomputable def setN (P : Nat → Prop) : Nat → Nat
  | 0 => 0
  | k + 1 => @ite _ (P k) (Classical.propDecidable _) (setN P k ||| 2 ^ k) (setN P k)
theorem setN_lt {P : Nat → Prop} : ∀ n, setN P n < 2 ^ n
  | 0 => by simp [setN]
  | k + 1 => by
    have h := setN_lt (P := P) k
    have h2 : 2 ^ k < 2 ^ (k + 1) := Nat.pow_lt_pow_right (by omega) (by omega)
    unfold setN
    by_cases c : P k
    · rw [if_pos c]; exact Nat.or_lt_two_pow (by omega) h2
    · rw [if_neg c]; omega
theorem setN_t {P : Nat → Prop} {k : Nat} : ∀ n, (setN P n).testBit k = true ↔ k < n ∧ P k
  | 0 => by simp [setN]
  | n + 1 => by
    have h := setN_t (P := P) (k := k) n
    unfold setN
    by_cases c : P n
    · rw [if_pos c, Nat.testBit_or, Bool.or_eq_true, h, Nat.testBit_two_pow, decide_eq_true_eq]
      constructor
      · rintro (z | z)
        · exact ⟨by omega, z.2⟩
        · subst z; exact ⟨by omega, c⟩
      · rintro ⟨z1, z2⟩
        by_cases d : k < n
        · exact Or.inl ⟨d, z2⟩
        · exact Or.inr (by omega)
    · rw [if_neg c, h]
      constructor
      · rintro ⟨z1, z2⟩; exact ⟨by omega, z2⟩
      · rintro ⟨z1, z2⟩
        refine ⟨?_, z2⟩
        by_cases d : k = n
        · subst d; exact absurd z2 c
        · omega
noncomputable def bs (P : Nat → Prop) : Nat := setN P 6
theorem bs_lt {P : Nat → Prop} : bs P < 64 := setN_lt 6
theorem bs_t {P : Nat → Prop} {k : Nat} (hk : k < 6) : ((bs P).testBit k = true) = P k := propext ((setN_t 6).trans ⟨fun z => z.2, fun z => ⟨hk, z⟩⟩)
theorem bs_ext {P : Nat → Prop} {s : Nat} (hs : s < 64) (h : ∀ k, k < 6 → (s.testBit k = true ↔ P k)) : s = bs P := by
  apply Nat.eq_of_testBit_eq
  intro k
  by_cases hk : k < 6
  · have h1 := h k hk
    have h2 : ((bs P).testBit k = true) ↔ P k := by rw [bs_t hk]
    rw [Bool.eq_iff_iff, h1, h2]
  · have e : 2 ^ 6 ≤ 2 ^ k := Nat.pow_le_pow_right (by omega) (by omega)
    have l : bs P < 64 := bs_lt
    rw [Nat.testBit_lt_two_pow (show s < 2 ^ k by omega), Nat.testBit_lt_two_pow (show bs P < 2 ^ k by omega)]
theorem bs_congr {P Q : Nat → Prop} (h : ∀ k, k < 6 → (P k ↔ Q k)) : bs P = bs Q := bs_ext bs_lt (fun k hk => by rw [bs_t hk]; exact h k hk)
theorem and_lt {s k : Nat} (hs : s < 64) : s &&& k < 64 := Nat.lt_of_le_of_lt Nat.and_le_left hs
theorem p_lt : ∀ i, i < 6 → 2 ^ i < 64 := by decide +kernel
theorem or_bs {P : Nat → Prop} {i : Nat} (hi : i < 6) : nI (bs P) ||| (nI 1 <<< (nI i &&& nI 31)) = nI (bs (fun k => P k ∨ k = i)) := by
  rw [or_dec _ bs_lt i hi]
  refine congrArg nI (bs_ext (Nat.or_lt_two_pow (n := 6) bs_lt (p_lt i hi)) (fun k hk => ?_))
  rw [Nat.testBit_or, Bool.or_eq_true, bs_t hk, Nat.testBit_two_pow, decide_eq_true_eq]
  constructor
  · rintro (z | z)
    · exact Or.inl z
    · exact Or.inr z.symm
  · rintro (z | z)
    · exact Or.inl z
    · exact Or.inr z.symm
theorem clr_bs {P : Nat → Prop} {i : Nat} (hi : i < 6) : nI (bs P) &&& ((nI 1 <<< (nI i &&& nI 31)) ^^^ m1) = nI (bs (fun k => P k ∧ k ≠ i)) := by
  rw [clr_dec _ bs_lt i hi]
  refine congrArg nI (bs_ext (and_lt bs_lt) (fun k hk => ?_))
  rw [Nat.testBit_and, Bool.and_eq_true, bs_t hk, Nat.testBit_xor, t63_dec k hk, Nat.testBit_two_pow]
  simp only [Bool.true_xor, Bool.not_eq_true', decide_eq_false_iff_not]
  exact ⟨fun z => ⟨z.1, fun w => z.2 w.symm⟩, fun z => ⟨z.1, fun w => z.2 w.symm⟩⟩
theorem dif_bs {P Q : Nat → Prop} {s t : Nat} (hs : s = bs P) (ht : t = bs Q) : nI s &&& (nI t ^^^ m1) = nI (bs (fun k => P k ∧ ¬ Q k)) := by
  subst hs; subst ht
  rw [dif_dec _ bs_lt _ bs_lt]
  refine congrArg nI (bs_ext (and_lt bs_lt) (fun k hk => ?_))
  rw [Nat.testBit_and, Bool.and_eq_true, bs_t hk, Nat.testBit_xor, t63_dec k hk]
  simp only [Bool.true_xor, Bool.not_eq_true']
  rw [← Bool.not_eq_true, bs_t hk]
theorem and_bs {P Q : Nat → Prop} : nI (bs P) &&& nI (bs Q) = nI (bs (fun k => P k ∧ Q k)) := by
  rw [and_dec _ bs_lt _ bs_lt]
  refine congrArg nI (bs_ext (and_lt bs_lt) (fun k hk => ?_))
  rw [Nat.testBit_and, Bool.and_eq_true, bs_t hk, bs_t hk]
theorem self_bs {s : Nat} (hs : s < 64) : s = bs (fun k => s.testBit k = true) := bs_ext hs (fun _ _ => Iff.rfl)
theorem tbs {P : Nat → Prop} {k : Nat} (hk : k < 6) : ((nI (bs P) >>> (nI k &&& nI 31)) &&& nI 1 = nI 1) = P k := by rw [tb bs_lt hk, bs_t hk]
theorem own_1 {Q : Nat → Prop} {i : Nat} (hi : i < 6) (c : Q i) : nI (bs (fun k => k < i ∧ Q k)) ||| (nI 1 <<< (nI i &&& nI 31)) = nI (bs (fun k => k < i + 1 ∧ Q k)) := by
  rw [or_bs hi]
  refine congrArg nI (bs_congr (fun k _ => ⟨?_, ?_⟩))
  · rintro (z | z)
    · exact ⟨by omega, z.2⟩
    · subst z; exact ⟨by omega, c⟩
  · rintro ⟨z1, z2⟩
    by_cases d : k = i
    · exact Or.inr d
    · exact Or.inl ⟨by omega, z2⟩
theorem own_0 {Q : Nat → Prop} {i : Nat} (c : ¬ Q i) : nI (bs (fun k => k < i ∧ Q k)) = nI (bs (fun k => k < i + 1 ∧ Q k)) := by
  refine congrArg nI (bs_congr (fun k _ => ⟨fun z => ⟨by omega, z.2⟩, fun z => ⟨?_, z.2⟩⟩))
  by_cases d : k = i
  · subst d; exact absurd z.2 c
  · omega
/-- the greater, the less, the span -/
theorem maxI {x v r : Nat} (hx : x ≤ 1000) (hv : v ≤ 1000) (hr : r ≤ 1000) {dd : Decidable (nI x < nI v - nI r)} : (@ite _ (nI x < nI v - nI r) dd (nI v - nI r) (nI x)) = nI (max x (v - r)) := by
  by_cases c : r ≤ v
  · have e := pk_sub c
    by_cases d : x < v - r
    · rw [if_pos (by rw [e]; exact nI_lt d (by omega)), e, show max x (v - r) = v - r by omega]
    · rw [if_neg (by rw [e]; exact nI_nlt (by omega) (by omega)), show max x (v - r) = x by omega]
  · have h := pk_sneg (a := v) (b := r) (by omega) (by omega)
    rw [if_neg, show max x (v - r) = x by omega]
    intro z
    have h2 := nI_pos' (n := x) (by omega)
    rw [Int32.lt_iff_toInt_lt] at z h
    rw [Int32.le_iff_toInt_le] at h2
    omega
theorem minI {x y : Nat} (hx : x ≤ 1000) (hy : y ≤ 1000) {dd : Decidable (y < x)} : (@ite _ (y < x) dd (nI y) (nI x)) = nI (min x y) := by
  by_cases d : y < x
  · rw [if_pos d, show min x y = y by omega]
  · rw [if_neg d, show min x y = x by omega]
theorem spanI {x y : Nat} (hx : x ≤ 1000) (hy : y ≤ 1000) {dd : Decidable (nI 0 < nI x - nI y + nI 1)} : (@ite _ (nI 0 < nI x - nI y + nI 1) dd (nI x - nI y + nI 1) (nI 0)) = nI (x + 1 - y) := by
  by_cases c : y ≤ x
  · have e : nI x - nI y + nI 1 = nI (x + 1 - y) := by
      rw [pk_sub c, nI_add]
      congr 1
      omega
    rw [if_pos (by rw [e]; exact nI_lt (by omega) (by omega)), e]
  · rw [if_neg, show x + 1 - y = 0 by omega]
    intro z
    have e : nI x - nI y + nI 1 = nI (x + 1) - nI y := by
      apply Int32.toInt_inj.mp
      rw [← nI_add]
      congr 1
      rw [Int32.sub_eq_add_neg, Int32.sub_eq_add_neg, Int32.add_assoc, Int32.add_assoc, Int32.add_comm (nI 1)]
    rw [e, Int32.lt_iff_toInt_lt, pk_sub_toInt (by omega) (by omega), nI_toInt (by omega)] at z
    omega
theorem span_c {x y : Nat} (hx : x ≤ 1000) (hy : y ≤ 1000) : (nI 0 < nI x - nI y + nI 1) = (y ≤ x) := by
  apply propext
  have h := spanI hx hy (dd := Classical.propDecidable _)
  by_cases c : nI 0 < nI x - nI y + nI 1
  · rw [if_pos c] at h
    refine ⟨fun _ => ?_, fun _ => c⟩
    rw [h, nI_ltI (by omega) (by omega)] at c
    omega
  · rw [if_neg c, nI_eq (by omega) (by omega)] at h
    exact ⟨fun z => absurd z c, fun z => absurd h (by omega)⟩
theorem span2 {x y : Nat} (hx : x ≤ 1000) (hy : y ≤ 1000) {dd : Decidable (y ≤ x)} : (@ite _ (y ≤ x) dd (nI x - nI y + nI 1) (nI 0)) = nI (x + 1 - y) := by
  have h := spanI hx hy (dd := Classical.propDecidable _)
  rw [span_c hx hy] at h
  by_cases c : y ≤ x
  · rw [if_pos c] at h ⊢; exact h
  · rw [if_neg c] at h ⊢; exact h
/-- the places -/
noncomputable def lowN (v : Nat → Nat) (P : Nat → Prop) (r : Nat) : Nat → Nat
  | 0 => 0
  | i + 1 => @ite _ (P i) (Classical.propDecidable _) (max (lowN v P r i) (v i - r)) (lowN v P r i)
noncomputable def highN (v : Nat → Nat) (P : Nat → Prop) (r : Nat) : Nat → Nat
  | 0 => 99
  | i + 1 => @ite _ (P i) (Classical.propDecidable _) (min (highN v P r i) (v i + r)) (highN v P r i)
theorem lowN_le {v : Nat → Nat} {P : Nat → Prop} {r : Nat} : ∀ n, (∀ i, i < n → v i ≤ 99) → lowN v P r n ≤ 99
  | 0, _ => by simp [lowN]
  | n + 1, h => by
    have h1 := lowN_le (P := P) (r := r) n (fun i hi => h i (by omega))
    have h2 := h n (by omega)
    unfold lowN
    by_cases c : P n
    · rw [if_pos c]; omega
    · rw [if_neg c]; exact h1
theorem highN_le {v : Nat → Nat} {P : Nat → Prop} {r : Nat} : ∀ n, highN v P r n ≤ 99
  | 0 => by simp [highN]
  | n + 1 => by
    have h1 := highN_le (v := v) (P := P) (r := r) n
    unfold highN
    by_cases c : P n
    · rw [if_pos c]; omega
    · rw [if_neg c]; exact h1
def fitP (v : Nat → Nat) (P : Nat → Prop) (r p : Nat) (i : Nat) : Prop := P i → absd (v i) p ≤ r
theorem absd_iff {x p r : Nat} : absd x p ≤ r ↔ x - r ≤ p ∧ p ≤ x + r := by unfold absd; split <;> omega
theorem fit_iff {v : Nat → Nat} {P : Nat → Prop} {r p : Nat} (hp : p ≤ 99) : ∀ n, allP (fitP v P r p) n ↔ lowN v P r n ≤ p ∧ p ≤ highN v P r n
  | 0 => ⟨fun _ => ⟨Nat.zero_le _, hp⟩, fun _ => allP_0⟩
  | n + 1 => by
    have h := fit_iff (v := v) (P := P) (r := r) hp n
    rw [allP_s, h]
    by_cases c : P n
    · rw [show lowN v P r (n + 1) = max (lowN v P r n) (v n - r) from if_pos c, show highN v P r (n + 1) = min (highN v P r n) (v n + r) from if_pos c]
      constructor
      · rintro ⟨z1, z2⟩
        have := absd_iff.mp (z2 c)
        omega
      · rintro z
        exact ⟨by omega, fun _ => absd_iff.mpr (by omega)⟩
    · rw [show lowN v P r (n + 1) = lowN v P r n from if_neg c, show highN v P r (n + 1) = highN v P r n from if_neg c]
      exact ⟨fun z => z.1, fun z => ⟨z, fun w => absurd w c⟩⟩
noncomputable def numN (P : Nat → Prop) : Nat → Nat
  | 0 => 0
  | i + 1 => numN P i + @ite _ (P i) (Classical.propDecidable _) 1 0
theorem numN_le {P : Nat → Prop} : ∀ n, numN P n ≤ n
  | 0 => Nat.le_refl _
  | n + 1 => by
    have := numN_le (P := P) n
    unfold numN
    split <;> omega
theorem cnt_iv {P : Nat → Prop} {lo hi : Nat} : ∀ n, (∀ p, p < n → (P p ↔ lo ≤ p ∧ p ≤ hi)) → numN P n = min n (hi + 1) - lo
  | 0, _ => by simp [numN]
  | n + 1, h => by
    have h1 := cnt_iv n (fun p hp => h p (by omega))
    have h2 := h n (by omega)
    unfold numN
    by_cases c : P n
    · rw [if_pos c, h1]
      have := h2.mp c
      omega
    · rw [if_neg c, h1]
      have : ¬ (lo ≤ n ∧ n ≤ hi) := fun z => c (h2.mpr z)
      omega
/-- covers of a member on a day that are not false -/
def covP (a : Nat → Nat) (m d s k : Nat) : Prop := a (47 + 3 * k) = m ∧ a (48 + 3 * k) = d ∧ s.testBit k = false
def valN (a : Nat → Nat) (k : Nat) : Nat := a (49 + 3 * k)
section WHR
variable {n : Nat} {h mo cv : MV} {t : Nat → Int32} {a : Nat → Nat} {m d p s r : Nat} {P : Nat → Prop}
theorem okV (ha : okA a) : ∀ i, i < a 2 → valN a i ≤ 99 := fun i hi => (ha.2.2.2.2.2.2.2.2.1 i hi).2.2
theorem X8_ownedBy (hn : 100 ≤ n) (ha : okA a) (hs : SO cv a (a 2) 47) (hm : m < 2147483648) : f_X8_ownedBy n cv (nI m) = some (nI (bs (fun k => k < a 2 ∧ a (47 + 3 * k) = m))) := by
  have h6 := okL ha
  have e : cv.1 0 = nI (a 2) := hs.1
  have : f_X8_ownedBy_l4 n n cv (nI m) (nI 0) (nI 0) = some (nI (bs (fun k => k < a 2 ∧ a (47 + 3 * k) = m))) := by
    refine lp_cnt' (a 2) (fun i => nI (bs (fun k => k < i ∧ a (47 + 3 * k) = m))) _ _ ?_ (fun i hi => ?_) ?_ (by omega)
    · refine congrArg nI (bs_ext (by omega) (fun k _ => ?_)).symm
      simp
    · obtain ⟨e1, e2, e3⟩ := hs.2 i hi
      have o1 := (ha.2.2.2.2.2.2.2.2.1 i hi).1
      have i6 : i < 6 := by omega
      by_cases c : a (47 + 3 * i) = m
      · simp (disch := omega) only [f_X8_ownedBy_j28, f_X8_ownedBy_b4, f_X8_ownedBy_l4, f_X8_ownedBy, e, pl_lit, pl_bl, pl_bd, pl_bd2, pl_bd3, pl_bd4, pl_bcT, pl_bcF, gd_t, pl_bcTrue, pl_bcFalse, pl_gdTrue, pl_in, pl_eq, pl_lt, pl_le, pl_ix, nI_add, pk_mul, pl_m1, e1, c, own_1 (Q := fun k => a (47 + 3 * k) = m) i6 c]
      · simp (disch := omega) only [f_X8_ownedBy_j28, f_X8_ownedBy_b4, f_X8_ownedBy_l4, f_X8_ownedBy, e, pl_lit, pl_bl, pl_bd, pl_bd2, pl_bd3, pl_bd4, pl_bcT, pl_bcF, gd_t, pl_bcTrue, pl_bcFalse, pl_gdTrue, pl_in, pl_eq, pl_lt, pl_le, pl_ix, nI_add, pk_mul, pl_m1, e1, c, own_0 (Q := fun k => a (47 + 3 * k) = m) c]
    · simp (disch := omega) only [f_X8_ownedBy_j28, f_X8_ownedBy_b4, f_X8_ownedBy_l4, f_X8_ownedBy, e, pl_lit, pl_bl, pl_bd, pl_bd2, pl_bd3, pl_bd4, pl_bcT, pl_bcF, gd_t, pl_bcTrue, pl_bcFalse, pl_gdTrue, pl_in, pl_eq, pl_lt, pl_le, pl_ix, nI_add, pk_mul, pl_m1]
  unfold f_X8_ownedBy
  simp only [pl_lit, this, pl_bd]
theorem X8_onDay (hn : 100 ≤ n) (ha : okA a) (hs : SO cv a (a 2) 47) (hm : m < 2147483648) (hd : d < 2147483648) : f_X8_onDay n cv (nI m) (nI d) = some (nI (bs (fun k => k < a 2 ∧ a (47 + 3 * k) = m ∧ a (48 + 3 * k) = d))) := by
  have h6 := okL ha
  have e : cv.1 0 = nI (a 2) := hs.1
  have : f_X8_onDay_l9 n n cv (nI d) (nI 0) (nI (bs (fun k => k < a 2 ∧ a (47 + 3 * k) = m))) = some (nI (bs (fun k => k < a 2 ∧ a (47 + 3 * k) = m ∧ a (48 + 3 * k) = d))) := by
    refine lp_cnt' (a 2) (fun i => nI (bs (fun k => k < a 2 ∧ a (47 + 3 * k) = m ∧ (k < i → a (48 + 3 * k) = d)))) _ _ ?_ (fun i hi => ?_) ?_ (by omega)
    · exact congrArg nI (bs_congr (fun k _ => ⟨fun z => ⟨z.1, z.2.1⟩, fun z => ⟨z.1, z.2, fun w => absurd w (Nat.not_lt_zero k)⟩⟩))
    · obtain ⟨e1, e2, e3⟩ := hs.2 i hi
      have e2 : cv.2.1 1 i = nI (a (48 + 3 * i)) := e2
      have o2 := (ha.2.2.2.2.2.2.2.2.1 i hi).2.1
      have i6 : i < 6 := by omega
      by_cases c : a (48 + 3 * i) = d
      · have q : nI (bs (fun k => k < a 2 ∧ a (47 + 3 * k) = m ∧ (k < i → a (48 + 3 * k) = d))) = nI (bs (fun k => k < a 2 ∧ a (47 + 3 * k) = m ∧ (k < i + 1 → a (48 + 3 * k) = d))) := by
          refine congrArg nI (bs_congr (fun k _ => ⟨fun z => ⟨z.1, z.2.1, fun w => ?_⟩, fun z => ⟨z.1, z.2.1, fun w => z.2.2 (by omega)⟩⟩))
          by_cases y : k = i
          · rw [y]; exact c
          · exact z.2.2 (by omega)
        simp (disch := omega) only [f_X8_onDay_j38, f_X8_onDay_b9, f_X8_onDay_l9, f_X8_onDay, e, pl_lit, pl_bl, pl_bd, pl_bd2, pl_bd3, pl_bd4, pl_bcT, pl_bcF, gd_t, pl_bcTrue, pl_bcFalse, pl_gdTrue, pl_in, pl_eq, pl_lt, pl_le, pl_ix, nI_add, pk_mul, pl_m1, e2, c, q]
      · have q : nI (bs (fun k => k < a 2 ∧ a (47 + 3 * k) = m ∧ (k < i → a (48 + 3 * k) = d))) &&& ((nI 1 <<< (nI i &&& nI 31)) ^^^ m1) = nI (bs (fun k => k < a 2 ∧ a (47 + 3 * k) = m ∧ (k < i + 1 → a (48 + 3 * k) = d))) := by
          rw [clr_bs i6]
          refine congrArg nI (bs_congr (fun k _ => ⟨fun z => ⟨z.1.1, z.1.2.1, fun w => z.1.2.2 (by omega)⟩, fun z => ⟨⟨z.1, z.2.1, fun w => z.2.2 (by omega)⟩, fun w => ?_⟩⟩))
          subst w
          exact c (z.2.2 (by omega))
        simp (disch := omega) only [f_X8_onDay_j38, f_X8_onDay_b9, f_X8_onDay_l9, f_X8_onDay, e, pl_lit, pl_bl, pl_bd, pl_bd2, pl_bd3, pl_bd4, pl_bcT, pl_bcF, gd_t, pl_bcTrue, pl_bcFalse, pl_gdTrue, pl_in, pl_eq, pl_lt, pl_le, pl_ix, nI_add, pk_mul, pl_m1, e2, c, q]
    · have q : nI (bs (fun k => k < a 2 ∧ a (47 + 3 * k) = m ∧ (k < a 2 → a (48 + 3 * k) = d))) = nI (bs (fun k => k < a 2 ∧ a (47 + 3 * k) = m ∧ a (48 + 3 * k) = d)) :=
        congrArg nI (bs_congr (fun k _ => ⟨fun z => ⟨z.1, z.2.1, z.2.2 z.1⟩, fun z => ⟨z.1, z.2.1, fun _ => z.2.2⟩⟩))
      simp (disch := omega) only [f_X8_onDay_j38, f_X8_onDay_b9, f_X8_onDay_l9, f_X8_onDay, e, pl_lit, pl_bl, pl_bd, pl_bd2, pl_bd3, pl_bd4, pl_bcT, pl_bcF, gd_t, pl_bcTrue, pl_bcFalse, pl_gdTrue, pl_in, pl_eq, pl_lt, pl_le, pl_ix, nI_add, pk_mul, pl_m1, q]
  unfold f_X8_onDay
  rw [X8_ownedBy hn ha hs hm]
  simp only [pl_lit, this, pl_bd]
theorem X8_lowest (hn : 100 ≤ n) (ha : okA a) (hs : SO cv a (a 2) 47) (hr : r ≤ 40) : f_X8_lowest n cv (nI (bs P)) (nI r) = some (nI (lowN (valN a) P r (a 2))) := by
  have h6 := okL ha
  have e : cv.1 0 = nI (a 2) := hs.1
  have : f_X8_lowest_l5 n n cv (nI (bs P)) (nI r) (nI 0) (nI 0) = some (nI (lowN (valN a) P r (a 2))) := by
    refine lp_cnt (a 2) (fun i => nI (lowN (valN a) P r i)) _ (fun i hi => ?_) ?_ (by omega)
    · obtain ⟨e1, e2, e3⟩ := hs.2 i hi
      have e3 : cv.2.1 2 i = nI (valN a i) := e3
      have o3 := okV ha i hi
      have i6 : i < 6 := by omega
      have l := lowN_le (v := valN a) (P := P) (r := r) i (fun j hj => okV ha j (by omega))
      by_cases c : P i
      · simp (disch := omega) only [f_X8_lowest_j38, f_X8_lowest_b5, f_X8_lowest_l5, f_X8_lowest, e, pl_lit, pl_bl, pl_bd, pl_bd2, pl_bd3, pl_bd4, pl_bcT, pl_bcF, gd_t, pl_bcTrue, pl_bcFalse, pl_gdTrue, pl_in, pl_eq, pl_lt, pl_le, pl_ix, nI_add, pk_mul, pl_m1, e3, tbs, c, maxI, lowN, if_true]
      · simp (disch := omega) only [f_X8_lowest_j38, f_X8_lowest_b5, f_X8_lowest_l5, f_X8_lowest, e, pl_lit, pl_bl, pl_bd, pl_bd2, pl_bd3, pl_bd4, pl_bcT, pl_bcF, gd_t, pl_bcTrue, pl_bcFalse, pl_gdTrue, pl_in, pl_eq, pl_lt, pl_le, pl_ix, nI_add, pk_mul, pl_m1, e3, tbs, c, lowN, if_false]
    · simp (disch := omega) only [f_X8_lowest_j38, f_X8_lowest_b5, f_X8_lowest_l5, f_X8_lowest, e, pl_lit, pl_bl, pl_bd, pl_bd2, pl_bd3, pl_bd4, pl_bcT, pl_bcF, gd_t, pl_bcTrue, pl_bcFalse, pl_gdTrue, pl_in, pl_eq, pl_lt, pl_le, pl_ix, nI_add, pk_mul, pl_m1]
  unfold f_X8_lowest
  simp only [pl_lit, this, pl_bd]
theorem X8_highest (hn : 100 ≤ n) (ha : okA a) (hs : SO cv a (a 2) 47) (hr : r ≤ 40) : f_X8_highest n cv (nI (bs P)) (nI r) = some (nI (highN (valN a) P r (a 2))) := by
  have h6 := okL ha
  have e : cv.1 0 = nI (a 2) := hs.1
  have : f_X8_highest_l6 n n cv (nI (bs P)) (nI r) (nI 0) (nI 99) = some (nI (highN (valN a) P r (a 2))) := by
    refine lp_cnt (a 2) (fun i => nI (highN (valN a) P r i)) _ (fun i hi => ?_) ?_ (by omega)
    · obtain ⟨e1, e2, e3⟩ := hs.2 i hi
      have e3 : cv.2.1 2 i = nI (valN a i) := e3
      have o3 := okV ha i hi
      have i6 : i < 6 := by omega
      have l := highN_le (v := valN a) (P := P) (r := r) i
      by_cases c : P i
      · simp (disch := omega) only [f_X8_highest_j39, f_X8_highest_b6, f_X8_highest_l6, f_X8_highest, e, pl_lit, pl_bl, pl_bd, pl_bd2, pl_bd3, pl_bd4, pl_bcT, pl_bcF, gd_t, pl_bcTrue, pl_bcFalse, pl_gdTrue, pl_in, pl_eq, pl_lt, pl_le, pl_ix, nI_add, pk_mul, pl_m1, e3, tbs, c, minI, highN, if_true]
      · simp (disch := omega) only [f_X8_highest_j39, f_X8_highest_b6, f_X8_highest_l6, f_X8_highest, e, pl_lit, pl_bl, pl_bd, pl_bd2, pl_bd3, pl_bd4, pl_bcT, pl_bcF, gd_t, pl_bcTrue, pl_bcFalse, pl_gdTrue, pl_in, pl_eq, pl_lt, pl_le, pl_ix, nI_add, pk_mul, pl_m1, e3, tbs, c, highN, if_false]
    · simp (disch := omega) only [f_X8_highest_j39, f_X8_highest_b6, f_X8_highest_l6, f_X8_highest, e, pl_lit, pl_bl, pl_bd, pl_bd2, pl_bd3, pl_bd4, pl_bcT, pl_bcF, gd_t, pl_bcTrue, pl_bcFalse, pl_gdTrue, pl_in, pl_eq, pl_lt, pl_le, pl_ix, nI_add, pk_mul, pl_m1]
  unfold f_X8_highest
  simp only [pl_lit, this, pl_bd]
noncomputable def plcN (a : Nat → Nat) (P : Nat → Prop) (r : Nat) : Nat := highN (valN a) P r (a 2) + 1 - lowN (valN a) P r (a 2)
theorem X8_placesFor (hn : 100 ≤ n) (ha : okA a) (hs : SO cv a (a 2) 47) (hr : r ≤ 40) : f_X8_placesFor n cv (nI (bs P)) (nI r) = some (nI (plcN a P r)) := by
  have h1 := lowN_le (v := valN a) (P := P) (r := r) (a 2) (okV ha)
  have h2 := highN_le (v := valN a) (P := P) (r := r) (a 2)
  unfold f_X8_placesFor
  rw [X8_lowest hn ha hs hr, X8_highest hn ha hs hr]
  simp (disch := omega) only [pl_lit, pl_bl, pl_bd, pl_bd2, pl_bd3, pl_bd4, pl_bcT, pl_bcF, gd_t, pl_bcTrue, pl_bcFalse, pl_gdTrue, pl_in, pl_eq, pl_lt, pl_le, pl_ix, nI_add, pk_mul, pl_m1, span_c, span2, plcN]
/-- the model's own count -/
theorem X12_has (hs : s < 64) {k : Nat} (hk : k < 6) : f_X12_has n (nI s) (nI k) = some (bI (s.testBit k = true)) := by
  simp (disch := omega) only [f_X12_has_j14, f_X12_has, pl_lit, pl_bl, pl_bd, pl_bd2, pl_bd3, pl_bd4, pl_bcT, pl_bcF, gd_t, pl_bcTrue, pl_bcFalse, pl_gdTrue, pl_in, pl_eq, pl_lt, pl_le, pl_ix, nI_add, pk_mul, pl_m1, tb, pl_bc10n, true_or, or_true]
theorem X12_isCoverOf (ha : okA a) (ht : TR (mo.2.1 0) a) {k : Nat} (hk : k < a 2) (hm : m < 2147483648) (hd : d < 2147483648) : f_X12_isCoverOf n mo (nI k) (nI m) (nI d) = some (bI (a (47 + 3 * k) = m ∧ a (48 + 3 * k) = d)) := by
  have h6 := okL ha
  obtain ⟨e1, e2, e3⟩ := ht.2.2.2.2.2.2.2.2.1 k hk
  obtain ⟨o1, o2, o3⟩ := ha.2.2.2.2.2.2.2.2.1 k hk
  have f1 : 47 + 3 * k + 1 = 48 + 3 * k := by omega
  by_cases c : a (47 + 3 * k) = m
  · by_cases c2 : a (48 + 3 * k) = d
    · rw [bI_T ⟨c, c2⟩]
      simp (disch := omega) only [f_X12_isCoverOf_j37, f_X12_isCoverOf_j36, f_X12_isCoverOf, pl_lit, pl_bl, pl_bd, pl_bd2, pl_bd3, pl_bd4, pl_bcT, pl_bcF, gd_t, pl_bcTrue, pl_bcFalse, pl_gdTrue, pl_in, pl_eq, pl_lt, pl_le, pl_ix, nI_add, pk_mul, pl_m1, f1, e1, e2, c, c2, true_or, or_true]
    · rw [bI_F (fun z => c2 z.2)]
      simp (disch := omega) only [f_X12_isCoverOf_j37, f_X12_isCoverOf_j36, f_X12_isCoverOf, pl_lit, pl_bl, pl_bd, pl_bd2, pl_bd3, pl_bd4, pl_bcT, pl_bcF, gd_t, pl_bcTrue, pl_bcFalse, pl_gdTrue, pl_in, pl_eq, pl_lt, pl_le, pl_ix, nI_add, pk_mul, pl_m1, f1, e1, e2, c, c2, true_or, or_true]
  · rw [bI_F (fun z => c z.1)]
    simp (disch := omega) only [f_X12_isCoverOf_j37, f_X12_isCoverOf_j36, f_X12_isCoverOf, pl_lit, pl_bl, pl_bd, pl_bd2, pl_bd3, pl_bd4, pl_bcT, pl_bcF, gd_t, pl_bcTrue, pl_bcFalse, pl_gdTrue, pl_in, pl_eq, pl_lt, pl_le, pl_ix, nI_add, pk_mul, pl_m1, f1, e1, e2, c, true_or, or_true]
theorem X12_canBeAt (hn : 100 ≤ n) (ha : okA a) (ht : TR (mo.2.1 0) a) (hm : m < a 0) (hd : d < 2147483648) (hp : p ≤ 99) (hs : s < 64) : f_X12_canBeAt n mo (nI m) (nI d) (nI p) (nI s) = some (bI (allP (fitP (valN a) (covP a m d s) (reachN (a (24 + m))) p) (a 2))) := by
  have h6 := okL ha
  have e : mo.2.1 0 2 = nI (a 2) := ht.2.2.1
  have eK := (trM ht hm).1
  have oK := (okM ha hm).1
  have rl := reachN_le (a (24 + m))
  have : f_X12_canBeAt_l6 n n mo (nI m) (nI d) (nI p) (nI s) (nI 0) (nI 1) = some (bI (allP (fitP (valN a) (covP a m d s) (reachN (a (24 + m))) p) (a 2))) := by
    refine lp_cnt' (a 2) (fun i => bI (allP (fitP (valN a) (covP a m d s) (reachN (a (24 + m))) p) i)) _ _ (bI_T allP_0) (fun i hi => ?_) ?_ (by omega)
    · obtain ⟨e1, e2, e3⟩ := ht.2.2.2.2.2.2.2.2.1 i hi
      obtain ⟨o1, o2, o3⟩ := ha.2.2.2.2.2.2.2.2.1 i hi
      have f2 : 47 + 3 * i + 2 = 49 + 3 * i := by omega
      have g1 := X12_isCoverOf (n := n) (m := m) (d := d) ha ht hi (by omega) hd
      have g2 := X12_has (n := n) hs (show i < 6 by omega)
      have g3 := X12_miles (n := n) (x := a (49 + 3 * i)) (y := p) (by omega) hp
      have al := absd_le o3 hp
      have g4 := X12_reachAs (n := n) oK
      by_cases c : allP (fitP (valN a) (covP a m d s) (reachN (a (24 + m))) p) i
      · by_cases c1 : a (47 + 3 * i) = m ∧ a (48 + 3 * i) = d
        · by_cases c2 : s.testBit i = true
          · have q : allP (fitP (valN a) (covP a m d s) (reachN (a (24 + m))) p) (i + 1) := allP_s.mpr ⟨c, fun w => absurd w.2.2 (by rw [c2]; decide)⟩
            by_cases c3 : absd (a (49 + 3 * i)) p ≤ reachN (a (24 + m))
            · simp (disch := omega) only [f_X12_canBeAt_j93, f_X12_canBeAt_j92, f_X12_canBeAt_j88, f_X12_canBeAt_j55, f_X12_canBeAt_b6, f_X12_canBeAt_l6, f_X12_canBeAt, e, pl_lit, pl_bl, pl_bd, pl_bd2, pl_bd3, pl_bd4, pl_bcT, pl_bcF, gd_t, pl_bcTrue, pl_bcFalse, pl_gdTrue, pl_in, pl_eq, pl_lt, pl_le, pl_ix, nI_add, pk_mul, pl_m1, f2, e3, eK, g1, g2, g3, g4, bI_T c, bI_T c1, bI_T c2, bI_T q]
            · simp (disch := omega) only [f_X12_canBeAt_j93, f_X12_canBeAt_j92, f_X12_canBeAt_j88, f_X12_canBeAt_j55, f_X12_canBeAt_b6, f_X12_canBeAt_l6, f_X12_canBeAt, e, pl_lit, pl_bl, pl_bd, pl_bd2, pl_bd3, pl_bd4, pl_bcT, pl_bcF, gd_t, pl_bcTrue, pl_bcFalse, pl_gdTrue, pl_in, pl_eq, pl_lt, pl_le, pl_ix, nI_add, pk_mul, pl_m1, f2, e3, eK, g1, g2, g3, g4, bI_T c, bI_T c1, bI_T c2, bI_T q]
          · have c2' : s.testBit i = false := by rw [← Bool.not_eq_true]; exact c2
            by_cases c3 : absd (a (49 + 3 * i)) p ≤ reachN (a (24 + m))
            · have q : allP (fitP (valN a) (covP a m d s) (reachN (a (24 + m))) p) (i + 1) := allP_s.mpr ⟨c, fun _ => c3⟩
              simp (disch := omega) only [f_X12_canBeAt_j93, f_X12_canBeAt_j92, f_X12_canBeAt_j88, f_X12_canBeAt_j55, f_X12_canBeAt_b6, f_X12_canBeAt_l6, f_X12_canBeAt, e, pl_lit, pl_bl, pl_bd, pl_bd2, pl_bd3, pl_bd4, pl_bcT, pl_bcF, gd_t, pl_bcTrue, pl_bcFalse, pl_gdTrue, pl_in, pl_eq, pl_lt, pl_le, pl_ix, nI_add, pk_mul, pl_m1, f2, e3, eK, g1, g2, g3, g4, bI_T c, bI_T c1, bI_F c2, bI_T q]
            · have q : ¬ allP (fitP (valN a) (covP a m d s) (reachN (a (24 + m))) p) (i + 1) := fun z => c3 ((allP_s.mp z).2 ⟨c1.1, c1.2, c2'⟩)
              simp (disch := omega) only [f_X12_canBeAt_j93, f_X12_canBeAt_j92, f_X12_canBeAt_j88, f_X12_canBeAt_j55, f_X12_canBeAt_b6, f_X12_canBeAt_l6, f_X12_canBeAt, e, pl_lit, pl_bl, pl_bd, pl_bd2, pl_bd3, pl_bd4, pl_bcT, pl_bcF, gd_t, pl_bcTrue, pl_bcFalse, pl_gdTrue, pl_in, pl_eq, pl_lt, pl_le, pl_ix, nI_add, pk_mul, pl_m1, f2, e3, eK, g1, g2, g3, g4, bI_T c, bI_T c1, bI_F c2, bI_F q]
        · have q : allP (fitP (valN a) (covP a m d s) (reachN (a (24 + m))) p) (i + 1) := allP_s.mpr ⟨c, fun w => absurd ⟨w.1, w.2.1⟩ c1⟩
          by_cases c3 : absd (a (49 + 3 * i)) p ≤ reachN (a (24 + m))
          · simp (disch := omega) only [f_X12_canBeAt_j93, f_X12_canBeAt_j92, f_X12_canBeAt_j88, f_X12_canBeAt_j55, f_X12_canBeAt_b6, f_X12_canBeAt_l6, f_X12_canBeAt, e, pl_lit, pl_bl, pl_bd, pl_bd2, pl_bd3, pl_bd4, pl_bcT, pl_bcF, gd_t, pl_bcTrue, pl_bcFalse, pl_gdTrue, pl_in, pl_eq, pl_lt, pl_le, pl_ix, nI_add, pk_mul, pl_m1, f2, e3, eK, g1, g2, g3, g4, bI_T c, bI_F c1, bI_T q]
          · simp (disch := omega) only [f_X12_canBeAt_j93, f_X12_canBeAt_j92, f_X12_canBeAt_j88, f_X12_canBeAt_j55, f_X12_canBeAt_b6, f_X12_canBeAt_l6, f_X12_canBeAt, e, pl_lit, pl_bl, pl_bd, pl_bd2, pl_bd3, pl_bd4, pl_bcT, pl_bcF, gd_t, pl_bcTrue, pl_bcFalse, pl_gdTrue, pl_in, pl_eq, pl_lt, pl_le, pl_ix, nI_add, pk_mul, pl_m1, f2, e3, eK, g1, g2, g3, g4, bI_T c, bI_F c1, bI_T q]
      · have q : ¬ allP (fitP (valN a) (covP a m d s) (reachN (a (24 + m))) p) (i + 1) := fun z => c (allP_s.mp z).1
        by_cases c3 : absd (a (49 + 3 * i)) p ≤ reachN (a (24 + m))
        · simp (disch := omega) only [f_X12_canBeAt_j93, f_X12_canBeAt_j92, f_X12_canBeAt_j88, f_X12_canBeAt_j55, f_X12_canBeAt_b6, f_X12_canBeAt_l6, f_X12_canBeAt, e, pl_lit, pl_bl, pl_bd, pl_bd2, pl_bd3, pl_bd4, pl_bcT, pl_bcF, gd_t, pl_bcTrue, pl_bcFalse, pl_gdTrue, pl_in, pl_eq, pl_lt, pl_le, pl_ix, nI_add, pk_mul, pl_m1, f2, e3, eK, g3, g4, bI_F c, bI_F q]
        · simp (disch := omega) only [f_X12_canBeAt_j93, f_X12_canBeAt_j92, f_X12_canBeAt_j88, f_X12_canBeAt_j55, f_X12_canBeAt_b6, f_X12_canBeAt_l6, f_X12_canBeAt, e, pl_lit, pl_bl, pl_bd, pl_bd2, pl_bd3, pl_bd4, pl_bcT, pl_bcF, gd_t, pl_bcTrue, pl_bcFalse, pl_gdTrue, pl_in, pl_eq, pl_lt, pl_le, pl_ix, nI_add, pk_mul, pl_m1, f2, e3, eK, g3, g4, bI_F c, bI_F q]
    · simp (disch := omega) only [f_X12_canBeAt_j93, f_X12_canBeAt_j92, f_X12_canBeAt_j88, f_X12_canBeAt_j55, f_X12_canBeAt_b6, f_X12_canBeAt_l6, f_X12_canBeAt, e, pl_lit, pl_bl, pl_bd, pl_bd2, pl_bd3, pl_bd4, pl_bcT, pl_bcF, gd_t, pl_bcTrue, pl_bcFalse, pl_gdTrue, pl_in, pl_eq, pl_lt, pl_le, pl_ix, nI_add, pk_mul, pl_m1]
  unfold f_X12_canBeAt
  simp only [pl_lit, this, pl_bd, bI_01n, pl_gdTrue]
end WHR
