theorem lp_cnt {σ ρ : Type} {body : (Int32 × σ) → Option ((Int32 × σ) ⊕ ρ)} (L : Nat) (g : Nat → σ) (r : ρ) (hb : ∀ i, i < L → body (nI i, g i) = some (.inl (nI (i + 1), g (i + 1)))) (he : body (nI L, g L) = some (.inr r)) {fuel : Nat} (hf : L < fuel) : lp body fuel (nI 0, g 0) = some r := by
  obtain ⟨r', h1, h2⟩ := lp_inv (body := body) (fun k s => ∃ i, i ≤ L ∧ k = L - i ∧ s = (nI i, g i)) (fun r' => r' = r) (by
    rintro k s ⟨i, hi, rfl, rfl⟩
    by_cases h : i < L
    · exact Or.inl ⟨_, L - (i + 1), hb i h, by omega, i + 1, by omega, rfl, rfl⟩
    · have : i = L := by omega
      subst this
      exact Or.inr ⟨r, he, rfl⟩) fuel L (nI 0, g 0) ⟨0, by omega, by omega, rfl⟩ hf
  rw [h1, h2]
def sm (f : Nat → Nat) : Nat → Nat
  | 0 => 0
  | k + 1 => sm f k + f k
theorem sm_le {f : Nat → Nat} {b : Nat} : ∀ {k : Nat}, (∀ i, i < k → f i ≤ b) → sm f k ≤ k * b
  | 0, _ => by simp [sm]
  | k + 1, h => by
    have h1 := sm_le (k := k) (fun i hi => h i (by omega))
    have h2 := h k (by omega)
    have h3 : (k + 1) * b = k * b + b := Nat.succ_mul k b
    show sm f k + f k ≤ _
    omega
/-- postage that is due, letters that lie -/
noncomputable def dueN (a : Nat → Nat) (l : Nat) : Nat := if a (5 + l) = 6 then postN a l else 0
noncomputable def lieN (a : Nat → Nat) (l : Nat) : Nat := if a (5 + l) = 6 then 1 else 0
section SMP
variable {n : Nat} {h mo : MV} {t : Nat → Int32} {a : Nat → Nat} {l m : Nat}
theorem X12_members (e : mo.2.1 0 0 = nI (a 0)) : f_X12_members n mo = some (nI (a 0)) := by simp (disch := omega) only [f_X12_members, pl_lit, pl_bl, pl_bd, pl_bd2, pl_bd3, pl_bd4, pl_bcT, pl_bcF, gd_t, pl_bcTrue, pl_bcFalse, pl_gdTrue, pl_in, pl_eq, pl_lt, pl_le, pl_ix, nI_add, pk_mul, pl_m1, e]
theorem X12_letters (e : mo.2.1 0 1 = nI (a 1)) : f_X12_letters n mo = some (nI (a 1)) := by simp (disch := omega) only [f_X12_letters, pl_lit, pl_bl, pl_bd, pl_bd2, pl_bd3, pl_bd4, pl_bcT, pl_bcF, gd_t, pl_bcTrue, pl_bcFalse, pl_gdTrue, pl_in, pl_eq, pl_lt, pl_le, pl_ix, nI_add, pk_mul, pl_m1, e]
theorem X12_postage (ha : okA a) (hh : TR (mo.2.1 0) a) (hl : l < a 1) : f_X12_postage n mo (nI l) = some (nI (postN a l)) := by
  unfold f_X12_postage
  rw [X12_postageOf (by omega) ha hh hl]
  rfl
theorem X1_postageDue (hn : 100 ≤ n) (ha : okA a) (hh : HO h t a) : f_X1_postageDue n h = some (nI (sm (dueN a) (a 1))) := by
  have h6 := okL ha
  have eL : h.1 1 = nI (a 1) := hh.2.1
  have : f_X1_postageDue_l4 n n h 0 0 = some (nI (sm (dueN a) (a 1))) := by
    refine lp_cnt (a 1) (fun i => nI (sm (dueN a) i)) _ (fun i hi => ?_) ?_ (by omega)
    · have hp := X1_postage (n := n) ha hh hi
      by_cases c : a (5 + i) = 6
      · simp (disch := omega) only [f_X1_postageDue_j28, f_X1_postageDue_b4, f_X1_postageDue_l4, f_X1_postageDue, eL, pl_lit, pl_bl, pl_bd, pl_bd2, pl_bd3, pl_bd4, pl_bcT, pl_bcF, gd_t, pl_bcTrue, pl_bcFalse, pl_gdTrue, pl_in, pl_eq, pl_lt, pl_le, pl_ix, nI_add, pk_mul, pl_m1, X1_lies ha hh hi, hp, bI_T c, sm, dueN, if_pos c]
      · simp (disch := omega) only [f_X1_postageDue_j28, f_X1_postageDue_b4, f_X1_postageDue_l4, f_X1_postageDue, eL, pl_lit, pl_bl, pl_bd, pl_bd2, pl_bd3, pl_bd4, pl_bcT, pl_bcF, gd_t, pl_bcTrue, pl_bcFalse, pl_gdTrue, pl_in, pl_eq, pl_lt, pl_le, pl_ix, nI_add, pk_mul, pl_m1, X1_lies ha hh hi, hp, bI_F c, sm, dueN, if_neg c, Nat.add_zero]
    · simp (disch := omega) only [f_X1_postageDue_j28, f_X1_postageDue_b4, f_X1_postageDue_l4, f_X1_postageDue, eL, pl_lit, pl_bl, pl_bd, pl_bd2, pl_bd3, pl_bd4, pl_bcT, pl_bcF, gd_t, pl_bcTrue, pl_bcFalse, pl_gdTrue, pl_in, pl_eq, pl_lt, pl_le, pl_ix, nI_add, pk_mul, pl_m1]
  unfold f_X1_postageDue
  rw [this]
  rfl
theorem X12_due (hn : 100 ≤ n) (ha : okA a) (hh : TR (mo.2.1 0) a) : f_X12_due n mo = some (nI (sm (dueN a) (a 1))) := by
  have h6 := okL ha
  have eL := X12_letters (n := n) hh.2.1
  have : f_X12_due_l4 n n mo 0 0 = some (nI (sm (dueN a) (a 1))) := by
    refine lp_cnt (a 1) (fun i => nI (sm (dueN a) i)) _ (fun i hi => ?_) ?_ (by omega)
    · have hp := X12_postage (n := n) ha hh hi
      by_cases c : a (5 + i) = 6
      · simp (disch := omega) only [f_X12_due_j30, f_X12_due_b4, f_X12_due_l4, f_X12_due, eL, pl_lit, pl_bl, pl_bd, pl_bd2, pl_bd3, pl_bd4, pl_bcT, pl_bcF, gd_t, pl_bcTrue, pl_bcFalse, pl_gdTrue, pl_in, pl_eq, pl_lt, pl_le, pl_ix, nI_add, pk_mul, pl_m1, X12_lies ha hh hi, hp, bI_T c, sm, dueN, if_pos c]
      · simp (disch := omega) only [f_X12_due_j30, f_X12_due_b4, f_X12_due_l4, f_X12_due, eL, pl_lit, pl_bl, pl_bd, pl_bd2, pl_bd3, pl_bd4, pl_bcT, pl_bcF, gd_t, pl_bcTrue, pl_bcFalse, pl_gdTrue, pl_in, pl_eq, pl_lt, pl_le, pl_ix, nI_add, pk_mul, pl_m1, X12_lies ha hh hi, hp, bI_F c, sm, dueN, if_neg c, Nat.add_zero]
    · simp (disch := omega) only [f_X12_due_j30, f_X12_due_b4, f_X12_due_l4, f_X12_due, eL, pl_lit, pl_bl, pl_bd, pl_bd2, pl_bd3, pl_bd4, pl_bcT, pl_bcF, gd_t, pl_bcTrue, pl_bcFalse, pl_gdTrue, pl_in, pl_eq, pl_lt, pl_le, pl_ix, nI_add, pk_mul, pl_m1]
  unfold f_X12_due
  rw [this]
  rfl
theorem X1_howManyLie (hn : 100 ≤ n) (ha : okA a) (hh : HO h t a) : f_X1_howManyLie n h = some (nI (sm (lieN a) (a 1))) := by
  have h6 := okL ha
  have eL : h.1 1 = nI (a 1) := hh.2.1
  have : f_X1_howManyLie_l4 n n h 0 0 = some (nI (sm (lieN a) (a 1))) := by
    refine lp_cnt (a 1) (fun i => nI (sm (lieN a) i)) _ (fun i hi => ?_) ?_ (by omega)
    · by_cases c : a (5 + i) = 6
      · simp (disch := omega) only [f_X1_howManyLie_j23, f_X1_howManyLie_b4, f_X1_howManyLie_l4, f_X1_howManyLie, eL, pl_lit, pl_bl, pl_bd, pl_bd2, pl_bd3, pl_bd4, pl_bcT, pl_bcF, gd_t, pl_bcTrue, pl_bcFalse, pl_gdTrue, pl_in, pl_eq, pl_lt, pl_le, pl_ix, nI_add, pk_mul, pl_m1, X1_lies ha hh hi, bI_T c, sm, lieN, if_pos c]
      · simp (disch := omega) only [f_X1_howManyLie_j23, f_X1_howManyLie_b4, f_X1_howManyLie_l4, f_X1_howManyLie, eL, pl_lit, pl_bl, pl_bd, pl_bd2, pl_bd3, pl_bd4, pl_bcT, pl_bcF, gd_t, pl_bcTrue, pl_bcFalse, pl_gdTrue, pl_in, pl_eq, pl_lt, pl_le, pl_ix, nI_add, pk_mul, pl_m1, X1_lies ha hh hi, bI_F c, sm, lieN, if_neg c, Nat.add_zero]
    · simp (disch := omega) only [f_X1_howManyLie_j23, f_X1_howManyLie_b4, f_X1_howManyLie_l4, f_X1_howManyLie, eL, pl_lit, pl_bl, pl_bd, pl_bd2, pl_bd3, pl_bd4, pl_bcT, pl_bcF, gd_t, pl_bcTrue, pl_bcFalse, pl_gdTrue, pl_in, pl_eq, pl_lt, pl_le, pl_ix, nI_add, pk_mul, pl_m1]
  unfold f_X1_howManyLie
  rw [this]
  rfl
theorem X12_manyLie (hn : 100 ≤ n) (ha : okA a) (hh : TR (mo.2.1 0) a) : f_X12_manyLie n mo = some (nI (sm (lieN a) (a 1))) := by
  have h6 := okL ha
  have eL := X12_letters (n := n) hh.2.1
  have : f_X12_manyLie_l4 n n mo 0 0 = some (nI (sm (lieN a) (a 1))) := by
    refine lp_cnt (a 1) (fun i => nI (sm (lieN a) i)) _ (fun i hi => ?_) ?_ (by omega)
    · by_cases c : a (5 + i) = 6
      · simp (disch := omega) only [f_X12_manyLie_j26, f_X12_manyLie_b4, f_X12_manyLie_l4, f_X12_manyLie, eL, pl_lit, pl_bl, pl_bd, pl_bd2, pl_bd3, pl_bd4, pl_bcT, pl_bcF, gd_t, pl_bcTrue, pl_bcFalse, pl_gdTrue, pl_in, pl_eq, pl_lt, pl_le, pl_ix, nI_add, pk_mul, pl_m1, X12_lies ha hh hi, bI_T c, sm, lieN, if_pos c]
      · simp (disch := omega) only [f_X12_manyLie_j26, f_X12_manyLie_b4, f_X12_manyLie_l4, f_X12_manyLie, eL, pl_lit, pl_bl, pl_bd, pl_bd2, pl_bd3, pl_bd4, pl_bcT, pl_bcF, gd_t, pl_bcTrue, pl_bcFalse, pl_gdTrue, pl_in, pl_eq, pl_lt, pl_le, pl_ix, nI_add, pk_mul, pl_m1, X12_lies ha hh hi, bI_F c, sm, lieN, if_neg c, Nat.add_zero]
    · simp (disch := omega) only [f_X12_manyLie_j26, f_X12_manyLie_b4, f_X12_manyLie_l4, f_X12_manyLie, eL, pl_lit, pl_bl, pl_bd, pl_bd2, pl_bd3, pl_bd4, pl_bcT, pl_bcF, gd_t, pl_bcTrue, pl_bcFalse, pl_gdTrue, pl_in, pl_eq, pl_lt, pl_le, pl_ix, nI_add, pk_mul, pl_m1]
  unfold f_X12_manyLie
  rw [this]
  rfl
end SMP
theorem sim_now {n : Nat} (hn : 100 ≤ n) : SIM_now n INV := by
  intro xo nv rv h0 h1 h2 h3 nt0 cv0 nt1 cv1 nt2 cv2 nt3 cv3 ps0 ps1 ps2 ps3 mo v hI
  have hI0 := hI
  obtain ⟨⟨a, ha, ht, hh, -, -, -⟩, -⟩ := hI
  have e3 : h0.1 3 = mo.2.1 0 21 := hh.2.2.2.1
  have e4 : h0.1 4 = mo.2.1 0 22 := hh.2.2.2.2.1
  by_cases c0 : v = 0
  · subst c0
    exact ⟨mo.2.1 0 21, xo, mo, by simp (disch := omega) only [f_X11_now, pl_lit, pl_bl, pl_bd, pl_bd2, pl_bd3, pl_bd4, pl_bcT, pl_bcF, gd_t, pl_bcTrue, pl_bcFalse, pl_gdTrue, pl_in, pl_eq, pl_lt, pl_le, pl_ix, nI_add, pk_mul, pl_m1, e3], by simp (disch := omega) only [f_X12_now_j47, f_X12_now, pl_lit, pl_bl, pl_bd, pl_bd2, pl_bd3, pl_bd4, pl_bcT, pl_bcF, gd_t, pl_bcTrue, pl_bcFalse, pl_gdTrue, pl_in, pl_eq, pl_lt, pl_le, pl_ix, nI_add, pk_mul, pl_m1], hI0⟩
  by_cases c1 : v = 1
  · subst c1
    exact ⟨mo.2.1 0 22, xo, mo, by simp (disch := omega) only [f_X11_now, pl_lit, pl_bl, pl_bd, pl_bd2, pl_bd3, pl_bd4, pl_bcT, pl_bcF, gd_t, pl_bcTrue, pl_bcFalse, pl_gdTrue, pl_in, pl_eq, pl_lt, pl_le, pl_ix, nI_add, pk_mul, pl_m1, e4], by simp (disch := omega) only [f_X12_now_j47, f_X12_now, pl_lit, pl_bl, pl_bd, pl_bd2, pl_bd3, pl_bd4, pl_bcT, pl_bcF, gd_t, pl_bcTrue, pl_bcFalse, pl_gdTrue, pl_in, pl_eq, pl_lt, pl_le, pl_ix, nI_add, pk_mul, pl_m1], hI0⟩
  by_cases c2 : v = 2
  · subst c2
    exact ⟨nI (sm (dueN a) (a 1)), xo, mo, by simp (disch := omega) only [f_X11_now, pl_lit, pl_bl, pl_bd, pl_bd2, pl_bd3, pl_bd4, pl_bcT, pl_bcF, gd_t, pl_bcTrue, pl_bcFalse, pl_gdTrue, pl_in, pl_eq, pl_lt, pl_le, pl_ix, nI_add, pk_mul, pl_m1, X1_postageDue hn ha hh], by simp (disch := omega) only [f_X12_now_j47, f_X12_now, pl_lit, pl_bl, pl_bd, pl_bd2, pl_bd3, pl_bd4, pl_bcT, pl_bcF, gd_t, pl_bcTrue, pl_bcFalse, pl_gdTrue, pl_in, pl_eq, pl_lt, pl_le, pl_ix, nI_add, pk_mul, pl_m1, X12_due hn ha ht], hI0⟩
  refine ⟨-2, badX xo, refM mo 0, ?_, ?_, hI0.bad⟩
  · unfold f_X11_now
    rw [bc_F c0, bc_F c1, bc_F c2, X11_bad]
    rfl
  · unfold f_X12_now f_X12_now_j47
    rw [bc_F c0, bc_F c1, bc_F c2, X12_bad]
    rfl
