/-! THE HOUSE: told as Nat numbers a; the class's house and the model's array against it -/
def wI (k : Nat) : Int32 := if k = 6 then m1 else nI k
theorem wI_m1 {k : Nat} (h : k ≤ 6) : (wI k = m1) = (k = 6) := by
  apply propext
  unfold wI
  by_cases e : k = 6
  · rw [if_pos e]; exact ⟨fun _ => e, fun _ => rfl⟩
  · rw [if_neg e, pl_nem1 (by omega)]; exact ⟨False.elim, fun z => absurd z e⟩
theorem wI_n {k : Nat} (h : k < 6) : wI k = nI k := if_neg (by omega)
theorem wI_6 : wI 6 = m1 := rfl
theorem wI_5 {k : Nat} (h : k ≤ 6) : (wI k = nI 5) = (k = 5) := by
  apply propext
  by_cases e : k = 6
  · subst e; rw [wI_6]; exact ⟨fun z => absurd z (by decide), fun z => absurd z (by decide)⟩
  · rw [wI_n (by omega), pl_eq (by omega) (by omega)]
def okA (a : Nat → Nat) : Prop :=
  a 0 ≤ 5 ∧ a 1 ≤ 6 ∧ a 2 ≤ 6 ∧ a 3 ≤ 6 ∧ a 4 ≤ 8 ∧ a 23 ≤ 999 ∧
  (∀ m, m < a 0 → a (24 + m) < 6 ∧ a (16 + m) ≤ 99 ∧ a (11 + m) ≤ 13) ∧
  (∀ l, l < a 1 → a (29 + 3 * l) ≤ 99 ∧ a (30 + 3 * l) ≤ 99 ∧ 1 ≤ a (31 + 3 * l) ∧ a (31 + 3 * l) ≤ 9 ∧ a (5 + l) ≤ 6) ∧
  (∀ i, i < a 2 → a (47 + 3 * i) < a 0 ∧ a (48 + 3 * i) ≤ 99 ∧ a (49 + 3 * i) ≤ 99) ∧
  (∀ i, i < a 3 → a (65 + 3 * i) < a 0 ∧ a (66 + 3 * i) ≤ 99 ∧ a (67 + 3 * i) ≤ 20) ∧
  (∀ u, u < a 4 → a (83 + 19 * u + 18) ≤ 999 ∧ (∀ l, l < a 1 → a (83 + 19 * u + l) ≤ 6) ∧ ∀ m, m < a 0 → a (83 + 19 * u + 6 + m) ≤ 13 ∧ a (83 + 19 * u + 11 + m) ≤ 99)
def TR (t : Nat → Int32) (a : Nat → Nat) : Prop :=
  t 0 = nI (a 0) ∧ t 1 = nI (a 1) ∧ t 2 = nI (a 2) ∧ t 3 = nI (a 3) ∧ t 4 = nI (a 4) ∧ t 23 = nI (a 23) ∧
  (∀ m, m < a 0 → t (24 + m) = nI (a (24 + m)) ∧ t (16 + m) = nI (a (16 + m)) ∧ t (11 + m) = nI (a (11 + m))) ∧
  (∀ l, l < a 1 → t (29 + 3 * l) = nI (a (29 + 3 * l)) ∧ t (30 + 3 * l) = nI (a (30 + 3 * l)) ∧ t (31 + 3 * l) = nI (a (31 + 3 * l)) ∧ t (5 + l) = wI (a (5 + l))) ∧
  (∀ i, i < a 2 → t (47 + 3 * i) = nI (a (47 + 3 * i)) ∧ t (48 + 3 * i) = nI (a (48 + 3 * i)) ∧ t (49 + 3 * i) = nI (a (49 + 3 * i))) ∧
  (∀ i, i < a 3 → t (65 + 3 * i) = nI (a (65 + 3 * i)) ∧ t (66 + 3 * i) = nI (a (66 + 3 * i)) ∧ t (67 + 3 * i) = nI (a (67 + 3 * i))) ∧
  (∀ u, u < a 4 → t (83 + 19 * u + 18) = nI (a (83 + 19 * u + 18)) ∧ (∀ l, l < a 1 → t (83 + 19 * u + l) = wI (a (83 + 19 * u + l))) ∧ ∀ m, m < a 0 → t (83 + 19 * u + 6 + m) = nI (a (83 + 19 * u + 6 + m)) ∧ t (83 + 19 * u + 11 + m) = nI (a (83 + 19 * u + 11 + m)))
/-- the house's own leaf -/
def HO (h : MV) (t : Nat → Int32) (a : Nat → Nat) : Prop :=
  h.1 0 = nI (a 0) ∧ h.1 1 = nI (a 1) ∧ h.1 2 = nI (a 23) ∧ h.1 3 = t 21 ∧ h.1 4 = t 22 ∧
  (∀ m, m < a 0 → h.2.1 0 m = nI (a (24 + m)) ∧ h.2.1 1 m = nI (a (16 + m)) ∧ h.2.1 2 m = nI (a (11 + m))) ∧
  (∀ l, l < a 1 → h.2.1 3 l = nI (a (29 + 3 * l)) ∧ h.2.1 4 l = nI (a (30 + 3 * l)) ∧ h.2.1 5 l = nI (a (31 + 3 * l)) ∧ h.2.1 6 l = wI (a (5 + l)))
/-- slips: n of them, told from b on -/
def SO (s : MV) (a : Nat → Nat) (n b : Nat) : Prop :=
  s.1 0 = nI n ∧ ∀ i, i < n → s.2.1 0 i = nI (a (b + 3 * i)) ∧ s.2.1 1 i = nI (a (b + 1 + 3 * i)) ∧ s.2.1 2 i = nI (a (b + 2 + 3 * i))
/-- what may be undone: a ring of rows -/
def PO (p : MV) (t : Nat → Int32) (a : Nat → Nat) : Prop :=
  ∃ F, F < 8 ∧ p.1 0 = nI F ∧ p.1 1 = nI (a 4) ∧ ∀ u, u < a 4 →
    p.2.1 0 ((F + u) % 8 * 19 + 16) = nI (a (83 + 19 * u + 18)) ∧ p.2.1 0 ((F + u) % 8 * 19 + 17) = t (83 + 19 * u + 16) ∧ p.2.1 0 ((F + u) % 8 * 19 + 18) = t (83 + 19 * u + 17) ∧
    (∀ m, m < a 0 → p.2.1 0 ((F + u) % 8 * 19 + m) = nI (a (83 + 19 * u + 11 + m)) ∧ p.2.1 0 ((F + u) % 8 * 19 + 5 + m) = nI (a (83 + 19 * u + 6 + m))) ∧
    ∀ l, l < a 1 → p.2.1 0 ((F + u) % 8 * 19 + 10 + l) = wI (a (83 + 19 * u + l))
def SR (h cv nt ps : MV) (t : Nat → Int32) : Prop := ∃ a, okA a ∧ TR t a ∧ HO h t a ∧ SO cv a (a 2) 47 ∧ SO nt a (a 3) 65 ∧ PO ps t a
/-- figures -/
def postN (a : Nat → Nat) (l : Nat) : Nat := a (31 + 3 * l) * (1 + absd (a (29 + 3 * l)) (a (30 + 3 * l)) / 15)
def mayN (a : Nat → Nat) (l m : Nat) : Prop := a (5 + l) = 6 ∧ a (11 + m) < signsN (a (24 + m)) (a 23) ∧ absd (a (29 + 3 * l)) (a (16 + m)) ≤ reachN (a (24 + m)) ∧ a (31 + 3 * l) ≤ bearsN (a (24 + m))
theorem absd_le {x y b : Nat} (hx : x ≤ b) (hy : y ≤ b) : absd x y ≤ b := by unfold absd; split <;> omega
theorem absd_comm (x y : Nat) : absd x y = absd y x := by unfold absd; split <;> split <;> omega
theorem signsN_le (k d : Nat) : signsN k d ≤ 13 := by 
  unfold signsN
  repeat' split
  all_goals omega
theorem reachN_le (k : Nat) : reachN k ≤ 40 := by 
  unfold reachN
  repeat' split
  all_goals omega
theorem bearsN_le (k : Nat) : bearsN k ≤ 5 := by unfold bearsN; split <;> omega
theorem postN_le {a : Nat → Nat} (h : okA a) {l : Nat} (hl : l < a 1) : 1 ≤ postN a l ∧ postN a l ≤ 63 := by
  obtain ⟨-, -, -, -, -, -, -, h8, -⟩ := h
  obtain ⟨h1, h2, h3, h4, -⟩ := h8 l hl
  have hd := absd_le h1 h2
  unfold postN
  have hq : absd (a (29 + 3 * l)) (a (30 + 3 * l)) / 15 ≤ 6 := by omega
  constructor
  · exact Nat.mul_pos h3 (by omega)
  · calc a (31 + 3 * l) * (1 + absd (a (29 + 3 * l)) (a (30 + 3 * l)) / 15) ≤ 9 * 7 := Nat.mul_le_mul h4 (by omega)
      _ = 63 := rfl
theorem X12_miles {n x y : Nat} (hx : x ≤ 99) (hy : y ≤ 99) : f_X12_miles n (nI x) (nI y) = some (nI (absd x y)) := by
  unfold absd
  by_cases h : y ≤ x
  · simp (disch := omega) only [f_X12_miles_j14, f_X12_miles, pl_lit, pl_bl, pl_bd, pl_bd2, pl_bd3, pl_bd4, pl_bcT, pl_bcF, gd_t, pl_bcTrue, pl_bcFalse, pl_gdTrue, pl_in, pl_eq, pl_lt, pl_le, pl_ix, nI_add, pk_mul, pl_m1, if_neg (show ¬ x < y by omega), pk_sub]
  · simp (disch := omega) only [f_X12_miles_j14, f_X12_miles, pl_lit, pl_bl, pl_bd, pl_bd2, pl_bd3, pl_bd4, pl_bcT, pl_bcF, gd_t, pl_bcTrue, pl_bcFalse, pl_gdTrue, pl_in, pl_eq, pl_lt, pl_le, pl_ix, nI_add, pk_mul, pl_m1, if_pos (show x < y by omega), pk_sub]
theorem abs_sub {x y : Nat} (hx : x ≤ 99) (hy : y ≤ 99) : (if (0 : Int32) ≤ nI x - nI y then nI x - nI y else 0 - (nI x - nI y)) = nI (absd x y) := by
  unfold absd
  by_cases h : x < y
  · rw [if_pos h, if_neg]
    · rw [← pk_sub (Nat.le_of_lt h)]
      apply Int32.toInt_inj.mp
      simp
    · intro z
      have := pk_sneg (a := x) (b := y) (by omega) h
      exact absurd this (Int32.not_lt.mpr z)
  · rw [if_neg h, pk_sub (by omega), if_pos]
    exact nI_pos' (by omega)
theorem abs_subn {x y : Nat} (hx : x ≤ 99) (hy : y ≤ 99) : (if nI 0 ≤ nI x - nI y then nI x - nI y else nI 0 - (nI x - nI y)) = nI (absd x y) := abs_sub hx hy
