/-! loops; ranges; refusals; the relation INV -/
theorem lp_inv {σ ρ : Type} {body : σ → Option (σ ⊕ ρ)} (I : Nat → σ → Prop) (R : ρ → Prop) (hs : ∀ k s, I k s → (∃ s' k', body s = some (.inl s') ∧ k' < k ∧ I k' s') ∨ (∃ r, body s = some (.inr r) ∧ R r)) : ∀ fuel k s, I k s → k < fuel → ∃ r, lp body fuel s = some r ∧ R r := by
  intro fuel
  induction fuel with
  | zero => intro k s _ h; exact absurd h (Nat.not_lt_zero k)
  | succ f ih =>
    intro k s hI hk
    rcases hs k s hI with ⟨s', k', h1, h2, h3⟩ | ⟨r, h1, h2⟩
    · obtain ⟨r, e, hR⟩ := ih k' s' h3 (by omega)
      exact ⟨r, by unfold lp; rw [h1]; exact e, hR⟩
    · exact ⟨r, by unfold lp; rw [h1], h2⟩
/-- v is one of 0 .. N - 1 -/
def inR (v : Int32) (N : Nat) : Prop := ∃ m, m < N ∧ v = nI m
theorem inR_iff {v : Int32} {N : Nat} (hN : N < 1073741824) : inR v N ↔ 0 ≤ v.toInt ∧ v.toInt < N := by
  constructor
  · rintro ⟨m, hm, rfl⟩
    rw [nI_toInt (by omega)]
    omega
  · rintro ⟨h1, h2⟩
    refine ⟨v.toInt.toNat, by omega, ?_⟩
    apply Int32.toInt_inj.mp
    rw [nI_toInt (by omega)]
    omega
theorem X11_within {n : Nat} {v x y : Int32} : f_X11_within n v x y = some (bI (x ≤ v ∧ v ≤ y)) := by
  simp (disch := omega) only [f_X11_within_j15, f_X11_within_j14, f_X11_within, pl_lit, pl_bl, pl_bd, pl_bd2, pl_bd3, pl_bd4, pl_bcT, pl_bcF, gd_t, pl_bcTrue, pl_bcFalse, pl_gdTrue, pl_in, pl_eq, pl_lt, pl_le, pl_ix, nI_add, pk_mul, pl_m1, pl_bc01n, pl_bcbn', true_or, or_true]
  refine congrArg some (bI_congr ?_)
  rw [Int32.lt_iff_toInt_lt, Int32.lt_iff_toInt_lt, Int32.le_iff_toInt_le, Int32.le_iff_toInt_le]
  omega
theorem lg_lt {x y : Int32} : (lg_cmp x.toInt64 y.toInt64 < nI 0) = (x < y) := by
  apply propext
  show lg_cmp x.toInt64 y.toInt64 < 0 ↔ _
  unfold lg_cmp
  rw [Int32.lt_iff_toInt_lt (x := x) (y := y)]
  have h1 : x.toInt64.toInt = x.toInt := by simp
  have h2 : y.toInt64.toInt = y.toInt := by simp
  by_cases c1 : x.toInt64 > y.toInt64
  · rw [if_pos c1]
    rw [gt_iff_lt, Int64.lt_iff_toInt_lt, h1, h2] at c1
    exact ⟨fun z => absurd z (by decide), fun z => by omega⟩
  · rw [if_neg c1]
    rw [gt_iff_lt, Int64.lt_iff_toInt_lt, h1, h2] at c1
    by_cases c2 : x.toInt64 = y.toInt64
    · rw [if_pos c2]
      have := congrArg Int64.toInt c2
      rw [h1, h2] at this
      exact ⟨fun z => absurd z (by decide), fun z => by omega⟩
    · rw [if_neg c2]
      have : ¬ x.toInt = y.toInt := fun z => c2 (Int64.toInt_inj.mp (by rw [h1, h2]; exact z))
      exact ⟨fun _ => by omega, fun _ => by decide⟩
theorem lg_gt {x y : Int32} : (nI 0 < lg_cmp x.toInt64 y.toInt64) = (y < x) := by
  apply propext
  show 0 < lg_cmp x.toInt64 y.toInt64 ↔ _
  unfold lg_cmp
  rw [Int32.lt_iff_toInt_lt (x := y) (y := x)]
  have h1 : x.toInt64.toInt = x.toInt := by simp
  have h2 : y.toInt64.toInt = y.toInt := by simp
  by_cases c1 : x.toInt64 > y.toInt64
  · rw [if_pos c1]
    rw [gt_iff_lt, Int64.lt_iff_toInt_lt, h1, h2] at c1
    exact ⟨fun _ => by omega, fun _ => by decide⟩
  · rw [if_neg c1]
    rw [gt_iff_lt, Int64.lt_iff_toInt_lt, h1, h2] at c1
    by_cases c2 : x.toInt64 = y.toInt64
    · rw [if_pos c2]
      exact ⟨fun z => absurd z (by decide), fun z => by omega⟩
    · rw [if_neg c2]
      exact ⟨fun z => absurd z (by decide), fun z => by omega⟩
theorem X12_in {n : Nat} {v x y : Int32} : f_X12_in n v.toInt64 x.toInt64 y.toInt64 = some (bI (x ≤ v ∧ v ≤ y)) := by
  simp (disch := omega) only [f_X12_in_j18, f_X12_in_j17, f_X12_in, pl_lit, pl_bl, pl_bd, pl_bd2, pl_bd3, pl_bd4, pl_bcT, pl_bcF, gd_t, pl_bcTrue, pl_bcFalse, pl_gdTrue, pl_in, pl_eq, pl_lt, pl_le, pl_ix, nI_add, pk_mul, pl_m1, lg_lt, lg_gt, pl_bc01n, pl_bcbn', true_or, or_true]
  refine congrArg some (bI_congr ?_)
  rw [Int32.lt_iff_toInt_lt, Int32.lt_iff_toInt_lt, Int32.le_iff_toInt_le, Int32.le_iff_toInt_le]
  omega
theorem rng {v : Int32} {N : Nat} (hN : N < 1073741824) : (0 ≤ v ∧ v ≤ nI N - 1) ↔ inR v N := by
  rw [inR_iff hN, Int32.le_iff_toInt_le, Int32.le_iff_toInt_le, show (1 : Int32) = nI 1 from rfl, pk_sub_toInt (by omega) (by omega)]
  simp
  omega
theorem rngK {v : Int32} {K : Nat} (hK : K < 1001000) : (0 ≤ v ∧ v ≤ nI K) ↔ inR v (K + 1) := by
  rw [inR_iff (N := K + 1) (by omega), Int32.le_iff_toInt_le, Int32.le_iff_toInt_le, nI_toInt (by omega)]
  simp
  omega
theorem X11_in {n : Nat} {v : Int32} {K : Nat} (hK : K < 1001000) : f_X11_within n v 0 (nI K) = some (bI (inR v (K + 1))) := by
  rw [X11_within]; exact congrArg some (bI_congr (rngK hK))
theorem X12_inK {n : Nat} {v : Int32} {K : Nat} (hK : K < 1001000) : f_X12_in n v.toInt64 0 (lN K) = some (bI (inR v (K + 1))) := by
  have h := X12_in (n := n) (v := v) (x := 0) (y := nI K)
  rw [nI_l (by omega)] at h
  rw [show (0 : Int64) = (0 : Int32).toInt64 from rfl, h]
  exact congrArg some (bI_congr (rngK hK))
theorem pl_litL (n : Nat) : (OfNat.ofNat n : Int64) = lN n := rfl
theorem X11_isPlace {n : Nat} {v : Int32} : f_X11_isPlace n v = some (bI (inR v 100)) := by
  unfold f_X11_isPlace
  rw [show (99 : Int32) = nI 99 from rfl, X11_in (by omega)]
  simp only [pl_bd, bI_01, pl_gdTrue]
theorem X12_isPlace {n : Nat} {v : Int32} : f_X12_isPlace n v = some (bI (inR v 100)) := by
  unfold f_X12_isPlace
  rw [show (99 : Int64) = lN 99 from rfl, X12_inK (by omega)]
  simp only [pl_bd, bI_01, pl_gdTrue]
theorem X11_isMember {n : Nat} {xo h : MV} {v : Int32} {M : Nat} (hM : M < 1073741824) (e : h.1 0 = nI M) : f_X11_isMember n xo h v = some (bI (inR v M)) := by
  unfold f_X11_isMember
  rw [e, X11_within]
  simp only [pl_bd, bI_01, pl_gdTrue]
  exact congrArg some (bI_congr (rng hM))
theorem X11_isLetter {n : Nat} {xo h : MV} {v : Int32} {M : Nat} (hM : M < 1073741824) (e : h.1 1 = nI M) : f_X11_isLetter n xo h v = some (bI (inR v M)) := by
  unfold f_X11_isLetter
  rw [e, X11_within]
  simp only [pl_bd, bI_01, pl_gdTrue]
  exact congrArg some (bI_congr (rng hM))
theorem X12_isMember {n : Nat} {mo : MV} {v : Int32} {M : Nat} (hM : M < 1073741824) (e : mo.2.1 0 0 = nI M) : f_X12_isMember n mo v = some (bI (inR v M)) := by
  have h : f_X12_members n mo = some (nI M) := by simp (disch := omega) only [f_X12_members, pl_lit, pl_bl, pl_bd, pl_bd2, pl_bd3, pl_bd4, pl_bcT, pl_bcF, gd_t, pl_bcTrue, pl_bcFalse, pl_gdTrue, pl_in, pl_eq, pl_lt, pl_le, pl_ix, nI_add, pk_mul, pl_m1, e]
  unfold f_X12_isMember
  rw [h]
  simp only [pl_bd]
  rw [show (0 : Int64) = (0 : Int32).toInt64 from rfl, X12_in]
  simp only [pl_bd, bI_01, pl_gdTrue]
  exact congrArg some (bI_congr (rng hM))
theorem X12_isLetter {n : Nat} {mo : MV} {v : Int32} {M : Nat} (hM : M < 1073741824) (e : mo.2.1 0 1 = nI M) : f_X12_isLetter n mo v = some (bI (inR v M)) := by
  have h : f_X12_letters n mo = some (nI M) := by simp (disch := omega) only [f_X12_letters, pl_lit, pl_bl, pl_bd, pl_bd2, pl_bd3, pl_bd4, pl_bcT, pl_bcF, gd_t, pl_bcTrue, pl_bcFalse, pl_gdTrue, pl_in, pl_eq, pl_lt, pl_le, pl_ix, nI_add, pk_mul, pl_m1, e]
  unfold f_X12_isLetter
  rw [h]
  simp only [pl_bd]
  rw [show (0 : Int64) = (0 : Int32).toInt64 from rfl, X12_in]
  simp only [pl_bd, bI_01, pl_gdTrue]
  exact congrArg some (bI_congr (rng hM))
