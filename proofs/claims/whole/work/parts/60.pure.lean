/-! PURE LAYER: the combinators and small numbers -/
theorem pl_lit (n : Nat) : (OfNat.ofNat n : Int32) = nI n := rfl
theorem pl_bl {α β : Type} (x : α) (k : α → Option β) : bl x k = k x := rfl
theorem pl_bd {α β : Type} (a : α) (k : α → Option β) : bd (some a) k = k a := rfl
theorem pl_bd2 {α β γ : Type} (a : α) (b : β) (k : α → β → Option γ) : bd2 (some (a, b)) k = k a b := rfl
theorem pl_bd3 {α β γ δ : Type} (a : α) (b : β) (c : γ) (k : α → β → γ → Option δ) : bd3 (some (a, b, c)) k = k a b c := rfl
theorem pl_bd4 {α β γ δ ε : Type} (a : α) (b : β) (c : γ) (d : δ) (k : α → β → γ → δ → Option ε) : bd4 (some (a, b, c, d)) k = k a b c d := rfl
theorem pl_bcT {α : Type} {c : Prop} {x y : Option α} (h : c) : bc c x y = x := bc_T h
theorem pl_bcF {α : Type} {c : Prop} {x y : Option α} (h : ¬ c) : bc c x y = y := bc_F h
theorem pl_bcTrue {α : Type} {x y : Option α} : bc True x y = x := bc_T trivial
theorem pl_bcFalse {α : Type} {x y : Option α} : bc False x y = y := bc_F id
theorem pl_gdTrue {α : Type} {x : Option α} : gd True x = x := gd_t trivial
theorem pl_bcNot {α : Type} {c : Prop} {x y : Option α} : bc (¬ c) x y = bc c y x := by
  by_cases h : c
  · rw [bc_F (fun z => z h), bc_T h]
  · rw [bc_T h, bc_F h]
theorem pl_bcSame {α : Type} {c : Prop} {x : Option α} : bc c x x = x := by
  by_cases h : c
  · rw [bc_T h]
  · rw [bc_F h]
noncomputable def bI (c : Prop) : Int32 := @ite _ c (Classical.propDecidable c) 1 0
theorem bI_T {c : Prop} (h : c) : bI c = 1 := if_pos h
theorem bI_F {c : Prop} (h : ¬ c) : bI c = 0 := if_neg h
theorem bI_0 {c : Prop} : bI c = 0 ↔ ¬ c := by
  by_cases h : c
  · rw [bI_T h]; exact ⟨fun z => absurd z (by decide), fun z => absurd h z⟩
  · rw [bI_F h]; exact ⟨fun _ => h, fun _ => rfl⟩
theorem bI_01 {c : Prop} : (bI c = 0 ∨ bI c = 1) = True := by
  by_cases h : c
  · rw [bI_T h]; simp
  · rw [bI_F h]; simp
theorem bI_congr {c d : Prop} (h : c ↔ d) : bI c = bI d := by rw [propext h]
theorem pl_bc10 {c : Prop} : bc c (some (1 : Int32)) (some 0) = some (bI c) := by
  by_cases h : c
  · rw [bc_T h, bI_T h]
  · rw [bc_F h, bI_F h]
theorem pl_bc01 {c : Prop} : bc c (some (0 : Int32)) (some 1) = some (bI (¬ c)) := by
  by_cases h : c
  · rw [bc_T h, bI_F (fun z => z h)]
  · rw [bc_F h, bI_T h]
theorem pl_bcb {c d : Prop} : bc c (some (bI d)) (some 0) = some (bI (c ∧ d)) := by
  by_cases h : c
  · rw [bc_T h]; exact congrArg some (bI_congr ⟨fun z => ⟨h, z⟩, fun z => z.2⟩)
  · rw [bc_F h, bI_F (fun z => h z.1)]
theorem pl_bcb' {c d : Prop} : bc c (some (0 : Int32)) (some (bI d)) = some (bI (¬ c ∧ d)) := by
  by_cases h : c
  · rw [bc_T h, bI_F (fun z => z.1 h)]
  · rw [bc_F h]; exact congrArg some (bI_congr ⟨fun z => ⟨h, z⟩, fun z => z.2⟩)
/-- literals that are used -/
theorem pl_in {a N : Nat} (h : a < 2147483648) : vp_in (nI a) N = (a < N) := by
  apply propext
  rw [vp_in_iff, nI_toInt h]
  omega
theorem pl_eq {a b : Nat} (ha : a < 2147483648) (hb : b < 2147483648) : (nI a = nI b) = (a = b) := propext (nI_eq ha hb)
theorem pl_lt {a b : Nat} (ha : a < 2147483648) (hb : b < 2147483648) : (nI a < nI b) = (a < b) := propext (nI_ltI ha hb)
theorem pl_le {a b : Nat} (ha : a < 2147483648) (hb : b < 2147483648) : (nI a ≤ nI b) = (a ≤ b) := propext (nI_leI ha hb)
theorem pl_ix {a : Nat} (h : a < 2147483648) : (nI a).toNatClampNeg = a := nI_clamp h
theorem pl_div {a d : Nat} (ha : a < 2147483648) (h0 : 0 < d) (hd : d < 2147483648) : nI a / nI d = nI (a / d) := pk_div ha h0 hd
theorem pl_ne1 {a : Nat} (h : a < 2147483648) : (nI a = -1) = False := by
  apply eq_false
  intro e
  have := congrArg Int32.toInt e
  rw [nI_toInt h] at this
  simp at this
theorem pl_0 : nI 0 = 0 := rfl
theorem pl_1 : nI 1 = 1 := rfl
def absd (a b : Nat) : Nat := if a < b then b - a else a - b
/-- the kinds -/
def signsN (k d : Nat) : Nat := if k = 2 then (if d % 2 = 0 then 5 else 10) else if k = 4 then (if d < 7 then (if d % 2 = 0 then 5 else 10) else 0) else if k = 5 then 13 else 10
def reachN (k : Nat) : Nat := if k = 3 then 40 else if k = 4 then 0 else if k = 5 then 10 else 20
def bearsN (k : Nat) : Nat := if k = 1 ∨ k = 5 then 5 else 2
def m1 : Int32 := -1
theorem pl_m1 : -nI 1 = m1 := rfl
theorem pl_nem1 {a : Nat} (h : a < 2147483648) : (nI a = m1) = False := pl_ne1 h
theorem pl_bc10n {c : Prop} : bc c (some (nI 1)) (some (nI 0)) = some (bI c) := pl_bc10
theorem pl_bc01n {c : Prop} : bc c (some (nI 0)) (some (nI 1)) = some (bI (¬ c)) := pl_bc01
theorem pl_bcbn {c d : Prop} : bc c (some (bI d)) (some (nI 0)) = some (bI (c ∧ d)) := pl_bcb
theorem pl_bcbn' {c d : Prop} : bc c (some (nI 0)) (some (bI d)) = some (bI (¬ c ∧ d)) := pl_bcb'
theorem bI_0n {c : Prop} : (bI c = nI 0) = ¬ c := propext bI_0
theorem bI_01n {c : Prop} : (bI c = nI 0 ∨ bI c = nI 1) = True := bI_01
theorem bI_1n {c : Prop} : (bI c = nI 1) = c := by
  apply propext
  by_cases h : c
  · rw [bI_T h]; exact ⟨fun _ => h, fun _ => rfl⟩
  · rw [bI_F h]; exact ⟨fun z => absurd z (by decide), fun z => absurd z h⟩
theorem six {k : Nat} (h : k < 6) : k = 0 ∨ k = 1 ∨ k = 2 ∨ k = 3 ∨ k = 4 ∨ k = 5 := by omega
theorem pl_rem2 {d c : Nat} : nI d - nI (d / c * c) = nI (d % c) := by
  have h : d / c * c ≤ d := Nat.div_mul_le_self d c
  rw [pk_sub h]
  congr 1
  have := Nat.mod_add_div d c
  rw [Nat.mul_comm] at this
  omega
theorem X12_bearsAs {n k : Nat} (h : k < 6) : f_X12_bearsAs n (nI k) = some (nI (bearsN k)) := by
  rcases six h with rfl | rfl | rfl | rfl | rfl | rfl <;> simp (disch := omega) [f_X12_bearsAs_j15, f_X12_bearsAs_j10, f_X12_bearsAs, pl_lit, pl_bl, pl_bd, pl_bd2, pl_bd3, pl_bd4, pl_bcT, pl_bcF, gd_t, pl_bcTrue, pl_bcFalse, pl_gdTrue, pl_in, pl_eq, pl_lt, pl_le, pl_ix, nI_add, pk_mul, pl_m1, bearsN]
theorem X12_reachAs {n k : Nat} (h : k < 6) : f_X12_reachAs n (nI k) = some (nI (reachN k)) := by
  rcases six h with rfl | rfl | rfl | rfl | rfl | rfl <;> simp (disch := omega) [f_X12_reachAs_j31, f_X12_reachAs, pl_lit, pl_bl, pl_bd, pl_bd2, pl_bd3, pl_bd4, pl_bcT, pl_bcF, gd_t, pl_bcTrue, pl_bcFalse, pl_gdTrue, pl_in, pl_eq, pl_lt, pl_le, pl_ix, nI_add, pk_mul, pl_m1, reachN]
theorem X12_coversAs {n k d : Nat} (h : k < 6) (hd : d < 2147483648) : f_X12_coversAs n (nI k) (nI d) = some (nI (signsN k d)) := by
  by_cases h2 : d % 2 = 0 <;> by_cases h7 : d < 7 <;>
  rcases six h with rfl | rfl | rfl | rfl | rfl | rfl <;> simp (disch := omega) [f_X12_coversAs_j53, f_X12_coversAs_j12, f_X12_coversAs, pl_lit, pl_bl, pl_bd, pl_bd2, pl_bd3, pl_bd4, pl_bcT, pl_bcF, gd_t, pl_bcTrue, pl_bcFalse, pl_gdTrue, pl_in, pl_eq, pl_lt, pl_le, pl_ix, nI_add, pk_mul, pl_m1, pl_div, pl_rem2, h2, h7, signsN]
theorem K_bears {n k : Nat} (h : k < 6) : f_K_bears n k = some (nI (bearsN k)) := by
  rcases six h with rfl | rfl | rfl | rfl | rfl | rfl <;> simp (disch := omega) [f_K_bears, f_X5_bears, f_X2_bears, pl_lit, pl_bl, pl_bd, pl_bd2, pl_bd3, pl_bd4, pl_bcT, pl_bcF, gd_t, pl_bcTrue, pl_bcFalse, pl_gdTrue, pl_in, pl_eq, pl_lt, pl_le, pl_ix, nI_add, pk_mul, pl_m1, bearsN]
theorem K_reach {n k : Nat} (h : k < 6) : f_K_reach n k = some (nI (reachN k)) := by
  rcases six h with rfl | rfl | rfl | rfl | rfl | rfl <;> simp (disch := omega) [f_K_reach, f_X5_reach, f_X10_reach, f_X0_reach, f_X9_reach, pl_lit, pl_bl, pl_bd, pl_bd2, pl_bd3, pl_bd4, pl_bcT, pl_bcF, gd_t, pl_bcTrue, pl_bcFalse, pl_gdTrue, pl_in, pl_eq, pl_lt, pl_le, pl_ix, nI_add, pk_mul, pl_m1, pl_div, reachN]
theorem K_signs {n k d : Nat} (h : k < 6) (hd : d < 2147483648) : f_K_signs n k (nI d) = some (nI (signsN k d)) := by
  by_cases h2 : d % 2 = 0 <;> by_cases h7 : d < 7 <;>
  rcases six h with rfl | rfl | rfl | rfl | rfl | rfl <;> simp (disch := omega) [f_K_signs, f_X5_signs, f_X7_signs_j21, f_X7_signs, f_X0_signs_j15, f_X0_signs, f_X9_signs, pl_lit, pl_bl, pl_bd, pl_bd2, pl_bd3, pl_bd4, pl_bcT, pl_bcF, gd_t, pl_bcTrue, pl_bcFalse, pl_gdTrue, pl_in, pl_eq, pl_lt, pl_le, pl_ix, nI_add, pk_mul, pl_m1, pl_div, pl_rem2, h2, h7, signsN]
