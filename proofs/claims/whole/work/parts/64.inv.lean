def INV (xo nv rv h0 h1 h2 h3 nt0 cv0 nt1 cv1 nt2 cv2 nt3 cv3 ps0 ps1 ps2 ps3 mo : MV) : Prop :=
  SR h0 cv0 nt0 ps0 (mo.2.1 0) ∧
  (xo.2.1 0 0 = mo.2.1 2 0 ∧ xo.2.1 0 1 = mo.2.1 2 1) ∧
  (¬ xo.2.1 0 0 = 0 → SR h2 cv2 nt2 ps2 (mo.2.1 1)) ∧
  (¬ xo.2.1 0 1 = 0 → SR h3 cv3 nt3 ps3 (fun k => mo.2.1 1 (235 + k))) ∧
  (xo.1 0 = mo.2.1 3 0 ∧ xo.1 1 = mo.2.1 3 1 ∧ xo.1 2 = mo.2.1 3 2) ∧
  (xo.2.2 0 = mo.2.2 0 ∧ xo.2.2 1 = mo.2.2 1) ∧
  ∃ T, T ≤ 150 ∧ rv.1 0 = nI T ∧ mo.1 0 = nI T ∧ ∀ i, i < T → ∃ b, b < 128 ∧ rv.2.1 0 i = nI b ∧ mo.2.1 11 i = nI b
/-- reading and writing states -/
theorem sS_1 {h : MV} {k : Nat} {v : Int32} {j : Nat} : (setS h k v).1 j = if j = k then v else h.1 j := rfl
theorem sS_2 {h : MV} {k : Nat} {v : Int32} : (setS h k v).2 = h.2 := rfl
theorem sA_1 {h : MV} {k : Nat} {f : Nat → Int32} : (setA h k f).1 = h.1 := rfl
theorem sA_2 {h : MV} {k : Nat} {f : Nat → Int32} {j : Nat} : (setA h k f).2.1 j = if j = k then f else h.2.1 j := rfl
theorem sA_3 {h : MV} {k : Nat} {f : Nat → Int32} : (setA h k f).2.2 = h.2.2 := rfl
theorem sL_1 {h : MV} {k : Nat} {v : Int64} : (setL h k v).1 = h.1 := rfl
theorem sL_2 {h : MV} {k : Nat} {v : Int64} : (setL h k v).2.1 = h.2.1 := rfl
theorem sL_3 {h : MV} {k : Nat} {v : Int64} {j : Nat} : (setL h k v).2.2 j = if j = k then v else h.2.2 j := rfl
theorem upd_j {f : Nat → Int32} {k : Nat} {v : Int32} {j : Nat} : upd f k v j = if j = k then v else f j := rfl
/-- what a refusal does on both sides -/
def badX (xo : MV) : MV := setS xo 0 (xo.1 0 + 1)
def noX (xo : MV) : MV := setS xo 1 (xo.1 1 + 1)
def fullX (xo : MV) : MV := setS xo 2 (xo.1 2 + 1)
def refM (mo : MV) (k : Nat) : MV := setA mo 3 (upd (mo.2.1 3) k (mo.2.1 3 k + 1))
theorem X11_bad {n : Nat} {xo : MV} : f_X11_refuseBad n xo = some (-2, badX xo) := rfl
theorem X11_obad {n : Nat} {xo : MV} : f_X11_refuseOtherBad n xo = some (-10, badX xo) := rfl
theorem X11_no {n : Nat} {xo : MV} : f_X11_refuseNo n xo = some (-3, noX xo) := rfl
theorem X11_full {n : Nat} {xo : MV} : f_X11_refuseFull n xo = some (-4, fullX xo) := rfl
theorem X12_bad {n : Nat} {mo : MV} {v : Int32} : f_X12_bad n mo v = some (v, refM mo 0) := by
  simp (disch := omega) only [f_X12_bad, pl_lit, pl_bl, pl_bd, pl_bd2, pl_bd3, pl_bd4, pl_bcT, pl_bcF, gd_t, pl_bcTrue, pl_bcFalse, pl_gdTrue, pl_in, pl_eq, pl_lt, pl_le, pl_ix, nI_add, pk_mul, pl_m1]
  rfl
theorem X12_no {n : Nat} {mo : MV} : f_X12_no n mo = some (-3, refM mo 1) := by
  simp (disch := omega) only [f_X12_no, pl_lit, pl_bl, pl_bd, pl_bd2, pl_bd3, pl_bd4, pl_bcT, pl_bcF, gd_t, pl_bcTrue, pl_bcFalse, pl_gdTrue, pl_in, pl_eq, pl_lt, pl_le, pl_ix, nI_add, pk_mul, pl_m1]
  rfl
theorem X12_full {n : Nat} {mo : MV} : f_X12_full n mo = some (-4, refM mo 2) := by
  simp (disch := omega) only [f_X12_full, pl_lit, pl_bl, pl_bd, pl_bd2, pl_bd3, pl_bd4, pl_bcT, pl_bcF, gd_t, pl_bcTrue, pl_bcFalse, pl_gdTrue, pl_in, pl_eq, pl_lt, pl_le, pl_ix, nI_add, pk_mul, pl_m1]
  rfl
section INVS
variable {xo nv rv h0 h1 h2 h3 nt0 cv0 nt1 cv1 nt2 cv2 nt3 cv3 ps0 ps1 ps2 ps3 mo : MV}
theorem INV.bad (h : INV xo nv rv h0 h1 h2 h3 nt0 cv0 nt1 cv1 nt2 cv2 nt3 cv3 ps0 ps1 ps2 ps3 mo) : INV (badX xo) nv rv h0 h1 h2 h3 nt0 cv0 nt1 cv1 nt2 cv2 nt3 cv3 ps0 ps1 ps2 ps3 (refM mo 0) := by
  obtain ⟨i1, i2, i3, i4, ⟨i5, i6, i7⟩, i8, i9⟩ := h
  refine ⟨i1, i2, i3, i4, ⟨?_, i6, i7⟩, i8, i9⟩
  show xo.1 0 + 1 = mo.2.1 3 0 + 1
  rw [i5]
theorem INV.no (h : INV xo nv rv h0 h1 h2 h3 nt0 cv0 nt1 cv1 nt2 cv2 nt3 cv3 ps0 ps1 ps2 ps3 mo) : INV (noX xo) nv rv h0 h1 h2 h3 nt0 cv0 nt1 cv1 nt2 cv2 nt3 cv3 ps0 ps1 ps2 ps3 (refM mo 1) := by
  obtain ⟨i1, i2, i3, i4, ⟨i5, i6, i7⟩, i8, i9⟩ := h
  refine ⟨i1, i2, i3, i4, ⟨i5, ?_, i7⟩, i8, i9⟩
  show xo.1 1 + 1 = mo.2.1 3 1 + 1
  rw [i6]
theorem INV.full (h : INV xo nv rv h0 h1 h2 h3 nt0 cv0 nt1 cv1 nt2 cv2 nt3 cv3 ps0 ps1 ps2 ps3 mo) : INV (fullX xo) nv rv h0 h1 h2 h3 nt0 cv0 nt1 cv1 nt2 cv2 nt3 cv3 ps0 ps1 ps2 ps3 (refM mo 2) := by
  obtain ⟨i1, i2, i3, i4, ⟨i5, i6, i7⟩, i8, i9⟩ := h
  refine ⟨i1, i2, i3, i4, ⟨i5, i6, ?_⟩, i8, i9⟩
  show xo.1 2 + 1 = mo.2.1 3 2 + 1
  rw [i7]
end INVS
theorem sim_clear (n : Nat) : SIM_clear n INV := by
  intro xo nv rv h0 h1 h2 h3 nt0 cv0 nt1 cv1 nt2 cv2 nt3 cv3 ps0 ps1 ps2 ps3 mo hI
  have hI0 := hI
  obtain ⟨i1, i2, i3, i4, i5, i6, T, i7, i8, i9, i10⟩ := hI
  refine ⟨nI T, setS rv 0 0, setS mo 0 0, ?_, ?_, ⟨i1, i2, i3, i4, i5, i6, 0, by omega, rfl, rfl, fun i hi => absurd hi (Nat.not_lt_zero i)⟩⟩
  · unfold f_X11_clear; rw [i8]; rfl
  · unfold f_X12_clear; rw [i9]; rfl
theorem sim_part (n : Nat) : SIM_part n INV := by
  intro xo nv rv h0 h1 h2 h3 nt0 cv0 nt1 cv1 nt2 cv2 nt3 cv3 ps0 ps1 ps2 ps3 mo v hI
  have hI0 := hI
  obtain ⟨i1, i2, i3, i4, i5, ⟨i6, i7⟩, i8⟩ := hI
  by_cases c0 : v = 0
  · exact ⟨xo.2.2 0, xo, mo, by unfold f_X11_part; rw [bc_T c0], by unfold f_X12_part f_X12_part_j30; rw [bc_T c0, i6], hI0⟩
  · by_cases c1 : v = 1
    · exact ⟨xo.2.2 1, xo, mo, by unfold f_X11_part; rw [bc_F c0, bc_T c1], by unfold f_X12_part f_X12_part_j30; rw [bc_F c0, bc_T c1, i7], hI0⟩
    · exact ⟨_, badX xo, refM mo 0, by unfold f_X11_part; rw [bc_F c0, bc_F c1, X11_bad]; rfl, by unfold f_X12_part f_X12_part_j30; rw [bc_F c0, bc_F c1, X12_bad]; rfl, hI0.bad⟩
theorem sim_status (n : Nat) : SIM_status n INV := by
  intro xo nv rv h0 h1 h2 h3 nt0 cv0 nt1 cv1 nt2 cv2 nt3 cv3 ps0 ps1 ps2 ps3 mo v hI
  have hI0 := hI
  obtain ⟨i1, i2, i3, i4, ⟨i5, i6, i7⟩, i8⟩ := hI
  have e2 := X12_inK (n := n) (v := v) (K := 2) (by omega)
  by_cases c : inR v 3
  · obtain ⟨k, hk, rfl⟩ := c
    have e3 : f_X12_in n (nI k).toInt64 0 2 = some (bI True) := by
      rw [show (2 : Int64) = lN 2 from rfl, e2]
      exact congrArg some (bI_congr ⟨fun _ => trivial, fun _ => ⟨k, hk, rfl⟩⟩)
    have eM : f_X12_status n mo (nI k) = some (mo.2.1 3 k, mo) := by
      simp (disch := omega) only [f_X12_status_j26, f_X12_status, e3, pl_lit, pl_bl, pl_bd, pl_bd2, pl_bd3, pl_bd4, pl_bcT, pl_bcF, gd_t, pl_bcTrue, pl_bcFalse, pl_gdTrue, pl_in, pl_eq, pl_lt, pl_le, pl_ix, nI_add, pk_mul, pl_m1, bI_0n, not_true]
    have : k = 0 ∨ k = 1 ∨ k = 2 := by omega
    rcases this with rfl | rfl | rfl
    · exact ⟨_, xo, mo, by simp (disch := omega) only [f_X11_status, pl_lit, pl_bl, pl_bd, pl_bd2, pl_bd3, pl_bd4, pl_bcT, pl_bcF, gd_t, pl_bcTrue, pl_bcFalse, pl_gdTrue, pl_in, pl_eq, pl_lt, pl_le, pl_ix, nI_add, pk_mul, pl_m1, i5], eM, hI0⟩
    · exact ⟨_, xo, mo, by simp (disch := omega) only [f_X11_status, pl_lit, pl_bl, pl_bd, pl_bd2, pl_bd3, pl_bd4, pl_bcT, pl_bcF, gd_t, pl_bcTrue, pl_bcFalse, pl_gdTrue, pl_in, pl_eq, pl_lt, pl_le, pl_ix, nI_add, pk_mul, pl_m1, i6], eM, hI0⟩
    · exact ⟨_, xo, mo, by simp (disch := omega) only [f_X11_status, pl_lit, pl_bl, pl_bd, pl_bd2, pl_bd3, pl_bd4, pl_bcT, pl_bcF, gd_t, pl_bcTrue, pl_bcFalse, pl_gdTrue, pl_in, pl_eq, pl_lt, pl_le, pl_ix, nI_add, pk_mul, pl_m1, i7], eM, hI0⟩
  · have e3 : f_X12_in n v.toInt64 0 2 = some (bI False) := by
      rw [show (2 : Int64) = lN 2 from rfl, e2]
      exact congrArg some (bI_congr ⟨fun z => c z, False.elim⟩)
    refine ⟨-1, badX xo, refM mo 0, ?_, ?_, hI0.bad⟩
    · unfold f_X11_status
      rw [bc_F (show ¬ v = 0 from fun z => c ⟨0, by omega, z⟩), bc_F (show ¬ v = 1 from fun z => c ⟨1, by omega, z⟩), bc_F (show ¬ v = 2 from fun z => c ⟨2, by omega, z⟩), X11_bad]
      rfl
    · unfold f_X12_status f_X12_status_j26
      rw [e3]
      simp only [pl_bd]
      rw [bc_T (bI_F id), X12_bad]
      rfl
