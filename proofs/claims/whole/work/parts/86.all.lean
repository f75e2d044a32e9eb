/-! all -/
theorem SM_INV {xo nv rv h0 h1 h2 h3 nt0 cv0 nt1 cv1 nt2 cv2 nt3 cv3 ps0 ps1 ps2 ps3 mo mo' : MV} (h : SM mo mo') (hI : INV xo nv rv h0 h1 h2 h3 nt0 cv0 nt1 cv1 nt2 cv2 nt3 cv3 ps0 ps1 ps2 ps3 mo) : INV xo nv rv h0 h1 h2 h3 nt0 cv0 nt1 cv1 nt2 cv2 nt3 cv3 ps0 ps1 ps2 ps3 mo' := by
  obtain ⟨e1, e2, e3⟩ := h
  unfold INV at *
  rw [e1, e2, e3 0 (by omega) (by omega) (by omega), e3 1 (by omega) (by omega) (by omega), e3 2 (by omega) (by omega) (by omega), e3 3 (by omega) (by omega) (by omega), e3 11 (by omega) (by omega) (by omega)]
  exact hI
theorem ev_dec : ∀ k, k < 6 → (nI 1 <<< (nI k &&& nI 31)) - nI 1 = nI (2 ^ k - 1) := by decide +kernel
theorem X11_everyMember {n : Nat} {xo h : MV} {M : Nat} (hM : M ≤ 5) (e : h.1 0 = nI M) : f_X11_everyMember n xo h = some (nI (2 ^ M - 1)) := by
  have := ev_dec M (by omega)
  simp (disch := omega) only [f_X11_everyMember, e, pl_lit, this]
theorem ev_bs {M : Nat} (hM : M ≤ 5) : 2 ^ M - 1 = bs (fun m => m < M) := by
  have := p_lt M (by omega)
  refine bs_ext (by omega) (fun k hk => ?_)
  rw [Nat.testBit_two_pow_sub_one, decide_eq_true_eq]
theorem qA_ev {a : Nat → Nat} : qA a (fun m => m < a 0) = qA a (fun _ => True) := by
  funext l m
  exact propext ⟨fun z => ⟨z.1, z.2.1, trivial⟩, fun z => ⟨z.1, z.2.1, z.1⟩⟩
theorem best_ev {a : Nat → Nat} : bestS a (fun m => m < a 0) = bestS a (fun _ => True) := by
  unfold bestS
  rw [qA_ev]
theorem pv_paid {li : Nat → Prop} {q : Nat → Nat → Prop} {C : Nat → Nat} : ∀ l, PV li q C l (6 ^ l - 1)
  | 0 => trivial
  | l + 1 => by
    have ih := pv_paid (li := li) (q := q) (C := C) l
    have pp : 0 < 6 ^ l := Nat.pow_pos (by omega)
    have e1 : (6 ^ (l + 1) - 1) / 6 = 6 ^ l - 1 := by rw [Nat.pow_succ]; omega
    have e2 : (6 ^ (l + 1) - 1) % 6 = 5 := by rw [Nat.pow_succ]; omega
    show PV li q C l ((6 ^ (l + 1) - 1) / 6) ∧ okD li q C (cntP li l ((6 ^ (l + 1) - 1) / 6)) l ((6 ^ (l + 1) - 1) % 6)
    rw [e1, e2]
    refine ⟨ih, ?_⟩
    by_cases c : li l
    · exact Or.inl ⟨c, Or.inl rfl⟩
    · exact Or.inr ⟨c, rfl⟩
theorem best_pos {a : Nat → Nat} {A : Nat → Prop} : 0 < (bestS a A).1 := by
  have pp : 0 < 6 ^ a 1 := Nat.pow_pos (by omega)
  have := (mx_spec (li := liA a) (q := qA a A) (C := CA a) (po := postN a) (L := a 1) (w0 := fun _ => 0) (6 ^ a 1)).1 (6 ^ a 1 - 1) (by omega) (pv_paid (a 1))
  have this : sP (liA a) (postN a) (a 1) (6 ^ a 1 - 1) + 1 ≤ (bestS a A).1 := this
  omega
theorem m1_toInt : m1.toInt = -1 := by decide
theorem sim_all {n : Nat} (hn : 50000 ≤ n) : SIM_all n INV := by
  intro xo nv rv h0 h1 h2 h3 nt0 cv0 nt1 cv1 nt2 cv2 nt3 cv3 ps0 ps1 ps2 ps3 mo v1 hI
  have hI0 := hI
  obtain ⟨⟨a, ha, ht, hh, hc, hn', hp⟩, i2⟩ := hI
  have h6 := okL ha
  have p1 := X11_isLetter (n := n) (xo := xo) (h := h0) (v := v1) (M := a 1) (by omega) hh.2.1
  have eL := X12_letters (n := n) (mo := mo) (a := a) ht.2.1
  have p2 := X12_in (n := n) (v := v1) (x := -1) (y := nI (a 1) - 1)
  have p2 : f_X12_in n v1.toInt64 (-1) ((nI (a 1) - 1 : Int32).toInt64) = some (bI (-1 ≤ v1 ∧ v1 ≤ nI (a 1) - 1)) := p2
  have eE := X11_everyMember (n := n) (xo := xo) (h := h0) (M := a 0) h6.1 hh.1
  obtain ⟨nv', g1, g2, g3⟩ := X3_solve (n := n) (nv := nv) (A := fun m => m < a 0) (S := 2 ^ a 0 - 1) (by omega) ha hh (by rw [ev_bs h6.1])
  obtain ⟨mo', g4, g5, g6⟩ := X12_allL (n := n) (mo := mo) (v1 := v1) hn ha ht
  rw [best_ev] at g1 g2 g3
  have bp := best_pos (a := a) (A := fun _ => True)
  have lt1 : (nI (a 1) - 1 : Int32).toInt = (a 1 : Int) - 1 := pk_sub_toInt (a := a 1) (b := 1) (by omega) (by omega)
  by_cases c1 : v1 = -1
  · subst c1
    have t : (-1 : Int32) ≤ -1 ∧ (-1 : Int32) ≤ nI (a 1) - 1 := ⟨Int32.le_iff_toInt_le.mpr (Int.le_refl _), by
      rw [Int32.le_iff_toInt_le, lt1]
      have : (-1 : Int32).toInt = -1 := by decide
      omega⟩
    rw [bI_T t] at p2
    refine ⟨mI (bestS a (fun _ => True)).1, xo, nv', mo', ?_, ?_, SM_INV g5 hI0⟩
    · unfold f_X11_all f_X11_all_j18
      rw [bc_T rfl, eE]
      simp only [pl_bd]
      rw [g1]
      simp only [pl_bd2, pl_bcTrue]
      rfl
    · unfold f_X12_all
      rw [eL]
      simp only [pl_bd]
      rw [p2]
      simp only [pl_bd]
      rw [bc_F (by decide)]
      have g4 : f_X12_all_l29 n n mo (-1) 0 (-1) = some (mI (bestS a (fun _ => True)).1, mo') := g4
      rw [g4]
      simp only [pl_bd2, pl_bcTrue]
      rfl
  · refine inR_cases (v := v1) (N := a 1) (fun l hl e => ?_) (fun c => ?_)
    · subst e
      rw [bI_in hl] at p1
      have t : (-1 : Int32) ≤ nI l ∧ nI l ≤ nI (a 1) - 1 := by
        constructor
        · rw [Int32.le_iff_toInt_le, nI_toInt (by omega)]
          have : (-1 : Int32).toInt = -1 := by decide
          omega
        · rw [Int32.le_iff_toInt_le, lt1, nI_toInt (by omega)]
          omega
      rw [bI_T t] at p2
      refine ⟨nI ((bestS a (fun _ => True)).2 l), xo, nv', mo', ?_, ?_, SM_INV g5 hI0⟩
      · unfold f_X11_all f_X11_all_j18
        rw [bc_F c1, p1]
        simp only [pl_bd]
        rw [bc_F (show ¬ nI 1 = 0 by decide), eE]
        simp only [pl_bd]
        rw [g1]
        simp only [pl_bd2]
        rw [bc_F c1, gd_t (show vp_in (nI l) 6 by rw [pl_in (by omega)]; omega), show ix (nI l) = l from pl_ix (by omega), g3 bp l hl]
        rfl
      · unfold f_X12_all
        rw [eL]
        simp only [pl_bd]
        rw [p2]
        simp only [pl_bd]
        rw [bc_F (by decide)]
        have g4 : f_X12_all_l29 n n mo (nI l) 0 (-1) = some (mI (bestS a (fun _ => True)).1, mo') := g4
        rw [g4]
        simp only [pl_bd2]
        rw [bc_F c1, gd_t (show vp_in (nI l) 6 by rw [pl_in (by omega)]; omega), show ix (nI l) = l from pl_ix (by omega), g6 bp l hl]
        rfl
    · rw [bI_nin c] at p1
      have t : ¬ ((-1 : Int32) ≤ v1 ∧ v1 ≤ nI (a 1) - 1) := fun z => by
        apply c
        rw [inR_iff (by omega)]
        obtain ⟨z1, z2⟩ := z
        rw [Int32.le_iff_toInt_le, lt1] at z2
        rw [Int32.le_iff_toInt_le] at z1
        have q : (-1 : Int32).toInt = -1 := by decide
        have nz : ¬ v1.toInt = -1 := fun w => c1 (Int32.toInt_inj.mp (by rw [w, q]))
        omega
      rw [bI_F t] at p2
      refine ⟨-10, badX xo, nv, refM mo 0, ?_, ?_, hI0.bad⟩
      · unfold f_X11_all
        rw [bc_F c1, p1]
        simp only [pl_bd]
        rw [bc_T (show nI 0 = 0 from rfl), X11_obad]
        rfl
      · unfold f_X12_all
        rw [eL]
        simp only [pl_bd]
        rw [p2]
        simp only [pl_bd]
        rw [pl_bcTrue, X12_bad]
        rfl
/-! fewest -/
noncomputable def mbF (VF : Nat → Prop) (us : Nat → Nat) : Nat → Option Nat
  | 0 => none
  | i + 1 => @ite _ (VF i ∧ ∀ b, mbF VF us i = some b → bcN (us i) < bcN b ∨ (bcN (us i) = bcN b ∧ us i < b)) (Classical.propDecidable _) (some (us i)) (mbF VF us i)
section FEW
variable {VF : Nat → Prop} {us : Nat → Nat}
theorem mb_T {i : Nat} (c : VF i ∧ ∀ b, mbF VF us i = some b → bcN (us i) < bcN b ∨ (bcN (us i) = bcN b ∧ us i < b)) : mbF VF us (i + 1) = some (us i) := if_pos c
theorem mb_F {i : Nat} (c : ¬ (VF i ∧ ∀ b, mbF VF us i = some b → bcN (us i) < bcN b ∨ (bcN (us i) = bcN b ∧ us i < b))) : mbF VF us (i + 1) = mbF VF us i := if_neg c
theorem mb_spec : ∀ n, (∀ b, mbF VF us n = some b → (∃ c, c < n ∧ VF c ∧ us c = b) ∧ ∀ c, c < n → VF c → bcN b < bcN (us c) ∨ (bcN b = bcN (us c) ∧ b ≤ us c)) ∧ (mbF VF us n = none → ∀ c, c < n → ¬ VF c)
  | 0 => ⟨fun b h => absurd (show (none : Option Nat) = some b from h) (by simp), fun _ j hj => absurd hj (Nat.not_lt_zero j)⟩
  | n + 1 => by
    obtain ⟨h1, h2⟩ := mb_spec n
    by_cases c : VF n ∧ ∀ b, mbF VF us n = some b → bcN (us n) < bcN b ∨ (bcN (us n) = bcN b ∧ us n < b)
    · rw [mb_T c]
      refine ⟨fun b h => ?_, fun h => by cases h⟩
      cases h
      refine ⟨⟨n, by omega, c.1, rfl⟩, fun j hj hV => ?_⟩
      by_cases e : j = n
      · rw [e]; exact Or.inr ⟨rfl, Nat.le_refl _⟩
      · cases hE : mbF VF us n with
        | none => exact absurd hV (h2 hE j (by omega))
        | some b =>
          have k1 := c.2 b hE
          have k2 := (h1 b hE).2 j (by omega) hV
          omega
    · rw [mb_F c]
      refine ⟨fun b h => ?_, fun h j hj hV => ?_⟩
      · obtain ⟨⟨x, k1, k2, k3⟩, k4⟩ := h1 b h
        refine ⟨⟨x, by omega, k2, k3⟩, fun j hj hV => ?_⟩
        by_cases e : j = n
        · subst e
          by_cases g : bcN (us j) < bcN b ∨ (bcN (us j) = bcN b ∧ us j < b)
          · exact absurd ⟨hV, fun b' h' => by rw [h] at h'; cases h'; exact g⟩ c
          · omega
        · exact k4 j (by omega) hV
      · by_cases e : j = n
        · subst e
          exact c ⟨hV, fun b h' => by rw [h] at h'; cases h'⟩
        · exact h2 h j (by omega) hV
theorem few_eq {N M2 : Nat} {fe : Nat → Prop} (hM : M2 ≤ 64) (hu : ∀ c, c < N → VF c → us c < M2) (hfe : ∀ S, S < M2 → (fe S ↔ ∃ c, c < N ∧ VF c ∧ us c &&& S = us c)) : rbN fe M2 = mbF VF us N := by
  obtain ⟨r1, r2⟩ := rb_spec (V := fe) M2
  obtain ⟨m1', m2'⟩ := mb_spec (VF := VF) (us := us) N
  have fu : ∀ c, c < N → VF c → fe (us c) := fun c hc hV => (hfe _ (hu c hc hV)).mpr ⟨c, hc, hV, Nat.and_self _⟩
  cases hR : rbN fe M2 with
  | none =>
    cases hB : mbF VF us N with
    | none => rfl
    | some u =>
      obtain ⟨⟨c, k1, k2, k3⟩, -⟩ := m1' u hB
      exact absurd (fu c k1 k2) (r2 hR _ (hu c k1 k2))
  | some b =>
    obtain ⟨k1, k2, k3, k4⟩ := r1 b hR
    obtain ⟨c0, q1, q2, q3⟩ := (hfe b k2).mp k1
    have s1 := hu c0 q1 q2
    have le : us c0 ≤ b := by rw [← q3]; exact Nat.and_le_right
    have eq0 : us c0 = b := by
      by_cases z : us c0 < b
      · have t1 := sub_dec (us c0) (by omega) b (by omega) q3 z
        have t2 := k3 (us c0) s1 (fu c0 q1 q2)
        omega
      · omega
    cases hB : mbF VF us N with
    | none => exact absurd q2 (m2' hB c0 q1)
    | some u =>
      obtain ⟨⟨c, j1, j2, j3⟩, j4⟩ := m1' u hB
      have t1 := j4 c0 q1 q2
      rw [eq0] at t1
      have s2 := hu c j1 j2
      have f2 := fu c j1 j2
      rw [j3] at s2 f2
      have t2 := k3 u s2 f2
      have t3 := fun z => k4 u z f2
      congr 1
      by_cases z : u < b
      · have := t3 z
        omega
      · omega
end FEW
def usW (w : Nat → Nat) : Nat → Nat
  | 0 => 0
  | i + 1 => if w i < 5 then usW w i ||| 2 ^ w i else usW w i
theorem usW_lt {w : Nat → Nat} : ∀ l, usW w l < 64
  | 0 => by show 0 < 64; omega
  | l + 1 => by
    have ih := usW_lt (w := w) l
    unfold usW
    split
    · rename_i c
      exact Nat.or_lt_two_pow (n := 6) ih (p_lt _ (by omega))
    · exact ih
theorem usW_t {w : Nat → Nat} {m : Nat} : ∀ l, (usW w l).testBit m = true ↔ m < 5 ∧ ∃ i, i < l ∧ w i = m
  | 0 => by
    show (0).testBit m = true ↔ _
    rw [Nat.zero_testBit]
    exact ⟨fun z => (by cases z), fun ⟨_, i, hi, _⟩ => absurd hi (Nat.not_lt_zero i)⟩
  | l + 1 => by
    have ih := usW_t (w := w) (m := m) l
    unfold usW
    split
    · rename_i c
      rw [Nat.testBit_or, Bool.or_eq_true, ih, Nat.testBit_two_pow, decide_eq_true_eq]
      constructor
      · rintro (⟨z1, i, z2, z3⟩ | z)
        · exact ⟨z1, i, by omega, z3⟩
        · exact ⟨by omega, l, by omega, z⟩
      · rintro ⟨z1, i, z2, z3⟩
        by_cases e : i = l
        · subst e; exact Or.inr z3
        · exact Or.inl ⟨z1, i, by omega, z3⟩
    · rename_i c
      rw [ih]
      constructor
      · rintro ⟨z1, i, z2, z3⟩
        exact ⟨z1, i, by omega, z3⟩
      · rintro ⟨z1, i, z2, z3⟩
        by_cases e : i = l
        · subst e; omega
        · exact ⟨z1, i, by omega, z3⟩
theorem wv_le {li : Nat → Prop} {l d : Nat} (hd : d < 6) : wv li l d ≤ 6 := by
  by_cases c : li l
  · rw [show wv li l d = d from if_pos c]; omega
  · rw [show wv li l d = 6 from if_neg c]; omega
theorem wP_le {li : Nat → Prop} : ∀ l P i, wP li l P i ≤ 6
  | 0, _, _ => Nat.zero_le _
  | l + 1, P, i => by
    have ih := wP_le (li := li) l (P / 6) i
    by_cases e : i = l
    · subst e
      rw [wP_at]
      exact wv_le (Nat.mod_lt _ (by omega))
    · rw [show wP li (l + 1) P i = wP li l (P / 6) i from if_neg e]
      exact ih
section FEW2
variable {a : Nat → Nat} {A : Nat → Prop}
theorem fu_iff (ha : okA a) : ∀ l P, l ≤ a 1 → sP (liA a) (postN a) l P ≤ sm (dueN a) l ∧ (sP (liA a) (postN a) l P = sm (dueN a) l ↔ ∀ i, i < l → wP (liA a) l P i ≠ 5)
  | 0, _, _ => ⟨Nat.zero_le _, ⟨fun _ i hi => absurd hi (Nat.not_lt_zero i), fun _ => rfl⟩⟩
  | l + 1, P, hl => by
    obtain ⟨h1, h2⟩ := fu_iff ha l (P / 6) (by omega)
    have po := (postN_le ha (show l < a 1 by omega)).1
    have hd : P % 6 < 6 := Nat.mod_lt _ (by omega)
    have all : (∀ i, i < l + 1 → wP (liA a) (l + 1) P i ≠ 5) ↔ (∀ i, i < l → wP (liA a) l (P / 6) i ≠ 5) ∧ wv (liA a) l (P % 6) ≠ 5 := by
      constructor
      · intro z
        refine ⟨fun i hi => ?_, ?_⟩
        · rw [← wP_lo hi]; exact z i (by omega)
        · rw [← wP_at (P := P)]; exact z l (by omega)
      · rintro ⟨z1, z2⟩ i hi
        by_cases e : i = l
        · subst e; rw [wP_at]; exact z2
        · rw [wP_lo (by omega)]; exact z1 i (by omega)
    rw [all, ← h2]
    show sP (liA a) (postN a) l (P / 6) + iI (liA a l ∧ P % 6 ≠ 5) (postN a l) ≤ sm (dueN a) l + dueN a l ∧ (sP (liA a) (postN a) l (P / 6) + iI (liA a l ∧ P % 6 ≠ 5) (postN a l) = sm (dueN a) l + dueN a l ↔ _)
    by_cases c : liA a l
    · rw [show dueN a l = postN a l from if_pos c, show wv (liA a) l (P % 6) = P % 6 from if_pos c]
      by_cases d : P % 6 = 5
      · rw [iI_F (fun z => z.2 d)]
        refine ⟨by omega, ⟨fun z => by omega, fun z => absurd d z.2⟩⟩
      · rw [iI_T ⟨c, d⟩]
        exact ⟨by omega, ⟨fun z => ⟨by omega, d⟩, fun z => by omega⟩⟩
    · rw [show dueN a l = 0 from if_neg c, show wv (liA a) l (P % 6) = 6 from if_neg c, iI_F (fun z => c z.1)]
      exact ⟨by omega, ⟨fun z => ⟨by omega, by omega⟩, fun z => by omega⟩⟩
theorem pv_A (h5 : a 0 ≤ 5) : ∀ l P, PV (liA a) (qA a A) (CA a) l P ↔ PV (liA a) (qT a) (CA a) l P ∧ ∀ i, i < l → wP (liA a) l P i < 5 → A (wP (liA a) l P i)
  | 0, _ => ⟨fun _ => ⟨trivial, fun i hi => absurd hi (Nat.not_lt_zero i)⟩, fun _ => trivial⟩
  | l + 1, P => by
    have ih := pv_A h5 l (P / 6)
    have hd : P % 6 < 6 := Nat.mod_lt _ (by omega)
    have all : (∀ i, i < l + 1 → wP (liA a) (l + 1) P i < 5 → A (wP (liA a) (l + 1) P i)) ↔ (∀ i, i < l → wP (liA a) l (P / 6) i < 5 → A (wP (liA a) l (P / 6) i)) ∧ (wv (liA a) l (P % 6) < 5 → A (wv (liA a) l (P % 6))) := by
      constructor
      · intro z
        refine ⟨fun i hi => ?_, ?_⟩
        · rw [← wP_lo hi]; exact z i (by omega)
        · rw [← wP_at (P := P)]; exact z l (by omega)
      · rintro ⟨z1, z2⟩ i hi
        by_cases e : i = l
        · subst e; rw [wP_at]; exact z2
        · rw [wP_lo (by omega)]; exact z1 i (by omega)
    rw [all]
    show (PV (liA a) (qA a A) (CA a) l (P / 6) ∧ okD (liA a) (qA a A) (CA a) (cntP (liA a) l (P / 6)) l (P % 6)) ↔ (PV (liA a) (qT a) (CA a) l (P / 6) ∧ okD (liA a) (qT a) (CA a) (cntP (liA a) l (P / 6)) l (P % 6)) ∧ _
    rw [ih]
    by_cases c : liA a l
    · rw [show wv (liA a) l (P % 6) = P % 6 from if_pos c]
      constructor
      · rintro ⟨⟨z1, z2⟩, z3⟩
        rcases z3 with w | w
        · rcases w.2 with x | x
          · exact ⟨⟨z1, Or.inl ⟨c, Or.inl x⟩⟩, z2, fun y => absurd x (by omega)⟩
          · exact ⟨⟨z1, Or.inl ⟨c, Or.inr ⟨⟨x.1.1, x.1.2.1, trivial⟩, x.2⟩⟩⟩, z2, fun _ => x.1.2.2⟩
        · exact absurd c w.1
      · rintro ⟨⟨z1, z3⟩, z2, z4⟩
        refine ⟨⟨z1, z2⟩, ?_⟩
        rcases z3 with w | w
        · rcases w.2 with x | x
          · exact Or.inl ⟨c, Or.inl x⟩
          · have lt := x.1.1
            exact Or.inl ⟨c, Or.inr ⟨⟨x.1.1, x.1.2.1, z4 (by omega)⟩, x.2⟩⟩
        · exact absurd c w.1
    · rw [show wv (liA a) l (P % 6) = 6 from if_neg c]
      constructor
      · rintro ⟨⟨z1, z2⟩, z3⟩
        rcases z3 with w | w
        · exact absurd w.1 c
        · exact ⟨⟨z1, Or.inr w⟩, z2, fun y => absurd y (by omega)⟩
      · rintro ⟨⟨z1, z3⟩, z2, z4⟩
        refine ⟨⟨z1, z2⟩, ?_⟩
        rcases z3 with w | w
        · exact absurd w.1 c
        · exact Or.inr w
theorem pv_M : ∀ l P, PV (liA a) (qT a) (CA a) l P → ∀ i, i < l → wP (liA a) l P i < 5 → wP (liA a) l P i < a 0
  | 0, _, _ => fun i hi => absurd hi (Nat.not_lt_zero i)
  | l + 1, P, h => fun i hi hw => by
    by_cases e : i = l
    · subst e
      rw [wP_at] at hw ⊢
      by_cases c : liA a i
      · rw [show wv (liA a) i (P % 6) = P % 6 from if_pos c] at hw ⊢
        rcases h.2 with w | w
        · rcases w.2 with x | x
          · omega
          · exact x.1.1
        · exact absurd c w.1
      · rw [show wv (liA a) i (P % 6) = 6 from if_neg c] at hw
        omega
    · rw [wP_lo (by omega)] at hw ⊢
      exact pv_M l (P / 6) h.1 i (by omega) hw
def VFa (a : Nat → Nat) (c : Nat) : Prop := PV (liA a) (qT a) (CA a) (a 1) c ∧ ∀ i, i < a 1 → wP (liA a) (a 1) c i ≠ 5
noncomputable def usA (a : Nat → Nat) (c : Nat) : Nat := usW (wP (liA a) (a 1) c) (a 1)
def feA (a : Nat → Nat) (S : Nat) : Prop := (bestS a (fun m => S.testBit m = true)).1 = sm (dueN a) (a 1) + 1
end FEW2
