/-! the house alone: members, letters, signed covers, days -/
theorem lp_cnt' {σ ρ : Type} {body : (Int32 × σ) → Option ((Int32 × σ) ⊕ ρ)} (L : Nat) (g : Nat → σ) (s0 : σ) (r : ρ) (h0 : g 0 = s0) (hb : ∀ i, i < L → body (nI i, g i) = some (.inl (nI (i + 1), g (i + 1)))) (he : body (nI L, g L) = some (.inr r)) {fuel : Nat} (hf : L < fuel) : lp body fuel (nI 0, s0) = some r := by
  rw [← h0]; exact lp_cnt L g r hb he hf
def fillT (t : Nat → Int32) (b i : Nat) (v : Int32) : Nat → Int32 := fun j => if b ≤ j ∧ j < b + i then v else t j
theorem fill_0 {t : Nat → Int32} {b : Nat} {v : Int32} : fillT t b 0 v = t := by funext j; exact if_neg (by omega)
theorem fill_s {t : Nat → Int32} {b i : Nat} {v : Int32} : upd (fillT t b i v) (b + i) v = fillT t b (i + 1) v := by
  funext j
  unfold fillT
  by_cases c : j = b + i
  · subst c; rw [pk_us, if_pos (by omega)]
  · rw [pk_un c]
    by_cases d : b ≤ j ∧ j < b + i
    · rw [if_pos d, if_pos (by omega)]
    · rw [if_neg d, if_neg (by omega)]
theorem fill_in {t : Nat → Int32} {b i j : Nat} {v : Int32} (h : b ≤ j ∧ j < b + i) : fillT t b i v j = v := if_pos h
theorem fill_n {t : Nat → Int32} {b i j : Nat} {v : Int32} (h : j < b ∨ b + i ≤ j) : fillT t b i v j = t j := if_neg (by omega)
def KR (h : MV) (t : Nat → Int32) (a : Nat → Nat) : Prop :=
  (a 0 ≤ 5 ∧ a 1 ≤ 6 ∧ a 23 ≤ 999 ∧ t 0 = nI (a 0) ∧ t 1 = nI (a 1) ∧ t 23 = nI (a 23)) ∧ kM a t ∧ kL a t ∧ hC h a t ∧ hM h a ∧ hL h a
section KRS
variable {n z : Nat} {h h' cv nt ps mo : MV} {t t' : Nat → Int32} {a a' : Nat → Nat} {l m : Nat}
theorem KR_of (ha : okA a) (ht : TR t a) (hh : HO h t a) : KR h t a := by
  obtain ⟨kc, km, kl, -, -, -⟩ := AT_split ha ht
  obtain ⟨qc, qm, ql⟩ := HO_split hh
  exact ⟨⟨kc.1.1, kc.1.2.1, kc.1.2.2.2.2.2, kc.2.1, kc.2.2.1, kc.2.2.2.2.2.2⟩, km, kl, qc, qm, ql⟩
theorem KR_mk (k : KR h t a) (c : a 2 ≤ 6 ∧ a 3 ≤ 6 ∧ a 4 ≤ 8 ∧ t 2 = nI (a 2) ∧ t 3 = nI (a 3) ∧ t 4 = nI (a 4)) (v : kS a t (a 2) 47 99) (w : kS a t (a 3) 65 20) (p : kP a t) (sc : SO cv a (a 2) 47) (sn : SO nt a (a 3) 65) (po : PO ps t a) : SR h cv nt ps t := by
  obtain ⟨⟨c0, c1, c5, d0, d1, d5⟩, km, kl, qc, qm, ql⟩ := k
  obtain ⟨c2, c3, c4, d2, d3, d4⟩ := c
  have hAT := AT_mk (a := a) (t := t) ⟨⟨c0, c1, c2, c3, c4, c5⟩, d0, d1, d2, d3, d4, d5⟩ km kl v w p
  exact ⟨a, hAT.1, hAT.2, HO_mk qc qm ql, sc, sn, po⟩
theorem KR_c (k : KR h t a) (ea : ∀ j, j < 47 → (j < 2 ∨ 5 ≤ j) → a' j = a j) (et : ∀ j, j < 47 → (j < 2 ∨ 5 ≤ j) → t' j = t j) : KR h t' a' := by
  obtain ⟨⟨c0, c1, c5, d0, d1, d5⟩, km, kl, qc, qm, ql⟩ := k
  have e0 := ea 0 (by omega) (by omega)
  have e1 := ea 1 (by omega) (by omega)
  have e23 := ea 23 (by omega) (by omega)
  refine ⟨?_, kM_c km c0 e0 (fun j h1 h2 _ => ea j (by omega) (by omega)) (fun j h1 h2 _ => et j (by omega) (by omega)), kL_c kl c1 e1 (fun j h1 h2 _ => ea j (by omega) (by omega)) (fun j h1 h2 _ => et j (by omega) (by omega)), ?_, hM_c qm c0 e0 (fun j h1 h2 _ => ea j (by omega) (by omega)) ⟨rfl, rfl, rfl⟩, hL_c ql c1 e1 (fun j h1 h2 _ => ea j (by omega) (by omega)) ⟨rfl, rfl, rfl, rfl⟩⟩
  · rw [e0, e1, e23, et 0 (by omega) (by omega), et 1 (by omega) (by omega), et 23 (by omega) (by omega)]
    exact ⟨c0, c1, c5, d0, d1, d5⟩
  · unfold hC
    rw [e0, e1, e23, et 21 (by omega) (by omega), et 22 (by omega) (by omega)]
    exact qc
/-- a member more -/
def memT (t : Nat → Int32) (M k p : Nat) : Nat → Int32 := upd (upd (upd (upd t (24 + M) (nI k)) (16 + M) (nI p)) (11 + M) (nI 0)) 0 (nI (M + 1))
def memN (a : Nat → Nat) (M k p : Nat) : Nat → Nat := uN' (uN' (uN' (uN' a (24 + M) k) (16 + M) p) (11 + M) 0) 0 (M + 1)
def memH (h : MV) (M k p : Nat) : MV := setS (setA (setA (setA h 0 (upd (h.2.1 0) M (nI k))) 1 (upd (h.2.1 1) M (nI p))) 2 (upd (h.2.1 2) M (nI 0))) 0 (nI (M + 1))
theorem memT_n {M k p j : Nat} (h : j ≠ 24 + M ∧ j ≠ 16 + M ∧ j ≠ 11 + M ∧ j ≠ 0) : memT t M k p j = t j := by
  unfold memT; rw [pk_un (by omega), pk_un (by omega), pk_un (by omega), pk_un (by omega)]
theorem memN_n {M k p j : Nat} (h : j ≠ 24 + M ∧ j ≠ 16 + M ∧ j ≠ 11 + M ∧ j ≠ 0) : memN a M k p j = a j := by
  unfold memN; rw [uN_n (by omega), uN_n (by omega), uN_n (by omega), uN_n (by omega)]
theorem memT_m {M k p : Nat} (hM : M < 5) : memT t M k p (24 + M) = nI k ∧ memT t M k p (16 + M) = nI p ∧ memT t M k p (11 + M) = nI 0 := by
  unfold memT
  refine ⟨?_, ?_, ?_⟩
  · rw [pk_un (by omega), pk_un (by omega), pk_un (by omega), pk_us]
  · rw [pk_un (by omega), pk_un (by omega), pk_us]
  · rw [pk_un (by omega), pk_us]
theorem memN_m {M k p : Nat} (hM : M < 5) : memN a M k p (24 + M) = k ∧ memN a M k p (16 + M) = p ∧ memN a M k p (11 + M) = 0 := by
  unfold memN
  refine ⟨?_, ?_, ?_⟩
  · rw [uN_n (by omega), uN_n (by omega), uN_n (by omega), uN_s]
  · rw [uN_n (by omega), uN_n (by omega), uN_s]
  · rw [uN_n (by omega), uN_s]
theorem X12_layMember {M k p : Nat} (hz : 83 ≤ z) (e : t 0 = nI M) (hM : M < 5) : f_X12_layMember n z t (nI k) (nI p) = some (memT t M k p) := by
  simp (disch := omega) only [f_X12_layMember, pl_lit, pl_bl, pl_bd, pl_bd2, pl_bd3, pl_bd4, pl_bcT, pl_bcF, gd_t, pl_bcTrue, pl_bcFalse, pl_gdTrue, pl_in, pl_eq, pl_lt, pl_le, pl_ix, nI_add, pk_mul, pl_m1, e, pk_un, memT]
theorem X1_addMember {M k p : Nat} (e : h.1 0 = nI M) (hM : M < 5) : f_X1_addMember n h (nI k) (nI p) = some (nI M, memH h M k p) := by
  simp (disch := omega) only [f_X1_addMember, pl_lit, pl_bl, pl_bd, pl_bd2, pl_bd3, pl_bd4, pl_bcT, pl_bcF, gd_t, pl_bcTrue, pl_bcFalse, pl_gdTrue, pl_in, pl_eq, pl_lt, pl_le, pl_ix, nI_add, pk_mul, pl_m1, e, sA_1, sS_s, pk_sub, Nat.add_sub_cancel]
  rfl
theorem KR_mem {k p : Nat} (q : KR h t a) (hM : a 0 < 5) (hk : k < 6) (hp : p ≤ 99) : KR (memH h (a 0) k p) (memT t (a 0) k p) (memN a (a 0) k p) := by
  obtain ⟨⟨c0, c1, c5, d0, d1, d5⟩, km, kl, qc, qm, ql⟩ := q
  obtain ⟨s0, s1, s2, s3, s4⟩ := qc
  have e0 : memN a (a 0) k p 0 = a 0 + 1 := uN_s
  have f0 : memT t (a 0) k p 0 = nI (a 0 + 1) := pk_us
  have e1 : memN a (a 0) k p 1 = a 1 := memN_n (by omega)
  have e23 : memN a (a 0) k p 23 = a 23 := memN_n (by omega)
  have f1 : memT t (a 0) k p 1 = t 1 := memT_n (by omega)
  have f23 : memT t (a 0) k p 23 = t 23 := memT_n (by omega)
  obtain ⟨x1, x2, x3⟩ := memN_m (a := a) (k := k) (p := p) hM
  obtain ⟨y1, y2, y3⟩ := memT_m (t := t) (k := k) (p := p) hM
  refine ⟨?_, ?_, ?_, ?_, ?_, ?_⟩
  · rw [e0, e1, e23, f0, f1, f23]
    exact ⟨by omega, c1, c5, rfl, d1, d5⟩
  · intro m hm
    rw [e0] at hm
    by_cases c : m = a 0
    · subst c
      rw [x1, x2, x3, y1, y2, y3]
      exact ⟨⟨hk, hp, by omega⟩, rfl, rfl, rfl⟩
    · rw [memN_n (by omega), memN_n (by omega), memN_n (by omega), memT_n (by omega), memT_n (by omega), memT_n (by omega)]
      exact km m (by omega)
  · exact kL_c kl c1 e1 (fun j h1 h2 _ => memN_n (by omega)) (fun j h1 h2 _ => memT_n (by omega))
  · unfold hC
    rw [e0, e1, e23, memT_n (by omega), memT_n (by omega)]
    exact ⟨rfl, s1, s2, s3, s4⟩
  · intro m hm
    rw [e0] at hm
    show upd (h.2.1 0) (a 0) (nI k) m = _ ∧ upd (h.2.1 1) (a 0) (nI p) m = _ ∧ upd (h.2.1 2) (a 0) (nI 0) m = _
    by_cases c : m = a 0
    · subst c
      rw [x1, x2, x3, pk_us, pk_us, pk_us]
      exact ⟨rfl, rfl, rfl⟩
    · rw [pk_un c, pk_un c, pk_un c, memN_n (by omega), memN_n (by omega), memN_n (by omega)]
      exact qm m (by omega)
  · exact hL_c ql c1 e1 (fun j h1 h2 _ => memN_n (by omega)) ⟨rfl, rfl, rfl, rfl⟩
/-- a letter more -/
def letT (t : Nat → Int32) (L x y w : Nat) : Nat → Int32 := upd (upd (upd (upd (upd t (29 + 3 * L) (nI x)) (29 + 3 * L + 1) (nI y)) (29 + 3 * L + 2) (nI w)) (5 + L) m1) 1 (nI (L + 1))
def letN (a : Nat → Nat) (L x y w : Nat) : Nat → Nat := uN' (uN' (uN' (uN' (uN' a (29 + 3 * L) x) (29 + 3 * L + 1) y) (29 + 3 * L + 2) w) (5 + L) 6) 1 (L + 1)
def letH (h : MV) (L x y w : Nat) : MV := setS (setA (setA (setA (setA h 3 (upd (h.2.1 3) L (nI x))) 4 (upd (h.2.1 4) L (nI y))) 5 (upd (h.2.1 5) L (nI w))) 6 (upd (h.2.1 6) L m1)) 1 (nI (L + 1))
theorem letT_n {L x y w j : Nat} (h : (j < 29 + 3 * L ∨ 29 + 3 * L + 3 ≤ j) ∧ j ≠ 5 + L ∧ j ≠ 1) : letT t L x y w j = t j := by
  unfold letT; rw [pk_un (by omega), pk_un (by omega), pk_un (by omega), pk_un (by omega), pk_un (by omega)]
theorem letN_n {L x y w j : Nat} (h : (j < 29 + 3 * L ∨ 29 + 3 * L + 3 ≤ j) ∧ j ≠ 5 + L ∧ j ≠ 1) : letN a L x y w j = a j := by
  unfold letN; rw [uN_n (by omega), uN_n (by omega), uN_n (by omega), uN_n (by omega), uN_n (by omega)]
theorem letT_m {L x y w : Nat} (hL : L < 6) : letT t L x y w (29 + 3 * L) = nI x ∧ letT t L x y w (30 + 3 * L) = nI y ∧ letT t L x y w (31 + 3 * L) = nI w ∧ letT t L x y w (5 + L) = m1 := by
  unfold letT
  refine ⟨?_, ?_, ?_, ?_⟩
  · rw [pk_un (by omega), pk_un (by omega), pk_un (by omega), pk_un (by omega), pk_us]
  · rw [show 30 + 3 * L = 29 + 3 * L + 1 by omega, pk_un (by omega), pk_un (by omega), pk_un (by omega), pk_us]
  · rw [show 31 + 3 * L = 29 + 3 * L + 2 by omega, pk_un (by omega), pk_un (by omega), pk_us]
  · rw [pk_un (by omega), pk_us]
theorem letN_m {L x y w : Nat} (hL : L < 6) : letN a L x y w (29 + 3 * L) = x ∧ letN a L x y w (30 + 3 * L) = y ∧ letN a L x y w (31 + 3 * L) = w ∧ letN a L x y w (5 + L) = 6 := by
  unfold letN
  refine ⟨?_, ?_, ?_, ?_⟩
  · rw [uN_n (by omega), uN_n (by omega), uN_n (by omega), uN_n (by omega), uN_s]
  · rw [show 30 + 3 * L = 29 + 3 * L + 1 by omega, uN_n (by omega), uN_n (by omega), uN_n (by omega), uN_s]
  · rw [show 31 + 3 * L = 29 + 3 * L + 2 by omega, uN_n (by omega), uN_n (by omega), uN_s]
  · rw [uN_n (by omega), uN_s]
theorem X12_layLetter {L x y w : Nat} (hz : 83 ≤ z) (e : t 1 = nI L) (hL : L < 6) : f_X12_layLetter n z t (nI x) (nI y) (nI w) = some (letT t L x y w) := by
  simp (disch := omega) only [f_X12_layLetter, pl_lit, pl_bl, pl_bd, pl_bd2, pl_bd3, pl_bd4, pl_bcT, pl_bcF, gd_t, pl_bcTrue, pl_bcFalse, pl_gdTrue, pl_in, pl_eq, pl_lt, pl_le, pl_ix, nI_add, pk_mul, pl_m1, e, pk_un, letT, Nat.add_zero]
theorem X1_addLetter {L x y w : Nat} (e : h.1 1 = nI L) (hL : L < 6) : f_X1_addLetter n h (nI x) (nI y) (nI w) = some (nI L, letH h L x y w) := by
  simp (disch := omega) only [f_X1_addLetter, pl_lit, pl_bl, pl_bd, pl_bd2, pl_bd3, pl_bd4, pl_bcT, pl_bcF, gd_t, pl_bcTrue, pl_bcFalse, pl_gdTrue, pl_in, pl_eq, pl_lt, pl_le, pl_ix, nI_add, pk_mul, pl_m1, e, sA_1, sS_s, pk_sub, Nat.add_sub_cancel]
  rfl
theorem KR_let {x y w : Nat} (q : KR h t a) (hL' : a 1 < 6) (hx : x ≤ 99) (hy : y ≤ 99) (hw : 1 ≤ w) (hw' : w ≤ 9) : KR (letH h (a 1) x y w) (letT t (a 1) x y w) (letN a (a 1) x y w) := by
  obtain ⟨⟨c0, c1, c5, d0, d1, d5⟩, km, kl, qc, qm, ql⟩ := q
  obtain ⟨s0, s1, s2, s3, s4⟩ := qc
  have e1 : letN a (a 1) x y w 1 = a 1 + 1 := uN_s
  have f1 : letT t (a 1) x y w 1 = nI (a 1 + 1) := pk_us
  have e0 : letN a (a 1) x y w 0 = a 0 := letN_n (by omega)
  have e23 : letN a (a 1) x y w 23 = a 23 := letN_n (by omega)
  have f0 : letT t (a 1) x y w 0 = t 0 := letT_n (by omega)
  have f23 : letT t (a 1) x y w 23 = t 23 := letT_n (by omega)
  obtain ⟨x1, x2, x3, x4⟩ := letN_m (a := a) (x := x) (y := y) (w := w) hL'
  obtain ⟨y1, y2, y3, y4⟩ := letT_m (t := t) (x := x) (y := y) (w := w) hL'
  refine ⟨?_, ?_, ?_, ?_, ?_, ?_⟩
  · rw [e0, e1, e23, f0, f1, f23]
    exact ⟨c0, by omega, c5, d0, rfl, d5⟩
  · exact kM_c km c0 e0 (fun j h1 h2 _ => letN_n (by omega)) (fun j h1 h2 _ => letT_n (by omega))
  · intro l hl
    rw [e1] at hl
    by_cases c : l = a 1
    · subst c
      rw [x1, x2, x3, x4, y1, y2, y3, y4]
      exact ⟨⟨hx, hy, hw, hw', by omega⟩, rfl, rfl, rfl, rfl⟩
    · rw [letN_n (by omega), letN_n (by omega), letN_n (by omega), letN_n (by omega), letT_n (by omega), letT_n (by omega), letT_n (by omega), letT_n (by omega)]
      exact kl l (by omega)
  · unfold hC
    rw [e0, e1, e23, letT_n (by omega), letT_n (by omega)]
    exact ⟨s0, rfl, s2, s3, s4⟩
  · exact hM_c qm c0 e0 (fun j h1 h2 _ => letN_n (by omega)) ⟨rfl, rfl, rfl⟩
  · intro l hl
    rw [e1] at hl
    show upd (h.2.1 3) (a 1) (nI x) l = _ ∧ upd (h.2.1 4) (a 1) (nI y) l = _ ∧ upd (h.2.1 5) (a 1) (nI w) l = _ ∧ upd (h.2.1 6) (a 1) m1 l = _
    by_cases c : l = a 1
    · subst c
      rw [x1, x2, x3, x4, pk_us, pk_us, pk_us, pk_us]
      exact ⟨rfl, rfl, rfl, rfl⟩
    · rw [pk_un c, pk_un c, pk_un c, pk_un c, letN_n (by omega), letN_n (by omega), letN_n (by omega), letN_n (by omega)]
      exact ql l (by omega)
/-- an empty house -/
def begT (t : Nat → Int32) : Nat → Int32 := fillT (fillT t 0 83 (nI 0)) 5 6 m1
theorem X12_begin (hn : 100 ≤ n) (hz : 83 ≤ z) : f_X12_begin n z t = some (begT t) := by
  have s1 : f_X12_begin_l2 n n z t 0 = some (fillT t 0 83 (nI 0)) := by
    refine lp_cnt' 83 (fun i => fillT t 0 i (nI 0)) t _ fill_0 (fun i hi => ?_) ?_ (by omega)
    · have := fill_s (t := t) (b := 0) (i := i) (v := nI 0)
      rw [Nat.zero_add] at this
      simp (disch := omega) only [f_X12_begin_b2, f_X12_begin_l2, f_X12_begin_b20, f_X12_begin_l20, f_X12_begin, pl_lit, pl_bl, pl_bd, pl_bd2, pl_bd3, pl_bd4, pl_bcT, pl_bcF, gd_t, pl_bcTrue, pl_bcFalse, pl_gdTrue, pl_in, pl_eq, pl_lt, pl_le, pl_ix, nI_add, pk_mul, pl_m1, this]
    · simp (disch := omega) only [f_X12_begin_b2, f_X12_begin_l2, f_X12_begin_b20, f_X12_begin_l20, f_X12_begin, pl_lit, pl_bl, pl_bd, pl_bd2, pl_bd3, pl_bd4, pl_bcT, pl_bcF, gd_t, pl_bcTrue, pl_bcFalse, pl_gdTrue, pl_in, pl_eq, pl_lt, pl_le, pl_ix, nI_add, pk_mul, pl_m1]
  have s2 : f_X12_begin_l20 n n z (fillT t 0 83 (nI 0)) 0 = some (begT t) := by
    refine lp_cnt' 6 (fun i => fillT (fillT t 0 83 (nI 0)) 5 i m1) _ _ fill_0 (fun i hi => ?_) ?_ (by omega)
    · simp (disch := omega) only [f_X12_begin_b2, f_X12_begin_l2, f_X12_begin_b20, f_X12_begin_l20, f_X12_begin, pl_lit, pl_bl, pl_bd, pl_bd2, pl_bd3, pl_bd4, pl_bcT, pl_bcF, gd_t, pl_bcTrue, pl_bcFalse, pl_gdTrue, pl_in, pl_eq, pl_lt, pl_le, pl_ix, nI_add, pk_mul, pl_m1, fill_s]
    · simp (disch := omega) only [f_X12_begin_b2, f_X12_begin_l2, f_X12_begin_b20, f_X12_begin_l20, f_X12_begin, pl_lit, pl_bl, pl_bd, pl_bd2, pl_bd3, pl_bd4, pl_bcT, pl_bcF, gd_t, pl_bcTrue, pl_bcFalse, pl_gdTrue, pl_in, pl_eq, pl_lt, pl_le, pl_ix, nI_add, pk_mul, pl_m1]
      rfl
  unfold f_X12_begin
  rw [s1]
  simp only [pl_bd]
  rw [s2]
  rfl
theorem begT_0 {j : Nat} (hj : j < 83) (h5 : j < 5 ∨ 11 ≤ j) : begT t j = nI 0 := by
  unfold begT; rw [fill_n (by omega), fill_in (by omega)]
def empH (h : MV) : MV := setS (setS (setS (setS (setS h 0 0) 1 0) 2 0) 3 0) 4 0
theorem KR_emp : KR (empH h) (begT t) (fun _ => 0) := by
  refine ⟨⟨Nat.zero_le _, Nat.zero_le _, Nat.zero_le _, begT_0 (by omega) (by omega), begT_0 (by omega) (by omega), begT_0 (by omega) (by omega)⟩, fun m hm => absurd hm (Nat.not_lt_zero m), fun m hm => absurd hm (Nat.not_lt_zero m), ⟨rfl, rfl, rfl, ?_, ?_⟩, fun m hm => absurd hm (Nat.not_lt_zero m), fun m hm => absurd hm (Nat.not_lt_zero m)⟩
  · rw [begT_0 (by omega) (by omega)]; rfl
  · rw [begT_0 (by omega) (by omega)]; rfl
theorem X1_makeEmpty : f_X1_makeEmpty n h nt cv ps = some (empH h, setS nt 0 0, setS cv 0 0, setS (setS ps 0 0) 1 0) := rfl
theorem SR_emp : SR (empH h) (setS cv 0 0) (setS nt 0 0) (setS (setS ps 0 0) 1 0) (begT t) := by
  refine KR_mk (a := fun _ => 0) KR_emp ⟨Nat.zero_le _, Nat.zero_le _, Nat.zero_le _, begT_0 (by omega) (by omega), begT_0 (by omega) (by omega), begT_0 (by omega) (by omega)⟩ (fun m hm => absurd hm (Nat.not_lt_zero m)) (fun m hm => absurd hm (Nat.not_lt_zero m)) (fun m hm => absurd hm (Nat.not_lt_zero m)) ⟨rfl, fun m hm => absurd hm (Nat.not_lt_zero m)⟩ ⟨rfl, fun m hm => absurd hm (Nat.not_lt_zero m)⟩ (PO_0 rfl rfl rfl)
end KRS
theorem sim_house {n : Nat} (hn : 100 ≤ n) : SIM_house n INV := by
  intro xo nv rv h0 h1 h2 h3 nt0 cv0 nt1 cv1 nt2 cv2 nt3 cv3 ps0 ps1 ps2 ps3 mo hI
  obtain ⟨⟨a, ha, ht, hh, hc, hn', hp⟩, i2⟩ := hI
  refine ⟨nI (a 0), empH h0, setS nt0 0 0, setS cv0 0 0, setS (setS ps0 0 0) 1 0, setA mo 0 (begT (mo.2.1 0)), ?_, ?_, ⟨SR_emp, i2⟩⟩
  · unfold f_X11_house
    rw [X1_makeEmpty, hh.1]
    rfl
  · unfold f_X12_house
    rw [X12_members ht.1, X12_begin hn (by omega)]
    rfl
/-- from a house changed by member or letter, with nothing to undo -/
theorem SR_new {h' cv nt ps : MV} {t t' : Nat → Int32} {a a' : Nat → Nat} (ha : okA a) (ht : TR t a) (hc : SO cv a (a 2) 47) (hn : SO nt a (a 3) 65) (k : KR h' t' a') (e0 : a 0 ≤ a' 0) (ea : ∀ j, (1 < j ∧ j < 5 ∨ 47 ≤ j ∧ j < 83) → a' j = a j) (et : ∀ j, (1 < j ∧ j < 5 ∨ 47 ≤ j ∧ j < 83) → t' j = t j) : SR h' cv nt (setS (setS ps 0 0) 1 0) (upd t' 4 (nI 0)) := by
  obtain ⟨kc, km, kl, kv, kn, kp⟩ := AT_split ha ht
  have h6 := kc.1
  have ga : ∀ j, j ≠ 4 → uN' a' 4 0 j = a' j := fun j hj => uN_n hj
  have gt : ∀ j, j ≠ 4 → upd t' 4 (nI 0) j = t' j := fun j hj => pk_un hj
  have e2 : uN' a' 4 0 2 = a 2 := by rw [ga 2 (by omega), ea 2 (by omega)]
  have e3 : uN' a' 4 0 3 = a 3 := by rw [ga 3 (by omega), ea 3 (by omega)]
  have xa : ∀ j, 47 ≤ j → j < 83 → uN' a' 4 0 j = a j := fun j h1 h2 => by rw [ga j (by omega), ea j (by omega)]
  have xt : ∀ j, 47 ≤ j → j < 83 → upd t' 4 (nI 0) j = t j := fun j h1 h2 => by rw [gt j (by omega), et j (by omega)]
  have f0 : a 0 ≤ uN' a' 4 0 0 := by rw [ga 0 (by omega)]; exact e0
  refine KR_mk (a := uN' a' 4 0) (KR_c k (fun j h1 h2 => ga j (by omega)) (fun j h1 h2 => gt j (by omega))) ?_ ?_ ?_ (kP_0 uN_s) ?_ ?_ (PO_0 uN_s rfl rfl)
  · rw [e2, e3, show uN' a' 4 0 4 = 0 from uN_s, gt 2 (by omega), gt 3 (by omega), et 2 (by omega), et 3 (by omega)]
    exact ⟨h6.2.2.1, h6.2.2.2.1, by omega, ht.2.2.1, ht.2.2.2.1, pk_us⟩
  · rw [e2]
    exact kS_c kv h6.2.2.1 f0 (fun j h1 h2 => xa j (by omega) (by omega)) (fun j h1 h2 => xt j (by omega) (by omega))
  · rw [e3]
    exact kS_c kn h6.2.2.2.1 f0 (fun j h1 h2 => xa j (by omega) (by omega)) (fun j h1 h2 => xt j (by omega) (by omega))
  · rw [e2]
    exact SO_c hc h6.2.2.1 (fun j h1 h2 => xa j (by omega) (by omega))
  · rw [e3]
    exact SO_c hn h6.2.2.2.1 (fun j h1 h2 => xa j (by omega) (by omega))
theorem sim_member {n : Nat} : SIM_member n INV := by
  intro xo nv rv h0 h1 h2 h3 nt0 cv0 nt1 cv1 nt2 cv2 nt3 cv3 ps0 ps1 ps2 ps3 mo v1 v2 hI
  have hI0 := hI
  obtain ⟨⟨a, ha, ht, hh, hc, hn', hp⟩, i2⟩ := hI
  have h6 := okL ha
  have p1 := w11 (n := n) (v := v1) (K := 5) (by omega)
  have p2 := w12 (n := n) (v := v1) (K := 5) (by omega)
  have s1 := X11_isPlace (n := n) (v := v2)
  have s2 := X12_isPlace (n := n) (v := v2)
  have t0 : mo.2.1 0 0 = nI (a 0) := ht.1
  refine inR_cases (v := v1) (N := 6) (fun x hx e => ?_) (fun c => ?_)
  · refine inR_cases (v := v2) (N := 100) (fun y hy e' => ?_) (fun c => ?_)
    · subst e
      subst e'
      rw [bI_in hx] at p1 p2
      rw [bI_in hy] at s1 s2
      by_cases c : a 0 = 5
      · refine ⟨-4, fullX xo, h0, ps0, refM mo 2, ?_, ?_, hI0.full⟩
        · simp (disch := omega) only [f_X11_member_j16, f_X11_member, p1, s1, pl_lit, pl_bl, pl_bd, pl_bd2, pl_bd3, pl_bd4, pl_bcT, pl_bcF, gd_t, pl_bcTrue, pl_bcFalse, pl_gdTrue, pl_in, pl_eq, pl_lt, pl_le, pl_ix, nI_add, pk_mul, pl_m1, hh.1, c, X11_full]
        · simp (disch := omega) only [f_X12_member_j19, f_X12_member, p2, pl_litL, s2, pl_lit, pl_bl, pl_bd, pl_bd2, pl_bd3, pl_bd4, pl_bcT, pl_bcF, gd_t, pl_bcTrue, pl_bcFalse, pl_gdTrue, pl_in, pl_eq, pl_lt, pl_le, pl_ix, nI_add, pk_mul, pl_m1, X12_members t0, c, X12_full]
      · have c' : a 0 < 5 := by omega
        have lm := X12_layMember (n := n) (z := 235) (k := x) (p := y) (by omega) t0 c'
        have am := X1_addMember (n := n) (k := x) (p := y) hh.1 c'
        refine ⟨nI (a 0), xo, memH h0 (a 0) x y, setS (setS ps0 0 0) 1 0, setA mo 0 (upd (memT (mo.2.1 0) (a 0) x y) 4 (nI 0)), ?_, ?_, ⟨SR_new ha ht hc hn' (KR_mem (KR_of ha ht hh) c' hx (by omega)) ?_ (fun j hj => memN_n (by omega)) (fun j hj => memT_n (by omega)), i2⟩⟩
        · simp (disch := omega) only [f_X11_member_j16, f_X11_member, p1, s1, pl_lit, pl_bl, pl_bd, pl_bd2, pl_bd3, pl_bd4, pl_bcT, pl_bcF, gd_t, pl_bcTrue, pl_bcFalse, pl_gdTrue, pl_in, pl_eq, pl_lt, pl_le, pl_ix, nI_add, pk_mul, pl_m1, am, hh.1, f_X4_makeEmpty]
        · have q0 : upd (memT (mo.2.1 0) (a 0) x y) 4 (nI 0) 0 = nI (a 0 + 1) := rfl
          simp (disch := omega) only [f_X12_member_j19, f_X12_member, f_X12_members, p2, pl_litL, s2, pl_lit, pl_bl, pl_bd, pl_bd2, pl_bd3, pl_bd4, pl_bcT, pl_bcF, gd_t, pl_bcTrue, pl_bcFalse, pl_gdTrue, pl_in, pl_eq, pl_lt, pl_le, pl_ix, nI_add, pk_mul, pl_m1, t0, lm, sA_s, sAA, q0, pk_sub, Nat.add_sub_cancel]
        · show a 0 ≤ a 0 + 1
          omega
    · subst e
      rw [bI_in hx] at p1 p2
      rw [bI_nin c] at s1 s2
      refine ⟨-2, badX xo, h0, ps0, refM mo 0, ?_, ?_, hI0.bad⟩
      · simp (disch := omega) only [f_X11_member_j16, f_X11_member, p1, s1, pl_lit, pl_bl, pl_bd, pl_bd2, pl_bd3, pl_bd4, pl_bcT, pl_bcF, gd_t, pl_bcTrue, pl_bcFalse, pl_gdTrue, pl_in, pl_eq, pl_lt, pl_le, pl_ix, nI_add, pk_mul, pl_m1, X11_bad]
      · simp (disch := omega) only [f_X12_member_j19, f_X12_member, p2, pl_litL, s2, pl_lit, pl_bl, pl_bd, pl_bd2, pl_bd3, pl_bd4, pl_bcT, pl_bcF, gd_t, pl_bcTrue, pl_bcFalse, pl_gdTrue, pl_in, pl_eq, pl_lt, pl_le, pl_ix, nI_add, pk_mul, pl_m1, X12_bad]
  · rw [bI_nin c] at p1 p2
    refine ⟨-2, badX xo, h0, ps0, refM mo 0, ?_, ?_, hI0.bad⟩
    · simp (disch := omega) only [f_X11_member_j16, f_X11_member, p1, pl_lit, pl_bl, pl_bd, pl_bd2, pl_bd3, pl_bd4, pl_bcT, pl_bcF, gd_t, pl_bcTrue, pl_bcFalse, pl_gdTrue, pl_in, pl_eq, pl_lt, pl_le, pl_ix, nI_add, pk_mul, pl_m1, X11_bad]
    · simp (disch := omega) only [f_X12_member_j19, f_X12_member, p2, pl_litL, pl_lit, pl_bl, pl_bd, pl_bd2, pl_bd3, pl_bd4, pl_bcT, pl_bcF, gd_t, pl_bcTrue, pl_bcFalse, pl_gdTrue, pl_in, pl_eq, pl_lt, pl_le, pl_ix, nI_add, pk_mul, pl_m1, X12_bad]
def inW (v : Int32) : Prop := ∃ w, 1 ≤ w ∧ w ≤ 9 ∧ v = nI w
theorem rngW {v : Int32} : (nI 1 ≤ v ∧ v ≤ nI 9) ↔ inW v := by
  constructor
  · rintro ⟨h1, h2⟩
    rw [Int32.le_iff_toInt_le, nI_toInt (by omega)] at h1
    rw [Int32.le_iff_toInt_le, nI_toInt (by omega)] at h2
    refine ⟨v.toInt.toNat, by omega, by omega, ?_⟩
    apply Int32.toInt_inj.mp
    rw [nI_toInt (by omega)]
    omega
  · rintro ⟨w, h1, h2, rfl⟩
    exact ⟨nI_le h1 (by omega), nI_le h2 (by omega)⟩
theorem X11_inW {n : Nat} {v : Int32} : f_X11_within n v (nI 1) (nI 9) = some (bI (inW v)) := by
  rw [X11_within]; exact congrArg some (bI_congr rngW)
theorem X12_inW {n : Nat} {v : Int32} : f_X12_in n v.toInt64 (lN 1) (lN 9) = some (bI (inW v)) := by
  rw [← nI_l (by omega), ← nI_l (by omega), X12_in]; exact congrArg some (bI_congr rngW)
theorem sim_letter {n : Nat} : SIM_letter n INV := by
  intro xo nv rv h0 h1 h2 h3 nt0 cv0 nt1 cv1 nt2 cv2 nt3 cv3 ps0 ps1 ps2 ps3 mo v1 v2 v3 hI
  have hI0 := hI
  obtain ⟨⟨a, ha, ht, hh, hc, hn', hp⟩, i2⟩ := hI
  have h6 := okL ha
  have p1 := X11_isPlace (n := n) (v := v1)
  have p2 := X12_isPlace (n := n) (v := v1)
  have s1 := X11_isPlace (n := n) (v := v2)
  have s2 := X12_isPlace (n := n) (v := v2)
  have g1 := X11_inW (n := n) (v := v3)
  have g2 := X12_inW (n := n) (v := v3)
  have t1 : mo.2.1 0 1 = nI (a 1) := ht.2.1
  refine inR_cases (v := v1) (N := 100) (fun x hx e => ?_) (fun c => ?_)
  · refine inR_cases (v := v2) (N := 100) (fun y hy e' => ?_) (fun c => ?_)
    · subst e
      subst e'
      rw [bI_in hx] at p1 p2
      rw [bI_in hy] at s1 s2
      by_cases cw : inW v3
      · rw [bI_T cw] at g1 g2
        obtain ⟨w, hw1, hw2, rfl⟩ := cw
        by_cases c : a 1 = 6
        · refine ⟨-4, fullX xo, h0, ps0, refM mo 2, ?_, ?_, hI0.full⟩
          · simp (disch := omega) only [f_X11_letter_j24, f_X11_letter, p1, s1, g1, pl_lit, pl_bl, pl_bd, pl_bd2, pl_bd3, pl_bd4, pl_bcT, pl_bcF, gd_t, pl_bcTrue, pl_bcFalse, pl_gdTrue, pl_in, pl_eq, pl_lt, pl_le, pl_ix, nI_add, pk_mul, pl_m1, hh.2.1, c, X11_full]
          · simp (disch := omega) only [f_X12_letter_j26, f_X12_letter, p2, pl_litL, s2, g2, pl_lit, pl_bl, pl_bd, pl_bd2, pl_bd3, pl_bd4, pl_bcT, pl_bcF, gd_t, pl_bcTrue, pl_bcFalse, pl_gdTrue, pl_in, pl_eq, pl_lt, pl_le, pl_ix, nI_add, pk_mul, pl_m1, X12_letters t1, c, X12_full]
        · have c' : a 1 < 6 := by omega
          have lm := X12_layLetter (n := n) (z := 235) (x := x) (y := y) (w := w) (by omega) t1 c'
          have am := X1_addLetter (n := n) (x := x) (y := y) (w := w) hh.2.1 c'
          refine ⟨nI (a 1), xo, letH h0 (a 1) x y w, setS (setS ps0 0 0) 1 0, setA mo 0 (upd (letT (mo.2.1 0) (a 1) x y w) 4 (nI 0)), ?_, ?_, ⟨SR_new ha ht hc hn' (KR_let (KR_of ha ht hh) c' (by omega) (by omega) hw1 hw2) ?_ (fun j hj => letN_n (by omega)) (fun j hj => letT_n (by omega)), i2⟩⟩
          · simp (disch := omega) only [f_X11_letter_j24, f_X11_letter, p1, s1, g1, pl_lit, pl_bl, pl_bd, pl_bd2, pl_bd3, pl_bd4, pl_bcT, pl_bcF, gd_t, pl_bcTrue, pl_bcFalse, pl_gdTrue, pl_in, pl_eq, pl_lt, pl_le, pl_ix, nI_add, pk_mul, pl_m1, am, hh.2.1, f_X4_makeEmpty]
          · have q0 : upd (letT (mo.2.1 0) (a 1) x y w) 4 (nI 0) 1 = nI (a 1 + 1) := rfl
            simp (disch := omega) only [f_X12_letter_j26, f_X12_letter, f_X12_letters, p2, pl_litL, s2, g2, pl_lit, pl_bl, pl_bd, pl_bd2, pl_bd3, pl_bd4, pl_bcT, pl_bcF, gd_t, pl_bcTrue, pl_bcFalse, pl_gdTrue, pl_in, pl_eq, pl_lt, pl_le, pl_ix, nI_add, pk_mul, pl_m1, t1, lm, sA_s, sAA, q0, pk_sub, Nat.add_sub_cancel]
          · rw [letN_n (by omega)]
            exact Nat.le_refl _
      · rw [bI_F cw] at g1 g2
        refine ⟨-2, badX xo, h0, ps0, refM mo 0, ?_, ?_, hI0.bad⟩
        · simp (disch := omega) only [f_X11_letter_j24, f_X11_letter, p1, s1, g1, pl_lit, pl_bl, pl_bd, pl_bd2, pl_bd3, pl_bd4, pl_bcT, pl_bcF, gd_t, pl_bcTrue, pl_bcFalse, pl_gdTrue, pl_in, pl_eq, pl_lt, pl_le, pl_ix, nI_add, pk_mul, pl_m1, X11_bad]
        · simp (disch := omega) only [f_X12_letter_j26, f_X12_letter, p2, pl_litL, s2, g2, pl_lit, pl_bl, pl_bd, pl_bd2, pl_bd3, pl_bd4, pl_bcT, pl_bcF, gd_t, pl_bcTrue, pl_bcFalse, pl_gdTrue, pl_in, pl_eq, pl_lt, pl_le, pl_ix, nI_add, pk_mul, pl_m1, X12_bad]
    · subst e
      rw [bI_in hx] at p1 p2
      rw [bI_nin c] at s1 s2
      refine ⟨-2, badX xo, h0, ps0, refM mo 0, ?_, ?_, hI0.bad⟩
      · simp (disch := omega) only [f_X11_letter_j24, f_X11_letter, p1, s1, pl_lit, pl_bl, pl_bd, pl_bd2, pl_bd3, pl_bd4, pl_bcT, pl_bcF, gd_t, pl_bcTrue, pl_bcFalse, pl_gdTrue, pl_in, pl_eq, pl_lt, pl_le, pl_ix, nI_add, pk_mul, pl_m1, X11_bad]
      · simp (disch := omega) only [f_X12_letter_j26, f_X12_letter, p2, pl_litL, s2, pl_lit, pl_bl, pl_bd, pl_bd2, pl_bd3, pl_bd4, pl_bcT, pl_bcF, gd_t, pl_bcTrue, pl_bcFalse, pl_gdTrue, pl_in, pl_eq, pl_lt, pl_le, pl_ix, nI_add, pk_mul, pl_m1, X12_bad]
  · rw [bI_nin c] at p1 p2
    refine ⟨-2, badX xo, h0, ps0, refM mo 0, ?_, ?_, hI0.bad⟩
    · simp (disch := omega) only [f_X11_letter_j24, f_X11_letter, p1, pl_lit, pl_bl, pl_bd, pl_bd2, pl_bd3, pl_bd4, pl_bcT, pl_bcF, gd_t, pl_bcTrue, pl_bcFalse, pl_gdTrue, pl_in, pl_eq, pl_lt, pl_le, pl_ix, nI_add, pk_mul, pl_m1, X11_bad]
    · simp (disch := omega) only [f_X12_letter_j26, f_X12_letter, p2, pl_litL, pl_lit, pl_bl, pl_bd, pl_bd2, pl_bd3, pl_bd4, pl_bcT, pl_bcF, gd_t, pl_bcTrue, pl_bcFalse, pl_gdTrue, pl_in, pl_eq, pl_lt, pl_le, pl_ix, nI_add, pk_mul, pl_m1, X12_bad]
