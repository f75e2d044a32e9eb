/-! slips: a cover or a note more -/
theorem w11 {n : Nat} {v : Int32} {K : Nat} (hK : K < 1001000) : f_X11_within n v (nI 0) (nI K) = some (bI (inR v (K + 1))) := X11_in hK
theorem w12 {n : Nat} {v : Int32} {K : Nat} (hK : K < 1001000) : f_X12_in n v.toInt64 (lN 0) (lN K) = some (bI (inR v (K + 1))) := X12_inK hK
theorem sA_s {h : MV} {k : Nat} {f : Nat → Int32} : (setA h k f).2.1 k = f := if_pos rfl
theorem sA_n {h : MV} {k j : Nat} {f : Nat → Int32} (e : j ≠ k) : (setA h k f).2.1 j = h.2.1 j := if_neg e
theorem sS_s {h : MV} {k : Nat} {v : Int32} : (setS h k v).1 k = v := if_pos rfl
theorem sS_n {h : MV} {k j : Nat} {v : Int32} (e : j ≠ k) : (setS h k v).1 j = h.1 j := if_neg e
theorem sAA {h : MV} {k : Nat} {f g : Nat → Int32} : setA (setA h k f) k g = setA h k g := by
  unfold setA
  congr 2
  funext j
  by_cases c : j = k
  · simp only [c, if_true]
  · simp only [c, if_false]
theorem X11_isSlipDay {n : Nat} {v : Int32} : f_X11_isSlipDay n v = some (bI (inR v 100)) := by
  unfold f_X11_isSlipDay
  rw [show (99 : Int32) = nI 99 from rfl, X11_in (by omega)]
  simp only [pl_bd, bI_01, pl_gdTrue]
def addS (s : MV) (C : Nat) (v1 v2 v3 : Int32) : MV := setS (setA (setA (setA s 0 (upd (s.2.1 0) C v1)) 1 (upd (s.2.1 1) C v2)) 2 (upd (s.2.1 2) C v3)) 0 (nI (C + 1))
theorem X8_add {n : Nat} {s : MV} {C : Nat} {v1 v2 v3 : Int32} (e : s.1 0 = nI C) (hC : C < 6) : f_X8_add n s v1 v2 v3 = some (nI 1, addS s C v1 v2 v3) := by
  simp (disch := omega) only [f_X8_add, pl_lit, pl_bl, pl_bd, pl_bd2, pl_bd3, pl_bd4, pl_bcT, pl_bcF, gd_t, pl_bcTrue, pl_bcFalse, pl_gdTrue, pl_in, pl_eq, pl_lt, pl_le, pl_ix, nI_add, pk_mul, pl_m1, e, sA_1]
  rfl
theorem X8_addF {n : Nat} {s : MV} {C : Nat} {v1 v2 v3 : Int32} (e : s.1 0 = nI C) (hC : C = 6) : f_X8_add n s v1 v2 v3 = some (nI 0, s) := by
  simp (disch := omega) only [f_X8_add, pl_lit, pl_bl, pl_bd, pl_bd2, pl_bd3, pl_bd4, pl_bcT, pl_bcF, gd_t, pl_bcTrue, pl_bcFalse, pl_gdTrue, pl_in, pl_eq, pl_lt, pl_le, pl_ix, nI_add, pk_mul, pl_m1, e, hC]
theorem addS_0 {s : MV} {C : Nat} {v1 v2 v3 : Int32} : (addS s C v1 v2 v3).1 0 = nI (C + 1) := rfl
def addT (t : Nat → Int32) (q b C : Nat) (v1 v2 v3 : Int32) : Nat → Int32 := upd (upd (upd (upd t (b + 3 * C) v1) (b + 3 * C + 1) v2) (b + 3 * C + 2) v3) q (nI (C + 1))
def addN (a : Nat → Nat) (q b C x y z : Nat) : Nat → Nat := uN' (uN' (uN' (uN' a (b + 3 * C) x) (b + 3 * C + 1) y) (b + 3 * C + 2) z) q (C + 1)
theorem addT_n {t : Nat → Int32} {q b C j : Nat} {v1 v2 v3 : Int32} (h1 : j ≠ q) (h2 : j < b + 3 * C ∨ b + 3 * C + 3 ≤ j) : addT t q b C v1 v2 v3 j = t j := by
  unfold addT; rw [pk_un h1, pk_un (by omega), pk_un (by omega), pk_un (by omega)]
theorem addN_n {a : Nat → Nat} {q b C j x y z : Nat} (h1 : j ≠ q) (h2 : j < b + 3 * C ∨ b + 3 * C + 3 ≤ j) : addN a q b C x y z j = a j := by
  unfold addN; rw [uN_n h1, uN_n (by omega), uN_n (by omega), uN_n (by omega)]
theorem addT_1 {t : Nat → Int32} {q b C : Nat} {v1 v2 v3 : Int32} (h : q < b) : addT t q b C v1 v2 v3 (b + 3 * C) = v1 ∧ addT t q b C v1 v2 v3 (b + 1 + 3 * C) = v2 ∧ addT t q b C v1 v2 v3 (b + 2 + 3 * C) = v3 ∧ addT t q b C v1 v2 v3 q = nI (C + 1) := by
  unfold addT
  refine ⟨?_, ?_, ?_, pk_us⟩
  · rw [pk_un (by omega), pk_un (by omega), pk_un (by omega), pk_us]
  · rw [show b + 1 + 3 * C = b + 3 * C + 1 by omega, pk_un (by omega), pk_un (by omega), pk_us]
  · rw [show b + 2 + 3 * C = b + 3 * C + 2 by omega, pk_un (by omega), pk_us]
theorem addN_1 {a : Nat → Nat} {q b C x y z : Nat} (h : q < b) : addN a q b C x y z (b + 3 * C) = x ∧ addN a q b C x y z (b + 1 + 3 * C) = y ∧ addN a q b C x y z (b + 2 + 3 * C) = z ∧ addN a q b C x y z q = C + 1 := by
  unfold addN
  refine ⟨?_, ?_, ?_, uN_s⟩
  · rw [uN_n (by omega), uN_n (by omega), uN_n (by omega), uN_s]
  · rw [show b + 1 + 3 * C = b + 3 * C + 1 by omega, uN_n (by omega), uN_n (by omega), uN_s]
  · rw [show b + 2 + 3 * C = b + 3 * C + 2 by omega, uN_n (by omega), uN_s]
theorem kS_add {a : Nat → Nat} {t : Nat → Int32} {q b C B x y z : Nat} (h0 : 0 < q) (hq : q < b) (k : kS a t C b B) (hx : x < a 0) (hy : y ≤ 99) (hz : z ≤ B) : kS (addN a q b C x y z) (addT t q b C (nI x) (nI y) (nI z)) (C + 1) b B := by
  intro i hi
  have ea0 : addN a q b C x y z 0 = a 0 := addN_n (by omega) (by omega)
  rw [ea0]
  by_cases c : i = C
  · subst c
    obtain ⟨e1, e2, e3, -⟩ := addT_1 (t := t) (q := q) (b := b) (C := i) (v1 := nI x) (v2 := nI y) (v3 := nI z) hq
    obtain ⟨f1, f2, f3, -⟩ := addN_1 (a := a) (q := q) (b := b) (C := i) (x := x) (y := y) (z := z) hq
    rw [e1, e2, e3, f1, f2, f3]
    exact ⟨⟨hx, hy, hz⟩, rfl, rfl, rfl⟩
  · rw [addN_n (by omega) (by omega), addN_n (by omega) (by omega), addN_n (by omega) (by omega), addT_n (by omega) (by omega), addT_n (by omega) (by omega), addT_n (by omega) (by omega)]
    exact k i (by omega)
theorem SO_add {a : Nat → Nat} {s : MV} {q b C x y z : Nat} (hq : q < b) (k : SO s a C b) : SO (addS s C (nI x) (nI y) (nI z)) (addN a q b C x y z) (C + 1) b := by
  refine ⟨rfl, fun i hi => ?_⟩
  show upd (s.2.1 0) C (nI x) i = _ ∧ upd (s.2.1 1) C (nI y) i = _ ∧ upd (s.2.1 2) C (nI z) i = _
  by_cases c : i = C
  · subst c
    obtain ⟨f1, f2, f3, -⟩ := addN_1 (a := a) (q := q) (b := b) (C := i) (x := x) (y := y) (z := z) hq
    rw [pk_us, pk_us, pk_us, f1, f2, f3]
    exact ⟨rfl, rfl, rfl⟩
  · rw [pk_un c, pk_un c, pk_un c, addN_n (by omega) (by omega), addN_n (by omega) (by omega), addN_n (by omega) (by omega)]
    exact k.2 i (by omega)
theorem SR_cover {h cv nt ps : MV} {t : Nat → Int32} {a : Nat → Nat} {x y z : Nat} (ha : okA a) (ht : TR t a) (hh : HO h t a) (hc : SO cv a (a 2) 47) (hn : SO nt a (a 3) 65) (hp : PO ps t a) (hlt : a 2 < 6) (hx : x < a 0) (hy : y ≤ 99) (hz : z ≤ 99) : SR h (addS cv (a 2) (nI x) (nI y) (nI z)) nt ps (addT t 2 47 (a 2) (nI x) (nI y) (nI z)) := by
  obtain ⟨kc, km, kl, kv, kn, kp⟩ := AT_split ha ht
  obtain ⟨qc, qm, ql⟩ := HO_split hh
  have h6 := kc.1
  have ea : ∀ j, j ≠ 2 → (j < 47 ∨ 65 ≤ j) → addN a 2 47 (a 2) x y z j = a j := fun j h1 h2 => addN_n h1 (by omega)
  have et : ∀ j, j ≠ 2 → (j < 47 ∨ 65 ≤ j) → addT t 2 47 (a 2) (nI x) (nI y) (nI z) j = t j := fun j h1 h2 => addT_n h1 (by omega)
  have e2 : addN a 2 47 (a 2) x y z 2 = a 2 + 1 := uN_s
  have f2 : addT t 2 47 (a 2) (nI x) (nI y) (nI z) 2 = nI (a 2 + 1) := pk_us
  have e0 := ea 0 (by omega) (by omega)
  have e1 := ea 1 (by omega) (by omega)
  have e3 := ea 3 (by omega) (by omega)
  have e4 := ea 4 (by omega) (by omega)
  have e23 := ea 23 (by omega) (by omega)
  have kc' : kC (addN a 2 47 (a 2) x y z) (addT t 2 47 (a 2) (nI x) (nI y) (nI z)) := by
    unfold kC
    rw [e0, e1, e2, e3, e4, e23, f2, et 0 (by omega) (by omega), et 1 (by omega) (by omega), et 3 (by omega) (by omega), et 4 (by omega) (by omega), et 23 (by omega) (by omega)]
    obtain ⟨⟨c0, c1, c2, c3, c4, c5⟩, d0, d1, d2, d3⟩ := kc
    exact ⟨⟨c0, c1, by omega, c3, c4, c5⟩, d0, d1, rfl, d3⟩
  have kv' := kS_add (q := 2) (b := 47) (by omega) (by omega) kv hx hy hz
  have kn' : kS (addN a 2 47 (a 2) x y z) (addT t 2 47 (a 2) (nI x) (nI y) (nI z)) (a 3) 65 20 := kS_c kn h6.2.2.2.1 (Nat.le_of_eq e0.symm) (fun j h1 _ => ea j (by omega) (by omega)) (fun j h1 _ => et j (by omega) (by omega))
  have hAT := AT_mk kc' (kM_c km h6.1 e0 (fun j h1 h2 _ => ea j (by omega) (by omega)) (fun j h1 h2 _ => et j (by omega) (by omega))) (kL_c kl h6.2.1 e1 (fun j h1 h2 _ => ea j (by omega) (by omega)) (fun j h1 h2 _ => et j (by omega) (by omega))) (by rw [e2]; exact kv') (by rw [e3]; exact kn') (kP_c kp e0 e1 e4 (fun j h1 => ea j (by omega) (by omega)) (fun j h1 => et j (by omega) (by omega)))
  refine ⟨_, hAT.1, hAT.2, HO_mk ?_ (hM_c qm h6.1 e0 (fun j h1 h2 _ => ea j (by omega) (by omega)) ⟨rfl, rfl, rfl⟩) (hL_c ql h6.2.1 e1 (fun j h1 h2 _ => ea j (by omega) (by omega)) ⟨rfl, rfl, rfl, rfl⟩), by rw [e2]; exact SO_add (by omega) hc, by rw [e3]; exact SO_c hn h6.2.2.2.1 (fun j h1 _ => ea j (by omega) (by omega)), PO_c hp e0 e1 e4 (fun j h1 => ea j (by omega) (by omega)) (fun j h1 => et j (by omega) (by omega))⟩
  unfold hC
  rw [e0, e1, e23, et 21 (by omega) (by omega), et 22 (by omega) (by omega)]
  exact qc
theorem SR_note {h cv nt ps : MV} {t : Nat → Int32} {a : Nat → Nat} {x y z : Nat} (ha : okA a) (ht : TR t a) (hh : HO h t a) (hc : SO cv a (a 2) 47) (hn : SO nt a (a 3) 65) (hp : PO ps t a) (hlt : a 3 < 6) (hx : x < a 0) (hy : y ≤ 99) (hz : z ≤ 20) : SR h cv (addS nt (a 3) (nI x) (nI y) (nI z)) ps (addT t 3 65 (a 3) (nI x) (nI y) (nI z)) := by
  obtain ⟨kc, km, kl, kv, kn, kp⟩ := AT_split ha ht
  obtain ⟨qc, qm, ql⟩ := HO_split hh
  have h6 := kc.1
  have ea : ∀ j, j ≠ 3 → (j < 65 ∨ 83 ≤ j) → addN a 3 65 (a 3) x y z j = a j := fun j h1 h2 => addN_n h1 (by omega)
  have et : ∀ j, j ≠ 3 → (j < 65 ∨ 83 ≤ j) → addT t 3 65 (a 3) (nI x) (nI y) (nI z) j = t j := fun j h1 h2 => addT_n h1 (by omega)
  have e3 : addN a 3 65 (a 3) x y z 3 = a 3 + 1 := uN_s
  have f3 : addT t 3 65 (a 3) (nI x) (nI y) (nI z) 3 = nI (a 3 + 1) := pk_us
  have e0 := ea 0 (by omega) (by omega)
  have e1 := ea 1 (by omega) (by omega)
  have e2 := ea 2 (by omega) (by omega)
  have e4 := ea 4 (by omega) (by omega)
  have e23 := ea 23 (by omega) (by omega)
  have kc' : kC (addN a 3 65 (a 3) x y z) (addT t 3 65 (a 3) (nI x) (nI y) (nI z)) := by
    unfold kC
    rw [e0, e1, e2, e3, e4, e23, f3, et 0 (by omega) (by omega), et 1 (by omega) (by omega), et 2 (by omega) (by omega), et 4 (by omega) (by omega), et 23 (by omega) (by omega)]
    obtain ⟨⟨c0, c1, c2, c3, c4, c5⟩, d0, d1, d2, d3, d4⟩ := kc
    exact ⟨⟨c0, c1, c2, by omega, c4, c5⟩, d0, d1, d2, rfl, d4⟩
  have kn' := kS_add (q := 3) (b := 65) (by omega) (by omega) kn hx hy hz
  have kv' : kS (addN a 3 65 (a 3) x y z) (addT t 3 65 (a 3) (nI x) (nI y) (nI z)) (a 2) 47 99 := kS_c kv h6.2.2.1 (Nat.le_of_eq e0.symm) (fun j h1 _ => ea j (by omega) (by omega)) (fun j h1 _ => et j (by omega) (by omega))
  have hAT := AT_mk kc' (kM_c km h6.1 e0 (fun j h1 h2 _ => ea j (by omega) (by omega)) (fun j h1 h2 _ => et j (by omega) (by omega))) (kL_c kl h6.2.1 e1 (fun j h1 h2 _ => ea j (by omega) (by omega)) (fun j h1 h2 _ => et j (by omega) (by omega))) (by rw [e2]; exact kv') (by rw [e3]; exact kn') (kP_c kp e0 e1 e4 (fun j h1 => ea j (by omega) (by omega)) (fun j h1 => et j (by omega) (by omega)))
  refine ⟨_, hAT.1, hAT.2, HO_mk ?_ (hM_c qm h6.1 e0 (fun j h1 h2 _ => ea j (by omega) (by omega)) ⟨rfl, rfl, rfl⟩) (hL_c ql h6.2.1 e1 (fun j h1 h2 _ => ea j (by omega) (by omega)) ⟨rfl, rfl, rfl, rfl⟩), by rw [e2]; exact SO_c hc h6.2.2.1 (fun j h1 _ => ea j (by omega) (by omega)), by rw [e3]; exact SO_add (by omega) hn, PO_c hp e0 e1 e4 (fun j h1 => ea j (by omega) (by omega)) (fun j h1 => et j (by omega) (by omega))⟩
  unfold hC
  rw [e0, e1, e23, et 21 (by omega) (by omega), et 22 (by omega) (by omega)]
  exact qc
theorem sim_cover {n : Nat} : SIM_cover n INV := by
  intro xo nv rv h0 h1 h2 h3 nt0 cv0 nt1 cv1 nt2 cv2 nt3 cv3 ps0 ps1 ps2 ps3 mo v1 v2 v3 hI
  have hI0 := hI
  obtain ⟨⟨a, ha, ht, hh, hc, hn', hp⟩, i2⟩ := hI
  have h6 := okL ha
  have p1 := X11_isMember (n := n) (xo := xo) (h := h0) (v := v1) (M := a 0) (by omega) hh.1
  have p2 := X12_isMember (n := n) (mo := mo) (v := v1) (M := a 0) (by omega) ht.1
  have q1 := X11_isSlipDay (n := n) (v := v2)
  have q2 := w12 (n := n) (v := v2) (K := 99) (by omega)
  have s1 := X11_isPlace (n := n) (v := v3)
  have s2 := X12_isPlace (n := n) (v := v3)
  have t2 : mo.2.1 0 2 = nI (a 2) := ht.2.2.1
  refine inR_cases (v := v1) (N := a 0) (fun x hx e => ?_) (fun c => ?_)
  · refine inR_cases (v := v2) (N := 100) (fun y hy e' => ?_) (fun c => ?_)
    · refine inR_cases (v := v3) (N := 100) (fun z hz e'' => ?_) (fun c => ?_)
      · subst e
        subst e'
        subst e''
        rw [bI_in hx] at p1 p2
        rw [bI_in hy] at q1 q2
        rw [bI_in hz] at s1 s2
        by_cases c : a 2 = 6
        · refine ⟨-4, fullX xo, cv0, refM mo 2, ?_, ?_, hI0.full⟩
          · simp (disch := omega) only [f_X11_cover_j22, f_X11_cover, p1, q1, s1, pl_lit, pl_bl, pl_bd, pl_bd2, pl_bd3, pl_bd4, pl_bcT, pl_bcF, gd_t, pl_bcTrue, pl_bcFalse, pl_gdTrue, pl_in, pl_eq, pl_lt, pl_le, pl_ix, nI_add, pk_mul, pl_m1, X8_addF hc.1 c, X11_full]
          · simp (disch := omega) only [f_X12_cover_j27, f_X12_cover, p2, pl_litL, q2, s2, pl_lit, pl_bl, pl_bd, pl_bd2, pl_bd3, pl_bd4, pl_bcT, pl_bcF, gd_t, pl_bcTrue, pl_bcFalse, pl_gdTrue, pl_in, pl_eq, pl_lt, pl_le, pl_ix, nI_add, pk_mul, pl_m1, X12_full, t2, c]
        · have c' : a 2 < 6 := by omega
          refine ⟨nI (a 2 + 1), xo, addS cv0 (a 2) (nI x) (nI y) (nI z), setA mo 0 (addT (mo.2.1 0) 2 47 (a 2) (nI x) (nI y) (nI z)), ?_, ?_, ⟨SR_cover ha ht hh hc hn' hp c' hx (by omega) (by omega), i2⟩⟩
          · simp (disch := omega) only [f_X11_cover_j22, f_X11_cover, p1, q1, s1, pl_lit, pl_bl, pl_bd, pl_bd2, pl_bd3, pl_bd4, pl_bcT, pl_bcF, gd_t, pl_bcTrue, pl_bcFalse, pl_gdTrue, pl_in, pl_eq, pl_lt, pl_le, pl_ix, nI_add, pk_mul, pl_m1, X8_add hc.1 c', addS_0]
          · simp (disch := omega) only [f_X12_cover_j27, f_X12_cover, p2, pl_litL, q2, s2, pl_lit, pl_bl, pl_bd, pl_bd2, pl_bd3, pl_bd4, pl_bcT, pl_bcF, gd_t, pl_bcTrue, pl_bcFalse, pl_gdTrue, pl_in, pl_eq, pl_lt, pl_le, pl_ix, nI_add, pk_mul, pl_m1, t2, sA_s, sAA, pk_un, pk_us, addT]
      · rw [bI_nin c] at s1 s2
        refine ⟨-2, badX xo, cv0, refM mo 0, ?_, ?_, hI0.bad⟩
        · subst e
          subst e'
          rw [bI_in hx] at p1
          rw [bI_in hy] at q1
          simp (disch := omega) only [f_X11_cover_j22, f_X11_cover, p1, q1, s1, pl_lit, pl_bl, pl_bd, pl_bd2, pl_bd3, pl_bd4, pl_bcT, pl_bcF, gd_t, pl_bcTrue, pl_bcFalse, pl_gdTrue, pl_in, pl_eq, pl_lt, pl_le, pl_ix, nI_add, pk_mul, pl_m1, X11_bad]
        · subst e
          subst e'
          rw [bI_in hx] at p2
          rw [bI_in hy] at q2
          simp (disch := omega) only [f_X12_cover_j27, f_X12_cover, p2, pl_litL, q2, s2, pl_lit, pl_bl, pl_bd, pl_bd2, pl_bd3, pl_bd4, pl_bcT, pl_bcF, gd_t, pl_bcTrue, pl_bcFalse, pl_gdTrue, pl_in, pl_eq, pl_lt, pl_le, pl_ix, nI_add, pk_mul, pl_m1, X12_bad]
    · rw [bI_nin c] at q1 q2
      subst e
      rw [bI_in hx] at p1 p2
      refine ⟨-2, badX xo, cv0, refM mo 0, ?_, ?_, hI0.bad⟩
      · simp (disch := omega) only [f_X11_cover_j22, f_X11_cover, p1, q1, pl_lit, pl_bl, pl_bd, pl_bd2, pl_bd3, pl_bd4, pl_bcT, pl_bcF, gd_t, pl_bcTrue, pl_bcFalse, pl_gdTrue, pl_in, pl_eq, pl_lt, pl_le, pl_ix, nI_add, pk_mul, pl_m1, X11_bad]
      · simp (disch := omega) only [f_X12_cover_j27, f_X12_cover, p2, pl_litL, q2, pl_lit, pl_bl, pl_bd, pl_bd2, pl_bd3, pl_bd4, pl_bcT, pl_bcF, gd_t, pl_bcTrue, pl_bcFalse, pl_gdTrue, pl_in, pl_eq, pl_lt, pl_le, pl_ix, nI_add, pk_mul, pl_m1, X12_bad]
  · rw [bI_nin c] at p1 p2
    refine ⟨-2, badX xo, cv0, refM mo 0, ?_, ?_, hI0.bad⟩
    · simp (disch := omega) only [f_X11_cover_j22, f_X11_cover, p1, pl_lit, pl_bl, pl_bd, pl_bd2, pl_bd3, pl_bd4, pl_bcT, pl_bcF, gd_t, pl_bcTrue, pl_bcFalse, pl_gdTrue, pl_in, pl_eq, pl_lt, pl_le, pl_ix, nI_add, pk_mul, pl_m1, X11_bad]
    · simp (disch := omega) only [f_X12_cover_j27, f_X12_cover, p2, pl_lit, pl_bl, pl_bd, pl_bd2, pl_bd3, pl_bd4, pl_bcT, pl_bcF, gd_t, pl_bcTrue, pl_bcFalse, pl_gdTrue, pl_in, pl_eq, pl_lt, pl_le, pl_ix, nI_add, pk_mul, pl_m1, X12_bad]
theorem sim_note {n : Nat} : SIM_note n INV := by
  intro xo nv rv h0 h1 h2 h3 nt0 cv0 nt1 cv1 nt2 cv2 nt3 cv3 ps0 ps1 ps2 ps3 mo v1 v2 v3 hI
  have hI0 := hI
  obtain ⟨⟨a, ha, ht, hh, hc, hn', hp⟩, i2⟩ := hI
  have h6 := okL ha
  have p1 := X11_isMember (n := n) (xo := xo) (h := h0) (v := v1) (M := a 0) (by omega) hh.1
  have p2 := X12_isMember (n := n) (mo := mo) (v := v1) (M := a 0) (by omega) ht.1
  have q1 := X11_isSlipDay (n := n) (v := v2)
  have q2 := w12 (n := n) (v := v2) (K := 99) (by omega)
  have s1 := w11 (n := n) (v := v3) (K := 20) (by omega)
  have s2 := w12 (n := n) (v := v3) (K := 20) (by omega)
  have t2 : mo.2.1 0 3 = nI (a 3) := ht.2.2.2.1
  refine inR_cases (v := v1) (N := a 0) (fun x hx e => ?_) (fun c => ?_)
  · refine inR_cases (v := v2) (N := 100) (fun y hy e' => ?_) (fun c => ?_)
    · refine inR_cases (v := v3) (N := 21) (fun z hz e'' => ?_) (fun c => ?_)
      · subst e
        subst e'
        subst e''
        rw [bI_in hx] at p1 p2
        rw [bI_in hy] at q1 q2
        rw [bI_in hz] at s1 s2
        by_cases c : a 3 = 6
        · refine ⟨-4, fullX xo, nt0, refM mo 2, ?_, ?_, hI0.full⟩
          · simp (disch := omega) only [f_X11_note_j25, f_X11_note, p1, q1, s1, pl_lit, pl_bl, pl_bd, pl_bd2, pl_bd3, pl_bd4, pl_bcT, pl_bcF, gd_t, pl_bcTrue, pl_bcFalse, pl_gdTrue, pl_in, pl_eq, pl_lt, pl_le, pl_ix, nI_add, pk_mul, pl_m1, X8_addF hn'.1 c, X11_full]
          · simp (disch := omega) only [f_X12_note_j32, f_X12_note, p2, pl_litL, q2, s2, pl_lit, pl_bl, pl_bd, pl_bd2, pl_bd3, pl_bd4, pl_bcT, pl_bcF, gd_t, pl_bcTrue, pl_bcFalse, pl_gdTrue, pl_in, pl_eq, pl_lt, pl_le, pl_ix, nI_add, pk_mul, pl_m1, X12_full, t2, c]
        · have c' : a 3 < 6 := by omega
          refine ⟨nI (a 3 + 1), xo, addS nt0 (a 3) (nI x) (nI y) (nI z), setA mo 0 (addT (mo.2.1 0) 3 65 (a 3) (nI x) (nI y) (nI z)), ?_, ?_, ⟨SR_note ha ht hh hc hn' hp c' hx (by omega) (by omega), i2⟩⟩
          · simp (disch := omega) only [f_X11_note_j25, f_X11_note, p1, q1, s1, pl_lit, pl_bl, pl_bd, pl_bd2, pl_bd3, pl_bd4, pl_bcT, pl_bcF, gd_t, pl_bcTrue, pl_bcFalse, pl_gdTrue, pl_in, pl_eq, pl_lt, pl_le, pl_ix, nI_add, pk_mul, pl_m1, X8_add hn'.1 c', addS_0]
          · simp (disch := omega) only [f_X12_note_j32, f_X12_note, p2, pl_litL, q2, s2, pl_lit, pl_bl, pl_bd, pl_bd2, pl_bd3, pl_bd4, pl_bcT, pl_bcF, gd_t, pl_bcTrue, pl_bcFalse, pl_gdTrue, pl_in, pl_eq, pl_lt, pl_le, pl_ix, nI_add, pk_mul, pl_m1, t2, sA_s, sAA, pk_un, pk_us, addT]
      · rw [bI_nin c] at s1 s2
        subst e
        subst e'
        rw [bI_in hx] at p1 p2
        rw [bI_in hy] at q1 q2
        refine ⟨-2, badX xo, nt0, refM mo 0, ?_, ?_, hI0.bad⟩
        · simp (disch := omega) only [f_X11_note_j25, f_X11_note, p1, q1, s1, pl_lit, pl_bl, pl_bd, pl_bd2, pl_bd3, pl_bd4, pl_bcT, pl_bcF, gd_t, pl_bcTrue, pl_bcFalse, pl_gdTrue, pl_in, pl_eq, pl_lt, pl_le, pl_ix, nI_add, pk_mul, pl_m1, X11_bad]
        · simp (disch := omega) only [f_X12_note_j32, f_X12_note, p2, pl_litL, q2, s2, pl_lit, pl_bl, pl_bd, pl_bd2, pl_bd3, pl_bd4, pl_bcT, pl_bcF, gd_t, pl_bcTrue, pl_bcFalse, pl_gdTrue, pl_in, pl_eq, pl_lt, pl_le, pl_ix, nI_add, pk_mul, pl_m1, X12_bad]
    · rw [bI_nin c] at q1 q2
      subst e
      rw [bI_in hx] at p1 p2
      refine ⟨-2, badX xo, nt0, refM mo 0, ?_, ?_, hI0.bad⟩
      · simp (disch := omega) only [f_X11_note_j25, f_X11_note, p1, q1, pl_lit, pl_bl, pl_bd, pl_bd2, pl_bd3, pl_bd4, pl_bcT, pl_bcF, gd_t, pl_bcTrue, pl_bcFalse, pl_gdTrue, pl_in, pl_eq, pl_lt, pl_le, pl_ix, nI_add, pk_mul, pl_m1, X11_bad]
      · simp (disch := omega) only [f_X12_note_j32, f_X12_note, p2, pl_litL, q2, pl_lit, pl_bl, pl_bd, pl_bd2, pl_bd3, pl_bd4, pl_bcT, pl_bcF, gd_t, pl_bcTrue, pl_bcFalse, pl_gdTrue, pl_in, pl_eq, pl_lt, pl_le, pl_ix, nI_add, pk_mul, pl_m1, X12_bad]
  · rw [bI_nin c] at p1 p2
    refine ⟨-2, badX xo, nt0, refM mo 0, ?_, ?_, hI0.bad⟩
    · simp (disch := omega) only [f_X11_note_j25, f_X11_note, p1, pl_lit, pl_bl, pl_bd, pl_bd2, pl_bd3, pl_bd4, pl_bcT, pl_bcF, gd_t, pl_bcTrue, pl_bcFalse, pl_gdTrue, pl_in, pl_eq, pl_lt, pl_le, pl_ix, nI_add, pk_mul, pl_m1, X11_bad]
    · simp (disch := omega) only [f_X12_note_j32, f_X12_note, p2, pl_lit, pl_bl, pl_bd, pl_bd2, pl_bd3, pl_bd4, pl_bcT, pl_bcF, gd_t, pl_bcTrue, pl_bcFalse, pl_gdTrue, pl_in, pl_eq, pl_lt, pl_le, pl_ix, nI_add, pk_mul, pl_m1, X12_bad]
