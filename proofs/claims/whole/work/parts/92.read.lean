/-! read: the loop, and both -/
theorem lp_par {σ1 ρ1 σ2 ρ2 : Type} {b1 : σ1 → Option (σ1 ⊕ ρ1)} {b2 : σ2 → Option (σ2 ⊕ ρ2)} (R : Nat → σ1 → σ2 → Prop) (Q : ρ1 → ρ2 → Prop) (hs : ∀ k s1 s2, R k s1 s2 → (∃ s1' s2' k', b1 s1 = some (.inl s1') ∧ b2 s2 = some (.inl s2') ∧ k' < k ∧ R k' s1' s2') ∨ (∃ r1 r2, b1 s1 = some (.inr r1) ∧ b2 s2 = some (.inr r2) ∧ Q r1 r2)) : ∀ N k s1 s2 f1 f2, k ≤ N → R k s1 s2 → N < f1 → N < f2 → ∃ r1 r2, lp b1 f1 s1 = some r1 ∧ lp b2 f2 s2 = some r2 ∧ Q r1 r2 := by
  intro N
  induction N with
  | zero =>
    intro k s1 s2 f1 f2 hk hR h1 h2
    obtain ⟨g1, rfl⟩ : ∃ g, f1 = g + 1 := ⟨f1 - 1, by omega⟩
    obtain ⟨g2, rfl⟩ : ∃ g, f2 = g + 1 := ⟨f2 - 1, by omega⟩
    rcases hs k s1 s2 hR with ⟨s1', s2', k', e1, e2, hk', hR'⟩ | ⟨r1, r2, e1, e2, q⟩
    · omega
    · exact ⟨r1, r2, by unfold lp; rw [e1], by unfold lp; rw [e2], q⟩
  | succ N ih =>
    intro k s1 s2 f1 f2 hk hR h1 h2
    obtain ⟨g1, rfl⟩ : ∃ g, f1 = g + 1 := ⟨f1 - 1, by omega⟩
    obtain ⟨g2, rfl⟩ : ∃ g, f2 = g + 1 := ⟨f2 - 1, by omega⟩
    rcases hs k s1 s2 hR with ⟨s1', s2', k', e1, e2, hk', hR'⟩ | ⟨r1, r2, e1, e2, q⟩
    · obtain ⟨r1, r2, x1, x2, q⟩ := ih k' s1' s2' g1 g2 (by omega) hR' (by omega) (by omega)
      exact ⟨r1, r2, by unfold lp; rw [e1]; exact x1, by unfold lp; rw [e2]; exact x2, q⟩
    · exact ⟨r1, r2, by unfold lp; rw [e1], by unfold lp; rw [e2], q⟩
section RDL
variable {n : Nat} {rv h mo mo0 : MV} {B : Nat → Nat} {T s : Nat} {a : Nat → Nat}
/-- the items of both, by the word -/
theorem it_any (hn : 200 ≤ n) (hT : T ≤ 150) (hB : ∀ i, B i < 128) (hs : s ≤ T) (hr : RTK rv B T s) (hm : MTK mo B T s) (hk : KR h (mo.2.1 12) a) (hz : Zr (mo.2.1 12)) (h0 : ¬ tS B T s = 0) {it : Int32} {i : Nat} (hi : i < 150) (rv0 : MV) (hx : f_X6_nextToken n rv0 = some rv) : ∃ (ok : Prop) (rv' h' mo' : MV), f_X6_readInto_b31 n rv0 h (nI i) it = f_X6_readInto_j113 n rv' h' (bI ok) (nI i) it ∧ f_X12_takesItem n mo = some (bI ok, mo') ∧ RFr mo mo' ∧ IT B T s ok rv' h' mo' := by
  have sl := tS_le (B := B) (T := T) (s := s)
  have e1 := hr.2.1
  have x1 := X6_isWord (n := n) (i := 1) (by omega) hn hT hB hs hr
  have x2 := X6_isWord (n := n) (i := 2) (by omega) hn hT hB hs hr
  have x3 := X6_isWord (n := n) (i := 3) (by omega) hn hT hB hs hr
  have y1 : f_X12_spells n mo (nI 6) (nI 109) (nI 101) (nI 109) (nI 98) (nI 101) (nI 114) = some (bI (wdP B T (wdL 1) (wdN 1) s)) := X12_spells (n := n) (L := 6) (by omega) (by omega) hn hT hB hs hm
  have y2 : f_X12_spells n mo (nI 6) (nI 108) (nI 101) (nI 116) (nI 116) (nI 101) (nI 114) = some (bI (wdP B T (wdL 2) (wdN 2) s)) := X12_spells (n := n) (L := 6) (by omega) (by omega) hn hT hB hs hm
  have y3 : f_X12_spells n mo (nI 5) (nI 102) (nI 114) (nI 97) (nI 110) (nI 107) (nI 0) = some (bI (wdP B T (wdL 3) (wdN 3) s)) := X12_spells (n := n) (L := 5) (by omega) (by omega) hn hT hB hs hm
  by_cases w1 : wdP B T (wdL 1) (wdN 1) s
  · rw [bI_T w1] at x1 y1
    obtain ⟨ok, rv', h', mo', g1, g2, g3, g4⟩ := it_member (n := n) hn hT hB hs hr hm hk hz
    refine ⟨ok, rv', h', mo', ?_, ?_, g3, g4⟩
    · simp (disch := omega) only [f_X6_readInto_b31, hx, e1, pl_lit, pl_bl, pl_bd, pl_bd2, pl_bd3, pl_bd4, pl_bcT, pl_bcF, gd_t, pl_bcTrue, pl_bcFalse, pl_gdTrue, pl_in, pl_eq, pl_lt, pl_le, pl_ix, nI_add, pk_mul, pl_m1, x1, g1]
    · simp (disch := omega) only [f_X12_takesItem, pl_lit, pl_bl, pl_bd, pl_bd2, pl_bd3, pl_bd4, pl_bcT, pl_bcF, gd_t, pl_bcTrue, pl_bcFalse, pl_gdTrue, pl_in, pl_eq, pl_lt, pl_le, pl_ix, nI_add, pk_mul, pl_m1, y1, g2, bI_01n]
  · rw [bI_F w1] at x1 y1
    by_cases w2 : wdP B T (wdL 2) (wdN 2) s
    · rw [bI_T w2] at x2 y2
      obtain ⟨ok, rv', h', mo', g1, g2, g3, g4⟩ := it_letter (n := n) hn hT hB hs hr hm hk hz
      refine ⟨ok, rv', h', mo', ?_, ?_, g3, g4⟩
      · simp (disch := omega) only [f_X6_readInto_b31, hx, e1, pl_lit, pl_bl, pl_bd, pl_bd2, pl_bd3, pl_bd4, pl_bcT, pl_bcF, gd_t, pl_bcTrue, pl_bcFalse, pl_gdTrue, pl_in, pl_eq, pl_lt, pl_le, pl_ix, nI_add, pk_mul, pl_m1, x1, x2, g1]
      · simp (disch := omega) only [f_X12_takesItem, pl_lit, pl_bl, pl_bd, pl_bd2, pl_bd3, pl_bd4, pl_bcT, pl_bcF, gd_t, pl_bcTrue, pl_bcFalse, pl_gdTrue, pl_in, pl_eq, pl_lt, pl_le, pl_ix, nI_add, pk_mul, pl_m1, y1, y2, g2, bI_01n]
    · rw [bI_F w2] at x2 y2
      by_cases w3 : wdP B T (wdL 3) (wdN 3) s
      · rw [bI_T w3] at x3 y3
        obtain ⟨ok, rv', h', mo', g1, g2, g3, g4⟩ := it_frank (n := n) hn hT hB hs hr hm hk hz
        refine ⟨ok, rv', h', mo', ?_, ?_, g3, g4⟩
        · by_cases co : ok
          · rw [bI_Tn co] at g1 ⊢
            simp (disch := omega) only [f_X6_readInto_b31, f_X6_readInto_j110, f_X6_readInto_j111, hx, e1, pl_lit, pl_bl, pl_bd, pl_bd2, pl_bd3, pl_bd4, pl_bcT, pl_bcF, gd_t, pl_bcTrue, pl_bcFalse, pl_gdTrue, pl_in, pl_eq, pl_lt, pl_le, pl_ix, nI_add, pk_mul, pl_m1, x1, x2, x3, g1]
          · rw [bI_Fn co] at g1 ⊢
            simp (disch := omega) only [f_X6_readInto_b31, f_X6_readInto_j110, f_X6_readInto_j111, hx, e1, pl_lit, pl_bl, pl_bd, pl_bd2, pl_bd3, pl_bd4, pl_bcT, pl_bcF, gd_t, pl_bcTrue, pl_bcFalse, pl_gdTrue, pl_in, pl_eq, pl_lt, pl_le, pl_ix, nI_add, pk_mul, pl_m1, x1, x2, x3, g1]
        · by_cases co : ok
          · rw [bI_Tn co] at g2 ⊢
            simp (disch := omega) only [f_X12_takesItem, f_X12_takesItem_j82, f_X12_takesItem_j83, pl_lit, pl_bl, pl_bd, pl_bd2, pl_bd3, pl_bd4, pl_bcT, pl_bcF, gd_t, pl_bcTrue, pl_bcFalse, pl_gdTrue, pl_in, pl_eq, pl_lt, pl_le, pl_ix, nI_add, pk_mul, pl_m1, y1, y2, y3, g2, true_or, or_true]
          · rw [bI_Fn co] at g2 ⊢
            simp (disch := omega) only [f_X12_takesItem, f_X12_takesItem_j82, f_X12_takesItem_j83, pl_lit, pl_bl, pl_bd, pl_bd2, pl_bd3, pl_bd4, pl_bcT, pl_bcF, gd_t, pl_bcTrue, pl_bcFalse, pl_gdTrue, pl_in, pl_eq, pl_lt, pl_le, pl_ix, nI_add, pk_mul, pl_m1, y1, y2, y3, g2, true_or, or_true]
      · rw [bI_F w3] at x3 y3
        refine ⟨False, rv, h, mo, ?_, ?_, RFr_rf, Or.inr ⟨id, s, hr, hm.2.2.1⟩⟩
        · rw [bI_Fn id]
          simp (disch := omega) only [f_X6_readInto_b31, f_X6_readInto_j110, f_X6_readInto_j111, hx, e1, pl_lit, pl_bl, pl_bd, pl_bd2, pl_bd3, pl_bd4, pl_bcT, pl_bcF, gd_t, pl_bcTrue, pl_bcFalse, pl_gdTrue, pl_in, pl_eq, pl_lt, pl_le, pl_ix, nI_add, pk_mul, pl_m1, x1, x2, x3]
        · rw [bI_Fn id]
          simp (disch := omega) only [f_X12_takesItem, f_X12_takesItem_j82, f_X12_takesItem_j83, pl_lit, pl_bl, pl_bd, pl_bd2, pl_bd3, pl_bd4, pl_bcT, pl_bcF, gd_t, pl_bcTrue, pl_bcFalse, pl_gdTrue, pl_in, pl_eq, pl_lt, pl_le, pl_ix, nI_add, pk_mul, pl_m1, y1, y2, y3, true_or, or_true]
def RdL (mo0 : MV) (B : Nat → Nat) (T k : Nat) (s1 : Int32 × Int32 × MV × MV) (s2 : Int32 × MV) : Prop :=
  ∃ (i it s : Nat) (rv h mo : MV) (a : Nat → Nat), s1 = (nI i, nI it, rv, h) ∧ s2 = (nI it, mo) ∧ s ≤ T ∧ k = T - (s + tL B T s) ∧ i + 1 ≤ s + tL B T s ∧ it = i + 1 ∧ RTK rv B T s ∧ MTK mo B T (nx B T s) ∧ KR h (mo.2.1 12) a ∧ Zr (mo.2.1 12) ∧ RFr mo0 mo
def RdQ (mo0 : MV) (B : Nat → Nat) (T : Nat) (r1 : (Int32 × MV × MV) ⊕ (Int32 × MV × MV)) (r2 : (Int32 × MV) ⊕ (Int32 × MV)) : Prop :=
  (∃ (it : Nat) (rv h mo : MV) (a : Nat → Nat), it < 1000 ∧ r1 = .inr (nI it, rv, h) ∧ r2 = .inl (nI it, mo) ∧ byR rv B T ∧ KR h (mo.2.1 12) a ∧ Zr (mo.2.1 12) ∧ RFr mo0 mo) ∨
  (∃ (rv h mo : MV) (s : Nat), r1 = .inr (m1, rv, h) ∧ r2 = .inr (-nI 10 - nI s, mo) ∧ rv.1 2 = nI s ∧ byR rv B T ∧ RFr mo0 mo)
theorem rd_step {k : Nat} {s1 : Int32 × Int32 × MV × MV} {s2 : Int32 × MV} (hn : 200 ≤ n) (hT : T ≤ 150) (hB : ∀ i, B i < 128) (r : RdL mo0 B T k s1 s2) : (∃ s1' s2' k', f_X6_readInto_b31 n s1.2.2.1 s1.2.2.2 s1.1 s1.2.1 = some (.inl s1') ∧ f_X12_read_b65 n s2.2 s2.1 = some (.inl s2') ∧ k' < k ∧ RdL mo0 B T k' s1' s2') ∨ (∃ r1 r2, f_X6_readInto_b31 n s1.2.2.1 s1.2.2.2 s1.1 s1.2.1 = some (.inr r1) ∧ f_X12_read_b65 n s2.2 s2.1 = some (.inr r2) ∧ RdQ mo0 B T r1 r2) := by
  obtain ⟨i, it, s, rv, h, mo, a, rfl, rfl, hs, rfl, hi, rfl, hr, hm, hk, hz, hf⟩ := r
  have tl := tL_le (B := B) hs
  have n1 := nx_le (B := B) hs
  obtain ⟨rv1, g1, g2⟩ := X6_nextToken (n := n) hn hT (fun i _ => hB i) hr.1 tl hr.2.2.2.1
  have g2 : RTK rv1 B T (nx B T s) := g2
  have m3 := hm.2.1
  have sl := tS_le (B := B) (T := T) (s := nx B T s)
  have e1 := g2.2.1
  by_cases c0 : tS B T (nx B T s) = 0
  · refine Or.inr ⟨.inr (nI (i + 1), rv1, h), .inl (nI (i + 1), mo), ?_, ?_, Or.inl ⟨i + 1, rv1, h, mo, a, by omega, rfl, rfl, g2.1, hk, hz, hf⟩⟩
    · simp (disch := omega) only [f_X6_readInto_b31, pl_lit, pl_bl, pl_bd, pl_bd2, pl_bd3, pl_bd4, pl_bcT, pl_bcF, gd_t, pl_bcTrue, pl_bcFalse, pl_gdTrue, pl_in, pl_eq, pl_lt, pl_le, pl_ix, nI_add, pk_mul, pl_m1, g1, e1, c0]
    · simp (disch := omega) only [f_X12_read_b65, pl_lit, pl_bl, pl_bd, pl_bd2, pl_bd3, pl_bd4, pl_bcT, pl_bcF, gd_t, pl_bcTrue, pl_bcFalse, pl_gdTrue, pl_in, pl_eq, pl_lt, pl_le, pl_ix, nI_add, pk_mul, pl_m1, m3, c0]
  · obtain ⟨ok, rv2, h2, mo2, k1, k2, k3, k4⟩ := it_any (n := n) hn hT hB n1.2 g2 hm hk hz c0 (it := nI (i + 1)) (i := i) (by omega) rv g1
    have hf2 := RFr_tr hf k3
    rcases k4 with ⟨co, s', a', q1, q2, q3, q4, q5, q6⟩ | ⟨co, s', q1, q2⟩
    · rw [bI_Tn co] at k1 k2
      obtain ⟨rv3, k5, k6⟩ := X6_stops (n := n) hn hT hB q2 q3
      have n2 := nx_le (B := B) q2
      have m3' := q4.2.1
      have sl' := tS_le (B := B) (T := T) (s := nx B T s')
      by_cases c3 : tS B T (nx B T s') = 3
      · rw [bI_T c3] at k5
        obtain ⟨mo3, k7, k8, k9⟩ := X12_goBehind (n := n) hn hT hB n2.2 q4
        have tl3 := (tS_3 c3).1
        have lt3 := (tS_3 c3).2
        refine Or.inl ⟨(nI (i + 1), nI (i + 1 + 1), rv3, h2), (nI (i + 1 + 1), mo3), T - (nx B T s' + tL B T (nx B T s')), ?_, ?_, by omega, i + 1, i + 1 + 1, nx B T s', rv3, h2, mo3, a', rfl, rfl, n2.2, rfl, by omega, rfl, k6, k8, by rw [k9]; exact q5, by rw [k9]; exact q6, RFr_tr hf2 (RFr_of q4 k8 k9)⟩
        · show f_X6_readInto_b31 n rv h (nI i) (nI (i + 1)) = _
          rw [k1]
          simp (disch := omega) only [f_X6_readInto_j113, pl_lit, pl_bl, pl_bd, pl_bd2, pl_bd3, pl_bd4, pl_bcT, pl_bcF, gd_t, pl_bcTrue, pl_bcFalse, pl_gdTrue, pl_in, pl_eq, pl_lt, pl_le, pl_ix, nI_add, pk_mul, pl_m1, k5]
        · simp (disch := omega) only [f_X12_read_b65, pl_lit, pl_bl, pl_bd, pl_bd2, pl_bd3, pl_bd4, pl_bcT, pl_bcF, gd_t, pl_bcTrue, pl_bcFalse, pl_gdTrue, pl_in, pl_eq, pl_lt, pl_le, pl_ix, nI_add, pk_mul, pl_m1, m3, k2, m3', k7]
      · rw [bI_F c3] at k5
        refine Or.inr ⟨.inr (m1, rv3, h2), .inr (-nI 10 - nI (nx B T s'), mo2), ?_, ?_, Or.inr ⟨rv3, h2, mo2, nx B T s', rfl, rfl, k6.2.2.1, k6.1, hf2⟩⟩
        · show f_X6_readInto_b31 n rv h (nI i) (nI (i + 1)) = _
          rw [k1]
          simp (disch := omega) only [f_X6_readInto_j113, pl_lit, pl_bl, pl_bd, pl_bd2, pl_bd3, pl_bd4, pl_bcT, pl_bcF, gd_t, pl_bcTrue, pl_bcFalse, pl_gdTrue, pl_in, pl_eq, pl_lt, pl_le, pl_ix, nI_add, pk_mul, pl_m1, k5]
        · simp (disch := omega) only [f_X12_read_b65, pl_lit, pl_bl, pl_bd, pl_bd2, pl_bd3, pl_bd4, pl_bcT, pl_bcF, gd_t, pl_bcTrue, pl_bcFalse, pl_gdTrue, pl_in, pl_eq, pl_lt, pl_le, pl_ix, nI_add, pk_mul, pl_m1, m3, k2, m3', q4.2.2.1]
    · rw [bI_Fn co] at k1 k2
      refine Or.inr ⟨.inr (m1, rv2, h2), .inr (-nI 10 - nI s', mo2), ?_, ?_, Or.inr ⟨rv2, h2, mo2, s', rfl, rfl, q1.2.2.1, q1.1, hf2⟩⟩
      · show f_X6_readInto_b31 n rv h (nI i) (nI (i + 1)) = _
        rw [k1]
        simp (disch := omega) only [f_X6_readInto_j113, pl_lit, pl_bl, pl_bd, pl_bd2, pl_bd3, pl_bd4, pl_bcT, pl_bcF, gd_t, pl_bcTrue, pl_bcFalse, pl_gdTrue, pl_in, pl_eq, pl_lt, pl_le, pl_ix, nI_add, pk_mul, pl_m1]
      · simp (disch := omega) only [f_X12_read_b65, pl_lit, pl_bl, pl_bd, pl_bd2, pl_bd3, pl_bd4, pl_bcT, pl_bcF, gd_t, pl_bcTrue, pl_bcFalse, pl_gdTrue, pl_in, pl_eq, pl_lt, pl_le, pl_ix, nI_add, pk_mul, pl_m1, m3, k2, q2]
theorem X12_told {v1 : Int32} (hn : 200 ≤ n) : f_X12_read_l107 n n mo v1 (nI 0) = some (setA mo 0 (va_cpy (mo.2.1 12) (mo.2.1 0) 0 0 83)) := by
  refine lp_cnt' 83 (fun i => setA mo 0 (va_cpy (mo.2.1 12) (mo.2.1 0) 0 0 i)) mo _ (by rw [cpy_0, sA_id]) (fun i hi => ?_) ?_ (by omega)
  · have := cpy_s (f := mo.2.1 12) (g := mo.2.1 0) (sp := 0) (dp := 0) (i := i)
    rw [Nat.zero_add] at this
    simp (disch := omega) only [f_X12_read_b107, pl_lit, pl_bl, pl_bd, pl_bd2, pl_bd3, pl_bd4, pl_bcT, pl_bcF, gd_t, pl_bcTrue, pl_bcFalse, pl_gdTrue, pl_in, pl_eq, pl_lt, pl_le, pl_ix, nI_add, pk_mul, pl_m1, sA_s, sAA, sA_n, this]
  · simp (disch := omega) only [f_X12_read_b107, pl_lit, pl_bl, pl_bd, pl_bd2, pl_bd3, pl_bd4, pl_bcT, pl_bcF, gd_t, pl_bcTrue, pl_bcFalse, pl_gdTrue, pl_in, pl_eq, pl_lt, pl_le, pl_ix, nI_add, pk_mul, pl_m1]
/-- both read a text: a house, or a fault -/
theorem rd_both {h1 : MV} (hn : 200 ≤ n) (hT : T ≤ 150) (hB : ∀ i, B i < 128) (hr : byR rv B T) (hm : byM mo B T) : (∃ (it : Nat) (rv' h' mo' : MV) (a : Nat → Nat), it < 1000 ∧ f_X6_readInto n rv (empH h1) = some (nI it, rv', h') ∧ f_X12_read n mo = some (nI it, setA mo' 0 (va_cpy (mo'.2.1 12) (mo'.2.1 0) 0 0 83)) ∧ byR rv' B T ∧ KR h' (mo'.2.1 12) a ∧ Zr (mo'.2.1 12) ∧ RFr mo mo') ∨ (∃ (rv' h' mo' : MV) (s : Nat), f_X6_readInto n rv (empH h1) = some (m1, rv', h') ∧ f_X12_read n mo = some (-nI 10 - nI s, mo') ∧ rv'.1 2 = nI s ∧ byR rv' B T ∧ RFr mo mo') := by
  obtain ⟨rv1, g1, g2⟩ := X6_nextToken (n := n) (rv := setS rv 3 (nI 0)) (e := 0) hn hT (fun i _ => hB i) hr (Nat.zero_le _) rfl
  obtain ⟨mo1, g3, g4, g5⟩ := X12_lookAt (n := n) (mo := mo) (e := 0) hn hT (fun i _ => hB i) hm (Nat.zero_le _)
  have sk := skp_le (B := B) (T - 0) 0
  generalize skp B (T - 0) 0 = s0 at g2 g4 sk
  have hs0 : s0 ≤ T := by omega
  have hf1 : RFr mo mo1 := ⟨by rw [g4.1.1, hm.1], by rw [g5], fun k _ _ => by rw [g5]⟩
  have x0 := X6_isWord (n := n) (i := 0) (by omega) hn hT hB hs0 g2
  have y0 : f_X12_spells n mo1 (nI 5) (nI 104) (nI 111) (nI 117) (nI 115) (nI 101) (nI 0) = some (bI (wdP B T (wdL 0) (wdN 0) s0)) := X12_spells (n := n) (L := 5) (by omega) (by omega) hn hT hB hs0 g4
  by_cases w0 : wdP B T (wdL 0) (wdN 0) s0
  · rw [bI_T w0] at x0 y0
    obtain ⟨rv2, g6, g7⟩ := X6_stops (n := n) hn hT hB hs0 g2
    obtain ⟨mo2, g8, g9, g10⟩ := X12_goBehind (n := n) hn hT hB hs0 g4
    have n1 := nx_le (B := B) hs0
    have m3 := g9.2.1
    have sl := tS_le (B := B) (T := T) (s := nx B T s0)
    have hf2 := RFr_tr hf1 (RFr_of g4 g9 g10)
    by_cases c3 : tS B T (nx B T s0) = 3
    · rw [bI_T c3] at g6
      obtain ⟨mo3, k1, k2, k3⟩ := X12_goBehind (n := n) hn hT hB n1.2 g9
      have bg := X12_begin (n := n) (z := 83) (t := mo3.2.1 12) (by omega) (Nat.le_refl _)
      have hf3 := RFr_tr hf2 (RFr_of g9 k2 k3)
      have hf4 : RFr mo (setA mo3 12 (begT (mo3.2.1 12))) := RFr_tr hf3 RFr_12
      have t3 := tS_3 c3
      have zr : Zr (begT (mo3.2.1 12)) := ⟨begT_0 (by omega) (by omega), begT_0 (by omega) (by omega), begT_0 (by omega) (by omega)⟩
      have RdL0 : RdL mo B T (T - (nx B T s0 + tL B T (nx B T s0))) (nI 0, nI 1, rv2, empH h1) (nI 1, setA mo3 12 (begT (mo3.2.1 12))) := ⟨0, 1, nx B T s0, rv2, empH h1, setA mo3 12 (begT (mo3.2.1 12)), fun _ => 0, rfl, rfl, n1.2, rfl, by omega, rfl, g7, k2, KR_emp, zr, hf4⟩
      obtain ⟨r1, r2, q1, q2, q3⟩ := lp_par (b1 := fun q => f_X6_readInto_b31 n q.2.2.1 q.2.2.2 q.1 q.2.1) (b2 := fun q => f_X12_read_b65 n q.2 q.1) (RdL mo B T) (RdQ mo B T) (fun k s1 s2 r => rd_step hn hT hB r) 150 _ _ _ n n (by omega) RdL0 (by omega) (by omega)
      have q1' : f_X6_readInto_l31 n n rv2 (empH h1) (nI 0) (nI 1) = some r1 := q1
      have q2' : f_X12_read_l65 n n (setA mo3 12 (begT (mo3.2.1 12))) (nI 1) = some r2 := q2
      rcases q3 with ⟨it, rv3, h3, mo4, a, p1, rfl, rfl, p4, p5, p6, p7⟩ | ⟨rv3, h3, mo4, s3, rfl, rfl, p3, p4, p5⟩
      · refine Or.inl ⟨it, rv3, h3, mo4, a, p1, ?_, ?_, p4, p5, p6, p7⟩
        · simp (disch := omega) only [f_X6_readInto, pl_lit, pl_bl, pl_bd, pl_bd2, pl_bd3, pl_bd4, pl_bcT, pl_bcF, gd_t, pl_bcTrue, pl_bcFalse, pl_gdTrue, pl_in, pl_eq, pl_lt, pl_le, pl_ix, nI_add, pk_mul, pl_m1, g1, x0, g6, q1']
          rfl
        · have td := fun v => X12_told (n := n) (mo := mo4) (v1 := v) hn
          simp (disch := omega) only [f_X12_read, pl_lit, pl_bl, pl_bd, pl_bd2, pl_bd3, pl_bd4, pl_bcT, pl_bcF, gd_t, pl_bcTrue, pl_bcFalse, pl_gdTrue, pl_in, pl_eq, pl_lt, pl_le, pl_ix, nI_add, pk_mul, pl_m1, g3, y0, g8, m3, k1, bg, q2']
          show bd (f_X12_read_l107 n n mo4 (nI it) (nI 0)) (fun mo_24 => some (nI it, mo_24)) = _
          rw [td]
          rfl
      · refine Or.inr ⟨rv3, h3, mo4, s3, ?_, ?_, p3, p4, p5⟩
        · simp (disch := omega) only [f_X6_readInto, pl_lit, pl_bl, pl_bd, pl_bd2, pl_bd3, pl_bd4, pl_bcT, pl_bcF, gd_t, pl_bcTrue, pl_bcFalse, pl_gdTrue, pl_in, pl_eq, pl_lt, pl_le, pl_ix, nI_add, pk_mul, pl_m1, g1, x0, g6, q1']
          rfl
        · simp (disch := omega) only [f_X12_read, pl_lit, pl_bl, pl_bd, pl_bd2, pl_bd3, pl_bd4, pl_bcT, pl_bcF, gd_t, pl_bcTrue, pl_bcFalse, pl_gdTrue, pl_in, pl_eq, pl_lt, pl_le, pl_ix, nI_add, pk_mul, pl_m1, g3, y0, g8, m3, k1, bg, q2']
          rfl
    · rw [bI_F c3] at g6
      refine Or.inr ⟨rv2, empH h1, mo2, nx B T s0, ?_, ?_, g7.2.2.1, g7.1, hf2⟩
      · simp (disch := omega) only [f_X6_readInto, f_X6_readInto_j25, pl_lit, pl_bl, pl_bd, pl_bd2, pl_bd3, pl_bd4, pl_bcT, pl_bcF, gd_t, pl_bcTrue, pl_bcFalse, pl_gdTrue, pl_in, pl_eq, pl_lt, pl_le, pl_ix, nI_add, pk_mul, pl_m1, g1, x0, g6]
      · simp (disch := omega) only [f_X12_read, pl_lit, pl_bl, pl_bd, pl_bd2, pl_bd3, pl_bd4, pl_bcT, pl_bcF, gd_t, pl_bcTrue, pl_bcFalse, pl_gdTrue, pl_in, pl_eq, pl_lt, pl_le, pl_ix, nI_add, pk_mul, pl_m1, g3, y0, g8, m3, g9.2.2.1]
  · rw [bI_F w0] at x0 y0
    refine Or.inr ⟨rv1, empH h1, mo1, s0, ?_, ?_, g2.2.2.1, g2.1, hf1⟩
    · simp (disch := omega) only [f_X6_readInto, f_X6_readInto_j25, pl_lit, pl_bl, pl_bd, pl_bd2, pl_bd3, pl_bd4, pl_bcT, pl_bcF, gd_t, pl_bcTrue, pl_bcFalse, pl_gdTrue, pl_in, pl_eq, pl_lt, pl_le, pl_ix, nI_add, pk_mul, pl_m1, g1, x0]
    · simp (disch := omega) only [f_X12_read, pl_lit, pl_bl, pl_bd, pl_bd2, pl_bd3, pl_bd4, pl_bcT, pl_bcF, gd_t, pl_bcTrue, pl_bcFalse, pl_gdTrue, pl_in, pl_eq, pl_lt, pl_le, pl_ix, nI_add, pk_mul, pl_m1, g3, y0, g4.2.2.1]
end RDL
theorem INV_rd {xo nv rv h0 h1 h2 h3 nt0 cv0 nt1 cv1 nt2 cv2 nt3 cv3 ps0 ps1 ps2 ps3 mo rv' h1' nt1' cv1' ps1' mo' h0' cv0' nt0' ps0' : MV} {B : Nat → Nat} {T : Nat} (hI : INV xo nv rv h0 h1 h2 h3 nt0 cv0 nt1 cv1 nt2 cv2 nt3 cv3 ps0 ps1 ps2 ps3 mo) (hf : RFr mo mo') (hT : T ≤ 150) (hB : ∀ i, B i < 128) (hr : byR rv' B T) (hm : byM mo B T) {t : Nat → Int32} (hs : SR h0' cv0' nt0' ps0' t) : INV xo nv rv' h0' h1' h2 h3 nt0' cv0' nt1' cv1' nt2 cv2 nt3 cv3 ps0' ps1' ps2 ps3 (setA mo' 0 t) := by
  obtain ⟨i1, i2, i3, i4, i5, i6, i7⟩ := hI
  obtain ⟨f1, f2, f3⟩ := hf
  have e1 : (setA mo' 0 t).2.1 1 = mo.2.1 1 := f3 1 (by omega) (by omega)
  have e2 : (setA mo' 0 t).2.1 2 = mo.2.1 2 := f3 2 (by omega) (by omega)
  have e3 : (setA mo' 0 t).2.1 3 = mo.2.1 3 := f3 3 (by omega) (by omega)
  have e11 : (setA mo' 0 t).2.1 11 = mo.2.1 11 := f3 11 (by omega) (by omega)
  have e0 : (setA mo' 0 t).1 0 = mo.1 0 := f1
  have eL : (setA mo' 0 t).2.2 = mo.2.2 := f2
  unfold INV
  rw [e1, e2, e3, e11, e0, eL]
  exact ⟨hs, i2, i3, i4, i5, i6, T, hT, hr.1, hm.1, fun i hi => ⟨B i, hB i, hr.2 i hi, hm.2 i hi⟩⟩
theorem sim_read {n : Nat} (hn : 200 ≤ n) : SIM_read n INV := by
  intro xo nv rv h0 h1 h2 h3 nt0 cv0 nt1 cv1 nt2 cv2 nt3 cv3 ps0 ps1 ps2 ps3 mo hI
  have hI0 := hI
  obtain ⟨i1, i2, i3, i4, i5, i6, T, hT, j1, j2, j3⟩ := hI
  obtain ⟨B, hB, hr, hm⟩ : ∃ B : Nat → Nat, (∀ i, B i < 128) ∧ byR rv B T ∧ byM mo B T := by
    have ch : ∀ i, ∃ b, b < 128 ∧ (i < T → rv.2.1 0 i = nI b ∧ mo.2.1 11 i = nI b) := fun i => by
      by_cases c : i < T
      · obtain ⟨b, h1, h2, h3⟩ := j3 i c
        exact ⟨b, h1, fun _ => ⟨h2, h3⟩⟩
      · exact ⟨0, by omega, fun z => absurd z c⟩
    refine ⟨fun i => Classical.choose (ch i), fun i => (Classical.choose_spec (ch i)).1, ⟨j1, fun i hi => ((Classical.choose_spec (ch i)).2 hi).1⟩, ⟨j2, fun i hi => ((Classical.choose_spec (ch i)).2 hi).2⟩⟩
  have me := X1_makeEmpty (n := n) (h := h1) (nt := nt1) (cv := cv1) (ps := ps1)
  rcases rd_both (n := n) (h1 := h1) hn hT hB hr hm with ⟨it, rv', h', mo', a, p1, p2, p3, p4, p5, p6, p7⟩ | ⟨rv', h', mo', s, p1, p2, p3, p4, p5⟩
  · have tk := @X1_takeOver n h0 cv0 nt0 ps0 h' (setS nt1 0 0) (setS cv1 0 0) (setS (setS ps1 0 0) 1 0)
    have sr : SR h' (setS cv1 0 0) (setS nt1 0 0) (setS (setS ps1 0 0) 1 0) (va_cpy (mo'.2.1 12) (mo'.2.1 0) 0 0 83) := by
      have cp : ∀ j, j < 83 → va_cpy (mo'.2.1 12) (mo'.2.1 0) 0 0 83 j = mo'.2.1 12 j := fun j hj => by rw [cpy_i (i := j) (by omega) hj, Nat.zero_add]
      have c2 : cut a 2 = 0 := rfl
      have c3 : cut a 3 = 0 := rfl
      have c4 : cut a 4 = 0 := rfl
      refine KR_mk (a := cut a) (KR_c p5 (fun j h1 h2 => cut_n h2) (fun j h1 h2 => cp j (by omega))) ?_ ?_ ?_ ?_ ?_ ?_ (PO_0 c4 rfl rfl)
      · rw [c2, c3, c4, cp 2 (by omega), cp 3 (by omega), cp 4 (by omega)]
        exact ⟨by omega, by omega, by omega, p6.1, p6.2.1, p6.2.2⟩
      · rw [c2]; exact fun m hm => absurd hm (Nat.not_lt_zero m)
      · rw [c3]; exact fun m hm => absurd hm (Nat.not_lt_zero m)
      · intro u hu
        rw [c4] at hu
        exact absurd hu (Nat.not_lt_zero u)
      · rw [c2]; exact ⟨rfl, fun m hm => absurd hm (Nat.not_lt_zero m)⟩
      · rw [c3]; exact ⟨rfl, fun m hm => absurd hm (Nat.not_lt_zero m)⟩
    refine ⟨nI it, rv', tkH h0 h', h', tkS nt0 (setS nt1 0 0), tkS cv0 (setS cv1 0 0), setS nt1 0 0, setS cv1 0 0, tkP ps0 (setS (setS ps1 0 0) 1 0), setS (setS ps1 0 0) 1 0, setA mo' 0 (va_cpy (mo'.2.1 12) (mo'.2.1 0) 0 0 83), ?_, p3, INV_rd hI0 p7 hT hB p4 hm (SR_tk sr)⟩
    unfold f_X11_read
    rw [me]
    simp only [pl_bd4]
    rw [p2]
    simp only [pl_bd3]
    rw [bc_F (show ¬ nI it = -1 by
      intro z
      have : (nI it = m1) = False := pl_nem1 (by omega)
      exact this.mp z), tk]
    rfl
  · refine ⟨-nI 10 - nI s, rv', h0, h', nt0, cv0, setS nt1 0 0, setS cv1 0 0, ps0, setS (setS ps1 0 0) 1 0, mo', ?_, p2, ?_⟩
    · unfold f_X11_read
      rw [me]
      simp only [pl_bd4]
      rw [p1]
      simp only [pl_bd3]
      rw [bc_T (show m1 = -1 from rfl), p3]
      rfl
    · have := INV_rd (h1' := h') (nt1' := setS nt1 0 0) (cv1' := setS cv1 0 0) (ps1' := setS (setS ps1 0 0) 1 0) hI0 p5 hT hB p4 hm i1
      rw [← p5.2.2 0 (by omega) (by omega), sA_id] at this
      exact this
