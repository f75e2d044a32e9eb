/-! digest, sessions -/
def cntN (a : Nat → Nat) (lie T k : Nat) : Nat := if k = 0 then a 0 else if k = 1 then a 1 else if k = 2 then a 23 else if k = 3 then lie else if k = 4 then a 2 else if k = 5 then a 3 else if k = 6 then a 4 else T
section DIG
variable {n : Nat} {xo rv h nt cv ps mo : MV} {t : Nat → Int32} {a : Nat → Nat} {T k : Nat}
theorem X11_howManyK (hn : 100 ≤ n) (ha : okA a) (hh : HO h t a) (hc : SO cv a (a 2) 47) (hs : SO nt a (a 3) 65) (hp : PO ps t a) (e8 : rv.1 0 = nI T) (hk : k < 8) : f_X11_howMany n xo rv h nt cv ps (nI k) = some (nI (cntN a (sm (lieN a) (a 1)) T k)) := by
  obtain ⟨F, -, -, eU, -⟩ := hp
  have e0 : h.1 0 = nI (a 0) := hh.1
  have e1 : h.1 1 = nI (a 1) := hh.2.1
  have e2 : h.1 2 = nI (a 23) := hh.2.2.1
  have eC : cv.1 0 = nI (a 2) := hc.1
  have eN : nt.1 0 = nI (a 3) := hs.1
  rcases eight hk with rfl | rfl | rfl | rfl | rfl | rfl | rfl | rfl
  · simp (disch := omega) [f_X11_howMany, pl_lit, pl_bl, pl_bd, pl_bd2, pl_bd3, pl_bd4, pl_bcT, pl_bcF, gd_t, pl_bcTrue, pl_bcFalse, pl_gdTrue, pl_in, pl_eq, pl_lt, pl_le, pl_ix, nI_add, pk_mul, pl_m1, e0, cntN]
  · simp (disch := omega) [f_X11_howMany, pl_lit, pl_bl, pl_bd, pl_bd2, pl_bd3, pl_bd4, pl_bcT, pl_bcF, gd_t, pl_bcTrue, pl_bcFalse, pl_gdTrue, pl_in, pl_eq, pl_lt, pl_le, pl_ix, nI_add, pk_mul, pl_m1, e1, cntN]
  · simp (disch := omega) [f_X11_howMany, pl_lit, pl_bl, pl_bd, pl_bd2, pl_bd3, pl_bd4, pl_bcT, pl_bcF, gd_t, pl_bcTrue, pl_bcFalse, pl_gdTrue, pl_in, pl_eq, pl_lt, pl_le, pl_ix, nI_add, pk_mul, pl_m1, e2, cntN]
  · simp (disch := omega) [f_X11_howMany, pl_lit, pl_bl, pl_bd, pl_bd2, pl_bd3, pl_bd4, pl_bcT, pl_bcF, gd_t, pl_bcTrue, pl_bcFalse, pl_gdTrue, pl_in, pl_eq, pl_lt, pl_le, pl_ix, nI_add, pk_mul, pl_m1, X1_howManyLie hn ha hh, cntN]
  · simp (disch := omega) [f_X11_howMany, pl_lit, pl_bl, pl_bd, pl_bd2, pl_bd3, pl_bd4, pl_bcT, pl_bcF, gd_t, pl_bcTrue, pl_bcFalse, pl_gdTrue, pl_in, pl_eq, pl_lt, pl_le, pl_ix, nI_add, pk_mul, pl_m1, eC, cntN]
  · simp (disch := omega) [f_X11_howMany, pl_lit, pl_bl, pl_bd, pl_bd2, pl_bd3, pl_bd4, pl_bcT, pl_bcF, gd_t, pl_bcTrue, pl_bcFalse, pl_gdTrue, pl_in, pl_eq, pl_lt, pl_le, pl_ix, nI_add, pk_mul, pl_m1, eN, cntN]
  · simp (disch := omega) [f_X11_howMany, pl_lit, pl_bl, pl_bd, pl_bd2, pl_bd3, pl_bd4, pl_bcT, pl_bcF, gd_t, pl_bcTrue, pl_bcFalse, pl_gdTrue, pl_in, pl_eq, pl_lt, pl_le, pl_ix, nI_add, pk_mul, pl_m1, eU, cntN]
  · simp (disch := omega) [f_X11_howMany, pl_lit, pl_bl, pl_bd, pl_bd2, pl_bd3, pl_bd4, pl_bcT, pl_bcF, gd_t, pl_bcTrue, pl_bcFalse, pl_gdTrue, pl_in, pl_eq, pl_lt, pl_le, pl_ix, nI_add, pk_mul, pl_m1, e8, cntN]
theorem X12_countedK (hn : 100 ≤ n) (ha : okA a) (ht : TR (mo.2.1 0) a) (e9 : mo.1 0 = nI T) (hk : k < 8) : f_X12_counted n mo (nI k) = some (nI (cntN a (sm (lieN a) (a 1)) T k)) := by
  have t2 : mo.2.1 0 2 = nI (a 2) := ht.2.2.1
  have t3 : mo.2.1 0 3 = nI (a 3) := ht.2.2.2.1
  have t4 : mo.2.1 0 4 = nI (a 4) := ht.2.2.2.2.1
  have t23 : mo.2.1 0 23 = nI (a 23) := ht.2.2.2.2.2.1
  rcases eight hk with rfl | rfl | rfl | rfl | rfl | rfl | rfl | rfl
  · simp (disch := omega) [f_X12_counted, pl_lit, pl_bl, pl_bd, pl_bd2, pl_bd3, pl_bd4, pl_bcT, pl_bcF, gd_t, pl_bcTrue, pl_bcFalse, pl_gdTrue, pl_in, pl_eq, pl_lt, pl_le, pl_ix, nI_add, pk_mul, pl_m1, X12_members ht.1, cntN]
  · simp (disch := omega) [f_X12_counted, pl_lit, pl_bl, pl_bd, pl_bd2, pl_bd3, pl_bd4, pl_bcT, pl_bcF, gd_t, pl_bcTrue, pl_bcFalse, pl_gdTrue, pl_in, pl_eq, pl_lt, pl_le, pl_ix, nI_add, pk_mul, pl_m1, X12_letters ht.2.1, cntN]
  · simp (disch := omega) [f_X12_counted, pl_lit, pl_bl, pl_bd, pl_bd2, pl_bd3, pl_bd4, pl_bcT, pl_bcF, gd_t, pl_bcTrue, pl_bcFalse, pl_gdTrue, pl_in, pl_eq, pl_lt, pl_le, pl_ix, nI_add, pk_mul, pl_m1, t23, cntN]
  · simp (disch := omega) [f_X12_counted, pl_lit, pl_bl, pl_bd, pl_bd2, pl_bd3, pl_bd4, pl_bcT, pl_bcF, gd_t, pl_bcTrue, pl_bcFalse, pl_gdTrue, pl_in, pl_eq, pl_lt, pl_le, pl_ix, nI_add, pk_mul, pl_m1, X12_manyLie hn ha ht, cntN]
  · simp (disch := omega) [f_X12_counted, pl_lit, pl_bl, pl_bd, pl_bd2, pl_bd3, pl_bd4, pl_bcT, pl_bcF, gd_t, pl_bcTrue, pl_bcFalse, pl_gdTrue, pl_in, pl_eq, pl_lt, pl_le, pl_ix, nI_add, pk_mul, pl_m1, t2, cntN]
  · simp (disch := omega) [f_X12_counted, pl_lit, pl_bl, pl_bd, pl_bd2, pl_bd3, pl_bd4, pl_bcT, pl_bcF, gd_t, pl_bcTrue, pl_bcFalse, pl_gdTrue, pl_in, pl_eq, pl_lt, pl_le, pl_ix, nI_add, pk_mul, pl_m1, t3, cntN]
  · simp (disch := omega) [f_X12_counted, pl_lit, pl_bl, pl_bd, pl_bd2, pl_bd3, pl_bd4, pl_bcT, pl_bcF, gd_t, pl_bcTrue, pl_bcFalse, pl_gdTrue, pl_in, pl_eq, pl_lt, pl_le, pl_ix, nI_add, pk_mul, pl_m1, t4, cntN]
  · simp (disch := omega) [f_X12_counted, pl_lit, pl_bl, pl_bd, pl_bd2, pl_bd3, pl_bd4, pl_bcT, pl_bcF, gd_t, pl_bcTrue, pl_bcFalse, pl_gdTrue, pl_in, pl_eq, pl_lt, pl_le, pl_ix, nI_add, pk_mul, pl_m1, e9, cntN]
def mixL (s : Int64) (f : Nat → Int64) : Nat → Int64
  | 0 => s
  | k + 1 => 31 * mixL s f k + f k
theorem X12_sums {s : Int64} {b c : Nat} (hn : 100 ≤ n) (hc : c ≤ 20) (hb : b ≤ 100) : f_X12_sums n mo s (nI b) (nI c) = some (mixL s (fun k => (mo.2.1 0 (b + k)).toInt64) c) := by
  have : f_X12_sums_l6 n n mo (nI b) (nI c) 0 s = some (mixL s (fun k => (mo.2.1 0 (b + k)).toInt64) c) := by
    refine lp_cnt c (fun i => mixL s (fun k => (mo.2.1 0 (b + k)).toInt64) i) _ (fun i hi => ?_) ?_ (by omega)
    · simp (disch := omega) only [f_X12_sums_b6, pl_lit, pl_bl, pl_bd, pl_bd2, pl_bd3, pl_bd4, pl_bcT, pl_bcF, gd_t, pl_bcTrue, pl_bcFalse, pl_gdTrue, pl_in, pl_eq, pl_lt, pl_le, pl_ix, nI_add, pk_mul, pl_m1, mixL]
    · simp (disch := omega) only [f_X12_sums_b6, pl_lit, pl_bl, pl_bd, pl_bd2, pl_bd3, pl_bd4, pl_bcT, pl_bcF, gd_t, pl_bcTrue, pl_bcFalse, pl_gdTrue, pl_in, pl_eq, pl_lt, pl_le, pl_ix, nI_add, pk_mul, pl_m1]
  unfold f_X12_sums
  rw [this]
  rfl
def memL (t : Nat → Int32) (s : Int64) : Nat → Int64
  | 0 => s
  | k + 1 => 31 * (31 * (31 * memL t s k + (t (24 + k)).toInt64) + (t (16 + k)).toInt64) + (t (11 + k)).toInt64
def letL (t : Nat → Int32) (s : Int64) : Nat → Int64
  | 0 => s
  | k + 1 => 31 * (31 * (31 * (31 * letL t s k + (t (29 + 3 * k)).toInt64) + (t (30 + 3 * k)).toInt64) + (t (31 + 3 * k)).toInt64) + (t (5 + k)).toInt64
theorem X11_mix {x y : Int64} : f_X11_mix n x y = some (31 * x + y) := rfl
theorem X11_mixSlips {s : Int64} {c b : Nat} (hn : 100 ≤ n) (hc : c ≤ 6) (hs : SO cv a c b) (et : ∀ i, i < c → t (b + 3 * i) = nI (a (b + 3 * i)) ∧ t (b + 1 + 3 * i) = nI (a (b + 1 + 3 * i)) ∧ t (b + 2 + 3 * i) = nI (a (b + 2 + 3 * i))) : f_X11_mixSlips n cv s = some (mixL s (fun k => (t (b + k)).toInt64) (3 * c)) := by
  have e : cv.1 0 = nI c := hs.1
  have : f_X11_mixSlips_l5 n n cv 0 s = some (mixL s (fun k => (t (b + k)).toInt64) (3 * c)) := by
    refine lp_cnt c (fun i => mixL s (fun k => (t (b + k)).toInt64) (3 * i)) _ (fun i hi => ?_) ?_ (by omega)
    · obtain ⟨e1, e2, e3⟩ := hs.2 i hi
      obtain ⟨f1, f2, f3⟩ := et i hi
      have q : mixL s (fun k => (t (b + k)).toInt64) (3 * (i + 1)) = 31 * (31 * (31 * mixL s (fun k => (t (b + k)).toInt64) (3 * i) + (t (b + 3 * i)).toInt64) + (t (b + 1 + 3 * i)).toInt64) + (t (b + 2 + 3 * i)).toInt64 := by
        rw [show b + 1 + 3 * i = b + (3 * i + 1) by omega, show b + 2 + 3 * i = b + (3 * i + 2) by omega]
        rfl
      rw [f1, f2, f3] at q
      simp (disch := omega) only [f_X11_mixSlips_b5, X11_mix, pl_lit, pl_bl, pl_bd, pl_bd2, pl_bd3, pl_bd4, pl_bcT, pl_bcF, gd_t, pl_bcTrue, pl_bcFalse, pl_gdTrue, pl_in, pl_eq, pl_lt, pl_le, pl_ix, nI_add, pk_mul, pl_m1, e, e1, e2, e3, q]
    · simp (disch := omega) only [f_X11_mixSlips_b5, pl_lit, pl_bl, pl_bd, pl_bd2, pl_bd3, pl_bd4, pl_bcT, pl_bcF, gd_t, pl_bcTrue, pl_bcFalse, pl_gdTrue, pl_in, pl_eq, pl_lt, pl_le, pl_ix, nI_add, pk_mul, pl_m1, e]
  unfold f_X11_mixSlips
  rw [this]
  rfl
end DIG
theorem sim_digest {n : Nat} (hn : 100 ≤ n) : SIM_digest n INV := by
  intro xo nv rv h0 h1 h2 h3 nt0 cv0 nt1 cv1 nt2 cv2 nt3 cv3 ps0 ps1 ps2 ps3 mo hI
  have hI0 := hI
  obtain ⟨⟨a, ha, ht, hh, hc, hn', hp⟩, -, -, -, -, ⟨l1, l2⟩, T, hT, e8, e9, -⟩ := hI
  have h6 := okL ha
  have eA : h0.1 0 = nI (a 0) := hh.1
  have eB : h0.1 1 = nI (a 1) := hh.2.1
  have eM := X12_members (n := n) ht.1
  have eL := X12_letters (n := n) ht.2.1
  obtain ⟨D0, hD0⟩ : ∃ D0, D0 = mixL 1289 (fun k => (nI (cntN a (sm (lieN a) (a 1)) T k)).toInt64) 8 := ⟨_, rfl⟩
  have c1 : f_X11_digest_l6 n n xo rv h0 nt0 cv0 ps0 0 1289 = some D0 := by
    rw [hD0]
    refine lp_cnt 8 (fun i => mixL 1289 (fun k => (nI (cntN a (sm (lieN a) (a 1)) T k)).toInt64) i) _ (fun i hi => ?_) ?_ (by omega)
    · simp (disch := omega) only [f_X11_digest_b6, X11_mix, pl_lit, pl_bl, pl_bd, pl_bd2, pl_bd3, pl_bd4, pl_bcT, pl_bcF, gd_t, pl_bcTrue, pl_bcFalse, pl_gdTrue, pl_in, pl_eq, pl_lt, pl_le, pl_ix, nI_add, pk_mul, pl_m1, X11_howManyK (n := n) (xo := xo) hn ha hh hc hn' hp e8 hi, mixL]
    · simp (disch := omega) only [f_X11_digest_b6, pl_lit, pl_bl, pl_bd, pl_bd2, pl_bd3, pl_bd4, pl_bcT, pl_bcF, gd_t, pl_bcTrue, pl_bcFalse, pl_gdTrue, pl_in, pl_eq, pl_lt, pl_le, pl_ix, nI_add, pk_mul, pl_m1]
  have d1 : f_X12_digest_l6 n n mo 0 1289 = some D0 := by
    rw [hD0]
    refine lp_cnt 8 (fun i => mixL 1289 (fun k => (nI (cntN a (sm (lieN a) (a 1)) T k)).toInt64) i) _ (fun i hi => ?_) ?_ (by omega)
    · simp (disch := omega) only [f_X12_digest_b6, pl_lit, pl_bl, pl_bd, pl_bd2, pl_bd3, pl_bd4, pl_bcT, pl_bcF, gd_t, pl_bcTrue, pl_bcFalse, pl_gdTrue, pl_in, pl_eq, pl_lt, pl_le, pl_ix, nI_add, pk_mul, pl_m1, X12_countedK (n := n) hn ha ht e9 hi, mixL]
    · simp (disch := omega) only [f_X12_digest_b6, pl_lit, pl_bl, pl_bd, pl_bd2, pl_bd3, pl_bd4, pl_bcT, pl_bcF, gd_t, pl_bcTrue, pl_bcFalse, pl_gdTrue, pl_in, pl_eq, pl_lt, pl_le, pl_ix, nI_add, pk_mul, pl_m1]
  obtain ⟨D1, hD1⟩ : ∃ D1, D1 = 31 * (31 * D0 + (mo.2.1 0 21).toInt64) + (mo.2.1 0 22).toInt64 := ⟨_, rfl⟩
  have d2 : f_X12_sums n mo D0 (nI 21) (nI 2) = some D1 := by rw [X12_sums hn (by omega) (by omega), hD1]; rfl
  have c3 : f_X11_digest_l55 n n xo rv h0 nt0 cv0 ps0 0 D1 = some (memL (mo.2.1 0) D1 (a 0)) := by
    refine lp_cnt (a 0) (fun i => memL (mo.2.1 0) D1 i) _ (fun i hi => ?_) ?_ (by omega)
    · obtain ⟨e1, e2, e3⟩ := hoM hh hi
      obtain ⟨f1, f2, f3⟩ := trM ht hi
      simp (disch := omega) only [f_X11_digest_b55, X11_mix, pl_lit, pl_bl, pl_bd, pl_bd2, pl_bd3, pl_bd4, pl_bcT, pl_bcF, gd_t, pl_bcTrue, pl_bcFalse, pl_gdTrue, pl_in, pl_eq, pl_lt, pl_le, pl_ix, nI_add, pk_mul, pl_m1, eA, e1, e2, e3, memL, f1, f2, f3]
    · simp (disch := omega) only [f_X11_digest_b55, pl_lit, pl_bl, pl_bd, pl_bd2, pl_bd3, pl_bd4, pl_bcT, pl_bcF, gd_t, pl_bcTrue, pl_bcFalse, pl_gdTrue, pl_in, pl_eq, pl_lt, pl_le, pl_ix, nI_add, pk_mul, pl_m1, eA]
  have d3 : f_X12_digest_l42 n n mo 0 D1 = some (memL (mo.2.1 0) D1 (a 0)) := by
    refine lp_cnt (a 0) (fun i => memL (mo.2.1 0) D1 i) _ (fun i hi => ?_) ?_ (by omega)
    · simp (disch := omega) only [f_X12_digest_b42, pl_lit, pl_bl, pl_bd, pl_bd2, pl_bd3, pl_bd4, pl_bcT, pl_bcF, gd_t, pl_bcTrue, pl_bcFalse, pl_gdTrue, pl_in, pl_eq, pl_lt, pl_le, pl_ix, nI_add, pk_mul, pl_m1, eM, memL]
    · simp (disch := omega) only [f_X12_digest_b42, pl_lit, pl_bl, pl_bd, pl_bd2, pl_bd3, pl_bd4, pl_bcT, pl_bcF, gd_t, pl_bcTrue, pl_bcFalse, pl_gdTrue, pl_in, pl_eq, pl_lt, pl_le, pl_ix, nI_add, pk_mul, pl_m1, eM]
  obtain ⟨D2, hD2⟩ : ∃ D2, D2 = memL (mo.2.1 0) D1 (a 0) := ⟨_, rfl⟩
  rw [← hD2] at c3 d3
  have c4 : f_X11_digest_l115 n n xo rv h0 nt0 cv0 ps0 0 D2 = some (letL (mo.2.1 0) D2 (a 1)) := by
    refine lp_cnt (a 1) (fun i => letL (mo.2.1 0) D2 i) _ (fun i hi => ?_) ?_ (by omega)
    · obtain ⟨e1, e2, e3, e4⟩ := hoL hh hi
      obtain ⟨f1, f2, f3, f4⟩ := trL ht hi
      simp (disch := omega) only [f_X11_digest_b115, X11_mix, pl_lit, pl_bl, pl_bd, pl_bd2, pl_bd3, pl_bd4, pl_bcT, pl_bcF, gd_t, pl_bcTrue, pl_bcFalse, pl_gdTrue, pl_in, pl_eq, pl_lt, pl_le, pl_ix, nI_add, pk_mul, pl_m1, eB, e1, e2, e3, e4, letL, f1, f2, f3, f4]
    · simp (disch := omega) only [f_X11_digest_b115, pl_lit, pl_bl, pl_bd, pl_bd2, pl_bd3, pl_bd4, pl_bcT, pl_bcF, gd_t, pl_bcTrue, pl_bcFalse, pl_gdTrue, pl_in, pl_eq, pl_lt, pl_le, pl_ix, nI_add, pk_mul, pl_m1, eB]
  have d4 : f_X12_digest_l105 n n mo 0 D2 = some (letL (mo.2.1 0) D2 (a 1)) := by
    refine lp_cnt (a 1) (fun i => letL (mo.2.1 0) D2 i) _ (fun i hi => ?_) ?_ (by omega)
    · have q : ∀ s, f_X12_sums n mo s (nI (29 + 3 * i)) (nI 3) = some (31 * (31 * (31 * s + (mo.2.1 0 (29 + 3 * i)).toInt64) + (mo.2.1 0 (30 + 3 * i)).toInt64) + (mo.2.1 0 (31 + 3 * i)).toInt64) := fun s => by
        rw [X12_sums hn (by omega) (by omega), show 30 + 3 * i = 29 + 3 * i + 1 by omega, show 31 + 3 * i = 29 + 3 * i + 2 by omega]
        rfl
      simp (disch := omega) only [f_X12_digest_b105, pl_lit, pl_bl, pl_bd, pl_bd2, pl_bd3, pl_bd4, pl_bcT, pl_bcF, gd_t, pl_bcTrue, pl_bcFalse, pl_gdTrue, pl_in, pl_eq, pl_lt, pl_le, pl_ix, nI_add, pk_mul, pl_m1, eL, q, letL]
    · simp (disch := omega) only [f_X12_digest_b105, pl_lit, pl_bl, pl_bd, pl_bd2, pl_bd3, pl_bd4, pl_bcT, pl_bcF, gd_t, pl_bcTrue, pl_bcFalse, pl_gdTrue, pl_in, pl_eq, pl_lt, pl_le, pl_ix, nI_add, pk_mul, pl_m1, eL]
  obtain ⟨D3, hD3⟩ : ∃ D3, D3 = letL (mo.2.1 0) D2 (a 1) := ⟨_, rfl⟩
  rw [← hD3] at c4 d4
  have t2 : mo.2.1 0 2 = nI (a 2) := ht.2.2.1
  have t3 : mo.2.1 0 3 = nI (a 3) := ht.2.2.2.1
  have c5 := X11_mixSlips (n := n) (s := D3) hn h6.2.2.1 hc ht.2.2.2.2.2.2.2.2.1
  have d5 := X12_sums (n := n) (mo := mo) (s := D3) (b := 47) (c := 3 * a 2) hn (by omega) (by omega)
  obtain ⟨D4, hD4⟩ : ∃ D4, D4 = mixL D3 (fun k => (mo.2.1 0 (47 + k)).toInt64) (3 * a 2) := ⟨_, rfl⟩
  rw [← hD4] at c5 d5
  have c6 := X11_mixSlips (n := n) (s := D4) hn h6.2.2.2.1 hn' ht.2.2.2.2.2.2.2.2.2.1
  have d6 := X12_sums (n := n) (mo := mo) (s := D4) (b := 65) (c := 3 * a 3) hn (by omega) (by omega)
  obtain ⟨D5, hD5⟩ : ∃ D5, D5 = mixL D4 (fun k => (mo.2.1 0 (65 + k)).toInt64) (3 * a 3) := ⟨_, rfl⟩
  rw [← hD5] at c6 d6
  refine ⟨31 * (31 * D5 + mo.2.2 0) + mo.2.2 1, ?_, ?_, hI0⟩
  · unfold f_X11_digest
    rw [c1]
    simp only [pl_bd, X11_mix]
    rw [hh.2.2.2.1, hh.2.2.2.2.1, ← hD1, c3]
    simp only [pl_bd]
    rw [c4]
    simp only [pl_bd]
    rw [c5]
    simp only [pl_bd]
    rw [c6]
    simp only [pl_bd, l1, l2]
  · have c3' : f_X12_digest_l42 n n mo (nI 0) D1 = some D2 := d3
    have c4' : f_X12_digest_l105 n n mo (nI 0) D2 = some D3 := d4
    unfold f_X12_digest
    rw [d1]
    simp (disch := omega) only [pl_lit, pl_bl, pl_bd, pl_bd2, pl_bd3, pl_bd4, pl_bcT, pl_bcF, gd_t, pl_bcTrue, pl_bcFalse, pl_gdTrue, pl_in, pl_eq, pl_lt, pl_le, pl_ix, nI_add, pk_mul, pl_m1, d2, c3', c4', t2, t3, d5, d6]
theorem lp_two {σ1 ρ1 σ2 ρ2 : Type} {b1 : σ1 → Option (σ1 ⊕ ρ1)} {b2 : σ2 → Option (σ2 ⊕ ρ2)} (L : Nat) (R : Nat → σ1 → σ2 → Prop) (Q : ρ1 → ρ2 → Prop) (hs : ∀ i s1 s2, i < L → R i s1 s2 → ∃ s1' s2', b1 s1 = some (.inl s1') ∧ b2 s2 = some (.inl s2') ∧ R (i + 1) s1' s2') (he : ∀ s1 s2, R L s1 s2 → ∃ r1 r2, b1 s1 = some (.inr r1) ∧ b2 s2 = some (.inr r2) ∧ Q r1 r2) : ∀ k i s1 s2 f1 f2, i + k = L → R i s1 s2 → k < f1 → k < f2 → ∃ r1 r2, lp b1 f1 s1 = some r1 ∧ lp b2 f2 s2 = some r2 ∧ Q r1 r2 := by
  intro k
  induction k with
  | zero =>
    intro i s1 s2 f1 f2 hi hR h1 h2
    have : i = L := by omega
    subst this
    obtain ⟨r1, r2, e1, e2, q⟩ := he s1 s2 hR
    obtain ⟨g1, rfl⟩ : ∃ g, f1 = g + 1 := ⟨f1 - 1, by omega⟩
    obtain ⟨g2, rfl⟩ : ∃ g, f2 = g + 1 := ⟨f2 - 1, by omega⟩
    exact ⟨r1, r2, by unfold lp; rw [e1], by unfold lp; rw [e2], q⟩
  | succ k ih =>
    intro i s1 s2 f1 f2 hi hR h1 h2
    obtain ⟨s1', s2', e1, e2, hR'⟩ := hs i s1 s2 (by omega) hR
    obtain ⟨g1, rfl⟩ : ∃ g, f1 = g + 1 := ⟨f1 - 1, by omega⟩
    obtain ⟨g2, rfl⟩ : ∃ g, f2 = g + 1 := ⟨f2 - 1, by omega⟩
    obtain ⟨r1, r2, x1, x2, q⟩ := ih (i + 1) s1' s2' g1 g2 (by omega) hR' (by omega) (by omega)
    exact ⟨r1, r2, by unfold lp; rw [e1]; exact x1, by unfold lp; rw [e2]; exact x2, q⟩
def nxN (k : Nat) : Nat := (k * 1103515245 + 12345) % 2147483648
theorem nxN_lt (k : Nat) : nxN k < 2147483648 := Nat.mod_lt _ (by omega)
theorem nx_e {k : Nat} (hk : k < 2147483648) : (lN k * lN 1103515245 + lN 12345) - (lN k * lN 1103515245 + lN 12345) / lN 2147483648 * lN 2147483648 = lN (nxN k) := by
  rw [lN_mul, lN_add, pk_lRem (by omega) (by omega) (by omega)]
  rfl
theorem rm_e {k d c : Nat} (hk : k < 2147483648) (hd : 0 < d) (hd2 : d < 2147483648) (hc : 0 < c) (hc2 : c < 2147483648) : lN k / lN d - lN k / lN d / lN c * lN c = lN (k / d % c) := by
  have : k / d ≤ k := Nat.div_le_self k d
  rw [pk_lDiv (by omega) hd (by omega), pk_lRem (by omega) hc (by omega)]
section SES
variable {n : Nat} {xo h0 h1 nt0 cv0 nt1 cv1 ps0 ps1 mo : MV} {t : Nat → Int32} {a : Nat → Nat}
def RS (h0 mo : MV) (A0 A1 : Nat) (i : Nat) (s1 : Int32 × Int64 × MV) (s2 : Int32 × Int32 × Int64 × MV) : Prop :=
  ∃ k h hand a sum, k < 2147483648 ∧ s1 = (nI i, lN k, h) ∧ s2 = (nI i, sum, lN k, setA mo 10 hand) ∧ KR h hand a ∧ a 0 = A0 ∧ a 1 = A1 ∧ h.1 3 = h0.1 3 + sum
theorem ses_day {k i : Nat} {h : MV} {hand : Nat → Int32} {sum v2 : Int32} (hn : 100 ≤ n) (hk : k < 2147483648) (q : KR h hand a) (e : h.1 3 = h0.1 3 + sum) : ∃ s1 s2, f_X11_sessions_j132 n xo h0 h nt0 cv0 nt1 cv1 ps0 ps1 (lN k) (nI i) v2 = some (.inl s1) ∧ f_X12_sessions_j176 n (setA mo 10 hand) (lN k) (nI i) sum v2 = some (.inl s2) ∧ RS h0 mo (a 0) (a 1) (i + 1) s1 s2 := by
  have r4 := rm_e (k := k) (d := 1048576) (c := 4) hk (by omega) (by omega) (by omega) (by omega)
  have hd : a 23 ≤ 999 := q.1.2.2.1
  by_cases c : k / 1048576 % 4 = 0
  · refine ⟨(nI (i + 1), lN k, dayH h (nxD (a 23))), (nI (i + 1), sum, lN k, setA mo 10 (dayT hand (nxD (a 23)))), ?_, ?_, k, _, _, _, sum, hk, rfl, rfl, KR_day q (nxD_le hd), dayN_n (by omega), dayN_n (by omega), e⟩
    · simp (disch := omega) only [f_X11_sessions_j132, f_X11_sessions_j153, pl_litL, pl_lit, pl_bl, pl_bd, pl_bd2, pl_bd3, pl_bd4, pl_bcT, pl_bcF, gd_t, pl_bcTrue, pl_bcFalse, pl_gdTrue, pl_in, pl_eq, pl_lt, pl_le, pl_ix, nI_add, pk_mul, pl_m1, r4, lgc_0, c, X1_passDay (n := n) hn q.2.2.2.1.2.2.1 hd]
    · simp (disch := omega) only [f_X12_sessions_j176, f_X12_sessions_j197, pl_litL, pl_lit, pl_bl, pl_bd, pl_bd2, pl_bd3, pl_bd4, pl_bcT, pl_bcF, gd_t, pl_bcTrue, pl_bcFalse, pl_gdTrue, pl_in, pl_eq, pl_lt, pl_le, pl_ix, nI_add, pk_mul, pl_m1, r4, lgc_0, c, sA_s, sAA, X12_goDay (n := n) (z := 83) hn (Nat.le_refl _) q.1.2.2.2.2.2 hd]
  · refine ⟨(nI (i + 1), lN k, h), (nI (i + 1), sum, lN k, setA mo 10 hand), ?_, ?_, k, _, _, _, sum, hk, rfl, rfl, q, rfl, rfl, e⟩
    · simp (disch := omega) only [f_X11_sessions_j132, f_X11_sessions_j153, pl_litL, pl_lit, pl_bl, pl_bd, pl_bd2, pl_bd3, pl_bd4, pl_bcT, pl_bcF, gd_t, pl_bcTrue, pl_bcFalse, pl_gdTrue, pl_in, pl_eq, pl_lt, pl_le, pl_ix, nI_add, pk_mul, pl_m1, r4, lgc_0, c]
    · simp (disch := omega) only [f_X12_sessions_j176, f_X12_sessions_j197, pl_litL, pl_lit, pl_bl, pl_bd, pl_bd2, pl_bd3, pl_bd4, pl_bcT, pl_bcF, gd_t, pl_bcTrue, pl_bcFalse, pl_gdTrue, pl_in, pl_eq, pl_lt, pl_le, pl_ix, nI_add, pk_mul, pl_m1, r4, lgc_0, c]
theorem ses_step {A0 A1 i N : Nat} {s1 : Int32 × Int64 × MV} {s2 : Int32 × Int32 × Int64 × MV} (hn : 100 ≤ n) (hi : i < N) (hN : N ≤ 60) (h5 : A0 ≤ 5) (h6 : A1 ≤ 6) (t0 : mo.2.1 0 0 = nI A0) (t1 : mo.2.1 0 1 = nI A1) (r : RS h0 mo A0 A1 i s1 s2) : ∃ s1' s2', f_X11_sessions_b43 n xo h0 s1.2.2 nt0 cv0 nt1 cv1 ps0 ps1 s1.1 s1.2.1 (nI N) = some (.inl s1') ∧ f_X12_sessions_b70 n s2.2.2.2 s2.1 s2.2.1 s2.2.2.1 (nI N) = some (.inl s2') ∧ RS h0 mo A0 A1 (i + 1) s1' s2' := by
  obtain ⟨k, h, hand, a, sum, hk, rfl, rfl, q, rfl, rfl, e⟩ := r
  have x1 := nx_e hk
  have hk1 := nxN_lt k
  have x2 := nx_e hk1
  have hk2 := nxN_lt (nxN k)
  have y1 := rm_e (k := nxN k) (d := 65536) (c := 6) hk1 (by omega) (by omega) (by omega) (by omega)
  have y2 := rm_e (k := nxN (nxN k)) (d := 65536) (c := 5) hk2 (by omega) (by omega) (by omega) (by omega)
  have hl : nxN k / 65536 % 6 < 6 := Nat.mod_lt _ (by omega)
  have hm : nxN (nxN k) / 65536 % 5 < 5 := Nat.mod_lt _ (by omega)
  generalize nxN k / 65536 % 6 = l at hl y1
  generalize nxN (nxN k) / 65536 % 5 = m at hm y2
  have e0 : h.1 0 = nI (a 0) := q.2.2.2.1.1
  have e1 : h.1 1 = nI (a 1) := q.2.2.2.1.2.1
  have iL := X12_isLetter (n := n) (mo := setA mo 10 hand) (v := nI l) (M := a 1) (by omega) t1
  have iM := X12_isMember (n := n) (mo := setA mo 10 hand) (v := nI m) (M := a 0) (by omega) t0
  by_cases cl : l < a 1
  · rw [bI_in cl] at iL
    by_cases cm : m < a 0
    · rw [bI_in cm] at iM
      have f1 := KX1_mayFrank (n := n) q cl cm
      have f2 := KX12_mayFrank (n := n) (z := 83) (Nat.le_refl _) q cl cm
      by_cases cf : mayN a l m
      · rw [bI_T cf] at f1 f2
        obtain ⟨s1, s2, g1, g2, g3⟩ := ses_day (n := n) (xo := xo) (h0 := h0) (nt0 := nt0) (cv0 := cv0) (nt1 := nt1) (cv1 := cv1) (ps0 := ps0) (ps1 := ps1) (mo := mo) (i := i) (v2 := nI N) (sum := sum + nI (postN a l)) hn hk2 (KR_sign q cl cm cf) (by rw [← Int32.add_assoc, ← e]; rfl)
        rw [signN_n (by omega), signN_n (by omega)] at g3
        refine ⟨s1, s2, ?_, ?_, g3⟩
        · simp (disch := omega) only [f_X11_sessions_b43, f_X11_nextX, pl_litL, pl_lit, pl_bl, pl_bd, pl_bd2, pl_bd3, pl_bd4, pl_bcT, pl_bcF, gd_t, pl_bcTrue, pl_bcFalse, pl_gdTrue, pl_in, pl_eq, pl_lt, pl_le, pl_ix, nI_add, pk_mul, pl_m1, x1, x2, y1, y2, lN_i, e0, e1, f1, X1_sign (n := n) q cl cm, g1]
        · simp (disch := omega) only [f_X12_sessions_b70, pl_litL, pl_lit, pl_bl, pl_bd, pl_bd2, pl_bd3, pl_bd4, pl_bcT, pl_bcF, gd_t, pl_bcTrue, pl_bcFalse, pl_gdTrue, pl_in, pl_eq, pl_lt, pl_le, pl_ix, nI_add, pk_mul, pl_m1, x1, x2, y1, y2, lN_i, iL, iM, sA_s, f2, X12_goFrank (n := n) (z := 83) (Nat.le_refl _) q cl cm, sAA, g2]
      · rw [bI_F cf] at f1 f2
        obtain ⟨s1, s2, g1, g2, g3⟩ := ses_day (n := n) (xo := xo) (h0 := h0) (nt0 := nt0) (cv0 := cv0) (nt1 := nt1) (cv1 := cv1) (ps0 := ps0) (ps1 := ps1) (mo := mo) (i := i) (v2 := nI N) hn hk2 q e
        refine ⟨s1, s2, ?_, ?_, g3⟩
        · simp (disch := omega) only [f_X11_sessions_b43, f_X11_nextX, pl_litL, pl_lit, pl_bl, pl_bd, pl_bd2, pl_bd3, pl_bd4, pl_bcT, pl_bcF, gd_t, pl_bcTrue, pl_bcFalse, pl_gdTrue, pl_in, pl_eq, pl_lt, pl_le, pl_ix, nI_add, pk_mul, pl_m1, x1, x2, y1, y2, lN_i, e0, e1, f1, g1]
        · simp (disch := omega) only [f_X12_sessions_b70, pl_litL, pl_lit, pl_bl, pl_bd, pl_bd2, pl_bd3, pl_bd4, pl_bcT, pl_bcF, gd_t, pl_bcTrue, pl_bcFalse, pl_gdTrue, pl_in, pl_eq, pl_lt, pl_le, pl_ix, nI_add, pk_mul, pl_m1, x1, x2, y1, y2, lN_i, iL, iM, sA_s, f2, g2]
    · rw [bI_nin (N := a 0) (fun z => by obtain ⟨m', h1, h2⟩ := z; rw [pl_eq (by omega) (by omega)] at h2; omega)] at iM
      obtain ⟨s1, s2, g1, g2, g3⟩ := ses_day (n := n) (xo := xo) (h0 := h0) (nt0 := nt0) (cv0 := cv0) (nt1 := nt1) (cv1 := cv1) (ps0 := ps0) (ps1 := ps1) (mo := mo) (i := i) (v2 := nI N) hn hk2 q e
      refine ⟨s1, s2, ?_, ?_, g3⟩
      · simp (disch := omega) only [f_X11_sessions_b43, f_X11_nextX, pl_litL, pl_lit, pl_bl, pl_bd, pl_bd2, pl_bd3, pl_bd4, pl_bcT, pl_bcF, gd_t, pl_bcTrue, pl_bcFalse, pl_gdTrue, pl_in, pl_eq, pl_lt, pl_le, pl_ix, nI_add, pk_mul, pl_m1, x1, x2, y1, y2, lN_i, e0, e1, g1]
      · simp (disch := omega) only [f_X12_sessions_b70, pl_litL, pl_lit, pl_bl, pl_bd, pl_bd2, pl_bd3, pl_bd4, pl_bcT, pl_bcF, gd_t, pl_bcTrue, pl_bcFalse, pl_gdTrue, pl_in, pl_eq, pl_lt, pl_le, pl_ix, nI_add, pk_mul, pl_m1, x1, x2, y1, y2, lN_i, iL, iM, g2]
  · rw [bI_nin (N := a 1) (fun z => by obtain ⟨m', h1, h2⟩ := z; rw [pl_eq (by omega) (by omega)] at h2; omega)] at iL
    obtain ⟨s1, s2, g1, g2, g3⟩ := ses_day (n := n) (xo := xo) (h0 := h0) (nt0 := nt0) (cv0 := cv0) (nt1 := nt1) (cv1 := cv1) (ps0 := ps0) (ps1 := ps1) (mo := mo) (i := i) (v2 := nI N) hn hk2 q e
    refine ⟨s1, s2, ?_, ?_, g3⟩
    · simp (disch := omega) only [f_X11_sessions_b43, f_X11_nextX, pl_litL, pl_lit, pl_bl, pl_bd, pl_bd2, pl_bd3, pl_bd4, pl_bcT, pl_bcF, gd_t, pl_bcTrue, pl_bcFalse, pl_gdTrue, pl_in, pl_eq, pl_lt, pl_le, pl_ix, nI_add, pk_mul, pl_m1, x1, x2, y1, y2, lN_i, e1, g1]
    · simp (disch := omega) only [f_X12_sessions_b70, pl_litL, pl_lit, pl_bl, pl_bd, pl_bd2, pl_bd3, pl_bd4, pl_bcT, pl_bcF, gd_t, pl_bcTrue, pl_bcFalse, pl_gdTrue, pl_in, pl_eq, pl_lt, pl_le, pl_ix, nI_add, pk_mul, pl_m1, x1, x2, y1, y2, lN_i, iL, g2]
theorem X12_hand {v5 v2 : Int32} {v3 : Int64} (hn : 100 ≤ n) : f_X12_sessions_l40 n n mo v5 v3 v2 0 = some (setA mo 10 (va_cpy (mo.2.1 0) (mo.2.1 10) 0 0 83)) := by
  refine lp_cnt' 83 (fun i => setA mo 10 (va_cpy (mo.2.1 0) (mo.2.1 10) 0 0 i)) mo _ (by rw [cpy_0, sA_id]) (fun i hi => ?_) ?_ (by omega)
  · have := cpy_s (f := mo.2.1 0) (g := mo.2.1 10) (sp := 0) (dp := 0) (i := i)
    rw [Nat.zero_add] at this
    simp (disch := omega) only [f_X12_sessions_b40, pl_lit, pl_bl, pl_bd, pl_bd2, pl_bd3, pl_bd4, pl_bcT, pl_bcF, gd_t, pl_bcTrue, pl_bcFalse, pl_gdTrue, pl_in, pl_eq, pl_lt, pl_le, pl_ix, nI_add, pk_mul, pl_m1, sA_s, sAA, sA_n, this]
  · simp (disch := omega) only [f_X12_sessions_b40, pl_lit, pl_bl, pl_bd, pl_bd2, pl_bd3, pl_bd4, pl_bcT, pl_bcF, gd_t, pl_bcTrue, pl_bcFalse, pl_gdTrue, pl_in, pl_eq, pl_lt, pl_le, pl_ix, nI_add, pk_mul, pl_m1]
end SES
theorem sim_sessions {n : Nat} (hn : 100 ≤ n) : SIM_sessions n INV := by
  intro xo nv rv h0 h1 h2 h3 nt0 cv0 nt1 cv1 nt2 cv2 nt3 cv3 ps0 ps1 ps2 ps3 mo v1 v2 hI
  have hI0 := hI
  obtain ⟨⟨a, ha, ht, hh, hc, hn', hp⟩, i2⟩ := hI
  have h6 := okL ha
  have p1 := w11 (n := n) (v := v1) (K := 999999) (by omega)
  have p2 := w12 (n := n) (v := v1) (K := 999999) (by omega)
  have q1 := w11 (n := n) (v := v2) (K := 60) (by omega)
  have q2 := w12 (n := n) (v := v2) (K := 60) (by omega)
  refine inR_cases (v := v1) (N := 1000000) (fun x hx e => ?_) (fun c => ?_)
  · subst e
    rw [bI_in hx] at p1 p2
    refine inR_cases (v := v2) (N := 61) (fun N hN e => ?_) (fun c => ?_)
    · subst e
      rw [bI_in hN] at q1 q2
      have k0 : KR (tkH h1 h0) (va_cpy (mo.2.1 0) (mo.2.1 10) 0 0 83) a := KR_c (KR_of ha ht (HO_tk h6.1 h6.2.1 hh)) (fun j _ _ => rfl) (fun j hj _ => by rw [cpy_i (i := j) (by omega) (by omega), Nat.zero_add])
      obtain ⟨r1, r2, g1, g2, sum, k3, k4⟩ := lp_two (b1 := fun q => f_X11_sessions_b43 n xo h0 q.2.2 nt0 cv0 (tkS nt1 nt0) (tkS cv1 cv0) ps0 (tkP ps1 ps0) q.1 q.2.1 (nI N)) (b2 := fun q => f_X12_sessions_b70 n q.2.2.2 q.1 q.2.1 q.2.2.1 (nI N)) N (RS h0 mo (a 0) (a 1)) (fun r1 r2 => ∃ sum, r1.1 3 = h0.1 3 + sum ∧ ∃ hand, r2 = (sum, setA mo 10 hand)) (fun i s1 s2 hi r => ses_step hn hi (by omega) h6.1 h6.2.1 ht.1 ht.2.1 r) (fun s1 s2 r => by
          obtain ⟨k, h, hand, a', sum, hk, rfl, rfl, q, e0, e1, e⟩ := r
          refine ⟨h, (sum, setA mo 10 hand), ?_, ?_, sum, e, hand, rfl⟩
          · simp (disch := omega) only [f_X11_sessions_b43, pl_lit, pl_bl, pl_bd, pl_bd2, pl_bd3, pl_bd4, pl_bcT, pl_bcF, gd_t, pl_bcTrue, pl_bcFalse, pl_gdTrue, pl_in, pl_eq, pl_lt, pl_le, pl_ix, nI_add, pk_mul, pl_m1]
          · simp (disch := omega) only [f_X12_sessions_b70, pl_lit, pl_bl, pl_bd, pl_bd2, pl_bd3, pl_bd4, pl_bcT, pl_bcF, gd_t, pl_bcTrue, pl_bcFalse, pl_gdTrue, pl_in, pl_eq, pl_lt, pl_le, pl_ix, nI_add, pk_mul, pl_m1]) N 0 (nI 0, lN x, tkH h1 h0) (nI 0, nI 0, lN x, setA mo 10 (va_cpy (mo.2.1 0) (mo.2.1 10) 0 0 83)) n n (by omega) ⟨x, _, _, a, nI 0, by omega, rfl, rfl, k0, rfl, rfl, by show h0.1 3 = h0.1 3 + 0; simp⟩ (by omega) (by omega)
      obtain ⟨hand, rfl⟩ := k4
      refine ⟨sum, xo, r1, tkS nt1 nt0, tkS cv1 cv0, tkP ps1 ps0, setA mo 10 hand, ?_, ?_, hI0⟩
      · have t1 := @X1_takeOver n h1 cv1 nt1 ps1 h0 nt0 cv0 ps0
        have g1' : f_X11_sessions_l43 n n xo h0 (tkH h1 h0) nt0 cv0 (tkS nt1 nt0) (tkS cv1 cv0) ps0 (tkP ps1 ps0) (nI N) (nI 0) (lN x) = some r1 := g1
        have z : r1.1 3 - h0.1 3 = sum := by rw [k3, Int32.add_comm, Int32.add_sub_cancel]
        simp (disch := omega) only [f_X11_sessions, p1, q1, pl_lit, pl_bl, pl_bd, pl_bd2, pl_bd3, pl_bd4, pl_bcT, pl_bcF, gd_t, pl_bcTrue, pl_bcFalse, pl_gdTrue, pl_in, pl_eq, pl_lt, pl_le, pl_ix, nI_add, pk_mul, pl_m1, t1, nI_l, g1', z]
      · have g2' : f_X12_sessions_l70 n n (setA mo 10 (va_cpy (mo.2.1 0) (mo.2.1 10) 0 0 83)) (nI N) (nI 0) (nI 0) (lN x) = some (sum, setA mo 10 hand) := g2
        have w' := fun v5 v3 v2 => X12_hand (n := n) (mo := mo) (v5 := v5) (v3 := v3) (v2 := v2) hn
        have w : ∀ v5 v3 v2, f_X12_sessions_l40 n n mo v5 v3 v2 (nI 0) = _ := w'
        rw [nI_l (by omega)] at p2 q2
        simp (disch := omega) only [f_X12_sessions, pl_litL, nI_l, p2, q2, pl_lit, pl_bl, pl_bd, pl_bd2, pl_bd3, pl_bd4, pl_bcT, pl_bcF, gd_t, pl_bcTrue, pl_bcFalse, pl_gdTrue, pl_in, pl_eq, pl_lt, pl_le, pl_ix, nI_add, pk_mul, pl_m1, w, g2']
    · rw [bI_nin c] at q1 q2
      refine ⟨-2, badX xo, h1, nt1, cv1, ps1, refM mo 0, ?_, ?_, hI0.bad⟩
      · simp (disch := omega) only [f_X11_sessions, f_X11_sessions_j21, p1, q1, pl_lit, pl_bl, pl_bd, pl_bd2, pl_bd3, pl_bd4, pl_bcT, pl_bcF, gd_t, pl_bcTrue, pl_bcFalse, pl_gdTrue, pl_in, pl_eq, pl_lt, pl_le, pl_ix, nI_add, pk_mul, pl_m1, X11_bad]
      · simp (disch := omega) only [f_X12_sessions, f_X12_sessions_j24, pl_litL, p2, q2, pl_lit, pl_bl, pl_bd, pl_bd2, pl_bd3, pl_bd4, pl_bcT, pl_bcF, gd_t, pl_bcTrue, pl_bcFalse, pl_gdTrue, pl_in, pl_eq, pl_lt, pl_le, pl_ix, nI_add, pk_mul, pl_m1, X12_bad]
  · rw [bI_nin c] at p1 p2
    refine ⟨-2, badX xo, h1, nt1, cv1, ps1, refM mo 0, ?_, ?_, hI0.bad⟩
    · simp (disch := omega) only [f_X11_sessions, f_X11_sessions_j21, p1, pl_lit, pl_bl, pl_bd, pl_bd2, pl_bd3, pl_bd4, pl_bcT, pl_bcF, gd_t, pl_bcTrue, pl_bcFalse, pl_gdTrue, pl_in, pl_eq, pl_lt, pl_le, pl_ix, nI_add, pk_mul, pl_m1, X11_bad]
    · simp (disch := omega) only [f_X12_sessions, f_X12_sessions_j24, pl_litL, p2, pl_lit, pl_bl, pl_bd, pl_bd2, pl_bd3, pl_bd4, pl_bcT, pl_bcF, gd_t, pl_bcTrue, pl_bcFalse, pl_gdTrue, pl_in, pl_eq, pl_lt, pl_le, pl_ix, nI_add, pk_mul, pl_m1, X12_bad]
