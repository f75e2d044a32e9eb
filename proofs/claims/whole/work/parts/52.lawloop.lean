theorem scr_le {i L : Nat} (hi : i ≤ L) (hL : L ≤ 2048) (c : ¬ nI L - 4 < nI i) : i + 4 ≤ L := by
  rcases Nat.lt_or_ge L 4 with h | h
  · exfalso
    apply c
    rw [Int32.lt_iff_toInt_lt, show (4 : Int32) = nI 4 from rfl, pk_sub_toInt (by omega) (by omega), nI_toInt (by omega)]
    omega
  · rcases Nat.lt_or_ge L (i + 4) with h2 | h2
    · exfalso
      apply c
      rw [show (4 : Int32) = nI 4 from rfl, pk_sub h]
      exact nI_lt (by omega) (by omega)
    · exact h2
set_option maxHeartbeats 8000000 in
set_option maxRecDepth 100000 in
theorem law_loop {p : Program} {l : Launch} {e : Env} {s : State} {m : MethodId} {below : List Frame} {meth : Method} {c : Code} {b L : Nat} {xs : Nat → Int32} {G : va_G} {ct : Nat → ClassId} {sk sv : Nat → Nat} {g am : Nat → Nat} {n : Nat} {INV : INVT} (C : LAWC l G ct sk sv p s m meth c b L xs) (S_house : SIM_house n INV) (S_member : SIM_member n INV) (S_letter : SIM_letter n INV) (S_type : SIM_type n INV) (S_clear : SIM_clear n INV) (S_read : SIM_read n INV) (S_frank : SIM_frank n INV) (S_pay : SIM_pay n INV) (S_moves : SIM_moves n INV) (S_day : SIM_day n INV) (S_undo : SIM_undo n INV) (S_of : SIM_of n INV) (S_about : SIM_about n INV) (S_now : SIM_now n INV) (S_may : SIM_may n INV) (S_all : SIM_all n INV) (S_fewest : SIM_fewest n INV) (S_stand : SIM_stand n INV) (S_penny : SIM_penny n INV) (S_cover : SIM_cover n INV) (S_note : SIM_note n INV) (S_forget : SIM_forget n INV) (S_where : SIM_where n INV) (S_look : SIM_look n INV) (S_forged : SIM_forged n INV) (S_is : SIM_is n INV) (S_sell : SIM_sell n INV) (S_found : SIM_found n INV) (S_sessions : SIM_sessions n INV) (S_part : SIM_part n INV) (S_image : SIM_image n INV) (S_from : SIM_from n INV) (S_status : SIM_status n INV) (S_count : SIM_count n INV) (S_digest : SIM_digest n INV) :
    ∀ (j i : Nat), i ≤ L → L < i + 4 * j → LAt p l e s m below meth c b G ct g am INV i 18 := by
  have C0 := C
  obtain ⟨hx, hb, hr, hml, hown, hts, hK, hZ, hX, hbl, hlocks, hL2⟩ := C
  have hbA : ¬ (fun q : Nat => s.heap.size ≤ q) b := Nat.not_le.mpr hbl
  intro j
  induction j with
  | zero =>
    intro i h1 h2
    exact absurd h2 (by omega)
  | succ j ih =>
    intro i hiL hj xo nv rv h0 h1 h2 h3 nt0 cv0 nt1 cv1 nt2 cv2 nt3 cv3 ps0 ps1 ps2 ps3 mo hI H locs ls hP hD hS hl
    refine lv_iload_n hx hb dL_law_18 rfl (lv_at hl 3 rfl) ?_
    refine lv_aload_n hx hb dL_law_19 rfl (lv_at hl 0 rfl) ?_
    refine va_slen hx hb hX hbl hbA hS dL_law_20 ?_
    refine lv_iconst (v := 4) hx hb dL_law_21 (by decide) ?_
    refine lv_isub hx hb dL_law_22 ?_
    refine lv_icmp_gt (tgt := 1101) hx hb dL_law_23 (by decide) (fun c1 => ?_) (fun c1 => ?_)
    · refine lv_iconst (v := 1) hx hb dL_law_1101 (by decide) ?_
      refine va_forget (fun q hq => hS.2.2 q hq) ?_
      refine W.widen (k := 600000) (n := 7302250) (Nat.le_of_ble_eq_true rfl) (Nat.le_of_ble_eq_true rfl) ?_
      exact lw_ret hx hb hr hlocks dL_law_1102
    · have hi : i + 4 ≤ L := scr_le hiL hL2 c1
      have K2 : LAt p l e s m below meth c b G ct g am INV i 1095 := by
        intro xo nv rv h0 h1 h2 h3 nt0 cv0 nt1 cv1 nt2 cv2 nt3 cv3 ps0 ps1 ps2 ps3 mo hI H locs ls hP hD hS hl
        refine lv_iinc (v := nI (i + 4)) (lv' := [(3, .int (nI (i + 4))), (0, .ref b), (1, .ref (g 7)), (2, .ref (am 0))]) hx hb dL_law_1095 hl (k := 3) rfl (nI_add i 4) (by decide) rfl (fun ls hl => ?_)
        refine lv_goto (tgt := 18) hx hb dL_law_1098 (by decide) ?_
        exact ih (i + 4) hi (by omega) xo nv rv h0 h1 h2 h3 nt0 cv0 nt1 cv1 nt2 cv2 nt3 cv3 ps0 ps1 ps2 ps3 mo hI _ _ ls hP hD hS (lv_sub hl [1, 2, 3, 0] rfl)
      refine lv_aload_n hx hb dL_law_26 rfl (lv_at hl 0 rfl) ?_
      refine lv_iload_n hx hb dL_law_27 rfl (lv_at hl 3 rfl) ?_
      refine va_sld hx hb hX hbl hbA hS (vp_in_nI (by omega) (by omega)) dL_law_28 ?_
      refine lv_bipush (v := 63) hx hb dL_law_29 (by decide) ?_
      refine lv_iand hx hb dL_law_31 ?_
      obtain ⟨j2, hj2, ej⟩ := pk_andE (xs (nI i).toNatClampNeg) (m := 63) 6 (by decide)
      rw [ej]
      match j2, hj2 with
      | 0, _ =>
        refine lv_tableIn (tgt := 188) hx hb dL_law_32 (by decide) (by decide) rfl (by decide) ?_
        exact law_house C0 S_house hi K2 xo nv rv h0 h1 h2 h3 nt0 cv0 nt1 cv1 nt2 cv2 nt3 cv3 ps0 ps1 ps2 ps3 mo hI _ _ ls hP hD hS hl
      | 1, _ =>
        refine lv_tableIn (tgt := 201) hx hb dL_law_32 (by decide) (by decide) rfl (by decide) ?_
        exact law_member C0 S_member hi K2 xo nv rv h0 h1 h2 h3 nt0 cv0 nt1 cv1 nt2 cv2 nt3 cv3 ps0 ps1 ps2 ps3 mo hI _ _ ls hP hD hS hl
      | 2, _ =>
        refine lv_tableIn (tgt := 234) hx hb dL_law_32 (by decide) (by decide) rfl (by decide) ?_
        exact law_letter C0 S_letter hi K2 xo nv rv h0 h1 h2 h3 nt0 cv0 nt1 cv1 nt2 cv2 nt3 cv3 ps0 ps1 ps2 ps3 mo hI _ _ ls hP hD hS hl
      | 3, _ =>
        refine lv_tableIn (tgt := 277) hx hb dL_law_32 (by decide) (by decide) rfl (by decide) ?_
        exact law_type C0 S_type hi K2 xo nv rv h0 h1 h2 h3 nt0 cv0 nt1 cv1 nt2 cv2 nt3 cv3 ps0 ps1 ps2 ps3 mo hI _ _ ls hP hD hS hl
      | 4, _ =>
        refine lv_tableIn (tgt := 300) hx hb dL_law_32 (by decide) (by decide) rfl (by decide) ?_
        exact law_clear C0 S_clear hi K2 xo nv rv h0 h1 h2 h3 nt0 cv0 nt1 cv1 nt2 cv2 nt3 cv3 ps0 ps1 ps2 ps3 mo hI _ _ ls hP hD hS hl
      | 5, _ =>
        refine lv_tableIn (tgt := 313) hx hb dL_law_32 (by decide) (by decide) rfl (by decide) ?_
        exact law_read C0 S_read hi K2 xo nv rv h0 h1 h2 h3 nt0 cv0 nt1 cv1 nt2 cv2 nt3 cv3 ps0 ps1 ps2 ps3 mo hI _ _ ls hP hD hS hl
      | 6, _ =>
        refine lv_tableIn (tgt := 326) hx hb dL_law_32 (by decide) (by decide) rfl (by decide) ?_
        exact law_frank C0 S_frank hi K2 xo nv rv h0 h1 h2 h3 nt0 cv0 nt1 cv1 nt2 cv2 nt3 cv3 ps0 ps1 ps2 ps3 mo hI _ _ ls hP hD hS hl
      | 7, _ =>
        refine lv_tableIn (tgt := 359) hx hb dL_law_32 (by decide) (by decide) rfl (by decide) ?_
        exact law_pay C0 S_pay hi K2 xo nv rv h0 h1 h2 h3 nt0 cv0 nt1 cv1 nt2 cv2 nt3 cv3 ps0 ps1 ps2 ps3 mo hI _ _ ls hP hD hS hl
      | 8, _ =>
        refine lv_tableIn (tgt := 382) hx hb dL_law_32 (by decide) (by decide) rfl (by decide) ?_
        exact law_moves C0 S_moves hi K2 xo nv rv h0 h1 h2 h3 nt0 cv0 nt1 cv1 nt2 cv2 nt3 cv3 ps0 ps1 ps2 ps3 mo hI _ _ ls hP hD hS hl
      | 9, _ =>
        refine lv_tableIn (tgt := 415) hx hb dL_law_32 (by decide) (by decide) rfl (by decide) ?_
        exact law_day C0 S_day hi K2 xo nv rv h0 h1 h2 h3 nt0 cv0 nt1 cv1 nt2 cv2 nt3 cv3 ps0 ps1 ps2 ps3 mo hI _ _ ls hP hD hS hl
      | 10, _ =>
        refine lv_tableIn (tgt := 428) hx hb dL_law_32 (by decide) (by decide) rfl (by decide) ?_
        exact law_undo C0 S_undo hi K2 xo nv rv h0 h1 h2 h3 nt0 cv0 nt1 cv1 nt2 cv2 nt3 cv3 ps0 ps1 ps2 ps3 mo hI _ _ ls hP hD hS hl
      | 11, _ =>
        refine lv_tableIn (tgt := 441) hx hb dL_law_32 (by decide) (by decide) rfl (by decide) ?_
        exact law_of C0 S_of hi K2 xo nv rv h0 h1 h2 h3 nt0 cv0 nt1 cv1 nt2 cv2 nt3 cv3 ps0 ps1 ps2 ps3 mo hI _ _ ls hP hD hS hl
      | 12, _ =>
        refine lv_tableIn (tgt := 474) hx hb dL_law_32 (by decide) (by decide) rfl (by decide) ?_
        exact law_about C0 S_about hi K2 xo nv rv h0 h1 h2 h3 nt0 cv0 nt1 cv1 nt2 cv2 nt3 cv3 ps0 ps1 ps2 ps3 mo hI _ _ ls hP hD hS hl
      | 13, _ =>
        refine lv_tableIn (tgt := 507) hx hb dL_law_32 (by decide) (by decide) rfl (by decide) ?_
        exact law_now C0 S_now hi K2 xo nv rv h0 h1 h2 h3 nt0 cv0 nt1 cv1 nt2 cv2 nt3 cv3 ps0 ps1 ps2 ps3 mo hI _ _ ls hP hD hS hl
      | 14, _ =>
        refine lv_tableIn (tgt := 530) hx hb dL_law_32 (by decide) (by decide) rfl (by decide) ?_
        exact law_may C0 S_may hi K2 xo nv rv h0 h1 h2 h3 nt0 cv0 nt1 cv1 nt2 cv2 nt3 cv3 ps0 ps1 ps2 ps3 mo hI _ _ ls hP hD hS hl
      | 15, _ =>
        refine lv_tableIn (tgt := 553) hx hb dL_law_32 (by decide) (by decide) rfl (by decide) ?_
        exact law_all C0 S_all hi K2 xo nv rv h0 h1 h2 h3 nt0 cv0 nt1 cv1 nt2 cv2 nt3 cv3 ps0 ps1 ps2 ps3 mo hI _ _ ls hP hD hS hl
      | 16, _ =>
        refine lv_tableIn (tgt := 576) hx hb dL_law_32 (by decide) (by decide) rfl (by decide) ?_
        exact law_fewest C0 S_fewest hi K2 xo nv rv h0 h1 h2 h3 nt0 cv0 nt1 cv1 nt2 cv2 nt3 cv3 ps0 ps1 ps2 ps3 mo hI _ _ ls hP hD hS hl
      | 17, _ =>
        refine lv_tableIn (tgt := 589) hx hb dL_law_32 (by decide) (by decide) rfl (by decide) ?_
        exact law_stand C0 S_stand hi K2 xo nv rv h0 h1 h2 h3 nt0 cv0 nt1 cv1 nt2 cv2 nt3 cv3 ps0 ps1 ps2 ps3 mo hI _ _ ls hP hD hS hl
      | 18, _ =>
        refine lv_tableIn (tgt := 622) hx hb dL_law_32 (by decide) (by decide) rfl (by decide) ?_
        exact law_penny C0 S_penny hi K2 xo nv rv h0 h1 h2 h3 nt0 cv0 nt1 cv1 nt2 cv2 nt3 cv3 ps0 ps1 ps2 ps3 mo hI _ _ ls hP hD hS hl
      | 19, _ =>
        refine lv_tableIn (tgt := 635) hx hb dL_law_32 (by decide) (by decide) rfl (by decide) ?_
        exact law_cover C0 S_cover hi K2 xo nv rv h0 h1 h2 h3 nt0 cv0 nt1 cv1 nt2 cv2 nt3 cv3 ps0 ps1 ps2 ps3 mo hI _ _ ls hP hD hS hl
      | 20, _ =>
        refine lv_tableIn (tgt := 678) hx hb dL_law_32 (by decide) (by decide) rfl (by decide) ?_
        exact law_note C0 S_note hi K2 xo nv rv h0 h1 h2 h3 nt0 cv0 nt1 cv1 nt2 cv2 nt3 cv3 ps0 ps1 ps2 ps3 mo hI _ _ ls hP hD hS hl
      | 21, _ =>
        refine lv_tableIn (tgt := 721) hx hb dL_law_32 (by decide) (by decide) rfl (by decide) ?_
        exact law_forget C0 S_forget hi K2 xo nv rv h0 h1 h2 h3 nt0 cv0 nt1 cv1 nt2 cv2 nt3 cv3 ps0 ps1 ps2 ps3 mo hI _ _ ls hP hD hS hl
      | 22, _ =>
        refine lv_tableIn (tgt := 744) hx hb dL_law_32 (by decide) (by decide) rfl (by decide) ?_
        exact law_where C0 S_where hi K2 xo nv rv h0 h1 h2 h3 nt0 cv0 nt1 cv1 nt2 cv2 nt3 cv3 ps0 ps1 ps2 ps3 mo hI _ _ ls hP hD hS hl
      | 23, _ =>
        refine lv_tableIn (tgt := 787) hx hb dL_law_32 (by decide) (by decide) rfl (by decide) ?_
        exact law_look C0 S_look hi K2 xo nv rv h0 h1 h2 h3 nt0 cv0 nt1 cv1 nt2 cv2 nt3 cv3 ps0 ps1 ps2 ps3 mo hI _ _ ls hP hD hS hl
      | 24, _ =>
        refine lv_tableIn (tgt := 820) hx hb dL_law_32 (by decide) (by decide) rfl (by decide) ?_
        exact law_forged C0 S_forged hi K2 xo nv rv h0 h1 h2 h3 nt0 cv0 nt1 cv1 nt2 cv2 nt3 cv3 ps0 ps1 ps2 ps3 mo hI _ _ ls hP hD hS hl
      | 25, _ =>
        refine lv_tableIn (tgt := 843) hx hb dL_law_32 (by decide) (by decide) rfl (by decide) ?_
        exact law_is C0 S_is hi K2 xo nv rv h0 h1 h2 h3 nt0 cv0 nt1 cv1 nt2 cv2 nt3 cv3 ps0 ps1 ps2 ps3 mo hI _ _ ls hP hD hS hl
      | 26, _ =>
        refine lv_tableIn (tgt := 866) hx hb dL_law_32 (by decide) (by decide) rfl (by decide) ?_
        exact law_sell C0 S_sell hi K2 xo nv rv h0 h1 h2 h3 nt0 cv0 nt1 cv1 nt2 cv2 nt3 cv3 ps0 ps1 ps2 ps3 mo hI _ _ ls hP hD hS hl
      | 27, _ =>
        refine lv_tableIn (tgt := 909) hx hb dL_law_32 (by decide) (by decide) rfl (by decide) ?_
        exact law_found C0 S_found hi K2 xo nv rv h0 h1 h2 h3 nt0 cv0 nt1 cv1 nt2 cv2 nt3 cv3 ps0 ps1 ps2 ps3 mo hI _ _ ls hP hD hS hl
      | 28, _ =>
        refine lv_tableIn (tgt := 932) hx hb dL_law_32 (by decide) (by decide) rfl (by decide) ?_
        exact law_sessions C0 S_sessions hi K2 xo nv rv h0 h1 h2 h3 nt0 cv0 nt1 cv1 nt2 cv2 nt3 cv3 ps0 ps1 ps2 ps3 mo hI _ _ ls hP hD hS hl
      | 29, _ =>
        refine lv_tableIn (tgt := 965) hx hb dL_law_32 (by decide) (by decide) rfl (by decide) ?_
        exact law_part C0 S_part hi K2 xo nv rv h0 h1 h2 h3 nt0 cv0 nt1 cv1 nt2 cv2 nt3 cv3 ps0 ps1 ps2 ps3 mo hI _ _ ls hP hD hS hl
      | 30, _ =>
        refine lv_tableIn (tgt := 989) hx hb dL_law_32 (by decide) (by decide) rfl (by decide) ?_
        exact law_image C0 S_image hi K2 xo nv rv h0 h1 h2 h3 nt0 cv0 nt1 cv1 nt2 cv2 nt3 cv3 ps0 ps1 ps2 ps3 mo hI _ _ ls hP hD hS hl
      | 31, _ =>
        refine lv_tableIn (tgt := 1012) hx hb dL_law_32 (by decide) (by decide) rfl (by decide) ?_
        exact law_from C0 S_from hi K2 xo nv rv h0 h1 h2 h3 nt0 cv0 nt1 cv1 nt2 cv2 nt3 cv3 ps0 ps1 ps2 ps3 mo hI _ _ ls hP hD hS hl
      | 32, _ =>
        refine lv_tableIn (tgt := 1035) hx hb dL_law_32 (by decide) (by decide) rfl (by decide) ?_
        exact law_status C0 S_status hi K2 xo nv rv h0 h1 h2 h3 nt0 cv0 nt1 cv1 nt2 cv2 nt3 cv3 ps0 ps1 ps2 ps3 mo hI _ _ ls hP hD hS hl
      | 33, _ =>
        refine lv_tableIn (tgt := 1058) hx hb dL_law_32 (by decide) (by decide) rfl (by decide) ?_
        exact law_count C0 S_count hi K2 xo nv rv h0 h1 h2 h3 nt0 cv0 nt1 cv1 nt2 cv2 nt3 cv3 ps0 ps1 ps2 ps3 mo hI _ _ ls hP hD hS hl
      | 34, _ =>
        refine lv_tableIn (tgt := 1081) hx hb dL_law_32 (by decide) (by decide) rfl (by decide) ?_
        exact law_digest C0 S_digest hi K2 xo nv rv h0 h1 h2 h3 nt0 cv0 nt1 cv1 nt2 cv2 nt3 cv3 ps0 ps1 ps2 ps3 mo hI _ _ ls hP hD hS hl
      | (t + 35), hj2 =>
        refine lv_tableOut (tgt := 1095) hx hb dL_law_32 (Or.inr (by rw [nI_toInt (by omega)]; omega)) (by decide) ?_
        exact K2 xo nv rv h0 h1 h2 h3 nt0 cv0 nt1 cv1 nt2 cv2 nt3 cv3 ps0 ps1 ps2 ps3 mo hI _ _ ls hP hD hS hl
