theorem tys_start {s : State} {args : Array Value} (hts : ∀ w ∈ WALL, w.before args s = true) (h3 : va_AO "SignedOutside$Plain" s) (h4 : va_AO "SignedOutside$House" s) : ∃ ct : Nat → ClassId, ∀ (k : Nat) (q : ClassId × FieldType), (TYS ct)[k]? = some q → ArrOfT s q.1 q.2 ∧ va_RA s q.1 q.2 := by
  obtain ⟨c0, k0, p0, a0, b0, d0⟩ := Cond.arrayClass_spec (args := args) (first := s) (o := none) (s := s) (idx := []) (type := .int) (hts _ kw103)
  obtain ⟨c1, k1, p1, a1, b1, d1⟩ := Cond.arrayClass_spec (args := args) (first := s) (o := none) (s := s) (idx := []) (type := .boolean) (hts _ kw233)
  obtain ⟨c2, k2, p2, a2, b2, d2⟩ := Cond.arrayClass_spec (args := args) (first := s) (o := none) (s := s) (idx := []) (type := .byte) (hts _ kw261)
  obtain ⟨p3, c3, k3, e3, -, b3, d3, a3⟩ := Cond.arrayOver_spec (args := #[]) (first := s) (o := none) (s := s) (idx := []) h3
  obtain ⟨p4, c4, k4, e4, -, b4, d4, a4⟩ := Cond.arrayOver_spec (args := #[]) (first := s) (o := none) (s := s) (idx := []) h4
  refine ⟨fun j => [c0, c1, c2, c3, c4].getD j c0, ?_⟩
  intro k q hq
  match k, hq with
  | 0, hq => cases hq; exact ⟨fun n z => ⟨fun k h => (by cases h), k0, b0, p0, d0⟩, a0⟩
  | 1, hq => cases hq; exact ⟨fun n z => ⟨fun k h => (by cases h), k1, b1, p1, d1⟩, a1⟩
  | 2, hq => cases hq; exact ⟨fun n z => ⟨fun k h => (by cases h), k2, b2, p2, d2⟩, a2⟩
  | 3, hq => cases hq; exact ⟨fun n z => ⟨fun k h => (by cases h), k3, b3, p3, d3⟩, k3, p3, b3, d3, e3, a3⟩
  | 4, hq => cases hq; exact ⟨fun n z => ⟨fun k h => (by cases h), k4, b4, p4, d4⟩, k4, p4, b4, d4, e4, a4⟩
  | k + 5, hq => simp [TYS] at hq
theorem cls_start {s : State} {args : Array Value} (hts : ∀ w ∈ WALL, w.before args s = true) : ∃ G : va_G, ∀ (k : Nat) (q : vw_C), classes[k]? = some q → u_Kn s q.1 q.2.1 q.2.2 (G.1 k) (G.2 k) := by
  obtain ⟨c0, i0, n0⟩ := u_known (C := RX0) (T := TX0) (N := 0) (n := 0) hts (fun w hw => absurd hw (by simp [u_ws])) (hts _ kw60)
  obtain ⟨c1, i1, n1⟩ := u_known (C := RX1) (T := TX1) (N := 16) (n := 16) hts iu_X1 (hts _ kw74)
  obtain ⟨c2, i2, n2⟩ := u_known (C := RX2) (T := TX2) (N := 0) (n := 0) hts (fun w hw => absurd hw (by simp [u_ws])) (hts _ kw39)
  obtain ⟨c3, i3, n3⟩ := u_known (C := RX3) (T := TX3) (N := 9) (n := 9) hts iu_X3 (hts _ kw198)
  obtain ⟨c4, i4, n4⟩ := u_known (C := RX4) (T := TX4) (N := 3) (n := 3) hts iu_X4 (hts _ kw105)
  obtain ⟨c5, i5, n5⟩ := u_known (C := RX5) (T := TX5) (N := 0) (n := 0) hts (fun w hw => absurd hw (by simp [u_ws])) (hts _ kw32)
  obtain ⟨c6, i6, n6⟩ := u_known (C := RX6) (T := TX6) (N := 6) (n := 6) hts iu_X6 (hts _ kw235)
  obtain ⟨c7, i7, n7⟩ := u_known (C := RX7) (T := TX7) (N := 0) (n := 0) hts (fun w hw => absurd hw (by simp [u_ws])) (hts _ kw46)
  obtain ⟨c8, i8, n8⟩ := u_known (C := RX8) (T := TX8) (N := 4) (n := 4) hts iu_X8 (hts _ kw80)
  obtain ⟨c9, i9, n9⟩ := u_known (C := RX9) (T := TX9) (N := 0) (n := 0) hts (fun w hw => absurd hw (by simp [u_ws])) (hts _ kw67)
  obtain ⟨c10, i10, n10⟩ := u_known (C := RX10) (T := TX10) (N := 0) (n := 0) hts (fun w hw => absurd hw (by simp [u_ws])) (hts _ kw53)
  obtain ⟨c11, i11, n11⟩ := u_known (C := RX11) (T := TX11) (N := 11) (n := 11) hts iu_X11 (hts _ kw23)
  obtain ⟨c12, i12, n12⟩ := u_known (C := RX12) (T := TX12) (N := 21) (n := 21) hts iu_X12 (hts _ kw879)
  refine ⟨(fun j => [c0, c1, c2, c3, c4, c5, c6, c7, c8, c9, c10, c11, c12].getD j c0, fun j => [i0, i1, i2, i3, i4, i5, i6, i7, i8, i9, i10, i11, i12].getD j i0), ?_⟩
  intro k q hq
  match k, hq with
  | 0, hq => cases hq; exact n0
  | 1, hq => cases hq; exact n1
  | 2, hq => cases hq; exact n2
  | 3, hq => cases hq; exact n3
  | 4, hq => cases hq; exact n4
  | 5, hq => cases hq; exact n5
  | 6, hq => cases hq; exact n6
  | 7, hq => cases hq; exact n7
  | 8, hq => cases hq; exact n8
  | 9, hq => cases hq; exact n9
  | 10, hq => cases hq; exact n10
  | 11, hq => cases hq; exact n11
  | 12, hq => cases hq; exact n12
  | k + 13, hq => simp [classes] at hq
def tmJ (i : Nat) : Term := Term.string "SignedOutside$Reader" ([25, 38, 44, 49].getD i 0)
theorem in4 {P : Nat → Prop} (h0 : P 0) (h1 : P 1) (h2 : P 2) (h3 : P 3) : ∀ i, i < 4 → P i := fun i hi => match i, hi with
  | 0, _ => h0
  | 1, _ => h1
  | 2, _ => h2
  | 3, _ => h3
  | (n + 4), h => absurd h (by omega)
set_option maxRecDepth 100000 in
set_option maxHeartbeats 4000000 in
theorem env_start {l : Launch} {G : va_G} {ct : Nat → ClassId} {s : State} {b : Nat} (htsT : ∀ w ∈ lw_tbl, w.before #[Value.ref b] s = true) (hgv : (Jvm.Cond.and given_1 narrow_1).before #[Value.ref b] s = true) : ∃ sk sv : Nat → Nat, ENV (l, G, ct, sk, sv) (fun q => s.heap.size ≤ q) s := by
  have hs := flat_of_before _ hgv
  have hA : ∀ a : Nat, a < s.heap.size → ¬ (fun q => s.heap.size ≤ q) a := fun a h h2 => Nat.not_le.mpr h h2
  have hne : ∀ i, i < 4 → ∀ j, j < 4 → i ≠ j → (Cond.not (Cond.eq (tmJ i) (tmJ j))).before #[Value.ref b] s = true ∨ (Cond.not (Cond.eq (tmJ j) (tmJ i))).before #[Value.ref b] s = true := by
    refine in4 ?_ ?_ ?_ ?_
    · refine in4 (fun h => absurd rfl h) (fun _ => Or.inl (hs (Cond.not (Cond.eq (Term.string "SignedOutside$Reader" 25) (Term.string "SignedOutside$Reader" 38))) (by decide +kernel))) (fun _ => Or.inl (hs (Cond.not (Cond.eq (Term.string "SignedOutside$Reader" 25) (Term.string "SignedOutside$Reader" 44))) (by decide +kernel))) (fun _ => Or.inl (hs (Cond.not (Cond.eq (Term.string "SignedOutside$Reader" 25) (Term.string "SignedOutside$Reader" 49))) (by decide +kernel)))
    · refine in4 (fun _ => Or.inr (hs (Cond.not (Cond.eq (Term.string "SignedOutside$Reader" 25) (Term.string "SignedOutside$Reader" 38))) (by decide +kernel))) (fun h => absurd rfl h) (fun _ => Or.inl (hs (Cond.not (Cond.eq (Term.string "SignedOutside$Reader" 38) (Term.string "SignedOutside$Reader" 44))) (by decide +kernel))) (fun _ => Or.inl (hs (Cond.not (Cond.eq (Term.string "SignedOutside$Reader" 38) (Term.string "SignedOutside$Reader" 49))) (by decide +kernel)))
    · refine in4 (fun _ => Or.inr (hs (Cond.not (Cond.eq (Term.string "SignedOutside$Reader" 25) (Term.string "SignedOutside$Reader" 44))) (by decide +kernel))) (fun _ => Or.inr (hs (Cond.not (Cond.eq (Term.string "SignedOutside$Reader" 38) (Term.string "SignedOutside$Reader" 44))) (by decide +kernel))) (fun h => absurd rfl h) (fun _ => Or.inl (hs (Cond.not (Cond.eq (Term.string "SignedOutside$Reader" 44) (Term.string "SignedOutside$Reader" 49))) (by decide +kernel)))
    · refine in4 (fun _ => Or.inr (hs (Cond.not (Cond.eq (Term.string "SignedOutside$Reader" 25) (Term.string "SignedOutside$Reader" 49))) (by decide +kernel))) (fun _ => Or.inr (hs (Cond.not (Cond.eq (Term.string "SignedOutside$Reader" 38) (Term.string "SignedOutside$Reader" 49))) (by decide +kernel))) (fun _ => Or.inr (hs (Cond.not (Cond.eq (Term.string "SignedOutside$Reader" 44) (Term.string "SignedOutside$Reader" 49))) (by decide +kernel))) (fun h => absurd rfl h)
  obtain ⟨sk, sv, hS, hR⟩ := vk_Sof (args := #[Value.ref b]) (s := s) (N := 4) (tm := tmJ) (len := lenJ) (byt := bytJ) (A := fun q => s.heap.size ≤ q) (in4 (by decide) (by decide) (by decide) (by decide)) (in4 (hs (Cond.exactly (Term.string "SignedOutside$Reader" 25) "java/lang/String") (by decide +kernel)) (hs (Cond.exactly (Term.string "SignedOutside$Reader" 38) "java/lang/String") (by decide +kernel)) (hs (Cond.exactly (Term.string "SignedOutside$Reader" 44) "java/lang/String") (by decide +kernel)) (hs (Cond.exactly (Term.string "SignedOutside$Reader" 49) "java/lang/String") (by decide +kernel))) (in4 (hs (Cond.eq (.field (Term.string "SignedOutside$Reader" 25) "java/lang/String" "coder" "B") (.int 0)) (by decide +kernel)) (hs (Cond.eq (.field (Term.string "SignedOutside$Reader" 38) "java/lang/String" "coder" "B") (.int 0)) (by decide +kernel)) (hs (Cond.eq (.field (Term.string "SignedOutside$Reader" 44) "java/lang/String" "coder" "B") (.int 0)) (by decide +kernel)) (hs (Cond.eq (.field (Term.string "SignedOutside$Reader" 49) "java/lang/String" "coder" "B") (.int 0)) (by decide +kernel))) (in4 (hs (Cond.arrayOf (.field (Term.string "SignedOutside$Reader" 25) "java/lang/String" "value" "[B") .byte) (by decide +kernel)) (hs (Cond.arrayOf (.field (Term.string "SignedOutside$Reader" 38) "java/lang/String" "value" "[B") .byte) (by decide +kernel)) (hs (Cond.arrayOf (.field (Term.string "SignedOutside$Reader" 44) "java/lang/String" "value" "[B") .byte) (by decide +kernel)) (hs (Cond.arrayOf (.field (Term.string "SignedOutside$Reader" 49) "java/lang/String" "value" "[B") .byte) (by decide +kernel))) (in4 (hs (Cond.eq (.length (.field (Term.string "SignedOutside$Reader" 25) "java/lang/String" "value" "[B")) (.int 5)) (by decide +kernel)) (hs (Cond.eq (.length (.field (Term.string "SignedOutside$Reader" 38) "java/lang/String" "value" "[B")) (.int 6)) (by decide +kernel)) (hs (Cond.eq (.length (.field (Term.string "SignedOutside$Reader" 44) "java/lang/String" "value" "[B")) (.int 6)) (by decide +kernel)) (hs (Cond.eq (.length (.field (Term.string "SignedOutside$Reader" 49) "java/lang/String" "value" "[B")) (.int 5)) (by decide +kernel))) (in4 (fun jj hj => match jj, hj with | 0, _ => hs (Cond.eq (.elem (.field (Term.string "SignedOutside$Reader" 25) "java/lang/String" "value" "[B") (.int 0)) (.int 104)) (by decide +kernel) | 1, _ => hs (Cond.eq (.elem (.field (Term.string "SignedOutside$Reader" 25) "java/lang/String" "value" "[B") (.int 1)) (.int 111)) (by decide +kernel) | 2, _ => hs (Cond.eq (.elem (.field (Term.string "SignedOutside$Reader" 25) "java/lang/String" "value" "[B") (.int 2)) (.int 117)) (by decide +kernel) | 3, _ => hs (Cond.eq (.elem (.field (Term.string "SignedOutside$Reader" 25) "java/lang/String" "value" "[B") (.int 3)) (.int 115)) (by decide +kernel) | 4, _ => hs (Cond.eq (.elem (.field (Term.string "SignedOutside$Reader" 25) "java/lang/String" "value" "[B") (.int 4)) (.int 101)) (by decide +kernel) | (z + 5), h => absurd h (by simp [lenJ])) (fun jj hj => match jj, hj with | 0, _ => hs (Cond.eq (.elem (.field (Term.string "SignedOutside$Reader" 38) "java/lang/String" "value" "[B") (.int 0)) (.int 109)) (by decide +kernel) | 1, _ => hs (Cond.eq (.elem (.field (Term.string "SignedOutside$Reader" 38) "java/lang/String" "value" "[B") (.int 1)) (.int 101)) (by decide +kernel) | 2, _ => hs (Cond.eq (.elem (.field (Term.string "SignedOutside$Reader" 38) "java/lang/String" "value" "[B") (.int 2)) (.int 109)) (by decide +kernel) | 3, _ => hs (Cond.eq (.elem (.field (Term.string "SignedOutside$Reader" 38) "java/lang/String" "value" "[B") (.int 3)) (.int 98)) (by decide +kernel) | 4, _ => hs (Cond.eq (.elem (.field (Term.string "SignedOutside$Reader" 38) "java/lang/String" "value" "[B") (.int 4)) (.int 101)) (by decide +kernel) | 5, _ => hs (Cond.eq (.elem (.field (Term.string "SignedOutside$Reader" 38) "java/lang/String" "value" "[B") (.int 5)) (.int 114)) (by decide +kernel) | (z + 6), h => absurd h (by simp [lenJ])) (fun jj hj => match jj, hj with | 0, _ => hs (Cond.eq (.elem (.field (Term.string "SignedOutside$Reader" 44) "java/lang/String" "value" "[B") (.int 0)) (.int 108)) (by decide +kernel) | 1, _ => hs (Cond.eq (.elem (.field (Term.string "SignedOutside$Reader" 44) "java/lang/String" "value" "[B") (.int 1)) (.int 101)) (by decide +kernel) | 2, _ => hs (Cond.eq (.elem (.field (Term.string "SignedOutside$Reader" 44) "java/lang/String" "value" "[B") (.int 2)) (.int 116)) (by decide +kernel) | 3, _ => hs (Cond.eq (.elem (.field (Term.string "SignedOutside$Reader" 44) "java/lang/String" "value" "[B") (.int 3)) (.int 116)) (by decide +kernel) | 4, _ => hs (Cond.eq (.elem (.field (Term.string "SignedOutside$Reader" 44) "java/lang/String" "value" "[B") (.int 4)) (.int 101)) (by decide +kernel) | 5, _ => hs (Cond.eq (.elem (.field (Term.string "SignedOutside$Reader" 44) "java/lang/String" "value" "[B") (.int 5)) (.int 114)) (by decide +kernel) | (z + 6), h => absurd h (by simp [lenJ])) (fun jj hj => match jj, hj with | 0, _ => hs (Cond.eq (.elem (.field (Term.string "SignedOutside$Reader" 49) "java/lang/String" "value" "[B") (.int 0)) (.int 102)) (by decide +kernel) | 1, _ => hs (Cond.eq (.elem (.field (Term.string "SignedOutside$Reader" 49) "java/lang/String" "value" "[B") (.int 1)) (.int 114)) (by decide +kernel) | 2, _ => hs (Cond.eq (.elem (.field (Term.string "SignedOutside$Reader" 49) "java/lang/String" "value" "[B") (.int 2)) (.int 97)) (by decide +kernel) | 3, _ => hs (Cond.eq (.elem (.field (Term.string "SignedOutside$Reader" 49) "java/lang/String" "value" "[B") (.int 3)) (.int 110)) (by decide +kernel) | 4, _ => hs (Cond.eq (.elem (.field (Term.string "SignedOutside$Reader" 49) "java/lang/String" "value" "[B") (.int 4)) (.int 107)) (by decide +kernel) | (z + 5), h => absurd h (by simp [lenJ]))) (fun i j hi hj hij => hne i hi j hj hij) hA
  · refine ⟨sk, sv, ?_, hS, ?_, ?_, ?_, ?_, ?_, ?_⟩
    · intro w hw
      obtain ⟨aa, ii, xx, hh, rfl⟩ := nwl_nest w hw
      have hin : ∀ w ∈ NWL, w ∈ lw_tbl := by decide +kernel
      exact va_Nw.of rfl (htsT _ (hin _ hw))
    · intro q hq
      simp only [STL, List.mem_cons, List.not_mem_nil, or_false] at hq
      rcases hq with rfl | rfl | rfl | rfl
      · exact vk_R.of (htsT (.stringRef "SignedOutside$Reader" 25 "house") (List.mem_of_getElem? (i := 433) (by decide +kernel))) (hR 0 (by decide))
      · exact vk_R.of (htsT (.stringRef "SignedOutside$Reader" 38 "member") (List.mem_of_getElem? (i := 490) (by decide +kernel))) (hR 1 (by decide))
      · exact vk_R.of (htsT (.stringRef "SignedOutside$Reader" 44 "letter") (List.mem_of_getElem? (i := 501) (by decide +kernel))) (hR 2 (by decide))
      · exact vk_R.of (htsT (.stringRef "SignedOutside$Reader" 49 "frank") (List.mem_of_getElem? (i := 507) (by decide +kernel))) (hR 3 (by decide))
    · exact va_Zof (htsT _ (List.mem_of_getElem? (i := 447) (by decide +kernel))) (htsT _ (wall_in kw14)) (va_eqt (hs (Cond.eq (.static "java/lang/String" "COMPACT_STRINGS" "Z") (.int 1)) (by decide +kernel))) hA
    · exact va_Zqof (htsT _ (List.mem_of_getElem? (i := 463) (by decide +kernel))) (htsT _ (wall_in kw16)) (hs (Cond.isRef (.static "jdk/internal/util/Preconditions" "SIOOBE_FORMATTER" "Ljava/util/function/BiFunction;")) (by decide +kernel)) hA
    · intro C hC
      have hin : ∀ C ∈ CSL, Cond.castable C "SignedOutside$Plain" ∈ lw_tbl := by decide +kernel
      exact va_Nw.of rfl (htsT _ (hin _ hC))
    · exact va_AO.of (htsT (.arrayOver (.object "SignedOutside$Plain")) (List.mem_of_getElem? (i := 85) (by decide +kernel)))
    · exact va_AO.of (htsT (.arrayOver (.object "SignedOutside$House")) (List.mem_of_getElem? (i := 250) (by decide +kernel)))
