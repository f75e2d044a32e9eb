/-! all, fewest: ways, one after the other -/
abbrev ST := Nat × (Nat → Nat)
def rf {σ : Type} (f : Nat → σ → σ) : Nat → σ → σ
  | 0, s => s
  | k + 1, s => f k (rf f k s)
theorem rf_add {σ : Type} {f : Nat → σ → σ} {s : σ} {p : Nat} : ∀ q, rf f (p + q) s = rf (fun i => f (p + i)) q (rf f p s)
  | 0 => rfl
  | q + 1 => by
    show f (p + q) (rf f (p + q) s) = f (p + q) (rf (fun i => f (p + i)) q (rf f p s))
    rw [rf_add q]
theorem rf_congr {σ : Type} {f g : Nat → σ → σ} {s : σ} : ∀ n, (∀ i, i < n → ∀ s, f i s = g i s) → rf f n s = rf g n s
  | 0, _ => rfl
  | n + 1, h => by
    show f n (rf f n s) = g n (rf g n s)
    rw [rf_congr n (fun i hi => h i (by omega)), h n (by omega)]
theorem rf_id {σ : Type} {f : Nat → σ → σ} {s : σ} : ∀ n, (∀ i, i < n → f i s = s) → rf f n s = s
  | 0, _ => rfl
  | n + 1, h => by
    show f n (rf f n s) = s
    rw [rf_id n (fun i hi => h i (by omega)), h n (by omega)]
theorem rf_mul {σ : Type} {f : Nat → σ → σ} {s : σ} {q : Nat} : ∀ p, rf f (p * q) s = rf (fun d τ => rf (fun r => f (d * q + r)) q τ) p s
  | 0 => by rw [Nat.zero_mul]; rfl
  | p + 1 => by
    rw [Nat.succ_mul, rf_add, rf_mul p]
    rfl
def uN (w : Nat → Nat) (l v : Nat) : Nat → Nat := fun j => if j = l then v else w j
def deN (c : Nat → Nat) (m : Nat) : Nat → Nat := fun j => if j = m then c j - 1 else c j
noncomputable def iI (p : Prop) (x : Nat) : Nat := @ite _ p (Classical.propDecidable p) x 0
theorem iI_T {p : Prop} {x : Nat} (h : p) : iI p x = x := if_pos h
theorem iI_F {p : Prop} {x : Nat} (h : ¬ p) : iI p x = 0 := if_neg h
/-- all ways from letter l on, one after the other: the first that brings most -/
noncomputable def FF (li : Nat → Prop) (q : Nat → Nat → Prop) (po : Nat → Nat) : Nat → Nat → (Nat → Nat) → Nat → (Nat → Nat) → ST → ST
  | 0, _, _, s, w, σ => if σ.1 < s + 1 then (s + 1, w) else σ
  | k + 1, l, c, s, w, σ => @ite _ (li l) (Classical.propDecidable _)
      (FF li q po k (l + 1) c s (uN w l 5) (rf (fun m τ => @ite _ (q l m ∧ 0 < c m) (Classical.propDecidable _) (FF li q po k (l + 1) (deN c m) (s + po l) (uN w l m) τ) τ) 5 σ))
      (FF li q po k (l + 1) c s (uN w l 6) σ)
section WAYS
variable {li : Nat → Prop} {q : Nat → Nat → Prop} {C po : Nat → Nat}
noncomputable def fm (li : Nat → Prop) (q : Nat → Nat → Prop) (po : Nat → Nat) (k l : Nat) (c : Nat → Nat) (s : Nat) (w : Nat → Nat) (m : Nat) (τ : ST) : ST := @ite _ (q l m ∧ 0 < c m) (Classical.propDecidable _) (FF li q po k (l + 1) (deN c m) (s + po l) (uN w l m) τ) τ
theorem fm_T {k l s m : Nat} {c w : Nat → Nat} {τ : ST} (h : q l m ∧ 0 < c m) : fm li q po k l c s w m τ = FF li q po k (l + 1) (deN c m) (s + po l) (uN w l m) τ := if_pos h
theorem fm_F {k l s m : Nat} {c w : Nat → Nat} {τ : ST} (h : ¬ (q l m ∧ 0 < c m)) : fm li q po k l c s w m τ = τ := if_neg h
theorem FF_T {k l s : Nat} {c w : Nat → Nat} {σ : ST} (h : li l) : FF li q po (k + 1) l c s w σ = FF li q po k (l + 1) c s (uN w l 5) (rf (fm li q po k l c s w) 5 σ) := if_pos h
theorem FF_F {k l s : Nat} {c w : Nat → Nat} {σ : ST} (h : ¬ li l) : FF li q po (k + 1) l c s w σ = FF li q po k (l + 1) c s (uN w l 6) σ := if_neg h
/-- what letters from l on can bring -/
def opn (pr : Nat → Nat) : Nat → Nat → Nat
  | 0, _ => 0
  | k + 1, l => pr l + opn pr k (l + 1)
theorem FF_prune {pr : Nat → Nat} (hq : ∀ l m, q l m → pr l = po l) : ∀ k l c s w (σ : ST), s + opn pr k l + 1 ≤ σ.1 → FF li q po k l c s w σ = σ := by
  intro k
  induction k with
  | zero =>
    intro l c s w σ h
    have h : s + 0 + 1 ≤ σ.1 := h
    exact if_neg (by omega)
  | succ k ih =>
    intro l c s w σ h
    have h : s + (pr l + opn pr k (l + 1)) + 1 ≤ σ.1 := h
    by_cases hl : li l
    · rw [FF_T hl]
      have e : rf (fm li q po k l c s w) 5 σ = σ := by
        apply rf_id
        intro m hm
        by_cases d : q l m ∧ 0 < c m
        · rw [fm_T d]
          have := hq l m d.1
          exact ih _ _ _ _ _ (by omega)
        · rw [fm_F d]
      rw [e]
      exact ih _ _ _ _ _ (by omega)
    · rw [FF_F hl]
      exact ih _ _ _ _ _ (by omega)
/-- ways as numbers -/
noncomputable def cntP (li : Nat → Prop) : Nat → Nat → Nat → Nat
  | 0, _, _ => 0
  | l + 1, P, m => cntP li l (P / 6) m + iI (li l ∧ P % 6 ≠ 5 ∧ P % 6 = m) 1
noncomputable def sP (li : Nat → Prop) (po : Nat → Nat) : Nat → Nat → Nat
  | 0, _ => 0
  | l + 1, P => sP li po l (P / 6) + iI (li l ∧ P % 6 ≠ 5) (po l)
noncomputable def wv (li : Nat → Prop) (l d : Nat) : Nat := @ite _ (li l) (Classical.propDecidable _) d 6
noncomputable def wP (li : Nat → Prop) : Nat → Nat → Nat → Nat
  | 0, _ => fun _ => 0
  | l + 1, P => uN (wP li l (P / 6)) l (wv li l (P % 6))
def okD (li : Nat → Prop) (q : Nat → Nat → Prop) (C : Nat → Nat) (u : Nat → Nat) (l d : Nat) : Prop := (li l ∧ (d = 5 ∨ (q l d ∧ u d < C d))) ∨ (¬ li l ∧ d = 5)
noncomputable def PV (li : Nat → Prop) (q : Nat → Nat → Prop) (C : Nat → Nat) : Nat → Nat → Prop
  | 0, _ => True
  | l + 1, P => PV li q C l (P / 6) ∧ okD li q C (cntP li l (P / 6)) l (P % 6)
noncomputable def stp (li : Nat → Prop) (q : Nat → Nat → Prop) (C po : Nat → Nat) (L code : Nat) (σ : ST) : ST := @ite _ (PV li q C L code ∧ σ.1 < sP li po L code + 1) (Classical.propDecidable _) (sP li po L code + 1, wP li L code) σ
theorem stp_T {L code : Nat} {σ : ST} (h : PV li q C L code ∧ σ.1 < sP li po L code + 1) : stp li q C po L code σ = (sP li po L code + 1, wP li L code) := if_pos h
theorem stp_F {L code : Nat} {σ : ST} (h : ¬ (PV li q C L code ∧ σ.1 < sP li po L code + 1)) : stp li q C po L code σ = σ := if_neg h
noncomputable def cP (li : Nat → Prop) (C : Nat → Nat) (l P : Nat) : Nat → Nat := fun m => C m - cntP li l P m
theorem cP_m {l P d : Nat} (hl : li l) (hd : d < 5) : cP li C (l + 1) (P * 6 + d) = deN (cP li C l P) d := by
  funext m
  show C m - (cntP li l ((P * 6 + d) / 6) m + iI (li l ∧ (P * 6 + d) % 6 ≠ 5 ∧ (P * 6 + d) % 6 = m) 1) = if m = d then cP li C l P m - 1 else cP li C l P m
  rw [show (P * 6 + d) / 6 = P by omega, show (P * 6 + d) % 6 = d by omega]
  unfold cP
  by_cases e : m = d
  · rw [if_pos e, iI_T ⟨hl, by omega, e.symm⟩]
    omega
  · rw [if_neg e, iI_F (fun z => e z.2.2.symm)]
    rfl
theorem cP_5 {l P : Nat} : cP li C (l + 1) (P * 6 + 5) = cP li C l P := by
  funext m
  show C m - (cntP li l ((P * 6 + 5) / 6) m + iI (li l ∧ (P * 6 + 5) % 6 ≠ 5 ∧ (P * 6 + 5) % 6 = m) 1) = C m - cntP li l P m
  rw [show (P * 6 + 5) / 6 = P by omega, show (P * 6 + 5) % 6 = 5 by omega, iI_F (fun z => z.2.1 rfl)]
  rfl
theorem sP_m {l P d : Nat} (hl : li l) (hd : d < 5) : sP li po (l + 1) (P * 6 + d) = sP li po l P + po l := by
  show sP li po l ((P * 6 + d) / 6) + iI (li l ∧ (P * 6 + d) % 6 ≠ 5) (po l) = _
  rw [show (P * 6 + d) / 6 = P by omega, show (P * 6 + d) % 6 = d by omega, iI_T ⟨hl, by omega⟩]
theorem sP_5 {l P : Nat} : sP li po (l + 1) (P * 6 + 5) = sP li po l P := by
  show sP li po l ((P * 6 + 5) / 6) + iI (li l ∧ (P * 6 + 5) % 6 ≠ 5) (po l) = _
  rw [show (P * 6 + 5) / 6 = P by omega, show (P * 6 + 5) % 6 = 5 by omega, iI_F (fun z => z.2 rfl)]
  rfl
theorem wP_l {l P d : Nat} (hl : li l) (hd : d < 6) : wP li (l + 1) (P * 6 + d) = uN (wP li l P) l d := by
  show uN (wP li l ((P * 6 + d) / 6)) l (wv li l ((P * 6 + d) % 6)) = _
  rw [show (P * 6 + d) / 6 = P by omega, show (P * 6 + d) % 6 = d by omega, show wv li l d = d from if_pos hl]
theorem wP_n {l P d : Nat} (hl : ¬ li l) (hd : d < 6) : wP li (l + 1) (P * 6 + d) = uN (wP li l P) l 6 := by
  show uN (wP li l ((P * 6 + d) / 6)) l (wv li l ((P * 6 + d) % 6)) = _
  rw [show (P * 6 + d) / 6 = P by omega, show wv li l _ = 6 from if_neg hl]
theorem PV_d {l P d : Nat} (hd : d < 6) : PV li q C (l + 1) (P * 6 + d) ↔ PV li q C l P ∧ okD li q C (cntP li l P) l d := by
  show (PV li q C l ((P * 6 + d) / 6) ∧ okD li q C (cntP li l ((P * 6 + d) / 6)) l ((P * 6 + d) % 6)) ↔ _
  rw [show (P * 6 + d) / 6 = P by omega, show (P * 6 + d) % 6 = d by omega]
theorem ff_rf {L : Nat} : ∀ k l P (σ : ST), l + k = L → (PV li q C l P → FF li q po k l (cP li C l P) (sP li po l P) (wP li l P) σ = rf (fun r => stp li q C po L (P * 6 ^ k + r)) (6 ^ k) σ) ∧ (¬ PV li q C l P → rf (fun r => stp li q C po L (P * 6 ^ k + r)) (6 ^ k) σ = σ) := by
  intro k
  induction k with
  | zero =>
    intro l P σ h
    have : l = L := by omega
    subst this
    have e : rf (fun r => stp li q C po l (P * 6 ^ 0 + r)) (6 ^ 0) σ = stp li q C po l P σ := by
      show stp li q C po l (P * 1 + 0) σ = _
      rw [Nat.mul_one, Nat.add_zero]
    rw [e]
    refine ⟨fun hV => ?_, fun hV => stp_F (fun z => hV z.1)⟩
    by_cases c : σ.1 < sP li po l P + 1
    · rw [stp_T ⟨hV, c⟩]
      exact if_pos c
    · rw [stp_F (fun z => c z.2)]
      exact if_neg c
  | succ k ih =>
    intro l P σ h
    have e : rf (fun r => stp li q C po L (P * 6 ^ (k + 1) + r)) (6 ^ (k + 1)) σ = rf (fun d τ => rf (fun r => stp li q C po L ((P * 6 + d) * 6 ^ k + r)) (6 ^ k) τ) 6 σ := by
      rw [Nat.pow_succ, Nat.mul_comm (6 ^ k) 6, rf_mul]
      apply rf_congr
      intro d hd τ
      apply rf_congr
      intro r hr τ'
      rw [Nat.add_mul, Nat.mul_assoc, Nat.add_assoc]
    rw [e]
    refine ⟨fun hV => ?_, fun hV => rf_id 6 (fun d hd => (ih (l + 1) (P * 6 + d) σ (by omega)).2 (fun z => hV ((PV_d hd).mp z).1))⟩
    by_cases hl : li l
    · rw [FF_T hl]
      have e5 : rf (fm li q po k l (cP li C l P) (sP li po l P) (wP li l P)) 5 σ = rf (fun d τ => rf (fun r => stp li q C po L ((P * 6 + d) * 6 ^ k + r)) (6 ^ k) τ) 5 σ := by
        apply rf_congr
        intro d hd τ
        obtain ⟨i1, i2⟩ := ih (l + 1) (P * 6 + d) τ (by omega)
        by_cases c : q l d ∧ 0 < cP li C l P d
        · have c2 : 0 < C d - cntP li l P d := c.2
          rw [fm_T c, ← i1 ((PV_d (by omega)).mpr ⟨hV, Or.inl ⟨hl, Or.inr ⟨c.1, by omega⟩⟩⟩), cP_m hl hd, sP_m hl hd, wP_l hl (by omega)]
        · rw [fm_F c, i2]
          intro z
          rcases ((PV_d (by omega)).mp z).2 with w | w
          · rcases w.2 with x | x
            · omega
            · refine c ⟨x.1, ?_⟩
              have := x.2
              show 0 < C d - cntP li l P d
              omega
          · exact w.1 hl
      rw [e5]
      show _ = rf (fun r => stp li q C po L ((P * 6 + 5) * 6 ^ k + r)) (6 ^ k) (rf (fun d τ => rf (fun r => stp li q C po L ((P * 6 + d) * 6 ^ k + r)) (6 ^ k) τ) 5 σ)
      rw [← (ih (l + 1) (P * 6 + 5) _ (by omega)).1 ((PV_d (by omega)).mpr ⟨hV, Or.inl ⟨hl, Or.inl rfl⟩⟩), cP_5, sP_5, wP_l hl (by omega)]
    · rw [FF_F hl]
      have e5 : rf (fun d τ => rf (fun r => stp li q C po L ((P * 6 + d) * 6 ^ k + r)) (6 ^ k) τ) 5 σ = σ := by
        apply rf_id
        intro d hd
        refine (ih (l + 1) (P * 6 + d) σ (by omega)).2 (fun z => ?_)
        rcases ((PV_d (by omega)).mp z).2 with w | w
        · exact hl w.1
        · omega
      show _ = rf (fun r => stp li q C po L ((P * 6 + 5) * 6 ^ k + r)) (6 ^ k) (rf (fun d τ => rf (fun r => stp li q C po L ((P * 6 + d) * 6 ^ k + r)) (6 ^ k) τ) 5 σ)
      rw [e5, ← (ih (l + 1) (P * 6 + 5) _ (by omega)).1 ((PV_d (by omega)).mpr ⟨hV, Or.inr ⟨hl, rfl⟩⟩), cP_5, sP_5, wP_n hl (by omega)]
/-- from the last letter back -/
noncomputable def BV (li : Nat → Prop) (q : Nat → Nat → Prop) (C : Nat → Nat) : Nat → Nat → (Nat → Nat) → Prop
  | 0, _, _ => True
  | l + 1, P, u => okD li q C u l (P % 6) ∧ BV li q C l (P / 6) (fun m => u m + iI (li l ∧ P % 6 ≠ 5 ∧ P % 6 = m) 1)
theorem bv_pv (hq : ∀ l d, q l d → d < 5) : ∀ l P u, (∀ m, m < 5 → u m ≤ C m) → (BV li q C l P u ↔ PV li q C l P ∧ ∀ m, m < 5 → u m + cntP li l P m ≤ C m)
  | 0, P, u, hu => ⟨fun _ => ⟨trivial, hu⟩, fun _ => trivial⟩
  | l + 1, P, u, hu => by
    show (okD li q C u l (P % 6) ∧ BV li q C l (P / 6) (fun m => u m + iI (li l ∧ P % 6 ≠ 5 ∧ P % 6 = m) 1)) ↔ (PV li q C l (P / 6) ∧ okD li q C (cntP li l (P / 6)) l (P % 6)) ∧ ∀ m, m < 5 → u m + (cntP li l (P / 6) m + iI (li l ∧ P % 6 ≠ 5 ∧ P % 6 = m) 1) ≤ C m
    generalize P % 6 = d
    by_cases hl : li l ∧ d ≠ 5
    · constructor
      · rintro ⟨h1, h2⟩
        have h1' : q l d ∧ u d < C d := by
          rcases h1 with w | w
          · rcases w.2 with x | x
            · exact absurd x hl.2
            · exact x
          · exact absurd hl.1 w.1
        have hd := hq l d h1'.1
        have hu' : ∀ m, m < 5 → u m + iI (li l ∧ d ≠ 5 ∧ d = m) 1 ≤ C m := fun m hm => by
          by_cases e : d = m
          · subst e
            rw [iI_T ⟨hl.1, hl.2, rfl⟩]
            have := h1'.2
            omega
          · rw [iI_F (fun z => e z.2.2)]
            exact hu m hm
        obtain ⟨k1, k2⟩ := (bv_pv hq l (P / 6) _ hu').mp h2
        have k3 := k2 d hd
        rw [iI_T (show li l ∧ d ≠ 5 ∧ d = d from ⟨hl.1, hl.2, rfl⟩)] at k3
        refine ⟨⟨k1, Or.inl ⟨hl.1, Or.inr ⟨h1'.1, by omega⟩⟩⟩, fun m hm => ?_⟩
        have := k2 m hm
        omega
      · rintro ⟨⟨h1, h2⟩, h3⟩
        have h2' : q l d ∧ cntP li l (P / 6) d < C d := by
          rcases h2 with w | w
          · rcases w.2 with x | x
            · exact absurd x hl.2
            · exact x
          · exact absurd hl.1 w.1
        have hd := hq l d h2'.1
        have k3 := h3 d hd
        rw [iI_T (show li l ∧ d ≠ 5 ∧ d = d from ⟨hl.1, hl.2, rfl⟩)] at k3
        refine ⟨Or.inl ⟨hl.1, Or.inr ⟨h2'.1, by omega⟩⟩, ?_⟩
        refine (bv_pv hq l (P / 6) _ (fun m hm => ?_)).mpr ⟨h1, fun m hm => ?_⟩
        · have := h3 m hm
          omega
        · have := h3 m hm
          omega
    · have z : ∀ m, iI (li l ∧ d ≠ 5 ∧ d = m) 1 = 0 := fun m => iI_F (fun w => hl ⟨w.1, w.2.1⟩)
      have e : (fun m => u m + iI (li l ∧ d ≠ 5 ∧ d = m) 1) = u := by
        funext m
        rw [z]
        rfl
      have ih := bv_pv hq l (P / 6) u hu
      rw [e, ih]
      have ok : okD li q C u l d ↔ okD li q C (cntP li l (P / 6)) l d := by
        have aux : ∀ v : Nat → Nat, okD li q C v l d ↔ d = 5 := fun v => by
          constructor
          · rintro (w | w)
            · exact Classical.byContradiction (fun x => hl ⟨w.1, x⟩)
            · exact w.2
          · intro w
            by_cases c : li l
            · exact Or.inl ⟨c, Or.inl w⟩
            · exact Or.inr ⟨c, w⟩
        rw [aux, aux]
      rw [ok]
      constructor
      · rintro ⟨h1, h2, h3⟩
        refine ⟨⟨h2, h1⟩, fun m hm => ?_⟩
        rw [z]
        exact h3 m hm
      · rintro ⟨⟨h1, h2⟩, h3⟩
        refine ⟨h2, h1, fun m hm => ?_⟩
        have := h3 m hm
        rw [z] at this
        exact this
theorem bv_0 (hq : ∀ l d, q l d → d < 5) {l P : Nat} : BV li q C l P (fun _ => 0) ↔ PV li q C l P := by
  rw [bv_pv hq l P _ (fun m _ => Nat.zero_le _)]
  refine ⟨fun z => z.1, fun z => ⟨z, fun m hm => ?_⟩⟩
  have key : ∀ l P, PV li q C l P → ∀ m, m < 5 → cntP li l P m ≤ C m := by
    intro l
    induction l with
    | zero => intro P _ m _; exact Nat.zero_le _
    | succ l ih =>
      intro P h m hm
      have i1 := ih (P / 6) h.1 m hm
      show cntP li l (P / 6) m + iI (li l ∧ P % 6 ≠ 5 ∧ P % 6 = m) 1 ≤ C m
      by_cases c : li l ∧ P % 6 ≠ 5 ∧ P % 6 = m
      · rw [iI_T c]
        rcases h.2 with w | w
        · rcases w.2 with x | x
          · exact absurd x c.2.1
          · have := x.2
            rw [c.2.2] at this
            omega
        · exact absurd c.1 w.1
      · rw [iI_F c]
        exact i1
  have := key l P z m hm
  omega
/-- the greatest so far -/
theorem mx_spec {L : Nat} {w0 : Nat → Nat} : ∀ n, (∀ code, code < n → PV li q C L code → sP li po L code + 1 ≤ (rf (stp li q C po L) n (0, w0)).1) ∧ ((rf (stp li q C po L) n (0, w0)).1 = 0 ∨ ∃ code, code < n ∧ PV li q C L code ∧ sP li po L code + 1 = (rf (stp li q C po L) n (0, w0)).1)
  | 0 => ⟨fun c hc => absurd hc (Nat.not_lt_zero c), Or.inl rfl⟩
  | n + 1 => by
    obtain ⟨h1, h2⟩ := mx_spec (L := L) (w0 := w0) n
    show (∀ code, code < n + 1 → PV li q C L code → sP li po L code + 1 ≤ (stp li q C po L n (rf (stp li q C po L) n (0, w0))).1) ∧ ((stp li q C po L n (rf (stp li q C po L) n (0, w0))).1 = 0 ∨ ∃ code, code < n + 1 ∧ PV li q C L code ∧ sP li po L code + 1 = (stp li q C po L n (rf (stp li q C po L) n (0, w0))).1)
    generalize rf (stp li q C po L) n (0, w0) = σ at h1 h2
    by_cases c : PV li q C L n ∧ σ.1 < sP li po L n + 1
    · rw [stp_T c]
      have c2 := c.2
      refine ⟨fun code hc hV => ?_, Or.inr ⟨n, by omega, c.1, rfl⟩⟩
      show sP li po L code + 1 ≤ sP li po L n + 1
      by_cases e : code = n
      · rw [e]; exact Nat.le_refl _
      · have := h1 code (by omega) hV
        omega
    · rw [stp_F c]
      refine ⟨fun code hc hV => ?_, ?_⟩
      · by_cases e : code = n
        · subst e
          exact Nat.le_of_not_lt (fun z => c ⟨hV, by omega⟩)
        · exact h1 code (by omega) hV
      · rcases h2 with z | ⟨code, z1, z2, z3⟩
        · exact Or.inl z
        · exact Or.inr ⟨code, by omega, z2, z3⟩
end WAYS
