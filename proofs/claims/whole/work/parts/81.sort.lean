/-! stand: rows in order -/
def posL (key : Nat → Nat) (x : Nat) : List Nat → Nat
  | [] => 0
  | y :: ys => if key y < x then 0 else posL key x ys + 1
def insL (key : Nat → Nat) (l : Nat) : List Nat → List Nat
  | [] => [l]
  | y :: ys => if key y < key l then l :: y :: ys else y :: insL key l ys
def srt (key : Nat → Nat) : List Nat → Prop
  | [] => True
  | y :: ys => (∀ z, z ∈ ys → key z ≤ key y) ∧ srt key ys
theorem ins_len {key : Nat → Nat} {l : Nat} : ∀ D, (insL key l D).length = D.length + 1
  | [] => rfl
  | y :: ys => by
    unfold insL
    split
    · rfl
    · rw [List.length_cons, ins_len ys, List.length_cons]
theorem ins_mem {key : Nat → Nat} {l z : Nat} : ∀ D, z ∈ insL key l D → z = l ∨ z ∈ D
  | [], h => by
    have h : z ∈ [l] := h
    exact Or.inl (by simpa using h)
  | y :: ys, h => by
    unfold insL at h
    split at h
    · rcases List.mem_cons.mp h with e | e
      · exact Or.inl e
      · exact Or.inr e
    · rcases List.mem_cons.mp h with e | e
      · exact Or.inr (by rw [e]; exact List.mem_cons_self)
      · rcases ins_mem ys e with g | g
        · exact Or.inl g
        · exact Or.inr (List.mem_cons_of_mem _ g)
theorem ins_srt {key : Nat → Nat} {l : Nat} : ∀ D, srt key D → srt key (insL key l D)
  | [], _ => ⟨fun z h => absurd h (by simp), trivial⟩
  | y :: ys, h => by
    unfold insL
    split
    · rename_i c
      refine ⟨fun z hz => ?_, h⟩
      rcases List.mem_cons.mp hz with e | e
      · rw [e]; omega
      · have := h.1 z e; omega
    · rename_i c
      refine ⟨fun z hz => ?_, ins_srt ys h.2⟩
      rcases ins_mem ys hz with e | e
      · rw [e]; omega
      · exact h.1 z e
theorem pos_le {key : Nat → Nat} {x : Nat} : ∀ D, posL key x D ≤ D.length
  | [] => Nat.le_refl _
  | y :: ys => by
    unfold posL
    split
    · exact Nat.zero_le _
    · have := pos_le (key := key) (x := x) ys
      rw [List.length_cons]
      omega
theorem pos_iff {key : Nat → Nat} {x : Nat} : ∀ D, srt key D → ∀ j, j < D.length → (key (D.getD j 0) < x ↔ posL key x D ≤ j)
  | [], _, j, hj => absurd hj (Nat.not_lt_zero j)
  | y :: ys, h, j, hj => by
    unfold posL
    by_cases c : key y < x
    · rw [if_pos c]
      refine ⟨fun _ => Nat.zero_le _, fun _ => ?_⟩
      cases j with
      | zero => exact c
      | succ i =>
        have hi : i < ys.length := by rw [List.length_cons] at hj; omega
        have m : ys.getD i 0 ∈ ys := by
          rw [List.getD_eq_getElem?_getD, List.getElem?_eq_getElem hi]
          exact List.getElem_mem hi
        have := h.1 _ m
        show key (ys.getD i 0) < x
        omega
    · rw [if_neg c]
      cases j with
      | zero => exact ⟨fun z => absurd z c, fun z => absurd z (by omega)⟩
      | succ i =>
        have hi : i < ys.length := by rw [List.length_cons] at hj; omega
        have := pos_iff (x := x) ys h.2 i hi
        show key (ys.getD i 0) < x ↔ _
        rw [this]
        omega
theorem ins_get {key : Nat → Nat} {l : Nat} : ∀ D j, (insL key l D).getD j 0 = if j < posL key (key l) D then D.getD j 0 else if j = posL key (key l) D then l else D.getD (j - 1) 0
  | [], j => by
    show [l].getD j 0 = if j < 0 then _ else if j = 0 then l else _
    cases j with
    | zero => rfl
    | succ i => simp
  | y :: ys, j => by
    have ih := fun i => ins_get (key := key) (l := l) ys i
    unfold insL posL
    by_cases c : key y < key l
    · rw [if_pos c, if_pos c]
      cases j with
      | zero => rfl
      | succ i => simp
    · rw [if_neg c, if_neg c]
      cases j with
      | zero => simp
      | succ i =>
        show (insL key l ys).getD i 0 = _
        rw [ih i]
        by_cases c1 : i < posL key (key l) ys
        · rw [if_pos c1, if_pos (by omega)]
          rfl
        · rw [if_neg c1, if_neg (show ¬ i + 1 < posL key (key l) ys + 1 by omega)]
          by_cases c2 : i = posL key (key l) ys
          · rw [if_pos c2, if_pos (show i + 1 = posL key (key l) ys + 1 by omega)]
          · rw [if_neg c2, if_neg (show ¬ i + 1 = posL key (key l) ys + 1 by omega)]
            cases i with
            | zero => exfalso; omega
            | succ k => rfl
/-- a row that holds a list -/
def arr (f : Nat → Int32) (D : List Nat) : Prop := ∀ j, j < D.length → f j = nI (D.getD j 0)
def sh (f : Nat → Int32) (at' n : Nat) : Nat → Int32 := fun j => if at' < j ∧ j ≤ n then f (j - 1) else f j
theorem sh_n {f : Nat → Int32} {n : Nat} : sh f n n = f := by
  funext j
  exact if_neg (by omega)
theorem sh_lo {f : Nat → Int32} {b n j : Nat} (h : j ≤ b) : sh f b n j = f j := if_neg (by omega)
theorem sh_s {f : Nat → Int32} {b n : Nat} (h : b + 1 ≤ n) : upd (sh f (b + 1) n) (b + 1) (f b) = sh f b n := by
  funext j
  unfold sh
  by_cases c : j = b + 1
  · subst c
    rw [pk_us, if_pos (by omega)]
    rfl
  · rw [pk_un c]
    by_cases d : b + 1 < j ∧ j ≤ n
    · rw [if_pos d, if_pos (by omega)]
    · rw [if_neg d, if_neg (by omega)]
theorem arr_ins {f : Nat → Int32} {D : List Nat} {key : Nat → Nat} {l : Nat} {w : Int32} (h : arr f D) (hw : w = nI l) : arr (upd (sh f (posL key (key l) D) D.length) (posL key (key l) D) w) (insL key l D) := by
  intro j hj
  rw [ins_len] at hj
  have hp := pos_le (key := key) (x := key l) D
  rw [ins_get]
  by_cases c2 : j = posL key (key l) D
  · rw [if_neg (by omega), if_pos c2, c2, pk_us, hw]
  · rw [pk_un c2]
    by_cases c1 : j < posL key (key l) D
    · rw [if_pos c1, sh_lo (by omega)]
      exact h j (by omega)
    · rw [if_neg c1, if_neg c2]
      unfold sh
      rw [if_pos (by omega)]
      exact h (j - 1) (by omega)
/-- the class's order of letters, and the model's row of postages -/
def DL (pr : Nat → Nat) : Nat → List Nat
  | 0 => []
  | l + 1 => insL pr l (DL pr l)
noncomputable def ML (pr : Nat → Nat) (q : Nat → Bool) : Nat → List Nat
  | 0 => []
  | l + 1 => if q l then insL id (pr l) (ML pr q l) else ML pr q l
theorem DL_len {pr : Nat → Nat} : ∀ l, (DL pr l).length = l
  | 0 => rfl
  | l + 1 => by
    show (insL pr l (DL pr l)).length = _
    rw [ins_len, DL_len l]
theorem DL_srt {pr : Nat → Nat} : ∀ l, srt pr (DL pr l)
  | 0 => trivial
  | l + 1 => ins_srt _ (DL_srt l)
theorem DL_mem {pr : Nat → Nat} {z : Nat} : ∀ l, z ∈ DL pr l → z < l
  | 0, h => absurd h (by simp [DL])
  | l + 1, h => by
    rcases ins_mem _ h with e | e
    · omega
    · have := DL_mem l e
      omega
theorem DL_get {pr : Nat → Nat} {l j : Nat} (hj : j < l) : (DL pr l).getD j 0 < l := by
  have hj' : j < (DL pr l).length := by rw [DL_len]; exact hj
  apply DL_mem (pr := pr) l
  rw [List.getD_eq_getElem?_getD, List.getElem?_eq_getElem hj']
  exact List.getElem_mem hj'
theorem ML_srt {pr : Nat → Nat} {q : Nat → Bool} : ∀ l, srt id (ML pr q l)
  | 0 => trivial
  | l + 1 => by
    unfold ML
    split
    · exact ins_srt _ (ML_srt l)
    · exact ML_srt l
theorem ML_len {pr : Nat → Nat} {q : Nat → Bool} : ∀ l, (ML pr q l).length ≤ l
  | 0 => Nat.le_refl _
  | l + 1 => by
    have := ML_len (pr := pr) (q := q) l
    unfold ML
    split
    · rw [ins_len]; omega
    · omega
theorem ML_mem {pr : Nat → Nat} {q : Nat → Bool} {z B : Nat} : ∀ l, (∀ i, i < l → pr i ≤ B) → z ∈ ML pr q l → z ≤ B
  | 0, _, h => absurd h (by simp [ML])
  | l + 1, hB, h => by
    unfold ML at h
    split at h
    · rcases ins_mem _ h with e | e
      · rw [e]; exact hB l (by omega)
      · exact ML_mem l (fun i hi => hB i (by omega)) e
    · exact ML_mem l (fun i hi => hB i (by omega)) h
theorem insL_lt {key : Nat → Nat} {l y : Nat} {ys : List Nat} (h : key y < key l) : insL key l (y :: ys) = l :: y :: ys := if_pos h
theorem insL_ge {key : Nat → Nat} {l y : Nat} {ys : List Nat} (h : ¬ key y < key l) : insL key l (y :: ys) = y :: insL key l ys := if_neg h
theorem fil_ins {pr : Nat → Nat} {q : Nat → Bool} {l : Nat} : ∀ D, srt pr D → ((insL pr l D).filter q).map pr = if q l then insL id (pr l) ((D.filter q).map pr) else (D.filter q).map pr
  | [], _ => by
    show ([l].filter q).map pr = _
    by_cases c : q l = true
    · rw [if_pos c, List.filter_cons_of_pos c]
      rfl
    · rw [if_neg c, List.filter_cons_of_neg c]
  | y :: ys, h => by
    have ih := fil_ins (pr := pr) (q := q) (l := l) ys h.2
    by_cases c : pr y < pr l
    · rw [insL_lt c]
      by_cases cl : q l = true
      · rw [if_pos cl, List.filter_cons_of_pos cl, List.map_cons]
        have key : ∀ L : List Nat, (∀ z, z ∈ L → z < pr l) → insL id (pr l) L = pr l :: L := by
          intro L hL
          cases L with
          | nil => rfl
          | cons z zs =>
            unfold insL
            rw [if_pos (show id z < id (pr l) from hL z List.mem_cons_self)]
        rw [key]
        intro z hz
        obtain ⟨w, hw, e⟩ := List.mem_map.mp hz
        have hw2 := (List.mem_filter.mp hw).1
        rcases List.mem_cons.mp hw2 with g | g
        · rw [← e, g]; exact c
        · have := h.1 w g
          omega
      · rw [if_neg cl, List.filter_cons_of_neg cl]
    · rw [insL_ge c]
      by_cases cy : q y = true
      · rw [List.filter_cons_of_pos cy, List.filter_cons_of_pos cy, List.map_cons, List.map_cons, ih]
        by_cases cl : q l = true
        · rw [if_pos cl, if_pos cl]
          show _ = if id (pr y) < id (pr l) then _ else _
          rw [if_neg (show ¬ id (pr y) < id (pr l) from c)]
        · rw [if_neg cl, if_neg cl]
      · rw [List.filter_cons_of_neg cy, List.filter_cons_of_neg cy, ih]
theorem ML_DL {pr : Nat → Nat} {q : Nat → Bool} : ∀ l, ML pr q l = ((DL pr l).filter q).map pr
  | 0 => rfl
  | l + 1 => by
    have ih := ML_DL (pr := pr) (q := q) l
    show (if q l then insL id (pr l) (ML pr q l) else ML pr q l) = ((insL pr l (DL pr l)).filter q).map pr
    rw [fil_ins _ (DL_srt l), ih]
/-- as many as there are covers -/
def tk : Nat → List Nat → Nat
  | 0, _ => 0
  | _ + 1, [] => 0
  | c + 1, y :: ys => y + tk c ys
def gr (pr : Nat → Nat) (q : Nat → Bool) : List Nat → Nat → Nat
  | [], _ => 0
  | y :: ys, c => if c = 0 then 0 else if q y then pr y + gr pr q ys (c - 1) else gr pr q ys c
theorem tk_0 : ∀ L, tk 0 L = 0
  | [] => rfl
  | _ :: _ => rfl
theorem gr_tk {pr : Nat → Nat} {q : Nat → Bool} : ∀ D c, gr pr q D c = tk c ((D.filter q).map pr)
  | [], c => by cases c <;> rfl
  | y :: ys, c => by
    unfold gr
    by_cases c0 : c = 0
    · rw [if_pos c0, c0, tk_0]
    · rw [if_neg c0]
      by_cases cy : q y = true
      · rw [if_pos cy, List.filter_cons_of_pos cy, List.map_cons, gr_tk ys (c - 1)]
        obtain ⟨k, rfl⟩ : ∃ k, c = k + 1 := ⟨c - 1, by omega⟩
        rfl
      · rw [if_neg cy, List.filter_cons_of_neg cy, gr_tk ys c]
theorem sm_shift {f : Nat → Nat} : ∀ k, sm f (k + 1) = f 0 + sm (fun i => f (i + 1)) k
  | 0 => by
    show sm f 0 + f 0 = _
    unfold sm
    omega
  | k + 1 => by
    show sm f (k + 1) + f (k + 1) = f 0 + (sm (fun i => f (i + 1)) k + f (k + 1))
    rw [sm_shift k]
    omega
theorem tk_sm : ∀ c L, tk c L = sm (fun k => L.getD k 0) (min c L.length)
  | 0, L => by rw [tk_0, Nat.zero_min]; rfl
  | c + 1, [] => by
    show 0 = sm _ (min (c + 1) 0)
    rw [Nat.min_zero]
    rfl
  | c + 1, y :: ys => by
    show y + tk c ys = sm _ (min (c + 1) (ys.length + 1))
    rw [show min (c + 1) (ys.length + 1) = min c ys.length + 1 by omega, sm_shift, tk_sm c ys]
    rfl
theorem gr_drop {pr : Nat → Nat} {q : Nat → Bool} {D : List Nat} {i c : Nat} (hi : i < D.length) : gr pr q (D.drop i) c = if c = 0 then 0 else if q (D.getD i 0) then pr (D.getD i 0) + gr pr q (D.drop (i + 1)) (c - 1) else gr pr q (D.drop (i + 1)) c := by
  rw [List.drop_eq_getElem_cons hi, show D.getD i 0 = D[i] by rw [List.getD_eq_getElem?_getD, List.getElem?_eq_getElem hi]; rfl]
  rfl
