def setS (h : MV) (k : Nat) (v : Int32) : MV := (fun j => if j = k then v else h.1 j, h.2)
def setA (h : MV) (k : Nat) (f : Nat → Int32) : MV := (h.1, fun j => if j = k then f else h.2.1 j, h.2.2)
def setL (h : MV) (k : Nat) (v : Int64) : MV := (h.1, h.2.1, fun j => if j = k then v else h.2.2 j)
abbrev ix (i : Int32) : Nat := i.toNatClampNeg
def hsA (g : Nat → Nat) (i : Nat) : Nat → Nat := fun j => g (20 + 20 * i + j)
def lfH (ct : Nat → ClassId) (a k : Nat → Nat) (h : MV) : va_W := [(a 0, .inr (1, [.ref (k 0), .int (h.1 0), .ref (a 1), .ref (a 2), .ref (a 3), .int (h.1 1), .ref (a 4), .ref (a 5), .ref (a 6), .ref (a 7), .int (h.1 2), .int (h.1 3), .int (h.1 4), .ref (a 8), .ref (a 12), .ref (a 16)])), (a 1, .inl (ct 0, 5, .inl (h.2.1 0))), (a 2, .inl (ct 0, 5, .inl (h.2.1 1))), (a 3, .inl (ct 0, 5, .inl (h.2.1 2))), (a 4, .inl (ct 0, 6, .inl (h.2.1 3))), (a 5, .inl (ct 0, 6, .inl (h.2.1 4))), (a 6, .inl (ct 0, 6, .inl (h.2.1 5))), (a 7, .inl (ct 0, 6, .inl (h.2.1 6)))]
def lfS (ct : Nat → ClassId) (a : Nat → Nat) (h : MV) : va_W := [(a 0, .inr (8, [.int (h.1 0), .ref (a 1), .ref (a 2), .ref (a 3)])), (a 1, .inl (ct 0, 6, .inl (h.2.1 0))), (a 2, .inl (ct 0, 6, .inl (h.2.1 1))), (a 3, .inl (ct 0, 6, .inl (h.2.1 2)))]
def lfP (ct : Nat → ClassId) (a : Nat → Nat) (h : MV) : va_W := [(a 0, .inr (4, [.ref (a 1), .int (h.1 0), .int (h.1 1)])), (a 1, .inl (ct 0, 152, .inl (h.2.1 0)))]
def lfN (ct : Nat → ClassId) (a : Nat → Nat) (h : MV) : va_W := [(a 0, .inr (3, [.int (h.1 0), .ref (a 1), .ref (a 2), .ref (a 3), .ref (a 4), .ref (a 5), .ref (a 6), .ref (a 7), .int (h.1 1)])), (a 1, .inl (ct 0, 6, .inl (h.2.1 0))), (a 2, .inl (ct 0, 6, .inl (h.2.1 1))), (a 3, .inl (ct 1, 6, .inl (h.2.1 2))), (a 4, .inl (ct 0, 5, .inl (h.2.1 3))), (a 5, .inl (ct 0, 6, .inl (h.2.1 4))), (a 6, .inl (ct 0, 6, .inl (h.2.1 5))), (a 7, .inl (ct 0, 6, .inl (h.2.1 6)))]
def lfR (ct : Nat → ClassId) (a : Nat → Nat) (h : MV) : va_W := [(a 0, .inr (6, [.ref (a 1), .int (h.1 0), .int (h.1 1), .int (h.1 2), .int (h.1 3), .int (h.1 4)])), (a 1, .inl (ct 2, 150, .inl (h.2.1 0)))]
def lfX (ct : Nat → ClassId) (a : Nat → Nat) (h : MV) : va_W := [(a 7, .inr (11, [.ref (hsA a 0 0), .ref (hsA a 1 0), .ref (a 8), .ref (a 9), .ref (a 10), .ref (a 18), .long (h.2.2 0), .long (h.2.2 1), .int (h.1 0), .int (h.1 1), .int (h.1 2)])), (a 8, .inl (ct 4, 2, .inr (.inr (.inr (.inr (fun j => some (hsA a (2 + j) 0))))))), (a 9, .inl (ct 1, 2, .inl (h.2.1 0)))]
def lfK (ct : Nat → ClassId) (a : Nat → Nat) : va_W := [(a 0, .inl (ct 3, 6, .inr (.inr (.inr (.inr (fun j => some (a (1 + j)))))))), (a 1, .inr (5, [])), (a 2, .inr (2, [])), (a 3, .inr (7, [])), (a 4, .inr (10, [])), (a 5, .inr (0, [])), (a 6, .inr (9, []))]
def lfM (ct : Nat → ClassId) (a : Nat → Nat) (h : MV) : va_W := [(a 0, .inr (12, [.ref (a 1), .ref (a 2), .ref (a 3), .ref (a 4), .long (h.2.2 0), .long (h.2.2 1), .ref (a 5), .ref (a 6), .ref (a 7), .ref (a 8), .ref (a 9), .ref (a 10), .ref (a 11), .ref (a 12), .int (h.1 0), .int (h.1 1), .int (h.1 2), .int (h.1 3), .int (h.1 4), .ref (a 13), .ref (a 14)])), (a 1, .inl (ct 0, 235, .inl (h.2.1 0))), (a 2, .inl (ct 0, 470, .inl (h.2.1 1))), (a 3, .inl (ct 1, 2, .inl (h.2.1 2))), (a 4, .inl (ct 0, 3, .inl (h.2.1 3))), (a 5, .inl (ct 0, 6, .inl (h.2.1 4))), (a 6, .inl (ct 0, 6, .inl (h.2.1 5))), (a 7, .inl (ct 0, 5, .inl (h.2.1 6))), (a 8, .inl (ct 0, 6, .inl (h.2.1 7))), (a 9, .inl (ct 0, 4, .inl (h.2.1 8))), (a 10, .inl (ct 0, 4, .inl (h.2.1 9))), (a 11, .inl (ct 0, 83, .inl (h.2.1 10))), (a 12, .inl (ct 0, 150, .inl (h.2.1 11))), (a 13, .inl (ct 0, 83, .inl (h.2.1 12))), (a 14, .inl (ct 0, 3, .inl (h.2.1 13)))]
def lfA (ct : Nat → ClassId) (a : Nat → Nat) (z : Nat) (t : Nat → Int32) : va_W := [(a 0, .inl (ct 0, z, .inl t))]
def lfO (a : Nat) (ci : Nat) : va_W := [(a, .inr (ci, []))]
theorem iu_X1 : ∀ w ∈ u_ws RX1 TX1 16, w ∈ WALL := by
  intro w hw
  have h1 : ∀ w ∈ u_ws RX1 TX1 16, w ∈ lw_tbl := by decide +kernel
  have h2 : ∀ w ∈ u_ws RX1 TX1 16, goodWord w = true := by decide +kernel
  exact wall_mem (h1 w hw) (h2 w hw)
theorem iu_X3 : ∀ w ∈ u_ws RX3 TX3 9, w ∈ WALL := by
  intro w hw
  have h1 : ∀ w ∈ u_ws RX3 TX3 9, w ∈ lw_tbl := by decide +kernel
  have h2 : ∀ w ∈ u_ws RX3 TX3 9, goodWord w = true := by decide +kernel
  exact wall_mem (h1 w hw) (h2 w hw)
theorem iu_X4 : ∀ w ∈ u_ws RX4 TX4 3, w ∈ WALL := by
  intro w hw
  have h1 : ∀ w ∈ u_ws RX4 TX4 3, w ∈ lw_tbl := by decide +kernel
  have h2 : ∀ w ∈ u_ws RX4 TX4 3, goodWord w = true := by decide +kernel
  exact wall_mem (h1 w hw) (h2 w hw)
theorem iu_X6 : ∀ w ∈ u_ws RX6 TX6 6, w ∈ WALL := by
  intro w hw
  have h1 : ∀ w ∈ u_ws RX6 TX6 6, w ∈ lw_tbl := by decide +kernel
  have h2 : ∀ w ∈ u_ws RX6 TX6 6, goodWord w = true := by decide +kernel
  exact wall_mem (h1 w hw) (h2 w hw)
theorem iu_X8 : ∀ w ∈ u_ws RX8 TX8 4, w ∈ WALL := by
  intro w hw
  have h1 : ∀ w ∈ u_ws RX8 TX8 4, w ∈ lw_tbl := by decide +kernel
  have h2 : ∀ w ∈ u_ws RX8 TX8 4, goodWord w = true := by decide +kernel
  exact wall_mem (h1 w hw) (h2 w hw)
theorem iu_X11 : ∀ w ∈ u_ws RX11 TX11 11, w ∈ WALL := by
  intro w hw
  have h1 : ∀ w ∈ u_ws RX11 TX11 11, w ∈ lw_tbl := by decide +kernel
  have h2 : ∀ w ∈ u_ws RX11 TX11 11, goodWord w = true := by decide +kernel
  exact wall_mem (h1 w hw) (h2 w hw)
theorem iu_X12 : ∀ w ∈ u_ws RX12 TX12 21, w ∈ WALL := by
  intro w hw
  have h1 : ∀ w ∈ u_ws RX12 TX12 21, w ∈ lw_tbl := by decide +kernel
  have h2 : ∀ w ∈ u_ws RX12 TX12 21, goodWord w = true := by decide +kernel
  exact wall_mem (h1 w hw) (h2 w hw)
