/-! how many bits -/
def bcN (x : Nat) : Nat :=
  let v1 := x - ((x / 2) &&& 1431655765)
  let v2 := (v1 &&& 858993459) + ((v1 / 4) &&& 858993459)
  let v3 := (v2 + v2 / 16) &&& 252645135
  let v4 := v3 + v3 / 256
  let v5 := v4 + v4 / 65536
  v5 &&& 63
theorem bcS_nat {x : Nat} (hx : x < 2097152) : bcS (x : Int) = (bcN x : Int) := by
  unfold bcS bcN
  have e1 : an32 (ur32 (x : Int) 1) 1431655765 = ((x / 2 &&& 1431655765 : Nat) : Int) := by
    have := ur32_nat (x := x) (n := 1) (by omega) (by decide)
    rw [show ((1 : Nat) : Int) = 1 from rfl] at this
    rw [this, show (2 : Nat) ^ 1 = 2 from rfl]
    exact an32_nat (y := 1431655765) (by omega) (by decide)
  have l1 : x / 2 &&& 1431655765 ≤ x / 2 := Nat.and_le_left
  have e2 : (x : Int) - an32 (ur32 (x : Int) 1) 1431655765 = ((x - (x / 2 &&& 1431655765) : Nat) : Int) := by rw [e1]; omega
  have b1 : x - (x / 2 &&& 1431655765) < 2097152 := by omega
  simp only [e2]
  generalize x - (x / 2 &&& 1431655765) = v1 at *
  have e3 : an32 (v1 : Int) 858993459 = ((v1 &&& 858993459 : Nat) : Int) := an32_nat (y := 858993459) (by omega) (by decide)
  have e4 : an32 (ur32 (v1 : Int) 2) 858993459 = ((v1 / 4 &&& 858993459 : Nat) : Int) := by
    have := ur32_nat (x := v1) (n := 2) (by omega) (by decide)
    rw [show ((2 : Nat) : Int) = 2 from rfl] at this
    rw [this, show (2 : Nat) ^ 2 = 4 from rfl]
    exact an32_nat (y := 858993459) (by omega) (by decide)
  have l2 : v1 &&& 858993459 ≤ v1 := Nat.and_le_left
  have l3 : v1 / 4 &&& 858993459 ≤ v1 / 4 := Nat.and_le_left
  have e5 : an32 (v1 : Int) 858993459 + an32 (ur32 (v1 : Int) 2) 858993459 = (((v1 &&& 858993459) + (v1 / 4 &&& 858993459) : Nat) : Int) := by rw [e3, e4]; omega
  have b2 : (v1 &&& 858993459) + (v1 / 4 &&& 858993459) < 4194304 := by omega
  simp only [e5]
  generalize (v1 &&& 858993459) + (v1 / 4 &&& 858993459) = v2 at *
  have u4 : ur32 (v2 : Int) 4 = ((v2 / 16 : Nat) : Int) := by
    have := ur32_nat (x := v2) (n := 4) (by omega) (by decide)
    exact this
  have e6 : an32 ((v2 : Int) + ur32 (v2 : Int) 4) 252645135 = ((v2 + v2 / 16 &&& 252645135 : Nat) : Int) := by
    rw [u4, show (v2 : Int) + ((v2 / 16 : Nat) : Int) = ((v2 + v2 / 16 : Nat) : Int) by omega]
    exact an32_nat (y := 252645135) (by omega) (by decide)
  have l4 : v2 + v2 / 16 &&& 252645135 ≤ v2 + v2 / 16 := Nat.and_le_left
  simp only [e6]
  have b3 : v2 + v2 / 16 &&& 252645135 < 8388608 := by omega
  generalize v2 + v2 / 16 &&& 252645135 = v3 at *
  have u8 : ur32 (v3 : Int) 8 = ((v3 / 256 : Nat) : Int) := ur32_nat (x := v3) (n := 8) (by omega) (by decide)
  have e7 : (v3 : Int) + ur32 (v3 : Int) 8 = ((v3 + v3 / 256 : Nat) : Int) := by rw [u8]; omega
  simp only [e7]
  have b4 : v3 + v3 / 256 < 16777216 := by omega
  generalize v3 + v3 / 256 = v4 at *
  have u16 : ur32 (v4 : Int) 16 = ((v4 / 65536 : Nat) : Int) := ur32_nat (x := v4) (n := 16) (by omega) (by decide)
  have e8 : (v4 : Int) + ur32 (v4 : Int) 16 = ((v4 + v4 / 65536 : Nat) : Int) := by rw [u16]; omega
  simp only [e8]
  exact an32_nat (y := 63) (by omega) (by decide)
/-- bytes -/
def by1 (b : Nat) : Nat := b - (b / 2 &&& 85)
def by2 (b : Nat) : Nat := (by1 b &&& 51) + (by1 b / 4 &&& 51)
def byChk (b : Nat) : Bool := decide (by1 b ≤ b) && decide (by1 b < 256) && decide (by2 b % 16 + by2 b / 16 = pc8 b) && decide (by2 b % 16 ≤ 4) && decide (by2 b / 16 ≤ 4) && (List.range 2).all (fun c => decide ((b / 2 + 128 * c) &&& 85 = (b / 2 &&& 85))) && (List.range 4).all (fun c => decide ((by1 b / 4 + 64 * c) &&& 51 = (by1 b / 4 &&& 51)))
theorem byChk_all : (List.range 256).all byChk = true := by decide +kernel
theorem lo4_all : (List.range 256).all (fun u => decide (u &&& 15 = u % 16)) = true := by decide +kernel
