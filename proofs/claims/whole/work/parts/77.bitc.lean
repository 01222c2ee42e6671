/-! how many bits -/
def bcN (x : Nat) : Nat :=
  let v1 := x - ((x / 2) &&& 1431655765)
  let v2 := (v1 &&& 858993459) + ((v1 / 4) &&& 858993459)
  let v3 := (v2 + v2 / 16) &&& 252645135
  let v4 := v3 + v3 / 256
  let v5 := v4 + v4 / 65536
  v5 &&& 63
theorem bcS_nat {x : Nat} (hx : x < 2097152) : bcS (x : Int) = (bcN x : Int) := by
  unfold bcS bcN
  have e1 : an32 (ur32 (x : Int) 1) 1431655765 = ((x / 2 &&& 1431655765 : Nat) : Int) := by
    have := ur32_nat (x := x) (n := 1) (by omega) (by decide)
    rw [show ((1 : Nat) : Int) = 1 from rfl] at this
    rw [this, show (2 : Nat) ^ 1 = 2 from rfl]
    exact an32_nat (y := 1431655765) (by omega) (by decide)
  have l1 : x / 2 &&& 1431655765 ≤ x / 2 := Nat.and_le_left
  have e2 : (x : Int) - an32 (ur32 (x : Int) 1) 1431655765 = ((x - (x / 2 &&& 1431655765) : Nat) : Int) := by rw [e1]; omega
  have b1 : x - (x / 2 &&& 1431655765) < 2097152 := by omega
  simp only [e2]
  generalize x - (x / 2 &&& 1431655765) = v1 at *
  have e3 : an32 (v1 : Int) 858993459 = ((v1 &&& 858993459 : Nat) : Int) := an32_nat (y := 858993459) (by omega) (by decide)
  have e4 : an32 (ur32 (v1 : Int) 2) 858993459 = ((v1 / 4 &&& 858993459 : Nat) : Int) := by
    have := ur32_nat (x := v1) (n := 2) (by omega) (by decide)
    rw [show ((2 : Nat) : Int) = 2 from rfl] at this
    rw [this, show (2 : Nat) ^ 2 = 4 from rfl]
    exact an32_nat (y := 858993459) (by omega) (by decide)
  have l2 : v1 &&& 858993459 ≤ v1 := Nat.and_le_left
  have l3 : v1 / 4 &&& 858993459 ≤ v1 / 4 := Nat.and_le_left
  have e5 : an32 (v1 : Int) 858993459 + an32 (ur32 (v1 : Int) 2) 858993459 = (((v1 &&& 858993459) + (v1 / 4 &&& 858993459) : Nat) : Int) := by rw [e3, e4]; omega
  have b2 : (v1 &&& 858993459) + (v1 / 4 &&& 858993459) < 4194304 := by omega
  simp only [e5]
  generalize (v1 &&& 858993459) + (v1 / 4 &&& 858993459) = v2 at *
  have u4 : ur32 (v2 : Int) 4 = ((v2 / 16 : Nat) : Int) := by
    have := ur32_nat (x := v2) (n := 4) (by omega) (by decide)
    exact this
  have e6 : an32 ((v2 : Int) + ur32 (v2 : Int) 4) 252645135 = ((v2 + v2 / 16 &&& 252645135 : Nat) : Int) := by
    rw [u4, show (v2 : Int) + ((v2 / 16 : Nat) : Int) = ((v2 + v2 / 16 : Nat) : Int) by omega]
    exact an32_nat (y := 252645135) (by omega) (by decide)
  have l4 : v2 + v2 / 16 &&& 252645135 ≤ v2 + v2 / 16 := Nat.and_le_left
  simp only [e6]
  have b3 : v2 + v2 / 16 &&& 252645135 < 8388608 := by omega
  generalize v2 + v2 / 16 &&& 252645135 = v3 at *
  have u8 : ur32 (v3 : Int) 8 = ((v3 / 256 : Nat) : Int) := ur32_nat (x := v3) (n := 8) (by omega) (by decide)
  have e7 : (v3 : Int) + ur32 (v3 : Int) 8 = ((v3 + v3 / 256 : Nat) : Int) := by rw [u8]; omega
  simp only [e7]
  have b4 : v3 + v3 / 256 < 16777216 := by omega
  generalize v3 + v3 / 256 = v4 at *
  have u16 : ur32 (v4 : Int) 16 = ((v4 / 65536 : Nat) : Int) := ur32_nat (x := v4) (n := 16) (by omega) (by decide)
  have e8 : (v4 : Int) + ur32 (v4 : Int) 16 = ((v4 + v4 / 65536 : Nat) : Int) := by rw [u16]; omega
  simp only [e8]
  exact an32_nat (y := 63) (by omega) (by decide)
/-- bytes -/
def by1 (b : Nat) : Nat := b - (b / 2 &&& 85)
def by2 (b : Nat) : Nat := (by1 b &&& 51) + (by1 b / 4 &&& 51)
def byChk (b : Nat) : Bool := decide (by1 b ≤ b) && decide (by1 b < 256) && decide (by2 b % 16 + by2 b / 16 = pc8 b) && decide (by2 b % 16 ≤ 4) && decide (by2 b / 16 ≤ 4) && (List.range 2).all (fun c => decide ((b / 2 + 128 * c) &&& 85 = (b / 2 &&& 85))) && (List.range 4).all (fun c => decide ((by1 b / 4 + 64 * c) &&& 51 = (by1 b / 4 &&& 51)))
theorem byChk_all : (List.range 256).all byChk = true := by decide +kernel
theorem lo4_all : (List.range 256).all (fun u => decide (u &&& 15 = u % 16)) = true := by decide +kernel
theorem and8 {x y : Nat} : x &&& y = (x % 256 &&& y % 256) + 256 * (x / 256 &&& y / 256) := and_split (k := 8)
def m3Chk (u : Nat) : Bool := decide (u &&& 21845 = (u &&& 85)) && decide (u &&& 13107 = (u &&& 51)) && decide (u &&& 3855 = u % 16) && decide (u &&& 15 = u % 16)
theorem m3_all : (List.range 256).all m3Chk = true := by decide +kernel
theorem m3_at {u : Nat} (h : u < 256) : (u &&& 21845 = (u &&& 85)) ∧ (u &&& 13107 = (u &&& 51)) ∧ (u &&& 3855 = u % 16) ∧ (u &&& 15 = u % 16) := by
  have q := m3_all
  rw [List.all_eq_true] at q
  have r := q u (List.mem_range.mpr h)
  unfold m3Chk at r
  rw [Bool.and_eq_true, Bool.and_eq_true, Bool.and_eq_true] at r
  exact ⟨of_decide_eq_true r.1.1.1, of_decide_eq_true r.1.1.2, of_decide_eq_true r.1.2, of_decide_eq_true r.2⟩
theorem by_at {b : Nat} (h : b < 256) : by1 b ≤ b ∧ by2 b % 16 + by2 b / 16 = pc8 b ∧ by2 b % 16 ≤ 4 ∧ by2 b / 16 ≤ 4 ∧ (∀ c, c < 2 → (b / 2 + 128 * c) &&& 85 = (b / 2 &&& 85)) ∧ ∀ c, c < 4 → (by1 b / 4 + 64 * c) &&& 51 = (by1 b / 4 &&& 51) := by
  have q := byChk_all
  rw [List.all_eq_true] at q
  have r := q b (List.mem_range.mpr h)
  unfold byChk at r
  rw [Bool.and_eq_true, Bool.and_eq_true, Bool.and_eq_true, Bool.and_eq_true, Bool.and_eq_true, Bool.and_eq_true, List.all_eq_true, List.all_eq_true] at r
  obtain ⟨⟨⟨⟨⟨⟨r1, r2⟩, r3⟩, r4⟩, r5⟩, r6⟩, r7⟩ := r
  exact ⟨of_decide_eq_true r1, of_decide_eq_true r3, of_decide_eq_true r4, of_decide_eq_true r5, fun c hc => of_decide_eq_true (r6 c (List.mem_range.mpr hc)), fun c hc => of_decide_eq_true (r7 c (List.mem_range.mpr hc))⟩
theorem lo6_all : (List.range 64).all (fun u => decide (u &&& 63 = u)) = true := by decide +kernel
theorem nib_sum {g0 g1 g2 : Nat} : (g0 + 256 * g1 + 65536 * g2) + (g0 + 256 * g1 + 65536 * g2) / 16 = (g0 + g0 / 16 + 16 * (g1 % 16)) + 256 * ((g1 + g1 / 16 + 16 * (g2 % 16)) + 256 * (g2 + g2 / 16)) := by omega
theorem nib_3 {u0 u1 u2 : Nat} (c0 : u0 < 256) (c1 : u1 < 256) (c2 : u2 < 256) : (u0 + 256 * (u1 + 256 * u2)) &&& 252645135 = u0 % 16 + 256 * (u1 % 16) + 65536 * (u2 % 16) := by
  rw [and8, show (u0 + 256 * (u1 + 256 * u2)) % 256 = u0 by omega, show 252645135 % 256 = 15 from rfl, show 252645135 / 256 = 986895 from rfl, (m3_at c0).2.2.2, show (u0 + 256 * (u1 + 256 * u2)) / 256 = u1 + 256 * u2 by omega, and8 (x := u1 + 256 * u2), show (u1 + 256 * u2) % 256 = u1 by omega, show 986895 % 256 = 15 from rfl, show 986895 / 256 = 3855 from rfl, (m3_at c1).2.2.2, show (u1 + 256 * u2) / 256 = u2 by omega, (m3_at c2).2.2.1]
  omega
theorem nib_and {g0 g1 g2 : Nat} (p3 : g0 % 16 ≤ 4) (p4 : g0 / 16 ≤ 4) (q3 : g1 % 16 ≤ 4) (q4 : g1 / 16 ≤ 4) (r3 : g2 % 16 ≤ 4) (r4 : g2 / 16 ≤ 4) : ((g0 + g0 / 16 + 16 * (g1 % 16)) + 256 * ((g1 + g1 / 16 + 16 * (g2 % 16)) + 256 * (g2 + g2 / 16))) &&& 252645135 = (g0 % 16 + g0 / 16) + 256 * (g1 % 16 + g1 / 16) + 65536 * (g2 % 16 + g2 / 16) := by
  rw [nib_3 (by omega) (by omega) (by omega), show (g0 + g0 / 16 + 16 * (g1 % 16)) % 16 = g0 % 16 + g0 / 16 by omega, show (g1 + g1 / 16 + 16 * (g2 % 16)) % 16 = g1 % 16 + g1 / 16 by omega, show (g2 + g2 / 16) % 16 = g2 % 16 + g2 / 16 by omega]
theorem last_3 {k0 k1 k2 : Nat} (z0 : k0 ≤ 8) (z1 : k1 ≤ 8) (z2 : k2 ≤ 8) : ((k0 + 256 * k1 + 65536 * k2) + (k0 + 256 * k1 + 65536 * k2) / 256 + ((k0 + 256 * k1 + 65536 * k2) + (k0 + 256 * k1 + 65536 * k2) / 256) / 65536) &&& 63 = k0 + k1 + k2 := by
  have e7 : (k0 + 256 * k1 + 65536 * k2) + (k0 + 256 * k1 + 65536 * k2) / 256 + ((k0 + 256 * k1 + 65536 * k2) + (k0 + 256 * k1 + 65536 * k2) / 256) / 65536 = (k0 + k1 + k2) + 256 * (k1 + k2 + 256 * k2) := by omega
  rw [e7, and8, show ((k0 + k1 + k2) + 256 * (k1 + k2 + 256 * k2)) % 256 = k0 + k1 + k2 by omega, show 63 % 256 = 63 from rfl, show 63 / 256 = 0 from rfl, Nat.and_zero]
  have q := lo6_all
  rw [List.all_eq_true] at q
  have := of_decide_eq_true (q (k0 + k1 + k2) (List.mem_range.mpr (by omega)))
  omega
theorem bcN_3 {b0 b1 b2 : Nat} (h0 : b0 < 256) (h1 : b1 < 256) (h2 : b2 < 32) : bcN (b0 + 256 * b1 + 65536 * b2) = pc8 b0 + pc8 b1 + pc8 b2 := by
  obtain ⟨p1, p2, p3, p4, p5, p6⟩ := by_at h0
  obtain ⟨q1, q2, q3, q4, q5, q6⟩ := by_at h1
  obtain ⟨r1, r2, r3, r4, r5, r6⟩ := by_at (b := b2) (by omega)
  have z0 := pc8_b b0
  have z1 := pc8_b b1
  have z2 := pc8_b b2
  unfold bcN
  have e1 : ((b0 + 256 * b1 + 65536 * b2) / 2) &&& 1431655765 = (b0 / 2 &&& 85) + 256 * (b1 / 2 &&& 85) + 65536 * (b2 / 2 &&& 85) := by
    rw [and8, show (b0 + 256 * b1 + 65536 * b2) / 2 % 256 = b0 / 2 + 128 * (b1 % 2) by omega, show 1431655765 % 256 = 85 from rfl, show 1431655765 / 256 = 5592405 from rfl, p5 _ (by omega), and8 (x := (b0 + 256 * b1 + 65536 * b2) / 2 / 256), show (b0 + 256 * b1 + 65536 * b2) / 2 / 256 % 256 = b1 / 2 + 128 * (b2 % 2) by omega, show 5592405 % 256 = 85 from rfl, show 5592405 / 256 = 21845 from rfl, q5 _ (by omega), show (b0 + 256 * b1 + 65536 * b2) / 2 / 256 / 256 = b2 / 2 by omega, (m3_at (u := b2 / 2) (by omega)).1]
    omega
  have d0 : by1 b0 = b0 - (b0 / 2 &&& 85) := rfl
  have d1 : by1 b1 = b1 - (b1 / 2 &&& 85) := rfl
  have d2 : by1 b2 = b2 - (b2 / 2 &&& 85) := rfl
  have a0 : b0 / 2 &&& 85 ≤ b0 / 2 := Nat.and_le_left
  have a1 : b1 / 2 &&& 85 ≤ b1 / 2 := Nat.and_le_left
  have a2 : b2 / 2 &&& 85 ≤ b2 / 2 := Nat.and_le_left
  have e2 : b0 + 256 * b1 + 65536 * b2 - (((b0 + 256 * b1 + 65536 * b2) / 2) &&& 1431655765) = by1 b0 + 256 * by1 b1 + 65536 * by1 b2 := by rw [e1]; omega
  simp only [e2]
  have s0 : by2 b0 = (by1 b0 &&& 51) + (by1 b0 / 4 &&& 51) := rfl
  have s1 : by2 b1 = (by1 b1 &&& 51) + (by1 b1 / 4 &&& 51) := rfl
  have s2 : by2 b2 = (by1 b2 &&& 51) + (by1 b2 / 4 &&& 51) := rfl
  generalize by1 b0 = f0 at *
  generalize by1 b1 = f1 at *
  generalize by1 b2 = f2 at *
  have e3 : (f0 + 256 * f1 + 65536 * f2) &&& 858993459 = (f0 &&& 51) + 256 * (f1 &&& 51) + 65536 * (f2 &&& 51) := by
    rw [and8, show (f0 + 256 * f1 + 65536 * f2) % 256 = f0 by omega, show 858993459 % 256 = 51 from rfl, show 858993459 / 256 = 3355443 from rfl, and8 (x := (f0 + 256 * f1 + 65536 * f2) / 256), show (f0 + 256 * f1 + 65536 * f2) / 256 % 256 = f1 by omega, show 3355443 % 256 = 51 from rfl, show 3355443 / 256 = 13107 from rfl, show (f0 + 256 * f1 + 65536 * f2) / 256 / 256 = f2 by omega, (m3_at (u := f2) (by omega)).2.1]
    omega
  have e4 : ((f0 + 256 * f1 + 65536 * f2) / 4) &&& 858993459 = (f0 / 4 &&& 51) + 256 * (f1 / 4 &&& 51) + 65536 * (f2 / 4 &&& 51) := by
    rw [and8, show (f0 + 256 * f1 + 65536 * f2) / 4 % 256 = f0 / 4 + 64 * (f1 % 4) by omega, show 858993459 % 256 = 51 from rfl, show 858993459 / 256 = 3355443 from rfl, p6 _ (by omega), and8 (x := (f0 + 256 * f1 + 65536 * f2) / 4 / 256), show (f0 + 256 * f1 + 65536 * f2) / 4 / 256 % 256 = f1 / 4 + 64 * (f2 % 4) by omega, show 3355443 % 256 = 51 from rfl, show 3355443 / 256 = 13107 from rfl, q6 _ (by omega), show (f0 + 256 * f1 + 65536 * f2) / 4 / 256 / 256 = f2 / 4 by omega, (m3_at (u := f2 / 4) (by omega)).2.1]
    omega
  have e5 : ((f0 + 256 * f1 + 65536 * f2) &&& 858993459) + (((f0 + 256 * f1 + 65536 * f2) / 4) &&& 858993459) = by2 b0 + 256 * by2 b1 + 65536 * by2 b2 := by rw [e3, e4, s0, s1, s2]; omega
  simp only [e5]
  generalize by2 b0 = g0 at *
  generalize by2 b1 = g1 at *
  generalize by2 b2 = g2 at *
  have e6 : ((g0 + 256 * g1 + 65536 * g2) + (g0 + 256 * g1 + 65536 * g2) / 16) &&& 252645135 = pc8 b0 + 256 * pc8 b1 + 65536 * pc8 b2 := by
    rw [nib_sum, nib_and p3 p4 q3 q4 r3 r4, p2, q2, r2]
  simp only [e6]
  exact last_3 z0 z1 z2
/-- the bits of a number below 2^21 -/
def pcN (x : Nat) : Nat → Nat
  | 0 => 0
  | n + 1 => pcN x n + bt x n
theorem bt_b (x k : Nat) : bt x k ≤ 1 := by unfold bt; omega
theorem bt_lo {x k : Nat} (hk : k < 8) : bt (x % 256) k = bt x k := by
  rcases (show k = 0 ∨ k = 1 ∨ k = 2 ∨ k = 3 ∨ k = 4 ∨ k = 5 ∨ k = 6 ∨ k = 7 by omega) with e | e | e | e | e | e | e | e <;> (subst e; unfold bt; omega)
theorem bt_sh {x j k : Nat} : bt (x / 2 ^ j) k = bt x (j + k) := by
  unfold bt
  rw [Nat.div_div_eq_div_mul, ← Nat.pow_add]
theorem pc8_bt {x y : Nat} {j : Nat} (h : ∀ k, k < 8 → bt y k = bt x (j + k)) : pc8 y = bt x (j + 0) + bt x (j + 1) + bt x (j + 2) + bt x (j + 3) + bt x (j + 4) + bt x (j + 5) + bt x (j + 6) + bt x (j + 7) := by
  unfold pc8
  rw [h 0 (by decide), h 1 (by decide), h 2 (by decide), h 3 (by decide), h 4 (by decide), h 5 (by decide), h 6 (by decide), h 7 (by decide)]
theorem pcN_8 {x j : Nat} : pcN x (j + 8) = pcN x j + (bt x (j + 0) + bt x (j + 1) + bt x (j + 2) + bt x (j + 3) + bt x (j + 4) + bt x (j + 5) + bt x (j + 6) + bt x (j + 7)) := by
  have e : pcN x (j + 8) = pcN x j + bt x (j + 0) + bt x (j + 1) + bt x (j + 2) + bt x (j + 3) + bt x (j + 4) + bt x (j + 5) + bt x (j + 6) + bt x (j + 7) := rfl
  rw [e]; omega
theorem bc_20 {x : Nat} (hx : x < 2097152) : bcS (x : Int) = ((pcN x 24 : Nat) : Int) := by
  rw [bcS_nat hx]
  have e := bcN_3 (b0 := x % 256) (b1 := x / 256 % 256) (b2 := x / 65536) (by omega) (by omega) (by omega)
  rw [show x % 256 + 256 * (x / 256 % 256) + 65536 * (x / 65536) = x by omega] at e
  have h0 := pc8_bt (x := x) (y := x % 256) (j := 0) (fun k hk => by rw [Nat.zero_add]; exact bt_lo hk)
  have h1 := pc8_bt (x := x) (y := x / 256 % 256) (j := 8) (fun k hk => by rw [bt_lo hk]; exact bt_sh (j := 8))
  have h2 := pc8_bt (x := x) (y := x / 65536) (j := 16) (fun k hk => bt_sh (j := 16))
  have e1 := pcN_8 (x := x) (j := 0)
  have e2 := pcN_8 (x := x) (j := 8)
  have e3 := pcN_8 (x := x) (j := 16)
  rw [← h0] at e1
  rw [← h1] at e2
  rw [← h2] at e3
  have z : pcN x 0 = 0 := rfl
  rw [e]
  have : pcN x 24 = pc8 (x % 256) + pc8 (x / 256 % 256) + pc8 (x / 65536) := by
    rw [show (24 : Nat) = 16 + 8 from rfl, e3, show (16 : Nat) = 8 + 8 from rfl, e2, show (8 : Nat) = 0 + 8 from rfl, e1, z]
    omega
  rw [this]
