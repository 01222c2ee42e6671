/-! bits of numbers -/
theorem or32_nat {x y : Nat} (hx : x < 2147483648) (hy : y < 2147483648) : or32 (x : Int) (y : Int) = ((x ||| y : Nat) : Int) := by
  unfold or32
  have e : Int32.ofInt (x : Int) ||| Int32.ofInt (y : Int) = Int32.ofInt ((x ||| y : Nat) : Int) := by
    apply Int32.toBitVec_inj.mp
    rw [Int32.toBitVec_or, Int32.toBitVec_ofInt, Int32.toBitVec_ofInt, Int32.toBitVec_ofInt, BitVec.ofInt_natCast, BitVec.ofInt_natCast, BitVec.ofInt_natCast, BitVec.ofNat_or]
  have hlt : x ||| y < 2147483648 := Nat.or_lt_two_pow (n := 31) hx hy
  rw [e, w32_i, w32_eq (by omega) (by omega)]
theorem an32_nat {x y : Nat} (hx : x < 2147483648) (hy : y < 2147483648) : an32 (x : Int) (y : Int) = ((x &&& y : Nat) : Int) := by
  unfold an32
  have e : Int32.ofInt (x : Int) &&& Int32.ofInt (y : Int) = Int32.ofInt ((x &&& y : Nat) : Int) := by
    apply Int32.toBitVec_inj.mp
    rw [Int32.toBitVec_and, Int32.toBitVec_ofInt, Int32.toBitVec_ofInt, Int32.toBitVec_ofInt, BitVec.ofInt_natCast, BitVec.ofInt_natCast, BitVec.ofInt_natCast, BitVec.ofNat_and]
  have hlt : x &&& y ≤ x := Nat.and_le_left
  rw [e, w32_i, w32_eq (by omega) (by omega)]
theorem sl31_all : (List.range 31).all (fun n => decide (sl32 1 (n : Int) = ((2 ^ n : Nat) : Int)) && decide (sl32 0 (n : Int) = 0)) = true := by decide +kernel
theorem sl31_at {n : Nat} (hn : n < 31) : sl32 1 (n : Int) = ((2 ^ n : Nat) : Int) ∧ sl32 0 (n : Int) = 0 := by
  have h := sl31_all
  rw [List.all_eq_true] at h
  have h1 := h n (List.mem_range.mpr hn)
  rw [Bool.and_eq_true] at h1
  exact ⟨of_decide_eq_true h1.1, of_decide_eq_true h1.2⟩
theorem sh_amt : (List.range 32).all (fun n => decide (((Int32.ofInt (n : Int)) &&& 31).toBitVec.smod 32 = BitVec.ofNat 32 n)) = true := by decide +kernel
theorem sr32_nat {x n : Nat} (hx : x < 2147483648) (hn : n < 31) : sr32 (x : Int) (n : Int) = ((x / 2 ^ n : Nat) : Int) := by
  unfold sr32
  have hs := sh_amt
  rw [List.all_eq_true] at hs
  have ha := of_decide_eq_true (hs n (List.mem_range.mpr (by omega)))
  have e : (Int32.ofInt (x : Int) >>> (Int32.ofInt (n : Int) &&& 31)).toBitVec = (BitVec.ofInt 32 (x : Int)).sshiftRight n := by
    rw [Int32.toBitVec_shiftRight, ha]
    rw [BitVec.sshiftRight', BitVec.toNat_ofNat, Nat.mod_eq_of_lt (by omega), Int32.toBitVec_ofInt]
  have e2 : (Int32.ofInt (x : Int) >>> (Int32.ofInt (n : Int) &&& 31)).toInt = ((BitVec.ofInt 32 (x : Int)).sshiftRight n).toInt := by
    rw [← e]; rfl
  have hb : (x : Int).bmod (2 ^ 32) = (x : Int) := by
    rw [show (2 : Nat) ^ 32 = 4294967296 from rfl, w32_b, w32_eq (by omega) (by omega)]
  rw [e2, BitVec.toInt_sshiftRight, BitVec.toInt_ofInt, hb, Int.shiftRight_eq_div_pow]
  exact (Int.natCast_ediv x (2 ^ n)).symm
theorem us_amt : (List.range 32).all (fun n => decide ((Int32.ofInt (n : Int)).toUInt32 &&& Int32.toUInt32 31 = UInt32.ofNat n)) = true := by decide +kernel
theorem ur32_nat {x n : Nat} (hx : x < 2147483648) (hn : n < 31) : ur32 (x : Int) (n : Int) = ((x / 2 ^ n : Nat) : Int) := by
  unfold ur32
  have hs := us_amt
  rw [List.all_eq_true] at hs
  have ha := of_decide_eq_true (hs n (List.mem_range.mpr (by omega)))
  have hle : x / 2 ^ n ≤ x := Nat.div_le_self _ _
  have e1 : (Int32.ofInt (x : Int)).toUInt32 = UInt32.ofNat x := by
    apply UInt32.toBitVec_inj.mp
    show (Int32.ofInt (x : Int)).toBitVec = BitVec.ofNat 32 x
    rw [Int32.toBitVec_ofInt, BitVec.ofInt_natCast]
  have e2 : UInt32.ofNat x >>> UInt32.ofNat n = UInt32.ofNat (x / 2 ^ n) := by
    apply UInt32.toNat_inj.mp
    rw [UInt32.toNat_shiftRight, UInt32.toNat_ofNat_of_lt' (by show x < 4294967296; omega), UInt32.toNat_ofNat_of_lt' (by show n < 4294967296; omega), UInt32.toNat_ofNat_of_lt' (by show x / 2 ^ n < 4294967296; omega), Nat.mod_eq_of_lt (by omega), Nat.shiftRight_eq_div_pow]
  have e3 : (UInt32.ofNat (x / 2 ^ n)).toInt32 = Int32.ofInt ((x / 2 ^ n : Nat) : Int) := by
    apply Int32.toBitVec_inj.mp
    show BitVec.ofNat 32 (x / 2 ^ n) = _
    rw [Int32.toBitVec_ofInt, BitVec.ofInt_natCast]
  rw [ha, e1, e2, e3, w32_i]
  generalize x / 2 ^ n = q at *
  rw [w32_eq (by omega) (by omega)]
/-- halves of a byte's mask -/
theorem and_split {x y k : Nat} : x &&& y = (x % 2 ^ k &&& y % 2 ^ k) + 2 ^ k * (x / 2 ^ k &&& y / 2 ^ k) := by
  have h1 : (x &&& y) % 2 ^ k = x % 2 ^ k &&& y % 2 ^ k := Nat.and_mod_two_pow
  have h2 : (x &&& y) / 2 ^ k = x / 2 ^ k &&& y / 2 ^ k := by
    rw [← Nat.shiftRight_eq_div_pow, ← Nat.shiftRight_eq_div_pow, ← Nat.shiftRight_eq_div_pow, Nat.shiftRight_and_distrib]
  rw [← h1, ← h2]
  exact (Nat.mod_add_div _ _).symm
/-- the number of a set of farms -/
def numS (a : Nat → Int) (n : Nat) : Int := sm (fun f => a f * ((2 ^ f : Nat) : Int)) n
theorem numS_up {a : Nat → Int} {n j : Nat} (hj : j < n) (h0 : a j = 0) : numS (up a j 1) n = numS a n + ((2 ^ j : Nat) : Int) := by
  unfold numS
  have e : sm (fun f => up a j 1 f * ((2 ^ f : Nat) : Int)) n = sm (up (fun f => a f * ((2 ^ f : Nat) : Int)) j ((2 ^ j : Nat) : Int)) n := sm_ext n (fun f _ => by
    unfold up
    by_cases c : f = j
    · rw [if_pos c, if_pos c, c, Int.one_mul]
    · rw [if_neg c, if_neg c])
  rw [e, sm_up n hj, h0, Int.zero_mul]; omega
/-- a set of farms from j on is a multiple of 2^j, below 2^n -/
theorem numS_hi {a : Nat → Int} (h01 : ∀ f, a f = 0 ∨ a f = 1) : ∀ n : Nat, ∃ x : Nat, numS a n = (x : Int) ∧ x < 2 ^ n
  | 0 => ⟨0, rfl, by decide⟩
  | n + 1 => by
    obtain ⟨x, h1, h2⟩ := numS_hi h01 n
    have s : numS a (n + 1) = numS a n + a n * ((2 ^ n : Nat) : Int) := rfl
    have p : 2 ^ (n + 1) = 2 * 2 ^ n := by rw [Nat.pow_succ, Nat.mul_comm]
    rw [s, h1, p]
    rcases h01 n with c | c
    · exact ⟨x, by rw [c, Int.zero_mul]; omega, by omega⟩
    · exact ⟨x + 2 ^ n, by rw [c, Int.one_mul]; omega, by omega⟩
theorem numS_mul {a : Nat → Int} {j : Nat} (h01 : ∀ f, a f = 0 ∨ a f = 1) (hz : ∀ f, f < j → a f = 0) : ∀ n : Nat, ∃ x : Nat, numS a n = ((2 ^ j * x : Nat) : Int)
  | 0 => ⟨0, rfl⟩
  | n + 1 => by
    obtain ⟨x, h1⟩ := numS_mul h01 hz n
    have s : numS a (n + 1) = numS a n + a n * ((2 ^ n : Nat) : Int) := rfl
    rw [s, h1]
    by_cases c : n < j
    · exact ⟨x, by rw [hz n c, Int.zero_mul]; omega⟩
    · rcases h01 n with d | d
      · exact ⟨x, by rw [d, Int.zero_mul]; omega⟩
      · refine ⟨x + 2 ^ (n - j), ?_⟩
        rw [d, Int.one_mul, Nat.mul_add, ← Nat.pow_add, show j + (n - j) = n by omega]; omega
theorem or_low {j x y : Nat} (hy : y < 2 ^ j) : 2 ^ j * x ||| y = 2 ^ j * x + y := (Nat.two_pow_add_eq_or_of_lt hy x).symm
theorem grC_z {fw : (Nat → Int) → (Nat → Int) → Int} {ds v : Nat → Int} : ∀ (j : Nat) (fr g : Nat → Int) (L : Int) (f : Nat), j ≤ f → grC fw ds v j fr g L f = 0
  | 0, _, _, _, _, _ => rfl
  | j + 1, fr, g, L, f, h => by
    rw [grC]
    split
    · split
      · rw [up_n (by omega)]; exact grC_z j _ _ _ f (by omega)
      · exact grC_z j _ _ _ f (by omega)
    · exact grC_z j _ _ _ f (by omega)
theorem fw_b {n G : Nat} {B : Nat → Nat} {ds v fr g : Nat → Int} (hn : n ≤ 20) : 0 ≤ fwS n B ds v fr g G ∧ fwS n B ds v fr g G ≤ 1000 := by
  have tb : ∀ e, (0 ≤ tgS n B fr ds v g 0 e ∧ tgS n B fr ds v g 0 e ≤ 1000) ∧ (0 ≤ tgS n B fr ds v g 1 e ∧ tgS n B fr ds v g 1 e ≤ 1000) := fun e => ⟨⟨tg_b e, tg_le hn e⟩, tg_b e, tg_le hn e⟩
  unfold fwS
  have : ∀ i, 0 ≤ fdS (dpS (tgS n B fr ds v g 0) (tgS n B fr ds v g 1) 6) (6 + G) i ∧ fdS (dpS (tgS n B fr ds v g 0) (tgS n B fr ds v g 1) 6) (6 + G) i ≤ 1000 := by
    intro i; induction i with
    | zero => rw [fdS]; decide
    | succ i ih' =>
      have := dp_b tb 6 (6 + G + i)
      rw [fdS]; unfold mn3; split <;> omega
  exact this _
/-- the component's least set, as a number -/
theorem l_least {n G : Nat} {ds v : Nat → Int} {B : Nat → Nat} (hG : G ≤ 1) (hn : n ≤ 20) (hO : Ord n B v) (hv : ∀ f, 0 ≤ v f ∧ v f ≤ 1000) (hds : ∀ f, f < n → 0 ≤ ds f ∧ ds f ≤ 5) :
    ∀ (j fuel : Nat) (fr g : Nat → Int) (L : Int) (C : Nat → Int) (M : Mem), j ≤ n → j < fuel → RdC n ds v fr g B M → (∀ f, fr f = 0 ∨ fr f = 1) → (∀ d, d < 6 → -100000 + 1000 * (j : Int) ≤ g d ∧ g d ≤ 100000 - 1000 * (j : Int)) → (fwS n B ds v fr g G = L ∧ L < 1000) → (∀ f, C f = 0 ∨ C f = 1) → (∀ f, f < j → C f = 0) →
    Ok (fix (fun _ _ _ _ _ => none) k_Ba_leastSetThatTurns_33 fuel (G : Int) L (numS C n) ((j : Int) - 1) M) (fun x M' => ∃ C' : Nat → Int, x = numS C' n ∧ (∀ f, C' f = 0 ∨ C' f = 1) ∧ (∀ f, C' f = if f < j then grC (fun fr g => fwS n B ds v fr g G) ds v j fr g L f else C f) ∧ M' 0 0 = M 0 0) := by
  intro j; induction j with
  | zero =>
    intro fuel fr g L C M hj hf hR h01 hg hL hC hz
    obtain ⟨x, h1, h2⟩ := numS_hi hC n
    obtain ⟨f, rfl⟩ : ∃ f, fuel = f + 1 := ⟨fuel - 1, by omega⟩; rw [fix_s]; unfold k_Ba_leastSetThatTurns_33
    repeat (first | with_reducible refine ok_let ?_ | with_reducible refine ok_cs ?_ | with_reducible refine ok_clet ?_ | with_reducible refine ok_cc ?_ | (with_reducible refine ok_chk ?_ ?_; · (first | omega | ((try simp (disch := omega) only [w32_eq, w64_eq, ix_n, ix_e, sto_n, sto_e, sto_r, zf_r, Int.toNat_natCast, true_or, or_true, eq_self]) <;> (first | omega | decide)))) | (with_reducible refine ok_cchk ?_ ?_; · (first | omega | ((try simp (disch := omega) only [w32_eq, w64_eq, ix_n, ix_e, sto_n, sto_e, sto_r, zf_r, Int.toNat_natCast, true_or, or_true, eq_self]) <;> (first | omega | decide)))) | (with_reducible refine ok_t ?_ ?_; · (first | omega | ((try simp (disch := omega) only [w32_eq, w64_eq, ix_n, ix_e, sto_n, sto_e, sto_r, zf_r, Int.toNat_natCast, true_or, or_true, eq_self]) <;> (first | omega | decide)))) | (with_reducible refine ok_f ?_ ?_; · (first | omega | ((try simp (disch := omega) only [w32_eq, w64_eq, ix_n, ix_e, sto_n, sto_e, sto_r, zf_r, Int.toNat_natCast, true_or, or_true, eq_self]) <;> (first | omega | decide)))) | (with_reducible refine ok_ct ?_ ?_; · (first | omega | ((try simp (disch := omega) only [w32_eq, w64_eq, ix_n, ix_e, sto_n, sto_e, sto_r, zf_r, Int.toNat_natCast, true_or, or_true, eq_self]) <;> (first | omega | decide)))) | (with_reducible refine ok_cf ?_ ?_; · (first | omega | ((try simp (disch := omega) only [w32_eq, w64_eq, ix_n, ix_e, sto_n, sto_e, sto_r, zf_r, Int.toNat_natCast, true_or, or_true, eq_self]) <;> (first | omega | decide)))))
    exact ok_ret ⟨C, rfl, hC, fun f => by rw [if_neg (by omega)], rfl⟩
  | succ j ih =>
    intro fuel fr g L C M hj hf hR h01 hg hL hC hz
    have Lb : 0 ≤ L := by rw [← hL.1]; exact (fw_b hn).1
    have Lc := hL.2
    have ej : ((j + 1 : Nat) : Int) - 1 = (j : Int) := by omega
    have ei : ix (j : Int) = j := ix_n (by omega)
    obtain ⟨h5, h1, h2⟩ := hR
    obtain ⟨v1, v2, v3, v4⟩ := h1 j (by omega)
    have hdj := hds j (by omega)
    have hR' : RdC n ds v (up fr j 0) g B (sto M 107 j 0) := by
      unfold RdC
      rw [sto_r (show 5 ≠ 107 by decide), sto_r (show 105 ≠ 107 by decide), sto_r (show 106 ≠ 107 by decide), sto_r (show 6 ≠ 107 by decide), sto_r (show 108 ≠ 107 by decide), sto_up]
      refine ⟨h5, fun f hf => ?_, h2⟩
      obtain ⟨q1, q2, q3, q4⟩ := h1 f hf
      refine ⟨q1, q2, ?_, q4⟩
      unfold up; split
      · rfl
      · exact q3
    have h01' : ∀ f, up fr j 0 f = 0 ∨ up fr j 0 f = 1 := fun f => by
      unfold up; split
      · exact Or.inl rfl
      · exact h01 f
    obtain ⟨f, rfl⟩ : ∃ f, fuel = f + 1 := ⟨fuel - 1, by omega⟩; rw [fix_s]; unfold k_Ba_leastSetThatTurns_33
    rw [ej]
    refine ok_f (by first | omega | ((try simp (disch := omega) only [w32_eq, w64_eq, ix_n, ix_e, sto_n, sto_e, sto_r, zf_r, Int.toNat_natCast, true_or, or_true, eq_self]) <;> (first | omega | decide))) (ok_chk (by first | omega | ((try simp (disch := omega) only [w32_eq, w64_eq, ix_n, ix_e, sto_n, sto_e, sto_r, zf_r, Int.toNat_natCast, true_or, or_true, eq_self]) <;> (first | omega | decide))) (ok_let (ok_chk (by first | omega | ((try simp (disch := omega) only [w32_eq, w64_eq, ix_n, ix_e, sto_n, sto_e, sto_r, zf_r, Int.toNat_natCast, true_or, or_true, eq_self]) <;> (first | omega | decide))) (ok_let ?_))))
    rw [ei, v3]
    by_cases c : fr j = 1
    · have hgr : ∀ d : Int, d = d := fun _ => rfl
      rw [c]
      refine ok_f (by decide) ?_
      refine ok_call (s_reach hG hn hR' hO hv h01' hds (fun d hd => by have := hg d hd; omega)) (fun x M1 hx => ?_)
      obtain ⟨hx, F1⟩ := hx
      rw [hx]
      have hR1 := hR'.on F1
      have fwb := fw_b (n := n) (G := G) (B := B) (ds := ds) (v := v) (fr := up fr j 0) (g := g) hn
      have h00 : M1 0 0 = M 0 0 := by rw [F1.f 0 0 (by decide) (by decide), sto_r (by decide)]
      by_cases d : L < fwS n B ds v (up fr j 0) g G
      · have eg : ∀ f, grC (fun fr g => fwS n B ds v fr g G) ds v (j + 1) fr g L f = up (grC (fun fr g => fwS n B ds v fr g G) ds v j (up fr j 0) (gnU ds v g j) (L - 1)) j 1 f := fun f => by rw [grC, if_pos c, if_pos d]
        obtain ⟨x, hx1⟩ := numS_mul (j := j + 1) hC hz n
        obtain ⟨x', hx2, hx3⟩ := numS_hi hC n
        have p20 : 2 ^ n ≤ 2 ^ 20 := Nat.pow_le_pow_right (by decide) hn
        have pj : 2 ^ j < 2 ^ (j + 1) := Nat.pow_lt_pow_right (by decide) (by omega)
        have pjn : 2 ^ (j + 1) ≤ 2 ^ 20 := Nat.pow_le_pow_right (by decide) (by omega)
        have hxx : 2 ^ (j + 1) * x = x' := by have := hx1.symm.trans hx2; omega
        have hor : or32 (numS C n) (sl32 1 (j : Int)) = numS (up C j 1) n := by
          rw [numS_up (by omega) (hz j (by omega)), hx1, (sl31_at (by omega)).1, or32_nat (by rw [hxx]; omega) (by omega), or_low pj]
          omega
        have b4 := (hR1.2.1 j (by omega)).2.2.2
        have b1 := (hR1.2.1 j (by omega)).1
        have eds : ix (ds j) = (ds j).toNat := ix_e (by omega) (by omega)
        have vj := hv j
        have need := fw_need (f := j) hG hO (fun f => (hv f).1) hds (by omega) c (by rw [hL.1]; exact hL.2) (by rw [hL.1]; exact d)
        rw [hL.1] at need
        refine ok_t (by first | omega | ((try simp (disch := omega) only [w32_eq, w64_eq, ix_n, ix_e, sto_n, sto_e, sto_r, zf_r, Int.toNat_natCast, true_or, or_true, eq_self]) <;> (first | omega | decide))) (ok_let (ok_chk (by first | omega | ((try simp (disch := omega) only [w32_eq, w64_eq, ix_n, ix_e, sto_n, sto_e, sto_r, zf_r, Int.toNat_natCast, true_or, or_true, eq_self]) <;> (first | omega | decide))) (ok_let ?_)))
        rw [b4]
        refine ok_chk (by first | omega | ((try simp (disch := omega) only [w32_eq, w64_eq, ix_n, ix_e, sto_n, sto_e, sto_r, zf_r, Int.toNat_natCast, true_or, or_true, eq_self]) <;> (first | omega | decide))) (ok_let (ok_chk (by first | omega | ((try simp (disch := omega) only [w32_eq, w64_eq, ix_n, ix_e, sto_n, sto_e, sto_r, zf_r, Int.toNat_natCast, true_or, or_true, eq_self]) <;> (first | omega | decide))) (ok_let (ok_chk (by first | omega | ((try simp (disch := omega) only [w32_eq, w64_eq, ix_n, ix_e, sto_n, sto_e, sto_r, zf_r, Int.toNat_natCast, true_or, or_true, eq_self]) <;> (first | omega | decide))) (ok_let (ok_let ?_))))))
        unfold k_Ba_leastSetThatTurns_104
        refine ok_let ?_
        rw [eds, hor, ← Int.sub_eq_add_neg, ← Int.sub_eq_add_neg]
        have hR2 : RdC n ds v (up fr j 0) (gnU ds v g j) B (sto M1 108 (ds j).toNat (M1 108 (ds j).toNat + M1 105 j)) := by
          unfold RdC at hR1 ⊢
          rw [sto_r (show 5 ≠ 108 by decide), sto_r (show 105 ≠ 108 by decide), sto_r (show 106 ≠ 108 by decide), sto_r (show 107 ≠ 108 by decide), sto_r (show 6 ≠ 108 by decide), sto_up]
          refine ⟨hR1.1, hR1.2.1, fun e he => ?_⟩
          have ge := hg e he
          have qe := hR1.2.2 e he
          unfold up gnU
          by_cases q : e = (ds j).toNat
          · rw [if_pos q, if_pos (by omega), ← q, w32_add, qe, b1, w32_eq (by omega) (by omega)]
          · rw [if_neg q, if_neg (by omega), qe]; omega
        refine ok_mono (ih f (up fr j 0) (gnU ds v g j) (L - 1) (up C j 1) _ (by omega) (by omega) hR2 h01' (fun e he => by have := hg e he; unfold gnU; split <;> omega) ⟨need, by omega⟩ (fun f => ?_) (fun f hf => ?_)) (fun x M' h => ?_)
        · by_cases q : f = j
          · rw [q, up_e]; exact Or.inr rfl
          · rw [up_n q]; exact hC f
        · rw [up_n (by omega)]; exact hz f (by omega)
        · obtain ⟨C', z1, z2, z3, z4⟩ := h
          refine ⟨C', z1, z2, fun f => ?_, by rw [z4, sto_r (by decide)]; exact h00⟩
          rw [z3 f, eg f]
          by_cases q : f < j
          · rw [if_pos q, if_pos (by omega), up_n (by omega)]
          · rw [if_neg q]
            by_cases r : f = j
            · rw [r, up_e, if_pos (by omega), up_e]
            · rw [up_n r, if_neg (by omega)]
      · have eg : grC (fun fr g => fwS n B ds v fr g G) ds v (j + 1) fr g L = grC (fun fr g => fwS n B ds v fr g G) ds v j (up fr j 0) g L := by rw [grC, if_pos c, if_neg d]
        have hsub : ∀ f, f < n → up fr j 0 f = 1 → fr f = 1 := fun f hf h => by
          unfold up at h; split at h
          · omega
          · exact h
        have mono := fw_mono (fr := fr) (fr' := up fr j 0) (g := g) hG hO (fun f => (hv f).1) hds hsub (by omega)
        refine ok_f (by first | omega | ((try simp (disch := omega) only [w32_eq, w64_eq, ix_n, ix_e, sto_n, sto_e, sto_r, zf_r, Int.toNat_natCast, true_or, or_true, eq_self]) <;> (first | omega | decide))) ?_
        unfold k_Ba_leastSetThatTurns_104
        refine ok_let ?_
        rw [← Int.sub_eq_add_neg, eg]
        refine ok_mono (ih f (up fr j 0) g L C _ (by omega) (by omega) hR1 h01' (fun e he => by have := hg e he; omega) ⟨by omega, hL.2⟩ hC (fun f hf => hz f (by omega))) (fun x M' h => ?_)
        obtain ⟨C', z1, z2, z3, z4⟩ := h
        refine ⟨C', z1, z2, fun f => ?_, by rw [z4]; exact h00⟩
        rw [z3 f]
        by_cases q : f < j
        · rw [if_pos q, if_pos (by omega)]
        · rw [if_neg q]
          by_cases r : f = j
          · rw [r, if_pos (by omega), grC_z j _ _ _ j (Nat.le_refl _)]; exact hz j (by omega)
          · rw [if_neg (by omega)]
    · have c0 : fr j = 0 := by
        rcases h01 j with r | r
        · exact r
        · exact absurd r c
      have ef : up fr j 0 = fr := by
        funext f; unfold up; split
        · rename_i q; rw [q, c0]
        · rfl
      have eg : grC (fun fr g => fwS n B ds v fr g G) ds v (j + 1) fr g L = grC (fun fr g => fwS n B ds v fr g G) ds v j (up fr j 0) g L := by rw [grC, if_neg c]
      rw [c0]
      refine ok_t (by decide) ?_
      unfold k_Ba_leastSetThatTurns_104
      refine ok_let ?_
      rw [← Int.sub_eq_add_neg, eg]
      refine ok_mono (ih f (up fr j 0) g L C _ (by omega) (by omega) hR' h01' (fun e he => by have := hg e he; omega) ⟨by rw [ef]; exact hL.1, hL.2⟩ hC (fun f hf => hz f (by omega))) (fun x M' h => ?_)
      obtain ⟨C', z1, z2, z3, z4⟩ := h
      refine ⟨C', z1, z2, fun f => ?_, by rw [z4, sto_r (by decide)]⟩
      rw [z3 f]
      by_cases q : f < j
      · rw [if_pos q, if_pos (by omega)]
      · rw [if_neg q]
        by_cases r : f = j
        · rw [r, if_pos (by omega), grC_z j _ _ _ j (Nat.le_refl _)]; exact hz j (by omega)
        · rw [if_neg (by omega)]
