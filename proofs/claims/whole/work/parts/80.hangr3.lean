/-! on whom votes hang: the model's number -/
theorem l_h166 {n m b : Nat} {fr : Nat → Int} {op : Nat → Nat} {M : Mem} (hn : n ≤ 20) (hI : OpI fr n m op M) (hb : b < 2147483648) :
    ∀ (j fuel i x : Nat), i + j = m → j < fuel → (x : Int) = sm (fun k => ((bt b k : Nat) : Int) * ((2 ^ op k : Nat) : Int)) i → (∀ k, i ≤ k → k < m → x < 2 ^ op k) → fix (fun _ _ _ _ _ => none) k_Mo_hangs_166 fuel (m : Int) (b : Int) (x : Int) (i : Int) M = some (sm (fun k => ((bt b k : Nat) : Int) * ((2 ^ op k : Nat) : Int)) m, M) := by
  obtain ⟨i1, i2, i3, i4⟩ := hI
  intro j; induction j with
  | zero =>
    intro fuel i x e hf hx hl
    obtain ⟨f, rfl⟩ : ∃ f, fuel = f + 1 := ⟨fuel - 1, by omega⟩; rw [fix_s]; unfold k_Mo_hangs_166
    repeat (first | with_reducible refine e_let ?_ | with_reducible refine e_cs ?_ | with_reducible refine e_clet ?_ | with_reducible refine e_cc ?_ | (with_reducible refine e_chk ?_ ?_; · (first | omega | ((try simp (disch := omega) only [w32_eq, w64_eq, ix_n, ix_e, sto_n, sto_e, sto_r, zf_r, Int.toNat_natCast, true_or, or_true, eq_self]) <;> (first | omega | decide)))) | (with_reducible refine e_cchk ?_ ?_; · (first | omega | ((try simp (disch := omega) only [w32_eq, w64_eq, ix_n, ix_e, sto_n, sto_e, sto_r, zf_r, Int.toNat_natCast, true_or, or_true, eq_self]) <;> (first | omega | decide)))) | (with_reducible refine e_t ?_ ?_; · (first | omega | ((try simp (disch := omega) only [w32_eq, w64_eq, ix_n, ix_e, sto_n, sto_e, sto_r, zf_r, Int.toNat_natCast, true_or, or_true, eq_self]) <;> (first | omega | decide)))) | (with_reducible refine e_f ?_ ?_; · (first | omega | ((try simp (disch := omega) only [w32_eq, w64_eq, ix_n, ix_e, sto_n, sto_e, sto_r, zf_r, Int.toNat_natCast, true_or, or_true, eq_self]) <;> (first | omega | decide)))) | (with_reducible refine e_ct ?_ ?_; · (first | omega | ((try simp (disch := omega) only [w32_eq, w64_eq, ix_n, ix_e, sto_n, sto_e, sto_r, zf_r, Int.toNat_natCast, true_or, or_true, eq_self]) <;> (first | omega | decide)))) | (with_reducible refine e_cf ?_ ?_; · (first | omega | ((try simp (disch := omega) only [w32_eq, w64_eq, ix_n, ix_e, sto_n, sto_e, sto_r, zf_r, Int.toNat_natCast, true_or, or_true, eq_self]) <;> (first | omega | decide)))))
    rw [hx, show i = m by omega]
  | succ j ih =>
    intro fuel i x e hf hx hl
    have hj : (i : Int) + 1 = ((i + 1 : Nat) : Int) := by omega
    obtain ⟨q1, q2, q3⟩ := i1 i (by omega)
    have hbt := bt_b b i
    have xl := hl i (Nat.le_refl _) (by omega)
    have p20 : 2 ^ op i ≤ 2 ^ 20 := Nat.pow_le_pow_right (by decide) (by omega)
    have s1 : sm (fun k => ((bt b k : Nat) : Int) * ((2 ^ op k : Nat) : Int)) (i + 1) = sm (fun k => ((bt b k : Nat) : Int) * ((2 ^ op k : Nat) : Int)) i + ((bt b i : Nat) : Int) * ((2 ^ op i : Nat) : Int) := rfl
    have nxt : ∀ k, i < k → k < m → x + 2 ^ op i < 2 ^ op k := fun k g1 g2 => by
      have h1 := i2 i k g1 g2
      have h2 : 2 ^ (op i + 1) ≤ 2 ^ op k := Nat.pow_le_pow_right (by decide) h1
      rw [Nat.pow_succ] at h2
      omega
    obtain ⟨f, rfl⟩ : ∃ f, fuel = f + 1 := ⟨fuel - 1, by omega⟩; rw [fix_s]; unfold k_Mo_hangs_166
    repeat (first | with_reducible refine e_let ?_ | with_reducible refine e_cs ?_ | with_reducible refine e_clet ?_ | with_reducible refine e_cc ?_ | (with_reducible refine e_chk ?_ ?_; · (first | omega | ((try simp (disch := omega) only [w32_eq, w64_eq, ix_n, ix_e, sto_n, sto_e, sto_r, zf_r, Int.toNat_natCast, true_or, or_true, eq_self]) <;> (first | omega | decide)))) | (with_reducible refine e_cchk ?_ ?_; · (first | omega | ((try simp (disch := omega) only [w32_eq, w64_eq, ix_n, ix_e, sto_n, sto_e, sto_r, zf_r, Int.toNat_natCast, true_or, or_true, eq_self]) <;> (first | omega | decide)))) | (with_reducible refine e_t ?_ ?_; · (first | omega | ((try simp (disch := omega) only [w32_eq, w64_eq, ix_n, ix_e, sto_n, sto_e, sto_r, zf_r, Int.toNat_natCast, true_or, or_true, eq_self]) <;> (first | omega | decide)))) | (with_reducible refine e_f ?_ ?_; · (first | omega | ((try simp (disch := omega) only [w32_eq, w64_eq, ix_n, ix_e, sto_n, sto_e, sto_r, zf_r, Int.toNat_natCast, true_or, or_true, eq_self]) <;> (first | omega | decide)))) | (with_reducible refine e_ct ?_ ?_; · (first | omega | ((try simp (disch := omega) only [w32_eq, w64_eq, ix_n, ix_e, sto_n, sto_e, sto_r, zf_r, Int.toNat_natCast, true_or, or_true, eq_self]) <;> (first | omega | decide)))) | (with_reducible refine e_cf ?_ ?_; · (first | omega | ((try simp (disch := omega) only [w32_eq, w64_eq, ix_n, ix_e, sto_n, sto_e, sto_r, zf_r, Int.toNat_natCast, true_or, or_true, eq_self]) <;> (first | omega | decide)))))
    rw [ix_n (by omega), q1, bit_at hb (by omega), hj]
    by_cases c : bt b i = 0
    · rw [c, show ((0 : Nat) : Int) = 0 from rfl, (sl31_at (n := op i) (by omega)).2]
      have e0 : or32 (x : Int) 0 = (x : Int) := by
        have := or32_nat (x := x) (y := 0) (by omega) (by decide)
        rw [Nat.or_zero] at this; exact this
      rw [e0]
      refine ih f (i + 1) x (by omega) (by omega) ?_ (fun k g1 g2 => hl k (by omega) g2)
      rw [s1, c, hx, show ((0 : Nat) : Int) = 0 from rfl, Int.zero_mul, Int.add_zero]
    · have c1 : bt b i = 1 := by omega
      rw [c1, show ((1 : Nat) : Int) = 1 from rfl, (sl31_at (n := op i) (by omega)).1, or32_nat (by omega) (by omega)]
      have e1 : x ||| 2 ^ op i = x + 2 ^ op i := by
        have := or_low (j := op i) (x := 1) (y := x) xl
        rw [Nat.mul_one] at this
        rw [Nat.or_comm, this, Nat.add_comm]
      rw [e1]
      refine ih f (i + 1) (x + 2 ^ op i) (by omega) (by omega) ?_ (fun k g1 g2 => nxt k (by omega) g2)
      rw [s1, c1, show ((1 : Nat) : Int) = 1 from rfl, Int.one_mul, ← hx]; omega
theorem sgn_neg {x : Int} : sgn (-x) = - sgn x := by
  unfold sgn
  by_cases c1 : x < 0
  · rw [if_neg (by omega), if_neg (by omega), if_pos c1]; rfl
  · by_cases c2 : x = 0
    · rw [if_neg (by omega), if_pos (by omega), if_neg c1, if_pos c2]; rfl
    · rw [if_pos (by omega), if_neg c1, if_neg c2]
theorem whS_neg {x : Nat → Int} : ∀ n : Nat, whS (fun d => - x d) n = - whS x n
  | 0 => rfl
  | n + 1 => by
    have h := whS_neg (x := x) n
    show whS (fun d => - x d) n + sgn (- x n) = - (whS x n + sgn (x n))
    rw [h, sgn_neg]; omega
theorem numS_fn {n m b : Nat} {fr : Nat → Int} {op : Nat → Nat} {M : Mem} (hI : OpI fr n m op M) : numS (fnS op m b) n = sm (fun k => ((bt b k : Nat) : Int) * ((2 ^ op k : Nat) : Int)) m := by
  have := fn_sum (op := op) (m := m) (s := b) (n := n) (h := fun f => ((2 ^ f : Nat) : Int)) (fun k hk => (hI.1 k hk).2.1)
  unfold numS
  rw [sm_ext (v := fun f => ((2 ^ f : Nat) : Int) * fnS op m b f) n (fun f _ => Int.mul_comm _ _), this]
  exact sm_ext m (fun k _ => Int.mul_comm _ _)
