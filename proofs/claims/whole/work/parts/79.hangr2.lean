/-! on whom votes hang: the model's free farms -/
/-- the free farms below f, in their order -/
def OpI (fr : Nat → Int) (f m : Nat) (op : Nat → Nat) (M : Mem) : Prop := (∀ k, k < m → M 173 k = (op k : Int) ∧ op k < f ∧ fr (op k) = 1) ∧ (∀ i k, i < k → k < m → op i < op k) ∧ (∀ h, h < f → fr h = 1 → ∃ k, k < m ∧ op k = h) ∧ m ≤ f
theorem l_h38 {n : Nat} {fr : Nat → Int} {B : Mem} {a2 : Int} {P : Int → Mem → Prop} (hn : n ≤ 20) (h5 : B 111 5 = (n : Int)) (h166 : ∀ f, f < n → (B 166 f = -1 ∧ fr f = 1) ∨ ((B 166 f = 0 ∨ B 166 f = 1) ∧ fr f = 0))
    (hP : ∀ (M : Mem) (m : Nat) (op : Nat → Nat), Fr [173] [] B M → OpI fr n m op M → Ok (fix (fun _ _ _ _ _ _ => none) k_Mo_hangs_89 FU a2 (m : Int) (-1) ((m : Int) + 1) 1 M) P) :
    ∀ (j fuel f m : Nat) (op : Nat → Nat) (M : Mem), f + j = n → j < fuel → Fr [173] [] B M → OpI fr f m op M → Ok (fix (fun _ _ _ _ => none) k_Mo_hangs_38 fuel a2 (m : Int) (f : Int) M) P := by
  intro j; induction j with
  | zero =>
    intro fuel f m op M e hf hF hI
    have : f = n := by omega
    subst this
    have u5 := (hF.f 111 5 (by decide) (by decide)).trans h5
    obtain ⟨fu, rfl⟩ : ∃ fu, fuel = fu + 1 := ⟨fuel - 1, by omega⟩
    rw [fix_s]; unfold k_Mo_hangs_38
    repeat (first | with_reducible refine ok_let ?_ | with_reducible refine ok_cs ?_ | with_reducible refine ok_clet ?_ | with_reducible refine ok_cc ?_ | (with_reducible refine ok_chk ?_ ?_; · (first | omega | ((try simp (disch := omega) only [w32_eq, w64_eq, ix_n, ix_e, sto_n, sto_e, sto_r, zf_r, Int.toNat_natCast, true_or, or_true, eq_self, u5]) <;> (first | omega | decide)))) | (with_reducible refine ok_cchk ?_ ?_; · (first | omega | ((try simp (disch := omega) only [w32_eq, w64_eq, ix_n, ix_e, sto_n, sto_e, sto_r, zf_r, Int.toNat_natCast, true_or, or_true, eq_self, u5]) <;> (first | omega | decide)))) | (with_reducible refine ok_t ?_ ?_; · (first | omega | ((try simp (disch := omega) only [w32_eq, w64_eq, ix_n, ix_e, sto_n, sto_e, sto_r, zf_r, Int.toNat_natCast, true_or, or_true, eq_self, u5]) <;> (first | omega | decide)))) | (with_reducible refine ok_f ?_ ?_; · (first | omega | ((try simp (disch := omega) only [w32_eq, w64_eq, ix_n, ix_e, sto_n, sto_e, sto_r, zf_r, Int.toNat_natCast, true_or, or_true, eq_self, u5]) <;> (first | omega | decide)))) | (with_reducible refine ok_ct ?_ ?_; · (first | omega | ((try simp (disch := omega) only [w32_eq, w64_eq, ix_n, ix_e, sto_n, sto_e, sto_r, zf_r, Int.toNat_natCast, true_or, or_true, eq_self, u5]) <;> (first | omega | decide)))) | (with_reducible refine ok_cf ?_ ?_; · (first | omega | ((try simp (disch := omega) only [w32_eq, w64_eq, ix_n, ix_e, sto_n, sto_e, sto_r, zf_r, Int.toNat_natCast, true_or, or_true, eq_self, u5]) <;> (first | omega | decide)))))
    exact hP M m op hF hI
  | succ j ih =>
    intro fuel f m op M e hf hF hI
    have hj : (f : Int) + 1 = ((f + 1 : Nat) : Int) := by omega
    have u5 := (hF.f 111 5 (by decide) (by decide)).trans h5
    have u166 := hF.c 166 (by decide) (by decide)
    obtain ⟨i1, i2, i3, i4⟩ := hI
    obtain ⟨fu, rfl⟩ : ∃ fu, fuel = fu + 1 := ⟨fuel - 1, by omega⟩
    rw [fix_s]; unfold k_Mo_hangs_38
    rcases h166 f (by omega) with ⟨c1, c2⟩ | ⟨c1, c2⟩
    · repeat (first | with_reducible refine ok_let ?_ | with_reducible refine ok_cs ?_ | with_reducible refine ok_clet ?_ | with_reducible refine ok_cc ?_ | (with_reducible refine ok_chk ?_ ?_; · (first | omega | ((try simp (disch := omega) only [w32_eq, w64_eq, ix_n, ix_e, sto_n, sto_e, sto_r, zf_r, Int.toNat_natCast, true_or, or_true, eq_self, u5, u166, c1]) <;> (first | omega | decide)))) | (with_reducible refine ok_cchk ?_ ?_; · (first | omega | ((try simp (disch := omega) only [w32_eq, w64_eq, ix_n, ix_e, sto_n, sto_e, sto_r, zf_r, Int.toNat_natCast, true_or, or_true, eq_self, u5, u166, c1]) <;> (first | omega | decide)))) | (with_reducible refine ok_t ?_ ?_; · (first | omega | ((try simp (disch := omega) only [w32_eq, w64_eq, ix_n, ix_e, sto_n, sto_e, sto_r, zf_r, Int.toNat_natCast, true_or, or_true, eq_self, u5, u166, c1]) <;> (first | omega | decide)))) | (with_reducible refine ok_f ?_ ?_; · (first | omega | ((try simp (disch := omega) only [w32_eq, w64_eq, ix_n, ix_e, sto_n, sto_e, sto_r, zf_r, Int.toNat_natCast, true_or, or_true, eq_self, u5, u166, c1]) <;> (first | omega | decide)))) | (with_reducible refine ok_ct ?_ ?_; · (first | omega | ((try simp (disch := omega) only [w32_eq, w64_eq, ix_n, ix_e, sto_n, sto_e, sto_r, zf_r, Int.toNat_natCast, true_or, or_true, eq_self, u5, u166, c1]) <;> (first | omega | decide)))) | (with_reducible refine ok_cf ?_ ?_; · (first | omega | ((try simp (disch := omega) only [w32_eq, w64_eq, ix_n, ix_e, sto_n, sto_e, sto_r, zf_r, Int.toNat_natCast, true_or, or_true, eq_self, u5, u166, c1]) <;> (first | omega | decide)))))
      unfold k_Mo_hangs_72
      repeat (first | with_reducible refine ok_let ?_ | with_reducible refine ok_cs ?_ | with_reducible refine ok_clet ?_ | with_reducible refine ok_cc ?_ | (with_reducible refine ok_chk ?_ ?_; · (first | omega | ((try simp (disch := omega) only [w32_eq, w64_eq, ix_n, ix_e, sto_n, sto_e, sto_r, zf_r, Int.toNat_natCast, true_or, or_true, eq_self]) <;> (first | omega | decide)))) | (with_reducible refine ok_cchk ?_ ?_; · (first | omega | ((try simp (disch := omega) only [w32_eq, w64_eq, ix_n, ix_e, sto_n, sto_e, sto_r, zf_r, Int.toNat_natCast, true_or, or_true, eq_self]) <;> (first | omega | decide)))) | (with_reducible refine ok_t ?_ ?_; · (first | omega | ((try simp (disch := omega) only [w32_eq, w64_eq, ix_n, ix_e, sto_n, sto_e, sto_r, zf_r, Int.toNat_natCast, true_or, or_true, eq_self]) <;> (first | omega | decide)))) | (with_reducible refine ok_f ?_ ?_; · (first | omega | ((try simp (disch := omega) only [w32_eq, w64_eq, ix_n, ix_e, sto_n, sto_e, sto_r, zf_r, Int.toNat_natCast, true_or, or_true, eq_self]) <;> (first | omega | decide)))) | (with_reducible refine ok_ct ?_ ?_; · (first | omega | ((try simp (disch := omega) only [w32_eq, w64_eq, ix_n, ix_e, sto_n, sto_e, sto_r, zf_r, Int.toNat_natCast, true_or, or_true, eq_self]) <;> (first | omega | decide)))) | (with_reducible refine ok_cf ?_ ?_; · (first | omega | ((try simp (disch := omega) only [w32_eq, w64_eq, ix_n, ix_e, sto_n, sto_e, sto_r, zf_r, Int.toNat_natCast, true_or, or_true, eq_self]) <;> (first | omega | decide)))))
      rw [hj, ix_n (by omega), show (m : Int) + 1 = ((m + 1 : Nat) : Int) by omega]
      refine ih fu (f + 1) (m + 1) (fun k => if k = m then f else op k) _ (by omega) (by omega) (hF.trans (fr_stoA (by decide))) ⟨fun k hk => ?_, fun i k h1 h2 => ?_, fun h h1 h2 => ?_, by omega⟩
      · rw [sto_up]
        show up (M 173) m (f : Int) k = (((if k = m then f else op k) : Nat) : Int) ∧ (if k = m then f else op k) < f + 1 ∧ fr (if k = m then f else op k) = 1
        unfold up
        by_cases d : k = m
        · rw [if_pos d, if_pos d]; exact ⟨rfl, by omega, c2⟩
        · rw [if_neg d, if_neg d]
          obtain ⟨q1, q2, q3⟩ := i1 k (by omega)
          exact ⟨q1, by omega, q3⟩
      · show (if i = m then f else op i) < (if k = m then f else op k)
        rw [if_neg (by omega)]
        by_cases d : k = m
        · rw [if_pos d]; exact (i1 i (by omega)).2.1
        · rw [if_neg d]; exact i2 i k h1 (by omega)
      · by_cases d : h = f
        · exact ⟨m, by omega, by show (if m = m then f else op m) = h; rw [if_pos rfl, d]⟩
        · obtain ⟨k, k1, k2⟩ := i3 h (by omega) h2
          exact ⟨k, by omega, by show (if k = m then f else op k) = h; rw [if_neg (by omega)]; exact k2⟩
    · have c1' : 0 ≤ B 166 f ∧ B 166 f ≤ 1 := by omega
      repeat (first | with_reducible refine ok_let ?_ | with_reducible refine ok_cs ?_ | with_reducible refine ok_clet ?_ | with_reducible refine ok_cc ?_ | (with_reducible refine ok_chk ?_ ?_; · (first | omega | ((try simp (disch := omega) only [w32_eq, w64_eq, ix_n, ix_e, sto_n, sto_e, sto_r, zf_r, Int.toNat_natCast, true_or, or_true, eq_self, u5, u166]) <;> (first | omega | decide)))) | (with_reducible refine ok_cchk ?_ ?_; · (first | omega | ((try simp (disch := omega) only [w32_eq, w64_eq, ix_n, ix_e, sto_n, sto_e, sto_r, zf_r, Int.toNat_natCast, true_or, or_true, eq_self, u5, u166]) <;> (first | omega | decide)))) | (with_reducible refine ok_t ?_ ?_; · (first | omega | ((try simp (disch := omega) only [w32_eq, w64_eq, ix_n, ix_e, sto_n, sto_e, sto_r, zf_r, Int.toNat_natCast, true_or, or_true, eq_self, u5, u166]) <;> (first | omega | decide)))) | (with_reducible refine ok_f ?_ ?_; · (first | omega | ((try simp (disch := omega) only [w32_eq, w64_eq, ix_n, ix_e, sto_n, sto_e, sto_r, zf_r, Int.toNat_natCast, true_or, or_true, eq_self, u5, u166]) <;> (first | omega | decide)))) | (with_reducible refine ok_ct ?_ ?_; · (first | omega | ((try simp (disch := omega) only [w32_eq, w64_eq, ix_n, ix_e, sto_n, sto_e, sto_r, zf_r, Int.toNat_natCast, true_or, or_true, eq_self, u5, u166]) <;> (first | omega | decide)))) | (with_reducible refine ok_cf ?_ ?_; · (first | omega | ((try simp (disch := omega) only [w32_eq, w64_eq, ix_n, ix_e, sto_n, sto_e, sto_r, zf_r, Int.toNat_natCast, true_or, or_true, eq_self, u5, u166]) <;> (first | omega | decide)))))
      unfold k_Mo_hangs_72
      repeat (first | with_reducible refine ok_let ?_ | with_reducible refine ok_cs ?_ | with_reducible refine ok_clet ?_ | with_reducible refine ok_cc ?_ | (with_reducible refine ok_chk ?_ ?_; · (first | omega | ((try simp (disch := omega) only [w32_eq, w64_eq, ix_n, ix_e, sto_n, sto_e, sto_r, zf_r, Int.toNat_natCast, true_or, or_true, eq_self]) <;> (first | omega | decide)))) | (with_reducible refine ok_cchk ?_ ?_; · (first | omega | ((try simp (disch := omega) only [w32_eq, w64_eq, ix_n, ix_e, sto_n, sto_e, sto_r, zf_r, Int.toNat_natCast, true_or, or_true, eq_self]) <;> (first | omega | decide)))) | (with_reducible refine ok_t ?_ ?_; · (first | omega | ((try simp (disch := omega) only [w32_eq, w64_eq, ix_n, ix_e, sto_n, sto_e, sto_r, zf_r, Int.toNat_natCast, true_or, or_true, eq_self]) <;> (first | omega | decide)))) | (with_reducible refine ok_f ?_ ?_; · (first | omega | ((try simp (disch := omega) only [w32_eq, w64_eq, ix_n, ix_e, sto_n, sto_e, sto_r, zf_r, Int.toNat_natCast, true_or, or_true, eq_self]) <;> (first | omega | decide)))) | (with_reducible refine ok_ct ?_ ?_; · (first | omega | ((try simp (disch := omega) only [w32_eq, w64_eq, ix_n, ix_e, sto_n, sto_e, sto_r, zf_r, Int.toNat_natCast, true_or, or_true, eq_self]) <;> (first | omega | decide)))) | (with_reducible refine ok_cf ?_ ?_; · (first | omega | ((try simp (disch := omega) only [w32_eq, w64_eq, ix_n, ix_e, sto_n, sto_e, sto_r, zf_r, Int.toNat_natCast, true_or, or_true, eq_self]) <;> (first | omega | decide)))))
      rw [hj]
      refine ih fu (f + 1) m op M (by omega) (by omega) hF ⟨fun k hk => ?_, i2, fun h h1 h2 => ?_, by omega⟩
      · obtain ⟨q1, q2, q3⟩ := i1 k hk
        exact ⟨q1, by omega, q3⟩
      · by_cases d : h = f
        · rw [d, c2] at h2; exact absurd h2 (by decide)
        · exact i3 h (by omega) h2
/-- a set number as a function of farms -/
def fnS (op : Nat → Nat) (m s : Nat) : Nat → Int := fun f => sm (fun k => if op k = f then ((bt s k : Nat) : Int) else 0) m
theorem fn_sum {op : Nat → Nat} {m s n : Nat} {h : Nat → Int} (hop : ∀ k, k < m → op k < n) : sm (fun f => h f * fnS op m s f) n = sm (fun k => h (op k) * ((bt s k : Nat) : Int)) m := by
  have e : sm (fun f => h f * fnS op m s f) n = sm (fun f => sm (fun k => if op k = f then h f * ((bt s k : Nat) : Int) else 0) m) n := by
    refine sm_ext n (fun f hf => ?_)
    unfold fnS
    rw [← sm_mul]
    refine sm_ext m (fun k hk => ?_)
    split
    · rfl
    · rw [Int.mul_zero]
  rw [e, sm_swap]
  refine sm_ext m (fun k hk => ?_)
  refine Eq.trans (sm_ext n (fun f hf => ?_)) (sm_one (h := fun f => h f * ((bt s k : Nat) : Int)) (j := op k) (n := n) (hop k hk))
  by_cases c : op k = f
  · rw [if_pos c, if_pos c.symm]
  · rw [if_neg c, if_neg (fun q => c q.symm)]
theorem fn_at {op : Nat → Nat} {m s k : Nat} (hinc : ∀ i k, i < k → k < m → op i < op k) (hk : k < m) : fnS op m s (op k) = ((bt s k : Nat) : Int) := by
  unfold fnS
  refine Eq.trans (sm_ext m (fun i hi => ?_)) (sm_one (h := fun i => ((bt s i : Nat) : Int)) (j := k) (n := m) hk)
  by_cases c : i = k
  · rw [if_pos c, if_pos (by rw [c])]
  · rw [if_neg c, if_neg]
    intro q
    by_cases d : i < k
    · have := hinc i k d hk; omega
    · have := hinc k i (by omega) hi; omega
theorem fn_z {op : Nat → Nat} {m s f : Nat} (h : ∀ k, k < m → op k ≠ f) : fnS op m s f = 0 := sm_0 m (fun k hk => if_neg (h k hk))
theorem pcN_sum {x : Nat} : ∀ n : Nat, ((pcN x n : Nat) : Int) = sm (fun k => ((bt x k : Nat) : Int)) n
  | 0 => rfl
  | n + 1 => by
    have h := pcN_sum (x := x) n
    show ((pcN x n + bt x n : Nat) : Int) = sm (fun k => ((bt x k : Nat) : Int)) n + ((bt x n : Nat) : Int)
    rw [← h]; omega
theorem bt_z {s m k : Nat} (hs : s < 2 ^ m) (hk : m ≤ k) : bt s k = 0 := by
  have : s < 2 ^ k := Nat.lt_of_lt_of_le hs (Nat.pow_le_pow_right (by decide) hk)
  unfold bt
  rw [Nat.div_eq_of_lt this]
theorem pcN_m {s m : Nat} (hs : s < 2 ^ m) : ∀ d : Nat, pcN s (m + d) = pcN s m
  | 0 => rfl
  | d + 1 => by
    show pcN s (m + d) + bt s (m + d) = _
    rw [pcN_m hs d, bt_z hs (by omega)]; rfl
theorem bt_s1 {s k : Nat} : bt s (k + 1) = bt (s / 2) k := by
  have := bt_sh (x := s) (j := 1) (k := k)
  rw [show (2 : Nat) ^ 1 = 2 from rfl] at this
  rw [this, Nat.add_comm]
theorem bt_s0 {s : Nat} : bt s 0 = s % 2 := by unfold bt; rw [Nat.pow_zero, Nat.div_one]
/-- the less of two numbers lacks the highest bit in which they differ -/
theorem top_diff : ∀ (m s u : Nat), s < 2 ^ m → u < 2 ^ m → s < u → ∃ k, k < m ∧ bt u k = 1 ∧ bt s k = 0 ∧ ∀ i, k < i → i < m → bt s i = bt u i
  | 0, s, u, h1, h2, h => by rw [Nat.pow_zero] at h1 h2; omega
  | m + 1, s, u, h1, h2, h => by
    have p : 2 ^ (m + 1) = 2 * 2 ^ m := by rw [Nat.pow_succ, Nat.mul_comm]
    rw [p] at h1 h2
    by_cases c : s / 2 < u / 2
    · obtain ⟨k, k1, k2, k3, k4⟩ := top_diff m (s / 2) (u / 2) (by omega) (by omega) c
      refine ⟨k + 1, by omega, by rw [bt_s1]; exact k2, by rw [bt_s1]; exact k3, fun i g1 g2 => ?_⟩
      obtain ⟨i', rfl⟩ : ∃ i', i = i' + 1 := ⟨i - 1, by omega⟩
      rw [bt_s1, bt_s1]; exact k4 i' (by omega) (by omega)
    · have e : s / 2 = u / 2 := by omega
      refine ⟨0, by omega, by rw [bt_s0]; omega, by rw [bt_s0]; omega, fun i g1 g2 => ?_⟩
      obtain ⟨i', rfl⟩ : ∃ i', i = i' + 1 := ⟨i - 1, by omega⟩
      rw [bt_s1, bt_s1, e]
/-- every choice of bits is a number -/
theorem num_of {c : Nat → Nat} (hc : ∀ k, c k ≤ 1) : ∀ m : Nat, ∃ s, s < 2 ^ m ∧ ∀ k, k < m → bt s k = c k := by
  intro m
  induction m generalizing c with
  | zero => exact ⟨0, by decide, fun k hk => by omega⟩
  | succ m ih =>
    obtain ⟨s, h1, h2⟩ := ih (c := fun k => c (k + 1)) (fun k => hc (k + 1))
    have p : 2 ^ (m + 1) = 2 * 2 ^ m := by rw [Nat.pow_succ, Nat.mul_comm]
    have h0 := hc 0
    refine ⟨2 * s + c 0, by omega, fun k hk => ?_⟩
    cases k with
    | zero => rw [bt_s0]; omega
    | succ k =>
      rw [bt_s1, show (2 * s + c 0) / 2 = s by omega]
      exact h2 k (by omega)
theorem fn_of {n m : Nat} {fr a : Nat → Int} {op : Nat → Nat} {M : Mem} (hI : OpI fr n m op M) (ha : sbs n fr a) : ∃ s, s < 2 ^ m ∧ ∀ f, f < n → fnS op m s f = a f := by
  obtain ⟨i1, i2, i3, i4⟩ := hI
  obtain ⟨s, s1, s2⟩ := num_of (c := fun k => if k < m then (a (op k)).toNat else 0) (fun k => by
    show (if k < m then (a (op k)).toNat else 0) ≤ 1
    split
    · rename_i h
      rcases ha (op k) (i1 k h).2.1 with q | q <;> omega
    · omega) m
  refine ⟨s, s1, fun f hf => ?_⟩
  rcases ha f hf with q | q
  · by_cases c : ∃ k, k < m ∧ op k = f
    · obtain ⟨k, k1, k2⟩ := c
      rw [← k2, fn_at i2 k1, s2 k k1]
      show (((if k < m then (a (op k)).toNat else 0) : Nat) : Int) = a (op k)
      rw [if_pos k1, k2, q]; rfl
    · rw [fn_z (fun k hk e => c ⟨k, hk, e⟩), q]
  · obtain ⟨k, k1, k2⟩ := i3 f hf q.2
    rw [← k2, fn_at i2 k1, s2 k k1]
    show (((if k < m then (a (op k)).toNat else 0) : Nat) : Int) = a (op k)
    rw [if_pos k1, k2, q.1]; rfl
theorem fn_sbs {n m s : Nat} {fr : Nat → Int} {op : Nat → Nat} {M : Mem} (hI : OpI fr n m op M) : ∀ f, fnS op m s f = 0 ∨ (fnS op m s f = 1 ∧ fr f = 1 ∧ f < n) := by
  obtain ⟨i1, i2, i3, i4⟩ := hI
  intro f
  by_cases c : ∃ k, k < m ∧ op k = f
  · obtain ⟨k, k1, k2⟩ := c
    rw [← k2, fn_at i2 k1]
    have := bt_b s k
    by_cases d : bt s k = 0
    · rw [d]; exact Or.inl rfl
    · right
      exact ⟨by omega, (i1 k k1).2.2, (i1 k k1).2.1⟩
  · exact Or.inl (fn_z (fun k hk e => c ⟨k, hk, e⟩))
theorem fn_cnt {n m s : Nat} {fr : Nat → Int} {op : Nat → Nat} {M : Mem} (hI : OpI fr n m op M) : sm (fnS op m s) n = ((pcN s m : Nat) : Int) := by
  have := fn_sum (op := op) (m := m) (s := s) (n := n) (h := fun _ => 1) (fun k hk => (hI.1 k hk).2.1)
  rw [pcN_sum]
  rw [sm_ext (v := fnS op m s) n (fun f _ => Int.one_mul _)] at this
  rw [this]
  exact sm_ext m (fun k _ => Int.one_mul _)
/-- the model's best is the least set -/
theorem mdl_ok {n m b : Nat} {ds v fr g : Nat → Int} {G : Nat} {op : Nat → Nat} {M : Mem} (hI : OpI fr n m op M) (hb : b < 2 ^ m) (ht : trn n ds v g G (fnS op m b)) (h1 : ∀ s, s < 2 ^ m → trn n ds v g G (fnS op m s) → pcN b m ≤ pcN s m ∧ (pcN s m = pcN b m → b ≤ s)) : HgS n ds v fr g G (numS (fnS op m b) n) := by
  refine Or.inr ⟨fnS op m b, ((pcN b m : Nat) : Int), rfl, fn_sbs hI, ht, fn_cnt hI, fun a ha ta => ?_, fun a ha ta hs => ?_⟩
  · obtain ⟨s, s1, s2⟩ := fn_of hI ha
    have q := h1 s s1 (trn_c (fun f hf => (s2 f hf).symm) ta)
    have e := fn_cnt (s := s) hI
    rw [sm_ext n s2] at e
    omega
  · obtain ⟨s, s1, s2⟩ := fn_of hI ha
    have q := h1 s s1 (trn_c (fun f hf => (s2 f hf).symm) ta)
    have e := fn_cnt (s := s) hI
    rw [sm_ext n s2, hs] at e
    have le := q.2 (by omega)
    by_cases c : b = s
    · left; intro f hf; rw [c, s2 f hf]
    · obtain ⟨k, k1, k2, k3, k4⟩ := top_diff m b s hb s1 (by omega)
      obtain ⟨i1, i2, i3, i4⟩ := hI
      right
      refine ⟨op k, (i1 k k1).2.1, ?_, ?_, fun h g1 g2 => ?_⟩
      · rw [← s2 _ (i1 k k1).2.1, fn_at i2 k1, k2]; rfl
      · rw [fn_at i2 k1, k3]; rfl
      · rw [← s2 h g2]
        by_cases d : ∃ i, i < m ∧ op i = h
        · obtain ⟨i, e1, e2⟩ := d
          rw [← e2, fn_at i2 e1, fn_at i2 e1]
          have : k < i := by
            by_cases r : k < i
            · exact r
            · exfalso
              by_cases t : i = k
              · rw [t] at e2; omega
              · have := i2 i k (by omega) k1; omega
          rw [k4 i this e1]
        · rw [fn_z (fun i hi e => d ⟨i, hi, e⟩), fn_z (fun i hi e => d ⟨i, hi, e⟩)]
