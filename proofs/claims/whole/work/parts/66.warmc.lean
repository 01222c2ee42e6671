/-! bins that warm: the component -/
theorem w32_t (x : Int32) : w32 x.toInt = x.toInt := w32_eq (Int32.le_toInt x) (Int32.toInt_lt x)
theorem w32_an {x y : Int} : w32 (an32 x y) = an32 x y := by unfold an32; exact w32_t _
theorem or_0 {s : Nat} (h : s < 256) : or32 (s : Int) 0 = (s : Int) := by
  have h1 : (List.range 256).all (fun s => decide (or32 (s : Int) 0 = (s : Int))) = true := by decide +kernel
  rw [List.all_eq_true] at h1
  exact of_decide_eq_true (h1 s (List.mem_range.mpr h))
theorem w32_or {x y : Int} : w32 (or32 x y) = or32 x y := by unfold or32; exact w32_t _
theorem s_saved {n s k : Nat} {w b : Nat → Int} {M : Mem} (hn : n ≤ 8) (hs : s < 2 ^ n) (hk : k < n) (hw : ∀ k, k < n → M 63 k = w k ∧ (0 ≤ w k ∧ w k ≤ 20)) (hb : ∀ k, k < n → M 64 k = b k) : d_Ya_savedWith (s : Int) (k : Int) M = some (svS w b (M 66) s k, M) := by
  have p8 := pow_b hn
  have ek : ix (k : Int) = k := ix_n (by omega)
  obtain ⟨w1, w2⟩ := hw k hk
  have pb := pc8_b s
  have ab := an_bit (s := s) (k := k) (by omega) (by omega)
  unfold d_Ya_savedWith svS
  rw [w32_an]
  by_cases c : bt s k = 0
  · obtain ⟨o1, o2, o3⟩ := or_bit (s := s) (k := k) (by omega) (by omega) c
    refine e_t (ab.2 c) (e_call s_bitCount ?_)
    rw [bc_at (by omega)]
    by_cases d : (pc8 s : Int) < w k
    · rw [if_pos ⟨c, d⟩]
      repeat (first | with_reducible refine e_let ?_ | with_reducible refine e_cs ?_ | with_reducible refine e_clet ?_ | with_reducible refine e_cc ?_ | (with_reducible refine e_chk ?_ ?_; · (first | omega | ((try simp (disch := omega) only [w32_eq, w64_eq, ix_n, ix_e, sto_n, sto_e, sto_r, zf_r, Int.toNat_natCast, true_or, or_true, eq_self, w1]) <;> (first | omega | decide)))) | (with_reducible refine e_cchk ?_ ?_; · (first | omega | ((try simp (disch := omega) only [w32_eq, w64_eq, ix_n, ix_e, sto_n, sto_e, sto_r, zf_r, Int.toNat_natCast, true_or, or_true, eq_self, w1]) <;> (first | omega | decide)))) | (with_reducible refine e_t ?_ ?_; · (first | omega | ((try simp (disch := omega) only [w32_eq, w64_eq, ix_n, ix_e, sto_n, sto_e, sto_r, zf_r, Int.toNat_natCast, true_or, or_true, eq_self, w1]) <;> (first | omega | decide)))) | (with_reducible refine e_f ?_ ?_; · (first | omega | ((try simp (disch := omega) only [w32_eq, w64_eq, ix_n, ix_e, sto_n, sto_e, sto_r, zf_r, Int.toNat_natCast, true_or, or_true, eq_self, w1]) <;> (first | omega | decide)))) | (with_reducible refine e_ct ?_ ?_; · (first | omega | ((try simp (disch := omega) only [w32_eq, w64_eq, ix_n, ix_e, sto_n, sto_e, sto_r, zf_r, Int.toNat_natCast, true_or, or_true, eq_self, w1]) <;> (first | omega | decide)))) | (with_reducible refine e_cf ?_ ?_; · (first | omega | ((try simp (disch := omega) only [w32_eq, w64_eq, ix_n, ix_e, sto_n, sto_e, sto_r, zf_r, Int.toNat_natCast, true_or, or_true, eq_self, w1]) <;> (first | omega | decide)))))
      unfold k_Ya_savedWith_26
      rw [o1]
      generalize s + 2 ^ k = u at *
      repeat (first | with_reducible refine e_let ?_ | with_reducible refine e_cs ?_ | with_reducible refine e_clet ?_ | with_reducible refine e_cc ?_ | (with_reducible refine e_chk ?_ ?_; · (first | omega | ((try simp (disch := omega) only [w32_eq, w64_eq, ix_n, ix_e, sto_n, sto_e, sto_r, zf_r, Int.toNat_natCast, true_or, or_true, eq_self]) <;> (first | omega | decide)))) | (with_reducible refine e_cchk ?_ ?_; · (first | omega | ((try simp (disch := omega) only [w32_eq, w64_eq, ix_n, ix_e, sto_n, sto_e, sto_r, zf_r, Int.toNat_natCast, true_or, or_true, eq_self]) <;> (first | omega | decide)))) | (with_reducible refine e_t ?_ ?_; · (first | omega | ((try simp (disch := omega) only [w32_eq, w64_eq, ix_n, ix_e, sto_n, sto_e, sto_r, zf_r, Int.toNat_natCast, true_or, or_true, eq_self]) <;> (first | omega | decide)))) | (with_reducible refine e_f ?_ ?_; · (first | omega | ((try simp (disch := omega) only [w32_eq, w64_eq, ix_n, ix_e, sto_n, sto_e, sto_r, zf_r, Int.toNat_natCast, true_or, or_true, eq_self]) <;> (first | omega | decide)))) | (with_reducible refine e_ct ?_ ?_; · (first | omega | ((try simp (disch := omega) only [w32_eq, w64_eq, ix_n, ix_e, sto_n, sto_e, sto_r, zf_r, Int.toNat_natCast, true_or, or_true, eq_self]) <;> (first | omega | decide)))) | (with_reducible refine e_cf ?_ ?_; · (first | omega | ((try simp (disch := omega) only [w32_eq, w64_eq, ix_n, ix_e, sto_n, sto_e, sto_r, zf_r, Int.toNat_natCast, true_or, or_true, eq_self]) <;> (first | omega | decide)))))
      rw [ek, hb k hk, ix_n (by omega)]
    · rw [if_neg (fun h => d h.2)]
      repeat (first | with_reducible refine e_let ?_ | with_reducible refine e_cs ?_ | with_reducible refine e_clet ?_ | with_reducible refine e_cc ?_ | (with_reducible refine e_chk ?_ ?_; · (first | omega | ((try simp (disch := omega) only [w32_eq, w64_eq, ix_n, ix_e, sto_n, sto_e, sto_r, zf_r, Int.toNat_natCast, true_or, or_true, eq_self, w1]) <;> (first | omega | decide)))) | (with_reducible refine e_cchk ?_ ?_; · (first | omega | ((try simp (disch := omega) only [w32_eq, w64_eq, ix_n, ix_e, sto_n, sto_e, sto_r, zf_r, Int.toNat_natCast, true_or, or_true, eq_self, w1]) <;> (first | omega | decide)))) | (with_reducible refine e_t ?_ ?_; · (first | omega | ((try simp (disch := omega) only [w32_eq, w64_eq, ix_n, ix_e, sto_n, sto_e, sto_r, zf_r, Int.toNat_natCast, true_or, or_true, eq_self, w1]) <;> (first | omega | decide)))) | (with_reducible refine e_f ?_ ?_; · (first | omega | ((try simp (disch := omega) only [w32_eq, w64_eq, ix_n, ix_e, sto_n, sto_e, sto_r, zf_r, Int.toNat_natCast, true_or, or_true, eq_self, w1]) <;> (first | omega | decide)))) | (with_reducible refine e_ct ?_ ?_; · (first | omega | ((try simp (disch := omega) only [w32_eq, w64_eq, ix_n, ix_e, sto_n, sto_e, sto_r, zf_r, Int.toNat_natCast, true_or, or_true, eq_self, w1]) <;> (first | omega | decide)))) | (with_reducible refine e_cf ?_ ?_; · (first | omega | ((try simp (disch := omega) only [w32_eq, w64_eq, ix_n, ix_e, sto_n, sto_e, sto_r, zf_r, Int.toNat_natCast, true_or, or_true, eq_self, w1]) <;> (first | omega | decide)))))
      unfold k_Ya_savedWith_25 k_Ya_savedWith_26
      repeat (first | with_reducible refine e_let ?_ | with_reducible refine e_cs ?_ | with_reducible refine e_clet ?_ | with_reducible refine e_cc ?_ | (with_reducible refine e_chk ?_ ?_; · (first | omega | ((try simp (disch := omega) only [w32_eq, w64_eq, ix_n, ix_e, sto_n, sto_e, sto_r, zf_r, Int.toNat_natCast, true_or, or_true, eq_self]) <;> (first | omega | decide)))) | (with_reducible refine e_cchk ?_ ?_; · (first | omega | ((try simp (disch := omega) only [w32_eq, w64_eq, ix_n, ix_e, sto_n, sto_e, sto_r, zf_r, Int.toNat_natCast, true_or, or_true, eq_self]) <;> (first | omega | decide)))) | (with_reducible refine e_t ?_ ?_; · (first | omega | ((try simp (disch := omega) only [w32_eq, w64_eq, ix_n, ix_e, sto_n, sto_e, sto_r, zf_r, Int.toNat_natCast, true_or, or_true, eq_self]) <;> (first | omega | decide)))) | (with_reducible refine e_f ?_ ?_; · (first | omega | ((try simp (disch := omega) only [w32_eq, w64_eq, ix_n, ix_e, sto_n, sto_e, sto_r, zf_r, Int.toNat_natCast, true_or, or_true, eq_self]) <;> (first | omega | decide)))) | (with_reducible refine e_ct ?_ ?_; · (first | omega | ((try simp (disch := omega) only [w32_eq, w64_eq, ix_n, ix_e, sto_n, sto_e, sto_r, zf_r, Int.toNat_natCast, true_or, or_true, eq_self]) <;> (first | omega | decide)))) | (with_reducible refine e_cf ?_ ?_; · (first | omega | ((try simp (disch := omega) only [w32_eq, w64_eq, ix_n, ix_e, sto_n, sto_e, sto_r, zf_r, Int.toNat_natCast, true_or, or_true, eq_self]) <;> (first | omega | decide)))))
      rfl
  · refine e_f (fun h => c (ab.1 h)) ?_
    rw [if_neg (fun h => c h.1)]
    unfold k_Ya_savedWith_25 k_Ya_savedWith_26
    repeat (first | with_reducible refine e_let ?_ | with_reducible refine e_cs ?_ | with_reducible refine e_clet ?_ | with_reducible refine e_cc ?_ | (with_reducible refine e_chk ?_ ?_; · (first | omega | ((try simp (disch := omega) only [w32_eq, w64_eq, ix_n, ix_e, sto_n, sto_e, sto_r, zf_r, Int.toNat_natCast, true_or, or_true, eq_self]) <;> (first | omega | decide)))) | (with_reducible refine e_cchk ?_ ?_; · (first | omega | ((try simp (disch := omega) only [w32_eq, w64_eq, ix_n, ix_e, sto_n, sto_e, sto_r, zf_r, Int.toNat_natCast, true_or, or_true, eq_self]) <;> (first | omega | decide)))) | (with_reducible refine e_t ?_ ?_; · (first | omega | ((try simp (disch := omega) only [w32_eq, w64_eq, ix_n, ix_e, sto_n, sto_e, sto_r, zf_r, Int.toNat_natCast, true_or, or_true, eq_self]) <;> (first | omega | decide)))) | (with_reducible refine e_f ?_ ?_; · (first | omega | ((try simp (disch := omega) only [w32_eq, w64_eq, ix_n, ix_e, sto_n, sto_e, sto_r, zf_r, Int.toNat_natCast, true_or, or_true, eq_self]) <;> (first | omega | decide)))) | (with_reducible refine e_ct ?_ ?_; · (first | omega | ((try simp (disch := omega) only [w32_eq, w64_eq, ix_n, ix_e, sto_n, sto_e, sto_r, zf_r, Int.toNat_natCast, true_or, or_true, eq_self]) <;> (first | omega | decide)))) | (with_reducible refine e_cf ?_ ?_; · (first | omega | ((try simp (disch := omega) only [w32_eq, w64_eq, ix_n, ix_e, sto_n, sto_e, sto_r, zf_r, Int.toNat_natCast, true_or, or_true, eq_self]) <;> (first | omega | decide)))))
    rfl
/-- a row of sets, right from s on -/
def MbI (n : Nat) (w b m : Nat → Int) (s : Nat) : Prop := ∀ u, s ≤ u → u < 2 ^ n → m u = mxN 0 (svS w b m u) n ∧ 0 ≤ m u ∧ m u ≤ 10000 * (8 - (pc8 u : Int))
theorem sv_b {n s k : Nat} {w b m : Nat → Int} (hn : n ≤ 8) (hs : s < 2 ^ n) (hk : k < n) (hb : ∀ k, k < n → 1 ≤ b k ∧ b k ≤ 10000) (hI : MbI n w b m (s + 1)) : 0 ≤ svS w b m s k ∧ svS w b m s k ≤ 10000 * (8 - (pc8 s : Int)) := by
  have p8 := pow_b hn
  have pb := pc8_b s
  unfold svS
  split
  · rename_i c
    obtain ⟨o1, o2, o3⟩ := or_bit (s := s) (k := k) (by omega) (by omega) c.1
    have hp : 0 < 2 ^ k := Nat.two_pow_pos k
    have q := hI (s + 2 ^ k) (by omega) (st_at hn hs hk c.1)
    have := hb k hk
    rw [o2] at q
    omega
  · omega
theorem l_plan15 {n s : Nat} {w b : Nat → Int} {M : Mem} {R6 : Int → Int → Mem → Res} (hn : n ≤ 8) (hs : s < 2 ^ n) (hw : ∀ k, k < n → M 63 k = w k ∧ (0 ≤ w k ∧ w k ≤ 20)) (hb : ∀ k, k < n → M 64 k = b k ∧ (1 ≤ b k ∧ b k ≤ 10000)) (hI : MbI n w b (M 66) (s + 1)) :
    ∀ j fuel i : Nat, i + j = n → j < fuel → fix (fun _ _ _ _ _ => none) (k_Ya_planTurning_15 R6) fuel (n : Int) (s : Int) (mxN 0 (svS w b (M 66) s) i) (i : Int) M = R6 (n : Int) ((s : Int) + (-1)) (sto M 66 s (mxN 0 (svS w b (M 66) s) n)) := by
  have p8 := pow_b hn
  have pb := pc8_b s
  have hbb : ∀ i, i ≤ n → 0 ≤ mxN 0 (svS w b (M 66) s) i ∧ mxN 0 (svS w b (M 66) s) i ≤ 80000 := fun i hi => ⟨mxN_c i, mxN_le i (by decide) (fun k hk => by
    have := (sv_b hn hs (k := k) (by omega) (fun k hk => (hb k hk).2) hI).2; omega)⟩
  intro j; induction j with
  | zero =>
    intro fuel i e hf
    have : i = n := by omega
    subst this
    obtain ⟨f, rfl⟩ : ∃ f, fuel = f + 1 := ⟨fuel - 1, by omega⟩; rw [fix_s]; unfold k_Ya_planTurning_15
    repeat (first | with_reducible refine e_let ?_ | with_reducible refine e_cs ?_ | with_reducible refine e_clet ?_ | with_reducible refine e_cc ?_ | (with_reducible refine e_chk ?_ ?_; · (first | omega | ((try simp (disch := omega) only [w32_eq, w64_eq, ix_n, ix_e, sto_n, sto_e, sto_r, zf_r, Int.toNat_natCast, true_or, or_true, eq_self]) <;> (first | omega | decide)))) | (with_reducible refine e_cchk ?_ ?_; · (first | omega | ((try simp (disch := omega) only [w32_eq, w64_eq, ix_n, ix_e, sto_n, sto_e, sto_r, zf_r, Int.toNat_natCast, true_or, or_true, eq_self]) <;> (first | omega | decide)))) | (with_reducible refine e_t ?_ ?_; · (first | omega | ((try simp (disch := omega) only [w32_eq, w64_eq, ix_n, ix_e, sto_n, sto_e, sto_r, zf_r, Int.toNat_natCast, true_or, or_true, eq_self]) <;> (first | omega | decide)))) | (with_reducible refine e_f ?_ ?_; · (first | omega | ((try simp (disch := omega) only [w32_eq, w64_eq, ix_n, ix_e, sto_n, sto_e, sto_r, zf_r, Int.toNat_natCast, true_or, or_true, eq_self]) <;> (first | omega | decide)))) | (with_reducible refine e_ct ?_ ?_; · (first | omega | ((try simp (disch := omega) only [w32_eq, w64_eq, ix_n, ix_e, sto_n, sto_e, sto_r, zf_r, Int.toNat_natCast, true_or, or_true, eq_self]) <;> (first | omega | decide)))) | (with_reducible refine e_cf ?_ ?_; · (first | omega | ((try simp (disch := omega) only [w32_eq, w64_eq, ix_n, ix_e, sto_n, sto_e, sto_r, zf_r, Int.toNat_natCast, true_or, or_true, eq_self]) <;> (first | omega | decide)))))
    rw [ix_n (by omega)]
  | succ j ih =>
    intro fuel i e hf
    have hj : (i : Int) + 1 = ((i + 1 : Nat) : Int) := by omega
    have hbi := hbb i (by omega)
    have sb := sv_b hn hs (k := i) (by omega) (fun k hk => (hb k hk).2) hI
    obtain ⟨f, rfl⟩ : ∃ f, fuel = f + 1 := ⟨fuel - 1, by omega⟩; rw [fix_s]
    have := ih f (i + 1) (by omega) (by omega)
    have hm : mx32 (mxN 0 (svS w b (M 66) s) i) (svS w b (M 66) s i) = mxN 0 (svS w b (M 66) s) (i + 1) := by
      unfold mx32
      rw [w32_eq (by omega) (by omega), w32_eq (by omega) (by omega)]; rfl
    unfold k_Ya_planTurning_15
    repeat (first | with_reducible refine e_let ?_ | with_reducible refine e_cs ?_ | with_reducible refine e_clet ?_ | with_reducible refine e_cc ?_ | (with_reducible refine e_chk ?_ ?_; · (first | omega | ((try simp (disch := omega) only [w32_eq, w64_eq, ix_n, ix_e, sto_n, sto_e, sto_r, zf_r, Int.toNat_natCast, true_or, or_true, eq_self]) <;> (first | omega | decide)))) | (with_reducible refine e_cchk ?_ ?_; · (first | omega | ((try simp (disch := omega) only [w32_eq, w64_eq, ix_n, ix_e, sto_n, sto_e, sto_r, zf_r, Int.toNat_natCast, true_or, or_true, eq_self]) <;> (first | omega | decide)))) | (with_reducible refine e_t ?_ ?_; · (first | omega | ((try simp (disch := omega) only [w32_eq, w64_eq, ix_n, ix_e, sto_n, sto_e, sto_r, zf_r, Int.toNat_natCast, true_or, or_true, eq_self]) <;> (first | omega | decide)))) | (with_reducible refine e_f ?_ ?_; · (first | omega | ((try simp (disch := omega) only [w32_eq, w64_eq, ix_n, ix_e, sto_n, sto_e, sto_r, zf_r, Int.toNat_natCast, true_or, or_true, eq_self]) <;> (first | omega | decide)))) | (with_reducible refine e_ct ?_ ?_; · (first | omega | ((try simp (disch := omega) only [w32_eq, w64_eq, ix_n, ix_e, sto_n, sto_e, sto_r, zf_r, Int.toNat_natCast, true_or, or_true, eq_self]) <;> (first | omega | decide)))) | (with_reducible refine e_cf ?_ ?_; · (first | omega | ((try simp (disch := omega) only [w32_eq, w64_eq, ix_n, ix_e, sto_n, sto_e, sto_r, zf_r, Int.toNat_natCast, true_or, or_true, eq_self]) <;> (first | omega | decide)))))
    refine e_call (s_saved hn hs (by omega) hw (fun k hk => (hb k hk).1)) ?_
    repeat (first | with_reducible refine e_let ?_ | with_reducible refine e_cs ?_ | with_reducible refine e_clet ?_ | with_reducible refine e_cc ?_ | (with_reducible refine e_chk ?_ ?_; · (first | omega | ((try simp (disch := omega) only [w32_eq, w64_eq, ix_n, ix_e, sto_n, sto_e, sto_r, zf_r, Int.toNat_natCast, true_or, or_true, eq_self]) <;> (first | omega | decide)))) | (with_reducible refine e_cchk ?_ ?_; · (first | omega | ((try simp (disch := omega) only [w32_eq, w64_eq, ix_n, ix_e, sto_n, sto_e, sto_r, zf_r, Int.toNat_natCast, true_or, or_true, eq_self]) <;> (first | omega | decide)))) | (with_reducible refine e_t ?_ ?_; · (first | omega | ((try simp (disch := omega) only [w32_eq, w64_eq, ix_n, ix_e, sto_n, sto_e, sto_r, zf_r, Int.toNat_natCast, true_or, or_true, eq_self]) <;> (first | omega | decide)))) | (with_reducible refine e_f ?_ ?_; · (first | omega | ((try simp (disch := omega) only [w32_eq, w64_eq, ix_n, ix_e, sto_n, sto_e, sto_r, zf_r, Int.toNat_natCast, true_or, or_true, eq_self]) <;> (first | omega | decide)))) | (with_reducible refine e_ct ?_ ?_; · (first | omega | ((try simp (disch := omega) only [w32_eq, w64_eq, ix_n, ix_e, sto_n, sto_e, sto_r, zf_r, Int.toNat_natCast, true_or, or_true, eq_self]) <;> (first | omega | decide)))) | (with_reducible refine e_cf ?_ ?_; · (first | omega | ((try simp (disch := omega) only [w32_eq, w64_eq, ix_n, ix_e, sto_n, sto_e, sto_r, zf_r, Int.toNat_natCast, true_or, or_true, eq_self]) <;> (first | omega | decide)))))
    rw [hm, hj]; exact this
theorem MbI.step {n s : Nat} {w b : Nat → Int} {m : Nat → Int} (hn : n ≤ 8) (hs : s < 2 ^ n) (hb : ∀ k, k < n → 1 ≤ b k ∧ b k ≤ 10000) (hI : MbI n w b m (s + 1)) : MbI n w b (up m s (mxN 0 (svS w b m s) n)) s := by
  have p8 := pow_b hn
  have ext : ∀ u, s ≤ u → ∀ k, svS w b (up m s (mxN 0 (svS w b m s) n)) u k = svS w b m u k := by
    intro u hu k
    have hp : 0 < 2 ^ k := Nat.two_pow_pos k
    unfold svS; rw [up_n (by omega)]
  intro u h1 h2
  have pb := pc8_b u
  rw [mxN_ext n (fun k _ => ext u h1 k)]
  by_cases c : u = s
  · subst c
    rw [up_e]
    refine ⟨rfl, mxN_c n, mxN_le n (by omega) (fun k hk => (sv_b hn hs hk hb hI).2)⟩
  · rw [up_n c]; exact hI u (by omega) h2
theorem l_plan6 {n : Nat} {w b : Nat → Int} (hn : n ≤ 8) {P : Int → Mem → Prop} {B : Mem} (hw : ∀ k, k < n → B 63 k = w k ∧ (0 ≤ w k ∧ w k ≤ 20)) (hb : ∀ k, k < n → B 64 k = b k ∧ (1 ≤ b k ∧ b k ≤ 10000))
    (hP : ∀ M : Mem, Fr [66] [] B M → MbI n w b (M 66) 0 → Ok (bcall (d_Ya_writePlan (n : Int) M) fun _ M3 => blet (M3 66 0) fun v4 => some (v4, M3)) P) :
    ∀ (s fuel : Nat) (M : Mem), s ≤ 2 ^ n → s < fuel → Fr [66] [] B M → MbI n w b (M 66) s → Ok (fix (fun _ _ _ => none) k_Ya_planTurning_6 fuel (n : Int) ((s : Int) - 1) M) P := by
  have p8 := pow_b hn
  intro s; induction s with
  | zero =>
    intro fuel M hs hf hF hI
    obtain ⟨f, rfl⟩ : ∃ f, fuel = f + 1 := ⟨fuel - 1, by omega⟩; rw [fix_s]; unfold k_Ya_planTurning_6
    repeat (first | with_reducible refine ok_let ?_ | with_reducible refine ok_cs ?_ | with_reducible refine ok_clet ?_ | with_reducible refine ok_cc ?_ | (with_reducible refine ok_chk ?_ ?_; · (first | omega | ((try simp (disch := omega) only [w32_eq, w64_eq, ix_n, ix_e, sto_n, sto_e, sto_r, zf_r, Int.toNat_natCast, true_or, or_true, eq_self]) <;> (first | omega | decide)))) | (with_reducible refine ok_cchk ?_ ?_; · (first | omega | ((try simp (disch := omega) only [w32_eq, w64_eq, ix_n, ix_e, sto_n, sto_e, sto_r, zf_r, Int.toNat_natCast, true_or, or_true, eq_self]) <;> (first | omega | decide)))) | (with_reducible refine ok_t ?_ ?_; · (first | omega | ((try simp (disch := omega) only [w32_eq, w64_eq, ix_n, ix_e, sto_n, sto_e, sto_r, zf_r, Int.toNat_natCast, true_or, or_true, eq_self]) <;> (first | omega | decide)))) | (with_reducible refine ok_f ?_ ?_; · (first | omega | ((try simp (disch := omega) only [w32_eq, w64_eq, ix_n, ix_e, sto_n, sto_e, sto_r, zf_r, Int.toNat_natCast, true_or, or_true, eq_self]) <;> (first | omega | decide)))) | (with_reducible refine ok_ct ?_ ?_; · (first | omega | ((try simp (disch := omega) only [w32_eq, w64_eq, ix_n, ix_e, sto_n, sto_e, sto_r, zf_r, Int.toNat_natCast, true_or, or_true, eq_self]) <;> (first | omega | decide)))) | (with_reducible refine ok_cf ?_ ?_; · (first | omega | ((try simp (disch := omega) only [w32_eq, w64_eq, ix_n, ix_e, sto_n, sto_e, sto_r, zf_r, Int.toNat_natCast, true_or, or_true, eq_self]) <;> (first | omega | decide)))))
    exact hP M hF hI
  | succ s ih =>
    intro fuel M hs hf hF hI
    obtain ⟨f, rfl⟩ : ∃ f, fuel = f + 1 := ⟨fuel - 1, by omega⟩; rw [fix_s]; unfold k_Ya_planTurning_6
    rw [show ((s + 1 : Nat) : Int) - 1 = (s : Int) by omega]
    repeat (first | with_reducible refine ok_let ?_ | with_reducible refine ok_cs ?_ | with_reducible refine ok_clet ?_ | with_reducible refine ok_cc ?_ | (with_reducible refine ok_chk ?_ ?_; · (first | omega | ((try simp (disch := omega) only [w32_eq, w64_eq, ix_n, ix_e, sto_n, sto_e, sto_r, zf_r, Int.toNat_natCast, true_or, or_true, eq_self]) <;> (first | omega | decide)))) | (with_reducible refine ok_cchk ?_ ?_; · (first | omega | ((try simp (disch := omega) only [w32_eq, w64_eq, ix_n, ix_e, sto_n, sto_e, sto_r, zf_r, Int.toNat_natCast, true_or, or_true, eq_self]) <;> (first | omega | decide)))) | (with_reducible refine ok_t ?_ ?_; · (first | omega | ((try simp (disch := omega) only [w32_eq, w64_eq, ix_n, ix_e, sto_n, sto_e, sto_r, zf_r, Int.toNat_natCast, true_or, or_true, eq_self]) <;> (first | omega | decide)))) | (with_reducible refine ok_f ?_ ?_; · (first | omega | ((try simp (disch := omega) only [w32_eq, w64_eq, ix_n, ix_e, sto_n, sto_e, sto_r, zf_r, Int.toNat_natCast, true_or, or_true, eq_self]) <;> (first | omega | decide)))) | (with_reducible refine ok_ct ?_ ?_; · (first | omega | ((try simp (disch := omega) only [w32_eq, w64_eq, ix_n, ix_e, sto_n, sto_e, sto_r, zf_r, Int.toNat_natCast, true_or, or_true, eq_self]) <;> (first | omega | decide)))) | (with_reducible refine ok_cf ?_ ?_; · (first | omega | ((try simp (disch := omega) only [w32_eq, w64_eq, ix_n, ix_e, sto_n, sto_e, sto_r, zf_r, Int.toNat_natCast, true_or, or_true, eq_self]) <;> (first | omega | decide)))))
    have hw' : ∀ k, k < n → M 63 k = w k ∧ (0 ≤ w k ∧ w k ≤ 20) := by rw [hF.c 63 (by decide) (by decide)]; exact hw
    have hb' : ∀ k, k < n → M 64 k = b k ∧ (1 ≤ b k ∧ b k ≤ 10000) := by rw [hF.c 64 (by decide) (by decide)]; exact hb
    refine ok_eqr (l_plan15 (R6 := fix (fun _ _ _ => none) k_Ya_planTurning_6 f) hn (by omega) hw' hb' hI n FU 0 (by omega) (by unfold FU; omega)) ?_
    rw [← Int.sub_eq_add_neg]
    refine ih f _ (by omega) (by omega) (hF.trans (fr_stoA (by decide))) ?_
    rw [sto_up]
    exact MbI.step hn (by omega) (fun k hk => (hb k hk).2) hI
/-- the first of some -/
def fs1 (q : Nat → Bool) : Nat → Nat
  | 0 => 0
  | n + 1 => if fs1 q n < n then fs1 q n else if q n then n else n + 1
theorem fs1_p {q : Nat → Bool} : ∀ n : Nat, fs1 q n ≤ n ∧ (fs1 q n < n → q (fs1 q n) = true) ∧ ∀ j, j < fs1 q n → q j = false
  | 0 => ⟨Nat.le_refl _, fun h => by unfold fs1 at h; omega, fun j h => by unfold fs1 at h; omega⟩
  | n + 1 => by
    obtain ⟨h1, h2, h3⟩ := fs1_p (q := q) n
    unfold fs1
    by_cases c : fs1 q n < n
    · rw [if_pos c]; exact ⟨by omega, fun _ => h2 c, h3⟩
    · rw [if_neg c]
      have e : fs1 q n = n := by omega
      rw [e] at h3
      by_cases d : q n = true
      · rw [if_pos d]; exact ⟨by omega, fun _ => d, h3⟩
      · rw [if_neg d]
        refine ⟨Nat.le_refl _, fun h => by omega, fun j hj => ?_⟩
        by_cases e : j = n
        · rw [e]; exact Bool.eq_false_iff.mpr d
        · exact h3 j (by omega)
theorem fs1_eq {q : Nat → Bool} {n i : Nat} (hi : i ≤ n) (h1 : ∀ j, j < i → q j = false) (h2 : i = n ∨ q i = true) : fs1 q n = i := by
  obtain ⟨g1, g2, g3⟩ := fs1_p (q := q) n
  by_cases c : fs1 q n < i
  · have := g2 (by omega)
    rw [h1 _ c] at this; cases this
  · by_cases d : i < fs1 q n
    · rcases h2 with h2 | h2
      · omega
      · rw [g3 i d] at h2; cases h2
    · omega
/-- what is turned with a set turned -/
def plC (n : Nat) (w b m : Nat → Int) (s : Nat) : Int := if 0 < m s then (if fs1 (fun k => decide (svS w b m s k = m s)) n < n then ((fs1 (fun k => decide (svS w b m s k = m s)) n : Nat) : Int) else -1) else -1
def nxs (p : Int) (s : Nat) : Nat := if p = -1 then s else s + 2 ^ p.toNat
theorem l_wp27 {n s t : Nat} {w b : Nat → Int} {M0 : Mem} {R9 : Int → Int → Int → Mem → Res} (hn : n ≤ 8) (hs : s < 2 ^ n) (ht : t < 20) (hw : ∀ k, k < n → M0 63 k = w k ∧ (0 ≤ w k ∧ w k ≤ 20)) (hb : ∀ k, k < n → M0 64 k = b k ∧ (1 ≤ b k ∧ b k ≤ 10000)) (hI : MbI n w b (M0 66) 0) (hp : 0 < M0 66 s) :
    ∀ (j fuel : Nat) (p : Int), j ≤ n → j < fuel → ((p = -1 ∧ ∀ k, j ≤ k → k < n → svS w b (M0 66) s k ≠ M0 66 s) ∨ ∃ k : Nat, p = (k : Int) ∧ j ≤ k ∧ k < n ∧ svS w b (M0 66) s k = M0 66 s ∧ ∀ i, j ≤ i → i < k → svS w b (M0 66) s i ≠ M0 66 s) →
    fix (fun _ _ _ _ _ => none) (k_Ya_writePlan_27 R9) fuel (n : Int) (s : Int) (t : Int) ((j : Int) - 1) (sto M0 65 t p) = k_Ya_writePlan_71 R9 (n : Int) (s : Int) (t : Int) (sto M0 65 t (plC n w b (M0 66) s)) := by
  have p8 := pow_b hn
  intro j; induction j with
  | zero =>
    intro fuel p hj hf hI'
    have e : p = plC n w b (M0 66) s := by
      unfold plC; rw [if_pos hp]
      rcases hI' with ⟨h1, h2⟩ | ⟨k, h1, h2, h3, h4, h5⟩
      · rw [fs1_eq (i := n) (Nat.le_refl _) (fun i hi => decide_eq_false (h2 i (by omega) hi)) (Or.inl rfl), if_neg (by omega)]; exact h1
      · rw [fs1_eq (i := k) (by omega) (fun i hi => decide_eq_false (h5 i (by omega) hi)) (Or.inr (decide_eq_true h4)), if_pos h3]; exact h1
    obtain ⟨f, rfl⟩ : ∃ f, fuel = f + 1 := ⟨fuel - 1, by omega⟩; rw [fix_s]; unfold k_Ya_writePlan_27
    repeat (first | with_reducible refine e_let ?_ | with_reducible refine e_cs ?_ | with_reducible refine e_clet ?_ | with_reducible refine e_cc ?_ | (with_reducible refine e_chk ?_ ?_; · (first | omega | ((try simp (disch := omega) only [w32_eq, w64_eq, ix_n, ix_e, sto_n, sto_e, sto_r, zf_r, Int.toNat_natCast, true_or, or_true, eq_self]) <;> (first | omega | decide)))) | (with_reducible refine e_cchk ?_ ?_; · (first | omega | ((try simp (disch := omega) only [w32_eq, w64_eq, ix_n, ix_e, sto_n, sto_e, sto_r, zf_r, Int.toNat_natCast, true_or, or_true, eq_self]) <;> (first | omega | decide)))) | (with_reducible refine e_t ?_ ?_; · (first | omega | ((try simp (disch := omega) only [w32_eq, w64_eq, ix_n, ix_e, sto_n, sto_e, sto_r, zf_r, Int.toNat_natCast, true_or, or_true, eq_self]) <;> (first | omega | decide)))) | (with_reducible refine e_f ?_ ?_; · (first | omega | ((try simp (disch := omega) only [w32_eq, w64_eq, ix_n, ix_e, sto_n, sto_e, sto_r, zf_r, Int.toNat_natCast, true_or, or_true, eq_self]) <;> (first | omega | decide)))) | (with_reducible refine e_ct ?_ ?_; · (first | omega | ((try simp (disch := omega) only [w32_eq, w64_eq, ix_n, ix_e, sto_n, sto_e, sto_r, zf_r, Int.toNat_natCast, true_or, or_true, eq_self]) <;> (first | omega | decide)))) | (with_reducible refine e_cf ?_ ?_; · (first | omega | ((try simp (disch := omega) only [w32_eq, w64_eq, ix_n, ix_e, sto_n, sto_e, sto_r, zf_r, Int.toNat_natCast, true_or, or_true, eq_self]) <;> (first | omega | decide)))))
    rw [e]
  | succ j ih =>
    intro fuel p hj hf hI'
    have hms := hI s (by omega) hs
    have sb := sv_b hn hs (k := j) (by omega) (fun k hk => (hb k hk).2) (fun u h1 h2 => hI u (by omega) h2)
    have es : ix (s : Int) = s := ix_n (by omega)
    have et : ix (t : Int) = t := ix_n (by omega)
    have pb := pc8_b s
    obtain ⟨f, rfl⟩ : ∃ f, fuel = f + 1 := ⟨fuel - 1, by omega⟩; rw [fix_s]; unfold k_Ya_writePlan_27
    rw [show ((j + 1 : Nat) : Int) - 1 = (j : Int) by omega]
    repeat (first | with_reducible refine e_let ?_ | with_reducible refine e_cs ?_ | with_reducible refine e_clet ?_ | with_reducible refine e_cc ?_ | (with_reducible refine e_chk ?_ ?_; · (first | omega | ((try simp (disch := omega) only [w32_eq, w64_eq, ix_n, ix_e, sto_n, sto_e, sto_r, zf_r, Int.toNat_natCast, true_or, or_true, eq_self]) <;> (first | omega | decide)))) | (with_reducible refine e_cchk ?_ ?_; · (first | omega | ((try simp (disch := omega) only [w32_eq, w64_eq, ix_n, ix_e, sto_n, sto_e, sto_r, zf_r, Int.toNat_natCast, true_or, or_true, eq_self]) <;> (first | omega | decide)))) | (with_reducible refine e_t ?_ ?_; · (first | omega | ((try simp (disch := omega) only [w32_eq, w64_eq, ix_n, ix_e, sto_n, sto_e, sto_r, zf_r, Int.toNat_natCast, true_or, or_true, eq_self]) <;> (first | omega | decide)))) | (with_reducible refine e_f ?_ ?_; · (first | omega | ((try simp (disch := omega) only [w32_eq, w64_eq, ix_n, ix_e, sto_n, sto_e, sto_r, zf_r, Int.toNat_natCast, true_or, or_true, eq_self]) <;> (first | omega | decide)))) | (with_reducible refine e_ct ?_ ?_; · (first | omega | ((try simp (disch := omega) only [w32_eq, w64_eq, ix_n, ix_e, sto_n, sto_e, sto_r, zf_r, Int.toNat_natCast, true_or, or_true, eq_self]) <;> (first | omega | decide)))) | (with_reducible refine e_cf ?_ ?_; · (first | omega | ((try simp (disch := omega) only [w32_eq, w64_eq, ix_n, ix_e, sto_n, sto_e, sto_r, zf_r, Int.toNat_natCast, true_or, or_true, eq_self]) <;> (first | omega | decide)))))
    refine e_call (s_saved (M := sto M0 65 t p) (w := w) (b := b) hn hs (by omega) (by rw [sto_r (by decide)]; exact hw) (fun k hk => by rw [sto_r (by decide)]; exact (hb k hk).1)) ?_
    rw [sto_r (show 66 ≠ 65 by decide)]
    by_cases c : svS w b (M0 66) s j = M0 66 s
    · repeat (first | with_reducible refine e_let ?_ | with_reducible refine e_cs ?_ | with_reducible refine e_clet ?_ | with_reducible refine e_cc ?_ | (with_reducible refine e_chk ?_ ?_; · (first | omega | ((try simp (disch := omega) only [w32_eq, w64_eq, ix_n, ix_e, sto_n, sto_e, sto_r, zf_r, Int.toNat_natCast, true_or, or_true, eq_self]) <;> (first | omega | decide)))) | (with_reducible refine e_cchk ?_ ?_; · (first | omega | ((try simp (disch := omega) only [w32_eq, w64_eq, ix_n, ix_e, sto_n, sto_e, sto_r, zf_r, Int.toNat_natCast, true_or, or_true, eq_self]) <;> (first | omega | decide)))) | (with_reducible refine e_t ?_ ?_; · (first | omega | ((try simp (disch := omega) only [w32_eq, w64_eq, ix_n, ix_e, sto_n, sto_e, sto_r, zf_r, Int.toNat_natCast, true_or, or_true, eq_self]) <;> (first | omega | decide)))) | (with_reducible refine e_f ?_ ?_; · (first | omega | ((try simp (disch := omega) only [w32_eq, w64_eq, ix_n, ix_e, sto_n, sto_e, sto_r, zf_r, Int.toNat_natCast, true_or, or_true, eq_self]) <;> (first | omega | decide)))) | (with_reducible refine e_ct ?_ ?_; · (first | omega | ((try simp (disch := omega) only [w32_eq, w64_eq, ix_n, ix_e, sto_n, sto_e, sto_r, zf_r, Int.toNat_natCast, true_or, or_true, eq_self]) <;> (first | omega | decide)))) | (with_reducible refine e_cf ?_ ?_; · (first | omega | ((try simp (disch := omega) only [w32_eq, w64_eq, ix_n, ix_e, sto_n, sto_e, sto_r, zf_r, Int.toNat_natCast, true_or, or_true, eq_self]) <;> (first | omega | decide)))))
      unfold k_Ya_writePlan_65
      repeat (first | with_reducible refine e_let ?_ | with_reducible refine e_cs ?_ | with_reducible refine e_clet ?_ | with_reducible refine e_cc ?_ | (with_reducible refine e_chk ?_ ?_; · (first | omega | ((try simp (disch := omega) only [w32_eq, w64_eq, ix_n, ix_e, sto_n, sto_e, sto_r, zf_r, Int.toNat_natCast, true_or, or_true, eq_self]) <;> (first | omega | decide)))) | (with_reducible refine e_cchk ?_ ?_; · (first | omega | ((try simp (disch := omega) only [w32_eq, w64_eq, ix_n, ix_e, sto_n, sto_e, sto_r, zf_r, Int.toNat_natCast, true_or, or_true, eq_self]) <;> (first | omega | decide)))) | (with_reducible refine e_t ?_ ?_; · (first | omega | ((try simp (disch := omega) only [w32_eq, w64_eq, ix_n, ix_e, sto_n, sto_e, sto_r, zf_r, Int.toNat_natCast, true_or, or_true, eq_self]) <;> (first | omega | decide)))) | (with_reducible refine e_f ?_ ?_; · (first | omega | ((try simp (disch := omega) only [w32_eq, w64_eq, ix_n, ix_e, sto_n, sto_e, sto_r, zf_r, Int.toNat_natCast, true_or, or_true, eq_self]) <;> (first | omega | decide)))) | (with_reducible refine e_ct ?_ ?_; · (first | omega | ((try simp (disch := omega) only [w32_eq, w64_eq, ix_n, ix_e, sto_n, sto_e, sto_r, zf_r, Int.toNat_natCast, true_or, or_true, eq_self]) <;> (first | omega | decide)))) | (with_reducible refine e_cf ?_ ?_; · (first | omega | ((try simp (disch := omega) only [w32_eq, w64_eq, ix_n, ix_e, sto_n, sto_e, sto_r, zf_r, Int.toNat_natCast, true_or, or_true, eq_self]) <;> (first | omega | decide)))))
      rw [et, sto_sto, ← Int.sub_eq_add_neg]
      exact ih f (j : Int) (by omega) (by omega) (Or.inr ⟨j, rfl, Nat.le_refl _, by omega, c, fun i h1 h2 => by omega⟩)
    · repeat (first | with_reducible refine e_let ?_ | with_reducible refine e_cs ?_ | with_reducible refine e_clet ?_ | with_reducible refine e_cc ?_ | (with_reducible refine e_chk ?_ ?_; · (first | omega | ((try simp (disch := omega) only [w32_eq, w64_eq, ix_n, ix_e, sto_n, sto_e, sto_r, zf_r, Int.toNat_natCast, true_or, or_true, eq_self]) <;> (first | omega | decide)))) | (with_reducible refine e_cchk ?_ ?_; · (first | omega | ((try simp (disch := omega) only [w32_eq, w64_eq, ix_n, ix_e, sto_n, sto_e, sto_r, zf_r, Int.toNat_natCast, true_or, or_true, eq_self]) <;> (first | omega | decide)))) | (with_reducible refine e_t ?_ ?_; · (first | omega | ((try simp (disch := omega) only [w32_eq, w64_eq, ix_n, ix_e, sto_n, sto_e, sto_r, zf_r, Int.toNat_natCast, true_or, or_true, eq_self]) <;> (first | omega | decide)))) | (with_reducible refine e_f ?_ ?_; · (first | omega | ((try simp (disch := omega) only [w32_eq, w64_eq, ix_n, ix_e, sto_n, sto_e, sto_r, zf_r, Int.toNat_natCast, true_or, or_true, eq_self]) <;> (first | omega | decide)))) | (with_reducible refine e_ct ?_ ?_; · (first | omega | ((try simp (disch := omega) only [w32_eq, w64_eq, ix_n, ix_e, sto_n, sto_e, sto_r, zf_r, Int.toNat_natCast, true_or, or_true, eq_self]) <;> (first | omega | decide)))) | (with_reducible refine e_cf ?_ ?_; · (first | omega | ((try simp (disch := omega) only [w32_eq, w64_eq, ix_n, ix_e, sto_n, sto_e, sto_r, zf_r, Int.toNat_natCast, true_or, or_true, eq_self]) <;> (first | omega | decide)))))
      unfold k_Ya_writePlan_65
      repeat (first | with_reducible refine e_let ?_ | with_reducible refine e_cs ?_ | with_reducible refine e_clet ?_ | with_reducible refine e_cc ?_ | (with_reducible refine e_chk ?_ ?_; · (first | omega | ((try simp (disch := omega) only [w32_eq, w64_eq, ix_n, ix_e, sto_n, sto_e, sto_r, zf_r, Int.toNat_natCast, true_or, or_true, eq_self]) <;> (first | omega | decide)))) | (with_reducible refine e_cchk ?_ ?_; · (first | omega | ((try simp (disch := omega) only [w32_eq, w64_eq, ix_n, ix_e, sto_n, sto_e, sto_r, zf_r, Int.toNat_natCast, true_or, or_true, eq_self]) <;> (first | omega | decide)))) | (with_reducible refine e_t ?_ ?_; · (first | omega | ((try simp (disch := omega) only [w32_eq, w64_eq, ix_n, ix_e, sto_n, sto_e, sto_r, zf_r, Int.toNat_natCast, true_or, or_true, eq_self]) <;> (first | omega | decide)))) | (with_reducible refine e_f ?_ ?_; · (first | omega | ((try simp (disch := omega) only [w32_eq, w64_eq, ix_n, ix_e, sto_n, sto_e, sto_r, zf_r, Int.toNat_natCast, true_or, or_true, eq_self]) <;> (first | omega | decide)))) | (with_reducible refine e_ct ?_ ?_; · (first | omega | ((try simp (disch := omega) only [w32_eq, w64_eq, ix_n, ix_e, sto_n, sto_e, sto_r, zf_r, Int.toNat_natCast, true_or, or_true, eq_self]) <;> (first | omega | decide)))) | (with_reducible refine e_cf ?_ ?_; · (first | omega | ((try simp (disch := omega) only [w32_eq, w64_eq, ix_n, ix_e, sto_n, sto_e, sto_r, zf_r, Int.toNat_natCast, true_or, or_true, eq_self]) <;> (first | omega | decide)))))
      rw [← Int.sub_eq_add_neg]
      refine ih f p (by omega) (by omega) ?_
      rcases hI' with ⟨h1, h2⟩ | ⟨k, h1, h2, h3, h4, h5⟩
      · refine Or.inl ⟨h1, fun k g1 g2 => ?_⟩
        by_cases d : k = j
        · rw [d]; exact c
        · exact h2 k (by omega) g2
      · refine Or.inr ⟨k, h1, by omega, h3, h4, fun i g1 g2 => ?_⟩
        by_cases d : i = j
        · rw [d]; exact c
        · exact h5 i (by omega) g2
/-- the plan, week by week -/
def sqC (n : Nat) (w b m : Nat → Int) : Nat → Nat
  | 0 => 0
  | t + 1 => nxs (plC n w b m (sqC n w b m t)) (sqC n w b m t)
theorem plC_p {n s : Nat} {w b m : Nat → Int} (h : plC n w b m s ≠ -1) : 0 < m s ∧ ∃ k : Nat, plC n w b m s = (k : Int) ∧ k < n ∧ svS w b m s k = m s ∧ bt s k = 0 ∧ (pc8 s : Int) < w k ∧ ∀ i, i < k → svS w b m s i ≠ m s := by
  unfold plC at h ⊢
  obtain ⟨g1, g2, g3⟩ := fs1_p (q := fun k => decide (svS w b m s k = m s)) n
  by_cases c : 0 < m s
  · rw [if_pos c] at h ⊢
    by_cases d : fs1 (fun k => decide (svS w b m s k = m s)) n < n
    · rw [if_pos d]
      have e := of_decide_eq_true (g2 d)
      refine ⟨c, _, rfl, d, e, ?_⟩
      have e2 := e
      unfold svS at e2
      split at e2
      · rename_i q; exact ⟨q.1, q.2, fun i hi => of_decide_eq_false (g3 i hi)⟩
      · omega
    · rw [if_neg d] at h; exact absurd rfl h
  · rw [if_neg c] at h; exact absurd rfl h
theorem l_wp9 {n : Nat} {w b : Nat → Int} {B : Mem} (hn : n ≤ 8) (hw : ∀ k, k < n → B 63 k = w k ∧ (0 ≤ w k ∧ w k ≤ 20)) (hb : ∀ k, k < n → B 64 k = b k ∧ (1 ≤ b k ∧ b k ≤ 10000)) (hI : MbI n w b (B 66) 0) :
    ∀ (j fuel t : Nat) (M : Mem), t + j = 20 → j < fuel → Fr [65] [] B M → sqC n w b (B 66) t < 2 ^ n → (∀ u, u < t → M 65 u = plC n w b (B 66) (sqC n w b (B 66) u)) →
    Ok (fix (fun _ _ _ _ => none) k_Ya_writePlan_9 fuel (n : Int) ((sqC n w b (B 66) t : Nat) : Int) (t : Int) M) (fun _ M' => Fr [65] [] B M' ∧ ∀ u, u < 20 → M' 65 u = plC n w b (B 66) (sqC n w b (B 66) u)) := by
  have p8 := pow_b hn
  intro j; induction j with
  | zero =>
    intro fuel t M e hf hF hs h
    have : t = 20 := by omega
    subst this
    obtain ⟨f, rfl⟩ : ∃ f, fuel = f + 1 := ⟨fuel - 1, by omega⟩; rw [fix_s]; unfold k_Ya_writePlan_9
    repeat (first | with_reducible refine ok_let ?_ | with_reducible refine ok_cs ?_ | with_reducible refine ok_clet ?_ | with_reducible refine ok_cc ?_ | (with_reducible refine ok_chk ?_ ?_; · (first | omega | ((try simp (disch := omega) only [w32_eq, w64_eq, ix_n, ix_e, sto_n, sto_e, sto_r, zf_r, Int.toNat_natCast, true_or, or_true, eq_self]) <;> (first | omega | decide)))) | (with_reducible refine ok_cchk ?_ ?_; · (first | omega | ((try simp (disch := omega) only [w32_eq, w64_eq, ix_n, ix_e, sto_n, sto_e, sto_r, zf_r, Int.toNat_natCast, true_or, or_true, eq_self]) <;> (first | omega | decide)))) | (with_reducible refine ok_t ?_ ?_; · (first | omega | ((try simp (disch := omega) only [w32_eq, w64_eq, ix_n, ix_e, sto_n, sto_e, sto_r, zf_r, Int.toNat_natCast, true_or, or_true, eq_self]) <;> (first | omega | decide)))) | (with_reducible refine ok_f ?_ ?_; · (first | omega | ((try simp (disch := omega) only [w32_eq, w64_eq, ix_n, ix_e, sto_n, sto_e, sto_r, zf_r, Int.toNat_natCast, true_or, or_true, eq_self]) <;> (first | omega | decide)))) | (with_reducible refine ok_ct ?_ ?_; · (first | omega | ((try simp (disch := omega) only [w32_eq, w64_eq, ix_n, ix_e, sto_n, sto_e, sto_r, zf_r, Int.toNat_natCast, true_or, or_true, eq_self]) <;> (first | omega | decide)))) | (with_reducible refine ok_cf ?_ ?_; · (first | omega | ((try simp (disch := omega) only [w32_eq, w64_eq, ix_n, ix_e, sto_n, sto_e, sto_r, zf_r, Int.toNat_natCast, true_or, or_true, eq_self]) <;> (first | omega | decide)))))
    exact ok_ret ⟨hF, h⟩
  | succ j ih =>
    intro fuel t M e hf hF hs h
    have hj : (t : Int) + 1 = ((t + 1 : Nat) : Int) := by omega
    have et : ix (t : Int) = t := ix_n (by omega)
    have u66 := hF.c 66 (by decide) (by decide)
    have hw' : ∀ k, k < n → M 63 k = w k ∧ (0 ≤ w k ∧ w k ≤ 20) := by rw [hF.c 63 (by decide) (by decide)]; exact hw
    have hb' : ∀ k, k < n → M 64 k = b k ∧ (1 ≤ b k ∧ b k ≤ 10000) := by rw [hF.c 64 (by decide) (by decide)]; exact hb
    have hms := hI _ (by omega) hs
    have pb := pc8_b (sqC n w b (B 66) t)
    have hsq : sqC n w b (B 66) (t + 1) = nxs (plC n w b (B 66) (sqC n w b (B 66) t)) (sqC n w b (B 66) t) := rfl
    have IH := fun (M : Mem) => ih
    obtain ⟨f, rfl⟩ : ∃ f, fuel = f + 1 := ⟨fuel - 1, by omega⟩; rw [fix_s]
    have fin : Ok (k_Ya_writePlan_71 (fix (fun _ _ _ _ => none) k_Ya_writePlan_9 f) (n : Int) ((sqC n w b (B 66) t : Nat) : Int) (t : Int) (sto M 65 t (plC n w b (B 66) (sqC n w b (B 66) t)))) (fun _ M' => Fr [65] [] B M' ∧ ∀ u, u < 20 → M' 65 u = plC n w b (B 66) (sqC n w b (B 66) u)) := by
      have hplan : ∀ u, u < t + 1 → sto M 65 t (plC n w b (B 66) (sqC n w b (B 66) t)) 65 u = plC n w b (B 66) (sqC n w b (B 66) u) := fun u hu => by
        rw [sto_up]; unfold up; split
        · rename_i c; rw [c]
        · exact h u (by omega)
      have hFn : Fr [65] [] B (sto M 65 t (plC n w b (B 66) (sqC n w b (B 66) t))) := hF.trans (fr_stoA (by decide))
      unfold k_Ya_writePlan_71 k_Ya_writePlan_94
      by_cases c : plC n w b (B 66) (sqC n w b (B 66) t) = -1
      · rw [c] at hplan hFn hsq ⊢
        repeat (first | with_reducible refine ok_let ?_ | with_reducible refine ok_cs ?_ | with_reducible refine ok_clet ?_ | with_reducible refine ok_cc ?_ | (with_reducible refine ok_chk ?_ ?_; · (first | omega | ((try simp (disch := omega) only [w32_eq, w64_eq, ix_n, ix_e, sto_n, sto_e, sto_r, zf_r, Int.toNat_natCast, true_or, or_true, eq_self]) <;> (first | omega | decide)))) | (with_reducible refine ok_cchk ?_ ?_; · (first | omega | ((try simp (disch := omega) only [w32_eq, w64_eq, ix_n, ix_e, sto_n, sto_e, sto_r, zf_r, Int.toNat_natCast, true_or, or_true, eq_self]) <;> (first | omega | decide)))) | (with_reducible refine ok_t ?_ ?_; · (first | omega | ((try simp (disch := omega) only [w32_eq, w64_eq, ix_n, ix_e, sto_n, sto_e, sto_r, zf_r, Int.toNat_natCast, true_or, or_true, eq_self]) <;> (first | omega | decide)))) | (with_reducible refine ok_f ?_ ?_; · (first | omega | ((try simp (disch := omega) only [w32_eq, w64_eq, ix_n, ix_e, sto_n, sto_e, sto_r, zf_r, Int.toNat_natCast, true_or, or_true, eq_self]) <;> (first | omega | decide)))) | (with_reducible refine ok_ct ?_ ?_; · (first | omega | ((try simp (disch := omega) only [w32_eq, w64_eq, ix_n, ix_e, sto_n, sto_e, sto_r, zf_r, Int.toNat_natCast, true_or, or_true, eq_self]) <;> (first | omega | decide)))) | (with_reducible refine ok_cf ?_ ?_; · (first | omega | ((try simp (disch := omega) only [w32_eq, w64_eq, ix_n, ix_e, sto_n, sto_e, sto_r, zf_r, Int.toNat_natCast, true_or, or_true, eq_self]) <;> (first | omega | decide)))))
        have e0 : or32 ((sqC n w b (B 66) t : Nat) : Int) 0 = ((sqC n w b (B 66) (t + 1) : Nat) : Int) := by
          rw [hsq]; unfold nxs; rw [if_pos rfl, or_0 (by omega)]
        rw [e0, hj]
        exact ih f (t + 1) _ (by omega) (by omega) hFn (by rw [hsq]; unfold nxs; rw [if_pos rfl]; exact hs) hplan
      · obtain ⟨-, k, ek, hk, -, hbt, -, -⟩ := plC_p c
        rw [ek] at hplan hFn hsq ⊢
        repeat (first | with_reducible refine ok_let ?_ | with_reducible refine ok_cs ?_ | with_reducible refine ok_clet ?_ | with_reducible refine ok_cc ?_ | (with_reducible refine ok_chk ?_ ?_; · (first | omega | ((try simp (disch := omega) only [w32_eq, w64_eq, ix_n, ix_e, sto_n, sto_e, sto_r, zf_r, Int.toNat_natCast, true_or, or_true, eq_self]) <;> (first | omega | decide)))) | (with_reducible refine ok_cchk ?_ ?_; · (first | omega | ((try simp (disch := omega) only [w32_eq, w64_eq, ix_n, ix_e, sto_n, sto_e, sto_r, zf_r, Int.toNat_natCast, true_or, or_true, eq_self]) <;> (first | omega | decide)))) | (with_reducible refine ok_t ?_ ?_; · (first | omega | ((try simp (disch := omega) only [w32_eq, w64_eq, ix_n, ix_e, sto_n, sto_e, sto_r, zf_r, Int.toNat_natCast, true_or, or_true, eq_self]) <;> (first | omega | decide)))) | (with_reducible refine ok_f ?_ ?_; · (first | omega | ((try simp (disch := omega) only [w32_eq, w64_eq, ix_n, ix_e, sto_n, sto_e, sto_r, zf_r, Int.toNat_natCast, true_or, or_true, eq_self]) <;> (first | omega | decide)))) | (with_reducible refine ok_ct ?_ ?_; · (first | omega | ((try simp (disch := omega) only [w32_eq, w64_eq, ix_n, ix_e, sto_n, sto_e, sto_r, zf_r, Int.toNat_natCast, true_or, or_true, eq_self]) <;> (first | omega | decide)))) | (with_reducible refine ok_cf ?_ ?_; · (first | omega | ((try simp (disch := omega) only [w32_eq, w64_eq, ix_n, ix_e, sto_n, sto_e, sto_r, zf_r, Int.toNat_natCast, true_or, or_true, eq_self]) <;> (first | omega | decide)))))
        obtain ⟨o1, o2, o3⟩ := or_bit (s := sqC n w b (B 66) t) (k := k) (by omega) (by omega) hbt
        have e1 : nxs (k : Int) (sqC n w b (B 66) t) = sqC n w b (B 66) t + 2 ^ k := by unfold nxs; rw [if_neg (by omega), Int.toNat_natCast]
        rw [et, sto_e, o1, hj]
        rw [e1] at hsq
        rw [← hsq]
        exact ih f (t + 1) _ (by omega) (by omega) hFn (by rw [hsq]; exact st_at hn hs hk hbt) hplan
    unfold k_Ya_writePlan_9
    repeat (first | with_reducible refine ok_let ?_ | with_reducible refine ok_cs ?_ | with_reducible refine ok_clet ?_ | with_reducible refine ok_cc ?_ | (with_reducible refine ok_chk ?_ ?_; · (first | omega | ((try simp (disch := omega) only [w32_eq, w64_eq, ix_n, ix_e, sto_n, sto_e, sto_r, zf_r, Int.toNat_natCast, true_or, or_true, eq_self]) <;> (first | omega | decide)))) | (with_reducible refine ok_cchk ?_ ?_; · (first | omega | ((try simp (disch := omega) only [w32_eq, w64_eq, ix_n, ix_e, sto_n, sto_e, sto_r, zf_r, Int.toNat_natCast, true_or, or_true, eq_self]) <;> (first | omega | decide)))) | (with_reducible refine ok_t ?_ ?_; · (first | omega | ((try simp (disch := omega) only [w32_eq, w64_eq, ix_n, ix_e, sto_n, sto_e, sto_r, zf_r, Int.toNat_natCast, true_or, or_true, eq_self]) <;> (first | omega | decide)))) | (with_reducible refine ok_f ?_ ?_; · (first | omega | ((try simp (disch := omega) only [w32_eq, w64_eq, ix_n, ix_e, sto_n, sto_e, sto_r, zf_r, Int.toNat_natCast, true_or, or_true, eq_self]) <;> (first | omega | decide)))) | (with_reducible refine ok_ct ?_ ?_; · (first | omega | ((try simp (disch := omega) only [w32_eq, w64_eq, ix_n, ix_e, sto_n, sto_e, sto_r, zf_r, Int.toNat_natCast, true_or, or_true, eq_self]) <;> (first | omega | decide)))) | (with_reducible refine ok_cf ?_ ?_; · (first | omega | ((try simp (disch := omega) only [w32_eq, w64_eq, ix_n, ix_e, sto_n, sto_e, sto_r, zf_r, Int.toNat_natCast, true_or, or_true, eq_self]) <;> (first | omega | decide)))))
    rw [et]
    by_cases c : 0 < B 66 (sqC n w b (B 66) t)
    · have q := l_wp27 (n := n) (s := sqC n w b (B 66) t) (t := t) (w := w) (b := b) (M0 := M) (R9 := fix (fun _ _ _ _ => none) k_Ya_writePlan_9 f) hn hs (by omega) hw' hb' (by rw [u66]; exact hI) (by rw [u66]; exact c) n FU (-1) (Nat.le_refl _) (by unfold FU; omega) (Or.inl ⟨rfl, fun k h1 h2 => by omega⟩)
      rw [u66] at q
      exact ok_eqr q fin
    · have ep : plC n w b (B 66) (sqC n w b (B 66) t) = -1 := by unfold plC; rw [if_neg c]
      rw [ep] at fin
      by_cases n0 : n = 0
      · subst n0
        rw [show FU = 4294967295 + 1 from rfl, fix_s]; unfold k_Ya_writePlan_27
        repeat (first | with_reducible refine ok_let ?_ | with_reducible refine ok_cs ?_ | with_reducible refine ok_clet ?_ | with_reducible refine ok_cc ?_ | (with_reducible refine ok_chk ?_ ?_; · (first | omega | ((try simp (disch := omega) only [w32_eq, w64_eq, ix_n, ix_e, sto_n, sto_e, sto_r, zf_r, Int.toNat_natCast, true_or, or_true, eq_self]) <;> (first | omega | decide)))) | (with_reducible refine ok_cchk ?_ ?_; · (first | omega | ((try simp (disch := omega) only [w32_eq, w64_eq, ix_n, ix_e, sto_n, sto_e, sto_r, zf_r, Int.toNat_natCast, true_or, or_true, eq_self]) <;> (first | omega | decide)))) | (with_reducible refine ok_t ?_ ?_; · (first | omega | ((try simp (disch := omega) only [w32_eq, w64_eq, ix_n, ix_e, sto_n, sto_e, sto_r, zf_r, Int.toNat_natCast, true_or, or_true, eq_self]) <;> (first | omega | decide)))) | (with_reducible refine ok_f ?_ ?_; · (first | omega | ((try simp (disch := omega) only [w32_eq, w64_eq, ix_n, ix_e, sto_n, sto_e, sto_r, zf_r, Int.toNat_natCast, true_or, or_true, eq_self]) <;> (first | omega | decide)))) | (with_reducible refine ok_ct ?_ ?_; · (first | omega | ((try simp (disch := omega) only [w32_eq, w64_eq, ix_n, ix_e, sto_n, sto_e, sto_r, zf_r, Int.toNat_natCast, true_or, or_true, eq_self]) <;> (first | omega | decide)))) | (with_reducible refine ok_cf ?_ ?_; · (first | omega | ((try simp (disch := omega) only [w32_eq, w64_eq, ix_n, ix_e, sto_n, sto_e, sto_r, zf_r, Int.toNat_natCast, true_or, or_true, eq_self]) <;> (first | omega | decide)))))
        exact fin
      · rw [show FU = 4294967295 + 1 from rfl, fix_s]; unfold k_Ya_writePlan_27
        repeat (first | with_reducible refine ok_let ?_ | with_reducible refine ok_cs ?_ | with_reducible refine ok_clet ?_ | with_reducible refine ok_cc ?_ | (with_reducible refine ok_chk ?_ ?_; · (first | omega | ((try simp (disch := omega) only [w32_eq, w64_eq, ix_n, ix_e, sto_n, sto_e, sto_r, zf_r, Int.toNat_natCast, true_or, or_true, eq_self, u66]) <;> (first | omega | decide)))) | (with_reducible refine ok_cchk ?_ ?_; · (first | omega | ((try simp (disch := omega) only [w32_eq, w64_eq, ix_n, ix_e, sto_n, sto_e, sto_r, zf_r, Int.toNat_natCast, true_or, or_true, eq_self, u66]) <;> (first | omega | decide)))) | (with_reducible refine ok_t ?_ ?_; · (first | omega | ((try simp (disch := omega) only [w32_eq, w64_eq, ix_n, ix_e, sto_n, sto_e, sto_r, zf_r, Int.toNat_natCast, true_or, or_true, eq_self, u66]) <;> (first | omega | decide)))) | (with_reducible refine ok_f ?_ ?_; · (first | omega | ((try simp (disch := omega) only [w32_eq, w64_eq, ix_n, ix_e, sto_n, sto_e, sto_r, zf_r, Int.toNat_natCast, true_or, or_true, eq_self, u66]) <;> (first | omega | decide)))) | (with_reducible refine ok_ct ?_ ?_; · (first | omega | ((try simp (disch := omega) only [w32_eq, w64_eq, ix_n, ix_e, sto_n, sto_e, sto_r, zf_r, Int.toNat_natCast, true_or, or_true, eq_self, u66]) <;> (first | omega | decide)))) | (with_reducible refine ok_cf ?_ ?_; · (first | omega | ((try simp (disch := omega) only [w32_eq, w64_eq, ix_n, ix_e, sto_n, sto_e, sto_r, zf_r, Int.toNat_natCast, true_or, or_true, eq_self, u66]) <;> (first | omega | decide)))))
        exact fin
