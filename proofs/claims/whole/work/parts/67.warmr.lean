/-! bins that warm: the model's reckoning -/
theorem s_plan {n : Nat} {w b : Nat → Int} {B : Mem} (hn : n ≤ 8) (hw : ∀ k, k < n → B 63 k = w k ∧ (0 ≤ w k ∧ w k ≤ 20)) (hb : ∀ k, k < n → B 64 k = b k ∧ (1 ≤ b k ∧ b k ≤ 10000)) :
    Ok (d_Ya_planTurning (n : Int) B) (fun v M' => ∃ m : Nat → Int, v = m 0 ∧ RecC n w b m ∧ (∀ s, s < 2 ^ n → 0 ≤ m s ∧ m s ≤ 80000) ∧ (∀ t, t < 20 → M' 65 t = plC n w b m (sqC n w b m t)) ∧ M' 62 2 = 1 ∧ M' 0 0 = B 0 0) := by
  have p8 := pow_b hn
  unfold d_Ya_planTurning
  repeat (first | with_reducible refine ok_let ?_ | with_reducible refine ok_cs ?_ | with_reducible refine ok_clet ?_ | with_reducible refine ok_cc ?_ | (with_reducible refine ok_chk ?_ ?_; · (first | omega | ((try simp (disch := omega) only [w32_eq, w64_eq, ix_n, ix_e, sto_n, sto_e, sto_r, zf_r, Int.toNat_natCast, true_or, or_true, eq_self]) <;> (first | omega | decide)))) | (with_reducible refine ok_cchk ?_ ?_; · (first | omega | ((try simp (disch := omega) only [w32_eq, w64_eq, ix_n, ix_e, sto_n, sto_e, sto_r, zf_r, Int.toNat_natCast, true_or, or_true, eq_self]) <;> (first | omega | decide)))) | (with_reducible refine ok_t ?_ ?_; · (first | omega | ((try simp (disch := omega) only [w32_eq, w64_eq, ix_n, ix_e, sto_n, sto_e, sto_r, zf_r, Int.toNat_natCast, true_or, or_true, eq_self]) <;> (first | omega | decide)))) | (with_reducible refine ok_f ?_ ?_; · (first | omega | ((try simp (disch := omega) only [w32_eq, w64_eq, ix_n, ix_e, sto_n, sto_e, sto_r, zf_r, Int.toNat_natCast, true_or, or_true, eq_self]) <;> (first | omega | decide)))) | (with_reducible refine ok_ct ?_ ?_; · (first | omega | ((try simp (disch := omega) only [w32_eq, w64_eq, ix_n, ix_e, sto_n, sto_e, sto_r, zf_r, Int.toNat_natCast, true_or, or_true, eq_self]) <;> (first | omega | decide)))) | (with_reducible refine ok_cf ?_ ?_; · (first | omega | ((try simp (disch := omega) only [w32_eq, w64_eq, ix_n, ix_e, sto_n, sto_e, sto_r, zf_r, Int.toNat_natCast, true_or, or_true, eq_self]) <;> (first | omega | decide)))))
  rw [sl_at hn]
  refine l_plan6 hn hw hb (fun M hF hI => ?_) (2 ^ n) FU B (Nat.le_refl _) (by unfold FU; omega) Fr.rfl' (fun u h1 h2 => by omega)
  unfold d_Ya_writePlan
  repeat (first | with_reducible refine ok_let ?_ | with_reducible refine ok_cs ?_ | with_reducible refine ok_clet ?_ | with_reducible refine ok_cc ?_ | (with_reducible refine ok_chk ?_ ?_; · (first | omega | ((try simp (disch := omega) only [w32_eq, w64_eq, ix_n, ix_e, sto_n, sto_e, sto_r, zf_r, Int.toNat_natCast, true_or, or_true, eq_self]) <;> (first | omega | decide)))) | (with_reducible refine ok_cchk ?_ ?_; · (first | omega | ((try simp (disch := omega) only [w32_eq, w64_eq, ix_n, ix_e, sto_n, sto_e, sto_r, zf_r, Int.toNat_natCast, true_or, or_true, eq_self]) <;> (first | omega | decide)))) | (with_reducible refine ok_t ?_ ?_; · (first | omega | ((try simp (disch := omega) only [w32_eq, w64_eq, ix_n, ix_e, sto_n, sto_e, sto_r, zf_r, Int.toNat_natCast, true_or, or_true, eq_self]) <;> (first | omega | decide)))) | (with_reducible refine ok_f ?_ ?_; · (first | omega | ((try simp (disch := omega) only [w32_eq, w64_eq, ix_n, ix_e, sto_n, sto_e, sto_r, zf_r, Int.toNat_natCast, true_or, or_true, eq_self]) <;> (first | omega | decide)))) | (with_reducible refine ok_ct ?_ ?_; · (first | omega | ((try simp (disch := omega) only [w32_eq, w64_eq, ix_n, ix_e, sto_n, sto_e, sto_r, zf_r, Int.toNat_natCast, true_or, or_true, eq_self]) <;> (first | omega | decide)))) | (with_reducible refine ok_cf ?_ ?_; · (first | omega | ((try simp (disch := omega) only [w32_eq, w64_eq, ix_n, ix_e, sto_n, sto_e, sto_r, zf_r, Int.toNat_natCast, true_or, or_true, eq_self]) <;> (first | omega | decide)))))
  have hF1 : Fr [66] [(62, 2)] B (sto M 62 2 1) := Fr.trans (hF.mono (by decide) (by decide)) (fr_stoF (by decide))
  have e66 : sto M 62 2 1 66 = M 66 := sto_r (by decide)
  have q := l_wp9 (B := sto M 62 2 1) (w := w) (b := b) hn (by rw [hF1.c 63 (by decide) (by decide)]; exact hw) (by rw [hF1.c 64 (by decide) (by decide)]; exact hb) (by rw [e66]; exact hI) 20 FU 0 _ (by omega) (by unfold FU; omega) Fr.rfl' (by show 0 < 2 ^ n; omega) (fun u hu => by omega)
  rw [e66] at q
  refine ok_call q (fun v M' h => ?_)
  repeat (first | with_reducible refine ok_let ?_ | with_reducible refine ok_cs ?_ | with_reducible refine ok_clet ?_ | with_reducible refine ok_cc ?_ | (with_reducible refine ok_chk ?_ ?_; · (first | omega | ((try simp (disch := omega) only [w32_eq, w64_eq, ix_n, ix_e, sto_n, sto_e, sto_r, zf_r, Int.toNat_natCast, true_or, or_true, eq_self]) <;> (first | omega | decide)))) | (with_reducible refine ok_cchk ?_ ?_; · (first | omega | ((try simp (disch := omega) only [w32_eq, w64_eq, ix_n, ix_e, sto_n, sto_e, sto_r, zf_r, Int.toNat_natCast, true_or, or_true, eq_self]) <;> (first | omega | decide)))) | (with_reducible refine ok_t ?_ ?_; · (first | omega | ((try simp (disch := omega) only [w32_eq, w64_eq, ix_n, ix_e, sto_n, sto_e, sto_r, zf_r, Int.toNat_natCast, true_or, or_true, eq_self]) <;> (first | omega | decide)))) | (with_reducible refine ok_f ?_ ?_; · (first | omega | ((try simp (disch := omega) only [w32_eq, w64_eq, ix_n, ix_e, sto_n, sto_e, sto_r, zf_r, Int.toNat_natCast, true_or, or_true, eq_self]) <;> (first | omega | decide)))) | (with_reducible refine ok_ct ?_ ?_; · (first | omega | ((try simp (disch := omega) only [w32_eq, w64_eq, ix_n, ix_e, sto_n, sto_e, sto_r, zf_r, Int.toNat_natCast, true_or, or_true, eq_self]) <;> (first | omega | decide)))) | (with_reducible refine ok_cf ?_ ?_; · (first | omega | ((try simp (disch := omega) only [w32_eq, w64_eq, ix_n, ix_e, sto_n, sto_e, sto_r, zf_r, Int.toNat_natCast, true_or, or_true, eq_self]) <;> (first | omega | decide)))))
  refine ok_ret ⟨M 66, ?_, fun s hs => (hI s (by omega) hs).1, fun s hs => ?_, h.2, ?_, ?_⟩
  · rw [h.1.c 66 (by decide) (by decide), e66]
  · have := hI s (by omega) hs
    have := pc8_b s
    omega
  · rw [h.1.f 62 2 (by decide) (by decide), sto_e]
  · rw [h.1.f 0 0 (by decide) (by decide), hF1.f 0 0 (by decide) (by decide)]
/-- the model -/
theorem s_canTurn {n s k t : Nat} {w : Nat → Int} {M : Mem} (hn : n ≤ 8) (hs : s < 2 ^ n) (hk : k < n) (ht : t < 20) (hw : ∀ k, k < n → M 178 k = w k ∧ (0 ≤ w k ∧ w k ≤ 20)) : d_Mo_canTurn (k : Int) (t : Int) (s : Int) M = some (if bt s k = 0 ∧ (t : Int) < w k then 1 else 0, M) := by
  have p8 := pow_b hn
  have ek : ix (k : Int) = k := ix_n (by omega)
  obtain ⟨w1, w2⟩ := hw k hk
  unfold d_Mo_canTurn
  rw [w32_an, sr_bit (by omega) (by omega)]
  by_cases c : bt s k = 0
  · refine e_t (by omega) ?_
    by_cases d : (t : Int) < w k
    · rw [if_pos ⟨c, d⟩]
      repeat (first | with_reducible refine e_let ?_ | with_reducible refine e_cs ?_ | with_reducible refine e_clet ?_ | with_reducible refine e_cc ?_ | (with_reducible refine e_chk ?_ ?_; · (first | omega | ((try simp (disch := omega) only [w32_eq, w64_eq, ix_n, ix_e, sto_n, sto_e, sto_r, zf_r, Int.toNat_natCast, true_or, or_true, eq_self, w1]) <;> (first | omega | decide)))) | (with_reducible refine e_cchk ?_ ?_; · (first | omega | ((try simp (disch := omega) only [w32_eq, w64_eq, ix_n, ix_e, sto_n, sto_e, sto_r, zf_r, Int.toNat_natCast, true_or, or_true, eq_self, w1]) <;> (first | omega | decide)))) | (with_reducible refine e_t ?_ ?_; · (first | omega | ((try simp (disch := omega) only [w32_eq, w64_eq, ix_n, ix_e, sto_n, sto_e, sto_r, zf_r, Int.toNat_natCast, true_or, or_true, eq_self, w1]) <;> (first | omega | decide)))) | (with_reducible refine e_f ?_ ?_; · (first | omega | ((try simp (disch := omega) only [w32_eq, w64_eq, ix_n, ix_e, sto_n, sto_e, sto_r, zf_r, Int.toNat_natCast, true_or, or_true, eq_self, w1]) <;> (first | omega | decide)))) | (with_reducible refine e_ct ?_ ?_; · (first | omega | ((try simp (disch := omega) only [w32_eq, w64_eq, ix_n, ix_e, sto_n, sto_e, sto_r, zf_r, Int.toNat_natCast, true_or, or_true, eq_self, w1]) <;> (first | omega | decide)))) | (with_reducible refine e_cf ?_ ?_; · (first | omega | ((try simp (disch := omega) only [w32_eq, w64_eq, ix_n, ix_e, sto_n, sto_e, sto_r, zf_r, Int.toNat_natCast, true_or, or_true, eq_self, w1]) <;> (first | omega | decide)))))
      rfl
    · rw [if_neg (fun h => d h.2)]
      repeat (first | with_reducible refine e_let ?_ | with_reducible refine e_cs ?_ | with_reducible refine e_clet ?_ | with_reducible refine e_cc ?_ | (with_reducible refine e_chk ?_ ?_; · (first | omega | ((try simp (disch := omega) only [w32_eq, w64_eq, ix_n, ix_e, sto_n, sto_e, sto_r, zf_r, Int.toNat_natCast, true_or, or_true, eq_self, w1]) <;> (first | omega | decide)))) | (with_reducible refine e_cchk ?_ ?_; · (first | omega | ((try simp (disch := omega) only [w32_eq, w64_eq, ix_n, ix_e, sto_n, sto_e, sto_r, zf_r, Int.toNat_natCast, true_or, or_true, eq_self, w1]) <;> (first | omega | decide)))) | (with_reducible refine e_t ?_ ?_; · (first | omega | ((try simp (disch := omega) only [w32_eq, w64_eq, ix_n, ix_e, sto_n, sto_e, sto_r, zf_r, Int.toNat_natCast, true_or, or_true, eq_self, w1]) <;> (first | omega | decide)))) | (with_reducible refine e_f ?_ ?_; · (first | omega | ((try simp (disch := omega) only [w32_eq, w64_eq, ix_n, ix_e, sto_n, sto_e, sto_r, zf_r, Int.toNat_natCast, true_or, or_true, eq_self, w1]) <;> (first | omega | decide)))) | (with_reducible refine e_ct ?_ ?_; · (first | omega | ((try simp (disch := omega) only [w32_eq, w64_eq, ix_n, ix_e, sto_n, sto_e, sto_r, zf_r, Int.toNat_natCast, true_or, or_true, eq_self, w1]) <;> (first | omega | decide)))) | (with_reducible refine e_cf ?_ ?_; · (first | omega | ((try simp (disch := omega) only [w32_eq, w64_eq, ix_n, ix_e, sto_n, sto_e, sto_r, zf_r, Int.toNat_natCast, true_or, or_true, eq_self, w1]) <;> (first | omega | decide)))))
      rfl
  · refine e_f (by omega) ?_
    rw [if_neg (fun h => c h.1)]
/-- rows of weeks, right from week t on, and in week t - 1 below s -/
def wW (M : Mem) : Nat → Nat → Int := fun t s => M 181 (256 * t + s)
def RwI (n : Nat) (w b : Nat → Int) (M : Mem) (t s : Nat) : Prop := (∀ u, u < 2 ^ n → wW M 20 u = 0) ∧ ∀ v u, v < 20 → u < 2 ^ n → (t < v ∨ (t = v ∧ u < s)) → wW M v u = mxN (wW M (v + 1) u) (svR w b (wW M) v u) n
def RwB (n : Nat) (M : Mem) (t s : Nat) : Prop := ∀ v u, v ≤ 20 → u < 2 ^ n → (t < v ∨ (t = v ∧ u < s)) → 0 ≤ wW M v u ∧ wW M v u ≤ 10000 * (8 - (pc8 u : Int))
theorem svR_b {n s k t : Nat} {w b : Nat → Int} {M : Mem} (hn : n ≤ 8) (hs : s < 2 ^ n) (hk : k < n) (ht : t < 20) (hb : ∀ k, k < n → 1 ≤ b k ∧ b k ≤ 10000) {z : Nat} (hB : RwB n M t z) : 0 ≤ svR w b (wW M) t s k ∧ svR w b (wW M) t s k ≤ 10000 * (8 - (pc8 s : Int)) := by
  have p8 := pow_b hn
  have pb := pc8_b s
  unfold svR
  split
  · rename_i c
    obtain ⟨o1, o2, o3⟩ := or_bit (s := s) (k := k) (by omega) (by omega) c.1
    have q := hB (t + 1) (s + 2 ^ k) (by omega) (st_at hn hs hk c.1) (Or.inl (by omega))
    have := hb k hk
    rw [o2] at q
    omega
  · omega
theorem l_w280 {n s t : Nat} {w b : Nat → Int} {M : Mem} {R241 : Int → Int → Mem → Res} {R249 : Int → Int → Int → Mem → Res} (hn : n ≤ 8) (hs : s < 2 ^ n) (ht : t < 20) (hw : ∀ k, k < n → M 178 k = w k ∧ (0 ≤ w k ∧ w k ≤ 20)) (hb : ∀ k, k < n → M 179 k = b k ∧ (1 ≤ b k ∧ b k ≤ 10000)) {z : Nat} (hB : RwB n M t z) :
    ∀ j fuel i : Nat, i + j = n → j < fuel → fix (fun _ _ _ _ _ _ => none) (k_Mo_warm_280 R241 R249) fuel (n : Int) (t : Int) (s : Int) (mxN (wW M (t + 1) s) (svR w b (wW M) t s) i) (i : Int) M = R249 (n : Int) (t : Int) ((s : Int) + 1) (sto M 181 (256 * t + s) (mxN (wW M (t + 1) s) (svR w b (wW M) t s) n)) := by
  have p8 := pow_b hn
  have pb := pc8_b s
  have h0 := hB (t + 1) s (by omega) hs (Or.inl (by omega))
  have hbb : ∀ i, i ≤ n → 0 ≤ mxN (wW M (t + 1) s) (svR w b (wW M) t s) i ∧ mxN (wW M (t + 1) s) (svR w b (wW M) t s) i ≤ 80000 := fun i hi => ⟨Int.le_trans h0.1 (mxN_c i), mxN_le i (by omega) (fun k hk => by
    have := (svR_b (w := w) hn hs (k := k) (by omega) ht (fun k hk => (hb k hk).2) hB).2; omega)⟩
  intro j; induction j with
  | zero =>
    intro fuel i e hf
    have : i = n := by omega
    subst this
    obtain ⟨f, rfl⟩ : ∃ f, fuel = f + 1 := ⟨fuel - 1, by omega⟩; rw [fix_s]; unfold k_Mo_warm_280
    repeat (first | with_reducible refine e_let ?_ | with_reducible refine e_cs ?_ | with_reducible refine e_clet ?_ | with_reducible refine e_cc ?_ | (with_reducible refine e_chk ?_ ?_; · (first | omega | ((try simp (disch := omega) only [w32_eq, w64_eq, ix_n, ix_e, sto_n, sto_e, sto_r, zf_r, Int.toNat_natCast, true_or, or_true, eq_self]) <;> (first | omega | decide)))) | (with_reducible refine e_cchk ?_ ?_; · (first | omega | ((try simp (disch := omega) only [w32_eq, w64_eq, ix_n, ix_e, sto_n, sto_e, sto_r, zf_r, Int.toNat_natCast, true_or, or_true, eq_self]) <;> (first | omega | decide)))) | (with_reducible refine e_t ?_ ?_; · (first | omega | ((try simp (disch := omega) only [w32_eq, w64_eq, ix_n, ix_e, sto_n, sto_e, sto_r, zf_r, Int.toNat_natCast, true_or, or_true, eq_self]) <;> (first | omega | decide)))) | (with_reducible refine e_f ?_ ?_; · (first | omega | ((try simp (disch := omega) only [w32_eq, w64_eq, ix_n, ix_e, sto_n, sto_e, sto_r, zf_r, Int.toNat_natCast, true_or, or_true, eq_self]) <;> (first | omega | decide)))) | (with_reducible refine e_ct ?_ ?_; · (first | omega | ((try simp (disch := omega) only [w32_eq, w64_eq, ix_n, ix_e, sto_n, sto_e, sto_r, zf_r, Int.toNat_natCast, true_or, or_true, eq_self]) <;> (first | omega | decide)))) | (with_reducible refine e_cf ?_ ?_; · (first | omega | ((try simp (disch := omega) only [w32_eq, w64_eq, ix_n, ix_e, sto_n, sto_e, sto_r, zf_r, Int.toNat_natCast, true_or, or_true, eq_self]) <;> (first | omega | decide)))))
    rw [show 256 * (t : Int) + (s : Int) = ((256 * t + s : Nat) : Int) by omega, ix_n (by omega)]
  | succ j ih =>
    intro fuel i e hf
    have hj : (i : Int) + 1 = ((i + 1 : Nat) : Int) := by omega
    have ei : ix (i : Int) = i := ix_n (by omega)
    have hbi := hbb i (by omega)
    have sb := svR_b (w := w) hn hs (k := i) (by omega) ht (fun k hk => (hb k hk).2) hB
    have hs1 : mxN (wW M (t + 1) s) (svR w b (wW M) t s) (i + 1) = if mxN (wW M (t + 1) s) (svR w b (wW M) t s) i < svR w b (wW M) t s i then svR w b (wW M) t s i else mxN (wW M (t + 1) s) (svR w b (wW M) t s) i := rfl
    obtain ⟨f, rfl⟩ : ∃ f, fuel = f + 1 := ⟨fuel - 1, by omega⟩; rw [fix_s]
    have := ih f (i + 1) (by omega) (by omega)
    rw [hs1, ← hj] at this
    unfold k_Mo_warm_280
    repeat (first | with_reducible refine e_let ?_ | with_reducible refine e_cs ?_ | with_reducible refine e_clet ?_ | with_reducible refine e_cc ?_ | (with_reducible refine e_chk ?_ ?_; · (first | omega | ((try simp (disch := omega) only [w32_eq, w64_eq, ix_n, ix_e, sto_n, sto_e, sto_r, zf_r, Int.toNat_natCast, true_or, or_true, eq_self]) <;> (first | omega | decide)))) | (with_reducible refine e_cchk ?_ ?_; · (first | omega | ((try simp (disch := omega) only [w32_eq, w64_eq, ix_n, ix_e, sto_n, sto_e, sto_r, zf_r, Int.toNat_natCast, true_or, or_true, eq_self]) <;> (first | omega | decide)))) | (with_reducible refine e_t ?_ ?_; · (first | omega | ((try simp (disch := omega) only [w32_eq, w64_eq, ix_n, ix_e, sto_n, sto_e, sto_r, zf_r, Int.toNat_natCast, true_or, or_true, eq_self]) <;> (first | omega | decide)))) | (with_reducible refine e_f ?_ ?_; · (first | omega | ((try simp (disch := omega) only [w32_eq, w64_eq, ix_n, ix_e, sto_n, sto_e, sto_r, zf_r, Int.toNat_natCast, true_or, or_true, eq_self]) <;> (first | omega | decide)))) | (with_reducible refine e_ct ?_ ?_; · (first | omega | ((try simp (disch := omega) only [w32_eq, w64_eq, ix_n, ix_e, sto_n, sto_e, sto_r, zf_r, Int.toNat_natCast, true_or, or_true, eq_self]) <;> (first | omega | decide)))) | (with_reducible refine e_cf ?_ ?_; · (first | omega | ((try simp (disch := omega) only [w32_eq, w64_eq, ix_n, ix_e, sto_n, sto_e, sto_r, zf_r, Int.toNat_natCast, true_or, or_true, eq_self]) <;> (first | omega | decide)))))
    refine e_call (s_canTurn hn hs (by omega) ht hw) ?_
    by_cases c : bt s i = 0 ∧ (t : Int) < w i
    · obtain ⟨o1, o2, o3⟩ := or_bit (s := s) (k := i) (by omega) (by omega) c.1
      have esv : svR w b (wW M) t s i = b i + wW M (t + 1) (s + 2 ^ i) := by unfold svR; rw [if_pos c]
      rw [if_pos c, o1]
      have hw1 : wW M (t + 1) (s + 2 ^ i) = M 181 (256 * (t + 1) + (s + 2 ^ i)) := rfl
      rw [hw1] at esv
      generalize s + 2 ^ i = u at *
      repeat (first | with_reducible refine e_let ?_ | with_reducible refine e_cs ?_ | with_reducible refine e_clet ?_ | with_reducible refine e_cc ?_ | (with_reducible refine e_chk ?_ ?_; · (first | omega | ((try simp (disch := omega) only [w32_eq, w64_eq, ix_n, ix_e, sto_n, sto_e, sto_r, zf_r, Int.toNat_natCast, true_or, or_true, eq_self]) <;> (first | omega | decide)))) | (with_reducible refine e_cchk ?_ ?_; · (first | omega | ((try simp (disch := omega) only [w32_eq, w64_eq, ix_n, ix_e, sto_n, sto_e, sto_r, zf_r, Int.toNat_natCast, true_or, or_true, eq_self]) <;> (first | omega | decide)))) | (with_reducible refine e_t ?_ ?_; · (first | omega | ((try simp (disch := omega) only [w32_eq, w64_eq, ix_n, ix_e, sto_n, sto_e, sto_r, zf_r, Int.toNat_natCast, true_or, or_true, eq_self]) <;> (first | omega | decide)))) | (with_reducible refine e_f ?_ ?_; · (first | omega | ((try simp (disch := omega) only [w32_eq, w64_eq, ix_n, ix_e, sto_n, sto_e, sto_r, zf_r, Int.toNat_natCast, true_or, or_true, eq_self]) <;> (first | omega | decide)))) | (with_reducible refine e_ct ?_ ?_; · (first | omega | ((try simp (disch := omega) only [w32_eq, w64_eq, ix_n, ix_e, sto_n, sto_e, sto_r, zf_r, Int.toNat_natCast, true_or, or_true, eq_self]) <;> (first | omega | decide)))) | (with_reducible refine e_cf ?_ ?_; · (first | omega | ((try simp (disch := omega) only [w32_eq, w64_eq, ix_n, ix_e, sto_n, sto_e, sto_r, zf_r, Int.toNat_natCast, true_or, or_true, eq_self]) <;> (first | omega | decide)))))
      unfold k_Mo_warm_337
      repeat (first | with_reducible refine e_let ?_ | with_reducible refine e_cs ?_ | with_reducible refine e_clet ?_ | with_reducible refine e_cc ?_ | (with_reducible refine e_chk ?_ ?_; · (first | omega | ((try simp (disch := omega) only [w32_eq, w64_eq, ix_n, ix_e, sto_n, sto_e, sto_r, zf_r, Int.toNat_natCast, true_or, or_true, eq_self]) <;> (first | omega | decide)))) | (with_reducible refine e_cchk ?_ ?_; · (first | omega | ((try simp (disch := omega) only [w32_eq, w64_eq, ix_n, ix_e, sto_n, sto_e, sto_r, zf_r, Int.toNat_natCast, true_or, or_true, eq_self]) <;> (first | omega | decide)))) | (with_reducible refine e_t ?_ ?_; · (first | omega | ((try simp (disch := omega) only [w32_eq, w64_eq, ix_n, ix_e, sto_n, sto_e, sto_r, zf_r, Int.toNat_natCast, true_or, or_true, eq_self]) <;> (first | omega | decide)))) | (with_reducible refine e_f ?_ ?_; · (first | omega | ((try simp (disch := omega) only [w32_eq, w64_eq, ix_n, ix_e, sto_n, sto_e, sto_r, zf_r, Int.toNat_natCast, true_or, or_true, eq_self]) <;> (first | omega | decide)))) | (with_reducible refine e_ct ?_ ?_; · (first | omega | ((try simp (disch := omega) only [w32_eq, w64_eq, ix_n, ix_e, sto_n, sto_e, sto_r, zf_r, Int.toNat_natCast, true_or, or_true, eq_self]) <;> (first | omega | decide)))) | (with_reducible refine e_cf ?_ ?_; · (first | omega | ((try simp (disch := omega) only [w32_eq, w64_eq, ix_n, ix_e, sto_n, sto_e, sto_r, zf_r, Int.toNat_natCast, true_or, or_true, eq_self]) <;> (first | omega | decide)))))
      rw [ei, (hb i (by omega)).1, show 256 * (t : Int) + 256 + (u : Int) = ((256 * (t + 1) + u : Nat) : Int) by omega, ix_n (by omega), ← esv]
      have hm : mx32 (mxN (wW M (t + 1) s) (svR w b (wW M) t s) i) (svR w b (wW M) t s i) = if mxN (wW M (t + 1) s) (svR w b (wW M) t s) i < svR w b (wW M) t s i then svR w b (wW M) t s i else mxN (wW M (t + 1) s) (svR w b (wW M) t s) i := by
        unfold mx32
        rw [w32_eq (by omega) (by omega), w32_eq (by omega) (by omega)]
      rw [hm]; exact this
    · have esv : svR w b (wW M) t s i = 0 := by unfold svR; rw [if_neg c]
      rw [esv, if_neg (by omega)] at this
      rw [if_neg c]
      repeat (first | with_reducible refine e_let ?_ | with_reducible refine e_cs ?_ | with_reducible refine e_clet ?_ | with_reducible refine e_cc ?_ | (with_reducible refine e_chk ?_ ?_; · (first | omega | ((try simp (disch := omega) only [w32_eq, w64_eq, ix_n, ix_e, sto_n, sto_e, sto_r, zf_r, Int.toNat_natCast, true_or, or_true, eq_self]) <;> (first | omega | decide)))) | (with_reducible refine e_cchk ?_ ?_; · (first | omega | ((try simp (disch := omega) only [w32_eq, w64_eq, ix_n, ix_e, sto_n, sto_e, sto_r, zf_r, Int.toNat_natCast, true_or, or_true, eq_self]) <;> (first | omega | decide)))) | (with_reducible refine e_t ?_ ?_; · (first | omega | ((try simp (disch := omega) only [w32_eq, w64_eq, ix_n, ix_e, sto_n, sto_e, sto_r, zf_r, Int.toNat_natCast, true_or, or_true, eq_self]) <;> (first | omega | decide)))) | (with_reducible refine e_f ?_ ?_; · (first | omega | ((try simp (disch := omega) only [w32_eq, w64_eq, ix_n, ix_e, sto_n, sto_e, sto_r, zf_r, Int.toNat_natCast, true_or, or_true, eq_self]) <;> (first | omega | decide)))) | (with_reducible refine e_ct ?_ ?_; · (first | omega | ((try simp (disch := omega) only [w32_eq, w64_eq, ix_n, ix_e, sto_n, sto_e, sto_r, zf_r, Int.toNat_natCast, true_or, or_true, eq_self]) <;> (first | omega | decide)))) | (with_reducible refine e_cf ?_ ?_; · (first | omega | ((try simp (disch := omega) only [w32_eq, w64_eq, ix_n, ix_e, sto_n, sto_e, sto_r, zf_r, Int.toNat_natCast, true_or, or_true, eq_self]) <;> (first | omega | decide)))))
      unfold k_Mo_warm_337
      repeat (first | with_reducible refine e_let ?_ | with_reducible refine e_cs ?_ | with_reducible refine e_clet ?_ | with_reducible refine e_cc ?_ | (with_reducible refine e_chk ?_ ?_; · (first | omega | ((try simp (disch := omega) only [w32_eq, w64_eq, ix_n, ix_e, sto_n, sto_e, sto_r, zf_r, Int.toNat_natCast, true_or, or_true, eq_self]) <;> (first | omega | decide)))) | (with_reducible refine e_cchk ?_ ?_; · (first | omega | ((try simp (disch := omega) only [w32_eq, w64_eq, ix_n, ix_e, sto_n, sto_e, sto_r, zf_r, Int.toNat_natCast, true_or, or_true, eq_self]) <;> (first | omega | decide)))) | (with_reducible refine e_t ?_ ?_; · (first | omega | ((try simp (disch := omega) only [w32_eq, w64_eq, ix_n, ix_e, sto_n, sto_e, sto_r, zf_r, Int.toNat_natCast, true_or, or_true, eq_self]) <;> (first | omega | decide)))) | (with_reducible refine e_f ?_ ?_; · (first | omega | ((try simp (disch := omega) only [w32_eq, w64_eq, ix_n, ix_e, sto_n, sto_e, sto_r, zf_r, Int.toNat_natCast, true_or, or_true, eq_self]) <;> (first | omega | decide)))) | (with_reducible refine e_ct ?_ ?_; · (first | omega | ((try simp (disch := omega) only [w32_eq, w64_eq, ix_n, ix_e, sto_n, sto_e, sto_r, zf_r, Int.toNat_natCast, true_or, or_true, eq_self]) <;> (first | omega | decide)))) | (with_reducible refine e_cf ?_ ?_; · (first | omega | ((try simp (disch := omega) only [w32_eq, w64_eq, ix_n, ix_e, sto_n, sto_e, sto_r, zf_r, Int.toNat_natCast, true_or, or_true, eq_self]) <;> (first | omega | decide)))))
      exact this
theorem wW_sto {M : Mem} {t s : Nat} {x : Int} {v u : Nat} (hs : s < 256) (hu : u < 256) : wW (sto M 181 (256 * t + s) x) v u = if v = t ∧ u = s then x else wW M v u := by
  unfold wW
  rw [sto_up]; unfold up
  by_cases c : v = t ∧ u = s
  · rw [if_pos c, if_pos (by omega)]
  · rw [if_neg c, if_neg (by omega)]
theorem Rw_step {n s t : Nat} {w b : Nat → Int} {M : Mem} (hn : n ≤ 8) (hs : s < 2 ^ n) (ht : t < 20) (hb : ∀ k, k < n → 1 ≤ b k ∧ b k ≤ 10000) (hI : RwI n w b M t s) (hB : RwB n M t s) : RwI n w b (sto M 181 (256 * t + s) (mxN (wW M (t + 1) s) (svR w b (wW M) t s) n)) t (s + 1) ∧ RwB n (sto M 181 (256 * t + s) (mxN (wW M (t + 1) s) (svR w b (wW M) t s) n)) t (s + 1) := by
  have p8 := pow_b hn
  generalize hx : mxN (wW M (t + 1) s) (svR w b (wW M) t s) n = x
  have ext : ∀ v u, t ≤ v → u < 2 ^ n → wW (sto M 181 (256 * t + s) x) (v + 1) u = wW M (v + 1) u := fun v u hv hu => by
    rw [wW_sto (by omega) (by omega), if_neg (by omega)]
  have exs : ∀ v u k, t ≤ v → u < 2 ^ n → k < n → svR w b (wW (sto M 181 (256 * t + s) x)) v u k = svR w b (wW M) v u k := fun v u k hv hu hk => by
    unfold svR
    by_cases c : bt u k = 0 ∧ (v : Int) < w k
    · rw [if_pos c, if_pos c, ext v _ hv (st_at hn hu hk c.1)]
    · rw [if_neg c, if_neg c]
  refine ⟨⟨fun u hu => ?_, fun v u hv hu h => ?_⟩, fun v u hv hu h => ?_⟩
  · rw [wW_sto (by omega) (by omega), if_neg (by omega)]; exact hI.1 u hu
  · rw [ext v u (by omega) hu, mxN_ext n (fun k hk => exs v u k (by omega) hu hk), wW_sto (by omega) (by omega)]
    by_cases c : v = t ∧ u = s
    · rw [if_pos c, c.1, c.2]; exact hx.symm
    · rw [if_neg c]; exact hI.2 v u hv hu (by omega)
  · rw [wW_sto (by omega) (by omega)]
    by_cases c : v = t ∧ u = s
    · rw [if_pos c, c.2, ← hx]
      have h0 := hB (t + 1) s (by omega) hs (Or.inl (by omega))
      exact ⟨Int.le_trans h0.1 (mxN_c n), mxN_le n h0.2 (fun k hk => (svR_b hn hs hk ht hb hB).2)⟩
    · rw [if_neg c]; exact hB v u hv hu (by omega)
theorem l_w249 {n t : Nat} {w b : Nat → Int} {B : Mem} {R241 : Int → Int → Mem → Res} {P : Int → Mem → Prop} (hn : n ≤ 8) (ht : t < 20) (hw : ∀ k, k < n → B 178 k = w k ∧ (0 ≤ w k ∧ w k ≤ 20)) (hb : ∀ k, k < n → B 179 k = b k ∧ (1 ≤ b k ∧ b k ≤ 10000))
    (hP : ∀ M : Mem, Fr [181] [] B M → RwI n w b M t (2 ^ n) → RwB n M t (2 ^ n) → Ok (R241 (n : Int) ((t : Int) + (-1)) M) P) :
    ∀ (j fuel s : Nat) (M : Mem), s + j = 2 ^ n → j < fuel → Fr [181] [] B M → RwI n w b M t s → RwB n M t s → Ok (fix (fun _ _ _ _ => none) (k_Mo_warm_249 R241) fuel (n : Int) (t : Int) (s : Int) M) P := by
  have p8 := pow_b hn
  intro j; induction j with
  | zero =>
    intro fuel s M e hf hF hI hB
    have : s = 2 ^ n := by omega
    subst this
    obtain ⟨f, rfl⟩ : ∃ f, fuel = f + 1 := ⟨fuel - 1, by omega⟩; rw [fix_s]; unfold k_Mo_warm_249
    rw [sl_at hn]
    refine ok_f (Int.lt_irrefl _) ?_
    exact hP M hF hI hB
  | succ j ih =>
    intro fuel s M e hf hF hI hB
    have hj : (s : Int) + 1 = ((s + 1 : Nat) : Int) := by omega
    obtain ⟨f, rfl⟩ : ∃ f, fuel = f + 1 := ⟨fuel - 1, by omega⟩; rw [fix_s]; unfold k_Mo_warm_249
    rw [sl_at hn]
    generalize hN : 2 ^ n = N at *
    repeat (first | with_reducible refine ok_let ?_ | with_reducible refine ok_cs ?_ | with_reducible refine ok_clet ?_ | with_reducible refine ok_cc ?_ | (with_reducible refine ok_chk ?_ ?_; · (first | omega | ((try simp (disch := omega) only [w32_eq, w64_eq, ix_n, ix_e, sto_n, sto_e, sto_r, zf_r, Int.toNat_natCast, true_or, or_true, eq_self]) <;> (first | omega | decide)))) | (with_reducible refine ok_cchk ?_ ?_; · (first | omega | ((try simp (disch := omega) only [w32_eq, w64_eq, ix_n, ix_e, sto_n, sto_e, sto_r, zf_r, Int.toNat_natCast, true_or, or_true, eq_self]) <;> (first | omega | decide)))) | (with_reducible refine ok_t ?_ ?_; · (first | omega | ((try simp (disch := omega) only [w32_eq, w64_eq, ix_n, ix_e, sto_n, sto_e, sto_r, zf_r, Int.toNat_natCast, true_or, or_true, eq_self]) <;> (first | omega | decide)))) | (with_reducible refine ok_f ?_ ?_; · (first | omega | ((try simp (disch := omega) only [w32_eq, w64_eq, ix_n, ix_e, sto_n, sto_e, sto_r, zf_r, Int.toNat_natCast, true_or, or_true, eq_self]) <;> (first | omega | decide)))) | (with_reducible refine ok_ct ?_ ?_; · (first | omega | ((try simp (disch := omega) only [w32_eq, w64_eq, ix_n, ix_e, sto_n, sto_e, sto_r, zf_r, Int.toNat_natCast, true_or, or_true, eq_self]) <;> (first | omega | decide)))) | (with_reducible refine ok_cf ?_ ?_; · (first | omega | ((try simp (disch := omega) only [w32_eq, w64_eq, ix_n, ix_e, sto_n, sto_e, sto_r, zf_r, Int.toNat_natCast, true_or, or_true, eq_self]) <;> (first | omega | decide)))))
    have hw' : ∀ k, k < n → M 178 k = w k ∧ (0 ≤ w k ∧ w k ≤ 20) := by rw [hF.c 178 (by decide) (by decide)]; exact hw
    have hb' : ∀ k, k < n → M 179 k = b k ∧ (1 ≤ b k ∧ b k ≤ 10000) := by rw [hF.c 179 (by decide) (by decide)]; exact hb
    rw [show 256 * (t : Int) + 256 + (s : Int) = ((256 * (t + 1) + s : Nat) : Int) by omega, ix_n (by omega)]
    refine ok_eqr (l_w280 (w := w) (b := b) (R241 := R241) (R249 := fix (fun _ _ _ _ => none) (k_Mo_warm_249 R241) f) hn (s := s) (by omega) ht hw' hb' hB n FU 0 (by omega) (by unfold FU; omega)) ?_
    have q := Rw_step hn (s := s) (by omega) ht (fun k hk => (hb k hk).2) hI hB
    rw [hj]
    exact ih f (s + 1) _ (by omega) (by omega) (hF.trans (fr_stoA (by decide))) q.1 q.2
theorem l_w241 {n : Nat} {w b : Nat → Int} {B : Mem} {P : Int → Mem → Prop} (hn : n ≤ 8) (hw : ∀ k, k < n → B 178 k = w k ∧ (0 ≤ w k ∧ w k ≤ 20)) (hb : ∀ k, k < n → B 179 k = b k ∧ (1 ≤ b k ∧ b k ≤ 10000))
    (hP : ∀ M : Mem, Fr [181] [] B M → RecR n w b (wW M) → (∀ v u, v ≤ 20 → u < 2 ^ n → 0 ≤ wW M v u ∧ wW M v u ≤ 80000) → Ok (fix (fun _ _ _ _ => none) k_Mo_warm_377 FU (n : Int) 0 0 M) P) :
    ∀ (t fuel : Nat) (M : Mem), t ≤ 20 → t < fuel → Fr [181] [] B M → RwI n w b M t 0 → RwB n M t 0 → (t < 20 → True) → (∀ v u, v ≤ 20 → u < 2 ^ n → t ≤ v → 0 ≤ wW M v u ∧ wW M v u ≤ 10000 * (8 - (pc8 u : Int))) → (∀ v u, v < 20 → u < 2 ^ n → t ≤ v → wW M v u = mxN (wW M (v + 1) u) (svR w b (wW M) v u) n) → Ok (fix (fun _ _ _ => none) k_Mo_warm_241 fuel (n : Int) ((t : Int) - 1) M) P := by
  intro t; induction t with
  | zero =>
    intro fuel M ht hf hF hI hB _ h1 h2
    obtain ⟨f, rfl⟩ : ∃ f, fuel = f + 1 := ⟨fuel - 1, by omega⟩; rw [fix_s]; unfold k_Mo_warm_241
    repeat (first | with_reducible refine ok_let ?_ | with_reducible refine ok_cs ?_ | with_reducible refine ok_clet ?_ | with_reducible refine ok_cc ?_ | (with_reducible refine ok_chk ?_ ?_; · (first | omega | ((try simp (disch := omega) only [w32_eq, w64_eq, ix_n, ix_e, sto_n, sto_e, sto_r, zf_r, Int.toNat_natCast, true_or, or_true, eq_self]) <;> (first | omega | decide)))) | (with_reducible refine ok_cchk ?_ ?_; · (first | omega | ((try simp (disch := omega) only [w32_eq, w64_eq, ix_n, ix_e, sto_n, sto_e, sto_r, zf_r, Int.toNat_natCast, true_or, or_true, eq_self]) <;> (first | omega | decide)))) | (with_reducible refine ok_t ?_ ?_; · (first | omega | ((try simp (disch := omega) only [w32_eq, w64_eq, ix_n, ix_e, sto_n, sto_e, sto_r, zf_r, Int.toNat_natCast, true_or, or_true, eq_self]) <;> (first | omega | decide)))) | (with_reducible refine ok_f ?_ ?_; · (first | omega | ((try simp (disch := omega) only [w32_eq, w64_eq, ix_n, ix_e, sto_n, sto_e, sto_r, zf_r, Int.toNat_natCast, true_or, or_true, eq_self]) <;> (first | omega | decide)))) | (with_reducible refine ok_ct ?_ ?_; · (first | omega | ((try simp (disch := omega) only [w32_eq, w64_eq, ix_n, ix_e, sto_n, sto_e, sto_r, zf_r, Int.toNat_natCast, true_or, or_true, eq_self]) <;> (first | omega | decide)))) | (with_reducible refine ok_cf ?_ ?_; · (first | omega | ((try simp (disch := omega) only [w32_eq, w64_eq, ix_n, ix_e, sto_n, sto_e, sto_r, zf_r, Int.toNat_natCast, true_or, or_true, eq_self]) <;> (first | omega | decide)))))
    refine hP M hF ⟨hI.1, fun v u hv hu => h2 v u hv hu (by omega)⟩ (fun v u hv hu => ?_)
    have := h1 v u hv hu (by omega)
    have := pc8_b u
    omega
  | succ t ih =>
    intro fuel M ht hf hF hI hB _ h1 h2
    obtain ⟨f, rfl⟩ : ∃ f, fuel = f + 1 := ⟨fuel - 1, by omega⟩; rw [fix_s]; unfold k_Mo_warm_241
    rw [show ((t + 1 : Nat) : Int) - 1 = (t : Int) by omega]
    repeat (first | with_reducible refine ok_let ?_ | with_reducible refine ok_cs ?_ | with_reducible refine ok_clet ?_ | with_reducible refine ok_cc ?_ | (with_reducible refine ok_chk ?_ ?_; · (first | omega | ((try simp (disch := omega) only [w32_eq, w64_eq, ix_n, ix_e, sto_n, sto_e, sto_r, zf_r, Int.toNat_natCast, true_or, or_true, eq_self]) <;> (first | omega | decide)))) | (with_reducible refine ok_cchk ?_ ?_; · (first | omega | ((try simp (disch := omega) only [w32_eq, w64_eq, ix_n, ix_e, sto_n, sto_e, sto_r, zf_r, Int.toNat_natCast, true_or, or_true, eq_self]) <;> (first | omega | decide)))) | (with_reducible refine ok_t ?_ ?_; · (first | omega | ((try simp (disch := omega) only [w32_eq, w64_eq, ix_n, ix_e, sto_n, sto_e, sto_r, zf_r, Int.toNat_natCast, true_or, or_true, eq_self]) <;> (first | omega | decide)))) | (with_reducible refine ok_f ?_ ?_; · (first | omega | ((try simp (disch := omega) only [w32_eq, w64_eq, ix_n, ix_e, sto_n, sto_e, sto_r, zf_r, Int.toNat_natCast, true_or, or_true, eq_self]) <;> (first | omega | decide)))) | (with_reducible refine ok_ct ?_ ?_; · (first | omega | ((try simp (disch := omega) only [w32_eq, w64_eq, ix_n, ix_e, sto_n, sto_e, sto_r, zf_r, Int.toNat_natCast, true_or, or_true, eq_self]) <;> (first | omega | decide)))) | (with_reducible refine ok_cf ?_ ?_; · (first | omega | ((try simp (disch := omega) only [w32_eq, w64_eq, ix_n, ix_e, sto_n, sto_e, sto_r, zf_r, Int.toNat_natCast, true_or, or_true, eq_self]) <;> (first | omega | decide)))))
    refine l_w249 (B := M) (w := w) (b := b) hn (by omega) (by rw [hF.c 178 (by decide) (by decide)]; exact hw) (by rw [hF.c 179 (by decide) (by decide)]; exact hb) (fun M1 hF1 hI1 hB1 => ?_) (2 ^ n) FU 0 M (by omega) (by have := pow_b hn; unfold FU; omega) Fr.rfl' ⟨hI.1, fun v u hv hu h => h2 v u hv hu (by omega)⟩ (fun v u hv hu h => h1 v u hv hu (by omega))
    rw [← Int.sub_eq_add_neg]
    refine ih f M1 (by omega) (by omega) (hF.trans hF1) ⟨hI1.1, fun v u hv hu h => hI1.2 v u hv hu (by omega)⟩ (fun v u hv hu h => hB1 v u hv hu (by omega)) (fun _ => trivial) (fun v u hv hu h => hB1 v u hv hu (by omega)) (fun v u hv hu h => hI1.2 v u hv hu (by omega))
theorem l_w211 {n : Nat} {w b : Nat → Int} {B : Mem} {P : Int → Mem → Prop} (hn : n ≤ 8) (hw : ∀ k, k < n → B 178 k = w k ∧ (0 ≤ w k ∧ w k ≤ 20)) (hb : ∀ k, k < n → B 179 k = b k ∧ (1 ≤ b k ∧ b k ≤ 10000))
    (hP : ∀ M : Mem, Fr [181] [] B M → RecR n w b (wW M) → (∀ v u, v ≤ 20 → u < 2 ^ n → 0 ≤ wW M v u ∧ wW M v u ≤ 80000) → Ok (fix (fun _ _ _ _ => none) k_Mo_warm_377 FU (n : Int) 0 0 M) P) :
    ∀ (j fuel s : Nat) (M : Mem), s + j = 2 ^ n → j < fuel → Fr [181] [] B M → (∀ u, u < s → wW M 20 u = 0) → Ok (fix (fun _ _ _ => none) k_Mo_warm_211 fuel (n : Int) (s : Int) M) P := by
  have p8 := pow_b hn
  intro j; induction j with
  | zero =>
    intro fuel s M e hf hF h
    have : s = 2 ^ n := by omega
    subst this
    obtain ⟨f, rfl⟩ : ∃ f, fuel = f + 1 := ⟨fuel - 1, by omega⟩; rw [fix_s]; unfold k_Mo_warm_211
    rw [sl_at hn]
    refine ok_f (Int.lt_irrefl _) ?_
    have q := l_w241 (B := B) hn hw hb hP 20 FU M (by omega) (by unfold FU; omega) hF ⟨h, fun v u hv hu hh => by omega⟩ (fun v u hv hu hh => by omega) (fun _ => trivial) (fun v u hv hu hh => by
      have : v = 20 := by omega
      subst this
      rw [h u hu]; have := pc8_b u; omega) (fun v u hv hu hh => by omega)
    exact q
  | succ j ih =>
    intro fuel s M e hf hF h
    have hj : (s : Int) + 1 = ((s + 1 : Nat) : Int) := by omega
    obtain ⟨f, rfl⟩ : ∃ f, fuel = f + 1 := ⟨fuel - 1, by omega⟩; rw [fix_s]; unfold k_Mo_warm_211
    rw [sl_at hn]
    generalize hN : 2 ^ n = N at *
    repeat (first | with_reducible refine ok_let ?_ | with_reducible refine ok_cs ?_ | with_reducible refine ok_clet ?_ | with_reducible refine ok_cc ?_ | (with_reducible refine ok_chk ?_ ?_; · (first | omega | ((try simp (disch := omega) only [w32_eq, w64_eq, ix_n, ix_e, sto_n, sto_e, sto_r, zf_r, Int.toNat_natCast, true_or, or_true, eq_self]) <;> (first | omega | decide)))) | (with_reducible refine ok_cchk ?_ ?_; · (first | omega | ((try simp (disch := omega) only [w32_eq, w64_eq, ix_n, ix_e, sto_n, sto_e, sto_r, zf_r, Int.toNat_natCast, true_or, or_true, eq_self]) <;> (first | omega | decide)))) | (with_reducible refine ok_t ?_ ?_; · (first | omega | ((try simp (disch := omega) only [w32_eq, w64_eq, ix_n, ix_e, sto_n, sto_e, sto_r, zf_r, Int.toNat_natCast, true_or, or_true, eq_self]) <;> (first | omega | decide)))) | (with_reducible refine ok_f ?_ ?_; · (first | omega | ((try simp (disch := omega) only [w32_eq, w64_eq, ix_n, ix_e, sto_n, sto_e, sto_r, zf_r, Int.toNat_natCast, true_or, or_true, eq_self]) <;> (first | omega | decide)))) | (with_reducible refine ok_ct ?_ ?_; · (first | omega | ((try simp (disch := omega) only [w32_eq, w64_eq, ix_n, ix_e, sto_n, sto_e, sto_r, zf_r, Int.toNat_natCast, true_or, or_true, eq_self]) <;> (first | omega | decide)))) | (with_reducible refine ok_cf ?_ ?_; · (first | omega | ((try simp (disch := omega) only [w32_eq, w64_eq, ix_n, ix_e, sto_n, sto_e, sto_r, zf_r, Int.toNat_natCast, true_or, or_true, eq_self]) <;> (first | omega | decide)))))
    rw [hj, show (5120 : Int) + (s : Int) = ((256 * 20 + s : Nat) : Int) by omega, ix_n (by omega)]
    refine ih f (s + 1) _ (by omega) (by omega) (hF.trans (fr_stoA (by decide))) (fun u hu => ?_)
    rw [wW_sto (by omega) (by omega)]
    split
    · rfl
    · exact h u (by omega)
/-- the model's plan -/
def plR (n : Nat) (w b : Nat → Int) (W : Nat → Nat → Int) (t s : Nat) : Int := if fs1 (fun k => decide (bt s k = 0 ∧ (t : Int) < w k ∧ b k + W (t + 1) (s + 2 ^ k) = W t s)) n < n then ((fs1 (fun k => decide (bt s k = 0 ∧ (t : Int) < w k ∧ b k + W (t + 1) (s + 2 ^ k) = W t s)) n : Nat) : Int) else -1
theorem pl_eq {n t s : Nat} (hn : n ≤ 8) {w b m : Nat → Int} {W : Nat → Nat → Int} (hb : ∀ k, k < n → 1 ≤ b k) (hC : RecC n w b m) (hR : RecR n w b W) (hs : s < 2 ^ n) (ht : t < 20) (h : pc8 s = t ∨ (pc8 s ≤ t ∧ m s = 0)) : plR n w b W t s = plC n w b m s := by
  have p8 := pow_b hn
  have hm0 : 0 ≤ m s := by rw [hC s hs]; exact mxN_c n
  by_cases c : 0 < m s
  · have hp : pc8 s = t := by omega
    have e1 := rec_eq hn hb hC hR hs
    have q : ∀ k, k < n → (bt s k = 0 ∧ (t : Int) < w k ∧ b k + W (t + 1) (s + 2 ^ k) = W t s ↔ svS w b m s k = m s) := by
      intro k hk
      have hms : m s ≠ 0 := by omega
      unfold svS
      by_cases d : bt s k = 0 ∧ (pc8 s : Int) < w k
      · rw [if_pos d]
        obtain ⟨o1, o2, o3⟩ := or_bit (s := s) (k := k) (by omega) (by omega) d.1
        have e2 := rec_eq hn hb hC hR (s := s + 2 ^ k) (st_at hn hs hk d.1)
        rw [o2, hp] at e2
        rw [hp] at e1 d
        rw [e2, e1]
        exact ⟨fun h => h.2.2, fun h => ⟨d.1, d.2, h⟩⟩
      · rw [if_neg d]
        rw [hp] at d
        exact ⟨fun h => absurd ⟨h.1, h.2.1⟩ d, fun h => by omega⟩
    have e : fs1 (fun k => decide (bt s k = 0 ∧ (t : Int) < w k ∧ b k + W (t + 1) (s + 2 ^ k) = W t s)) n = fs1 (fun k => decide (svS w b m s k = m s)) n := by
      obtain ⟨g1, g2, g3⟩ := fs1_p (q := fun k => decide (svS w b m s k = m s)) n
      refine fs1_eq g1 (fun j hj => ?_) ?_
      · exact decide_eq_false (fun hh => of_decide_eq_false (g3 j hj) ((q j (by omega)).1 hh))
      · by_cases d : fs1 (fun k => decide (svS w b m s k = m s)) n < n
        · exact Or.inr (decide_eq_true ((q _ d).2 (of_decide_eq_true (g2 d))))
        · exact Or.inl (by omega)
    unfold plR plC
    rw [if_pos c, e]
  · have hz : m s = 0 := by omega
    have hle := rec_le hn hb hC hR (20 - t) t s (by omega) hs (by omega)
    have e : fs1 (fun k => decide (bt s k = 0 ∧ (t : Int) < w k ∧ b k + W (t + 1) (s + 2 ^ k) = W t s)) n = n := by
      refine fs1_eq (Nat.le_refl _) (fun j hj => decide_eq_false (fun hh => ?_)) (Or.inl rfl)
      have h1 := hb j hj
      have h2 := recR_nn hn hR (20 - (t + 1)) (t + 1) (s + 2 ^ j) (by omega) (st_at hn hs hj hh.1)
      omega
    unfold plR plC
    rw [if_neg c, e, if_neg (by omega)]
def sqR (n : Nat) (w b : Nat → Int) (W : Nat → Nat → Int) : Nat → Nat
  | 0 => 0
  | t + 1 => nxs (plR n w b W t (sqR n w b W t)) (sqR n w b W t)
theorem sq_eq {n : Nat} (hn : n ≤ 8) {w b m : Nat → Int} {W : Nat → Nat → Int} (hb : ∀ k, k < n → 1 ≤ b k) (hC : RecC n w b m) (hR : RecR n w b W) : ∀ t : Nat, t ≤ 20 → sqR n w b W t = sqC n w b m t ∧ sqC n w b m t < 2 ^ n ∧ (pc8 (sqC n w b m t) = t ∨ (pc8 (sqC n w b m t) ≤ t ∧ m (sqC n w b m t) = 0))
  | 0, _ => by
    have p8 := pow_b hn
    refine ⟨rfl, by show 0 < 2 ^ n; omega, Or.inl ?_⟩
    show pc8 0 = 0; decide
  | t + 1, h => by
    have p8 := pow_b hn
    obtain ⟨h1, h2, h3⟩ := sq_eq hn hb hC hR t (by omega)
    have e := pl_eq hn hb hC hR h2 (by omega) h3
    rw [sqR, sqC, h1, e]
    refine ⟨rfl, ?_⟩
    unfold nxs
    by_cases c : plC n w b m (sqC n w b m t) = -1
    · rw [if_pos c]
      refine ⟨h2, Or.inr ⟨by omega, ?_⟩⟩
      have hm0 : 0 ≤ m (sqC n w b m t) := by rw [hC _ h2]; exact mxN_c n
      by_cases d : 0 < m (sqC n w b m t)
      · have hh := hC _ h2
        rcases mxN_at (c := 0) (f := svS w b m (sqC n w b m t)) n with q | ⟨k, hk, q⟩
        · omega
        · obtain ⟨g1, g2, g3⟩ := fs1_p (q := fun k => decide (svS w b m (sqC n w b m t) k = m (sqC n w b m t))) n
          unfold plC at c
          rw [if_pos d] at c
          by_cases dd : fs1 (fun k => decide (svS w b m (sqC n w b m t) k = m (sqC n w b m t))) n < n
          · rw [if_pos dd] at c; omega
          · have := of_decide_eq_false (g3 k (by omega))
            exact absurd (q.trans hh.symm) this
      · omega
    · obtain ⟨hp, k, ek, hk, -, hbt, -, -⟩ := plC_p c
      rw [if_neg c, ek, Int.toNat_natCast]
      obtain ⟨o1, o2, o3⟩ := or_bit (s := sqC n w b m t) (k := k) (by omega) (by omega) hbt
      refine ⟨st_at hn h2 hk hbt, Or.inl ?_⟩
      rw [o2]; omega
