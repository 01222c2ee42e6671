/-! on whom votes hang: the model tries every set; both agree -/
theorem w64_sm {a b : Nat → Int} : ∀ m : Nat, (∀ k, k < m → w64 (a k) = w64 (b k)) → w64 (sm a m) = w64 (sm b m)
  | 0, _ => rfl
  | m + 1, h => by
    have h1 := w64_sm (a := a) (b := b) m (fun k hk => h k (by omega))
    have h2 := h m (by omega)
    show w64 (sm a m + a m) = w64 (sm b m + b m)
    rw [w64_add, h1, h2, ← w64_add]
theorem adR_w {n m s : Nat} {fr ds u v : Nat → Int} {op : Nat → Nat} {M : Mem} (hn : n ≤ 20) (hI : OpI fr n m op M) (hv : ∀ f, 0 ≤ v f ∧ v f ≤ 1000) (hu : ∀ f, f < n → w64 (u f) = v f) (d : Nat) : w64 (adR op ds u s d m) = adV n ds v (fnS op m s) d ∧ (0 ≤ adV n ds v (fnS op m s) d ∧ adV n ds v (fnS op m s) d ≤ 20000) := by
  have hop : ∀ k, k < m → op k < n := fun k hk => (hI.1 k hk).2.1
  have e1 : adV n ds v (fnS op m s) d = sm (fun k => (if ds (op k) = (d : Int) then v (op k) else 0) * ((bt s k : Nat) : Int)) m := by
    have := fn_sum (op := op) (m := m) (s := s) (n := n) (h := fun f => if ds f = (d : Int) then v f else 0) hop
    rw [← this]
    unfold adV
    refine sm_ext n (fun f hf => ?_)
    split
    · rw [Int.mul_comm]
    · rw [Int.zero_mul]
  have hb : ∀ f, f < n → 0 ≤ (if ds f = (d : Int) then fnS op m s f * v f else 0) ∧ (if ds f = (d : Int) then fnS op m s f * v f else 0) ≤ 1000 := fun f hf => by
    have hvf := hv f
    split
    · rcases fn_sbs (s := s) hI f with q | q
      · rw [q, Int.zero_mul]; omega
      · rw [q.1, Int.one_mul]; omega
    · omega
  have b0 : 0 ≤ adV n ds v (fnS op m s) d := sm_nn n (fun f hf => (hb f hf).1)
  have b1 : adV n ds v (fnS op m s) d ≤ 1000 * n := sm_b n (fun f hf => (hb f hf).2)
  refine ⟨?_, b0, by omega⟩
  rw [← w64_eq (x := adV n ds v (fnS op m s) d) (by omega) (by omega), e1]
  unfold adR
  refine w64_sm m (fun k hk => ?_)
  have hbk := bt_b s k
  have hvk := hv (op k)
  by_cases c : ds (op k) = (d : Int)
  · by_cases q : bt s k = 1
    · rw [if_pos ⟨q, c⟩, if_pos c, q, hu _ (hop k hk), show ((1 : Nat) : Int) = 1 from rfl, Int.mul_one, w64_eq (by omega) (by omega)]
    · rw [if_neg (fun h => q h.1), if_pos c, show bt s k = 0 by omega, show ((0 : Nat) : Int) = 0 from rfl, Int.mul_zero]
  · rw [if_neg (fun h => c h.2), if_neg c, Int.zero_mul]
/-- a set is added, looked at and taken back -/
theorem hg_try {n m s : Nat} {fr ds v x : Nat → Int} {op : Nat → Nat} {M : Mem} (hn : n ≤ 20) (hI : OpI fr n m op M) (hs : s < 2147483648) (hv : ∀ f, 0 ≤ v f ∧ v f ≤ 1000) (hu : ∀ f, f < n → w64 (M 177 f) = v f) (h115 : ∀ f, f < n → M 115 f = ds f ∧ (0 ≤ ds f ∧ ds f ≤ 5)) (hx : ∀ d, d < 6 → x d = w64 (M 175 d) - w64 (M 176 d)) (hb : ∀ d, d < 6 → (0 ≤ w64 (M 175 d) ∧ w64 (M 175 d) ≤ 20000) ∧ (0 ≤ w64 (M 176 d) ∧ w64 (M 176 d) ≤ 20000)) :
    ∃ (M1 : Mem) (t : Int), d_Mo_add (s : Int) (m : Int) (if 0 < whS x 6 then 1 else 0) 1 M = some (0, M1) ∧ d_Mo_isFor M1 = some (t, M1) ∧ d_Mo_add (s : Int) (m : Int) (if 0 < whS x 6 then 1 else 0) (-1) M1 = some (0, M) ∧ (t = 0 ∨ t = 1) ∧ (t = (if 0 < whS x 6 then 1 else 0) ↔ ¬ trn n ds v (fun d => if 0 < whS x 6 then - x d else x d) (if 0 < whS x 6 then 0 else 1) (fnS op m s)) := by
  have hm : m ≤ 20 := by have := hI.2.2.2; omega
  have hop : ∀ k, k < m → M 173 k = (op k : Int) ∧ op k < 20 ∧ (0 ≤ M 115 (op k) ∧ M 115 (op k) ≤ 5) := fun k hk => by
    obtain ⟨q1, q2, q3⟩ := hI.1 k hk
    have := h115 (op k) q2
    exact ⟨q1, by omega, by rw [this.1]; exact this.2⟩
  have eA : ∀ d, w64 (adR op (M 115) (M 177) s d m) = adV n ds v (fnS op m s) d ∧ (0 ≤ adV n ds v (fnS op m s) d ∧ adV n ds v (fnS op m s) d ≤ 20000) := fun d => by
    have e : adV n ds v (fnS op m s) d = adV n (M 115) v (fnS op m s) d := by
      unfold adV
      exact sm_ext n (fun f hf => by rw [(h115 f hf).1])
    rw [e]
    exact adR_w hn hI hv hu d
  have w1 : w32 1 = 1 := rfl
  have wm : w32 (-1) = -1 := rfl
  by_cases c : 0 < whS x 6
  · rw [if_pos c]
    have a1 := s_addA (sg := 1) hs hm hop
    have hop2 : ∀ k, k < m → sc M 176 (fun d => M 176 d + w32 1 * adR op (M 115) (M 177) s d m) 173 k = (op k : Int) ∧ op k < 20 ∧ (0 ≤ sc M 176 (fun d => M 176 d + w32 1 * adR op (M 115) (M 177) s d m) 115 (op k) ∧ sc M 176 (fun d => M 176 d + w32 1 * adR op (M 115) (M 177) s d m) 115 (op k) ≤ 5) := fun k hk => by
      rw [sc_r (show 173 ≠ 176 by decide), sc_r (show 115 ≠ 176 by decide)]; exact hop k hk
    have a2 := s_addA (sg := -1) hs hm hop2
    rw [sc_r (show 115 ≠ 176 by decide), sc_r (show 177 ≠ 176 by decide), sc_e, sc_sc] at a2
    have e2 : (fun d => M 176 d + w32 1 * adR op (M 115) (M 177) s d m + w32 (-1) * adR op (M 115) (M 177) s d m) = M 176 := by
      funext d; rw [w1, wm, Int.one_mul]; omega
    rw [e2, sc_0] at a2
    have ex : whS (fun d => x d - adV n ds v (fnS op m s) d) 6 = - whS (fun d => (if 0 < whS x 6 then - x d else x d) + adV n ds v (fnS op m s) d) 6 := by
      rw [← whS_neg]
      refine whS_c 6 (fun d hd => ?_)
      rw [if_pos c]; omega
    refine ⟨_, _, a1, s_isFor (x := fun d => x d - adV n ds v (fnS op m s) d) (fun d hd => ?_), a2, by split <;> simp, ?_⟩
    · rw [sc_r (show 175 ≠ 176 by decide), sc_e, w1, Int.one_mul, w64_add (x := M 176 d), (eA d).1]
      have := eA d; have := hb d hd; have := hx d hd
      rw [w64_eq (x := w64 (M 176 d) + _) (by omega) (by omega)]
      omega
    · unfold trn
      rw [ex, if_pos c]
      generalize whS (fun d => (if 0 < whS x 6 then - x d else x d) + adV n ds v (fnS op m s) d) 6 = q
      by_cases r : 0 < -q
      · rw [if_pos r]; exact ⟨fun _ h => by omega, fun _ => rfl⟩
      · rw [if_neg r]; exact ⟨fun h => by omega, fun h => absurd (show ((0 : Nat) : Int) ≤ q by omega) h⟩
  · rw [if_neg c]
    have a1 := s_addF (sg := 1) hs hm hop
    have hop2 : ∀ k, k < m → sc M 175 (fun d => M 175 d + w32 1 * adR op (M 115) (M 177) s d m) 173 k = (op k : Int) ∧ op k < 20 ∧ (0 ≤ sc M 175 (fun d => M 175 d + w32 1 * adR op (M 115) (M 177) s d m) 115 (op k) ∧ sc M 175 (fun d => M 175 d + w32 1 * adR op (M 115) (M 177) s d m) 115 (op k) ≤ 5) := fun k hk => by
      rw [sc_r (show 173 ≠ 175 by decide), sc_r (show 115 ≠ 175 by decide)]; exact hop k hk
    have a2 := s_addF (sg := -1) hs hm hop2
    rw [sc_r (show 115 ≠ 175 by decide), sc_r (show 177 ≠ 175 by decide), sc_e, sc_sc] at a2
    have e2 : (fun d => M 175 d + w32 1 * adR op (M 115) (M 177) s d m + w32 (-1) * adR op (M 115) (M 177) s d m) = M 175 := by
      funext d; rw [w1, wm, Int.one_mul]; omega
    rw [e2, sc_0] at a2
    have ex : whS (fun d => x d + adV n ds v (fnS op m s) d) 6 = whS (fun d => (if 0 < whS x 6 then - x d else x d) + adV n ds v (fnS op m s) d) 6 := by
      refine whS_c 6 (fun d hd => ?_)
      rw [if_neg c]
    refine ⟨_, _, a1, s_isFor (x := fun d => x d + adV n ds v (fnS op m s) d) (fun d hd => ?_), a2, by split <;> simp, ?_⟩
    · rw [sc_r (show 176 ≠ 175 by decide), sc_e, w1, Int.one_mul, w64_add (x := M 175 d), (eA d).1]
      have := eA d; have := hb d hd; have := hx d hd
      rw [w64_eq (x := w64 (M 175 d) + _) (by omega) (by omega)]
      omega
    · unfold trn
      rw [ex, if_neg c]
      generalize whS (fun d => (if 0 < whS x 6 then - x d else x d) + adV n ds v (fnS op m s) d) 6 = q
      by_cases r : 0 < q
      · rw [if_pos r]; exact ⟨fun h => by omega, fun h => absurd (show ((1 : Nat) : Int) ≤ q by omega) h⟩
      · rw [if_neg r]; exact ⟨fun _ h => by omega, fun _ => rfl⟩
/-- the best of the sets below s -/
def BsI (T : Nat → Prop) (m s : Nat) (b z : Int) : Prop := (b = -1 ∧ z = (m : Int) + 1 ∧ ∀ u, u < s → ¬ T u) ∨ ∃ c : Nat, b = (c : Int) ∧ z = ((pcN c m : Nat) : Int) ∧ c < s ∧ T c ∧ ∀ u, u < s → T u → pcN c m ≤ pcN u m ∧ (pcN u m = pcN c m → c ≤ u)
theorem pcN_le {x : Nat} : ∀ m : Nat, pcN x m ≤ m
  | 0 => Nat.le_refl _
  | m + 1 => by
    have h := pcN_le (x := x) m
    have h2 := bt_b x m
    show pcN x m + bt x m ≤ m + 1
    omega
theorem l_h89 {n m : Nat} {fr ds v x : Nat → Int} {op : Nat → Nat} {M : Mem} (hn : n ≤ 20) (hI : OpI fr n m op M) (hv : ∀ f, 0 ≤ v f ∧ v f ≤ 1000) (hu : ∀ f, f < n → w64 (M 177 f) = v f) (h115 : ∀ f, f < n → M 115 f = ds f ∧ (0 ≤ ds f ∧ ds f ≤ 5)) (hx : ∀ d, d < 6 → x d = w64 (M 175 d) - w64 (M 176 d)) (hb : ∀ d, d < 6 → (0 ≤ w64 (M 175 d) ∧ w64 (M 175 d) ≤ 20000) ∧ (0 ≤ w64 (M 176 d) ∧ w64 (M 176 d) ≤ 20000)) :
    ∀ (j fuel s : Nat) (b z : Int), s + j = 2 ^ m → j < fuel → BsI (fun s => trn n ds v (fun d => if 0 < whS x 6 then - x d else x d) (if 0 < whS x 6 then 0 else 1) (fnS op m s)) m s b z →
    Ok (fix (fun _ _ _ _ _ _ => none) k_Mo_hangs_89 fuel (if 0 < whS x 6 then 1 else 0) (m : Int) b z (s : Int) M) (fun r M' => HgS n ds v fr (fun d => if 0 < whS x 6 then - x d else x d) (if 0 < whS x 6 then 0 else 1) r ∧ M' = M) := by
  have hm : m ≤ 20 := by have := hI.2.2.2; omega
  have p20 : 2 ^ m ≤ 2 ^ 20 := Nat.pow_le_pow_right (by decide) hm
  have q20 : (2 : Nat) ^ 20 = 1048576 := by decide
  have hsl : w32 (sl32 1 (m : Int)) = ((2 ^ m : Nat) : Int) := by
    rw [(sl31_at (n := m) (by omega)).1]
    exact w32_eq (Int.le_trans (by decide) (Int.natCast_nonneg _)) (Int.ofNat_lt.mpr (show 2 ^ m < 2147483648 by omega))
  intro j; induction j with
  | zero =>
    intro fuel s b z e hf hB
    obtain ⟨fu, rfl⟩ : ∃ fu, fuel = fu + 1 := ⟨fuel - 1, by omega⟩
    rw [fix_s]; unfold k_Mo_hangs_89
    refine ok_f (by rw [hsl, w32_eq (by omega) (by omega)]; omega) ?_
    have es : s = 2 ^ m := by omega
    subst es
    rcases hB with ⟨h1, h2, h3⟩ | ⟨c, h1, h2, h3, h4, h5⟩
    · rw [h1]
      refine ok_t (by decide) (ok_ret ⟨Or.inl ⟨rfl, fun a ha ht => ?_⟩, rfl⟩)
      obtain ⟨s, s1, s2⟩ := fn_of hI ha
      exact h3 s s1 (trn_c (fun f hf => (s2 f hf).symm) ht)
    · rw [h1]
      refine ok_f (by rw [w32_eq (by omega) (by omega)]; omega) ?_
      have q := l_h166 (b := c) hn hI (by omega) m FU 0 0 (by omega) (by unfold FU; omega) rfl (fun k _ _ => Nat.two_pow_pos _)
      rw [show ((0 : Nat) : Int) = 0 from rfl] at q
      refine ⟨_, _, q, ?_, rfl⟩
      rw [← numS_fn hI]
      exact mdl_ok hI h3 h4 h5
  | succ j ih =>
    intro fuel s b z e hf hB
    have hj : (s : Int) + 1 = ((s + 1 : Nat) : Int) := by omega
    obtain ⟨fu, rfl⟩ : ∃ fu, fuel = fu + 1 := ⟨fuel - 1, by omega⟩
    have ebc : bcS (s : Int) = ((pcN s m : Nat) : Int) := by
      rw [bc_20 (by omega)]
      have := pcN_m (s := s) (m := m) (by omega) (24 - m)
      rw [show m + (24 - m) = 24 by omega] at this
      rw [this]
    have hbc : d_In_bitCount (s : Int) M = some (((pcN s m : Nat) : Int), M) := by rw [s_bitCount, ebc]
    have pl := pcN_le (x := s) m
    obtain ⟨M1, t, t1, t2, t3, t4, t5⟩ := hg_try (s := s) hn hI (by omega) hv hu h115 hx hb
    have hbc1 : d_In_bitCount (s : Int) M1 = some (((pcN s m : Nat) : Int), M1) := by rw [s_bitCount, ebc]
    have zb : 0 ≤ z ∧ z ≤ 21 := by
      rcases hB with ⟨h1, h2, h3⟩ | ⟨c, h1, h2, h3, h4, h5⟩
      · omega
      · have := pcN_le (x := c) m; omega
    have tw : w32 t = t := w32_eq (by omega) (by omega)
    have nw : w32 (if 0 < whS x 6 then 1 else 0) = (if 0 < whS x 6 then 1 else 0) := by split <;> rfl
    rw [fix_s]; unfold k_Mo_hangs_89
    refine ok_t (by rw [hsl, w32_eq (by omega) (by omega)]; omega) ?_
    refine ok_call_eq hbc ?_
    by_cases c1 : ((pcN s m : Nat) : Int) < z
    · refine ok_t (by rw [w32_eq (by omega) (by omega), w32_eq (by omega) (by omega)]; exact c1) ?_
      refine ok_call_eq t1 (ok_call_eq t2 ?_)
      by_cases c2 : t = (if 0 < whS x 6 then 1 else 0)
      · refine ok_t (by rw [tw, nw]; exact c2) ?_
        unfold k_Mo_hangs_138 k_Mo_hangs_147
        refine ok_call_eq t3 (ok_let ?_)
        rw [hj]
        refine ih fu (s + 1) b z (by omega) (by omega) ?_
        have nt := t5.1 c2
        rcases hB with ⟨h1, h2, h3⟩ | ⟨c, h1, h2, h3, h4, h5⟩
        · refine Or.inl ⟨h1, h2, fun u hu => ?_⟩
          by_cases r : u = s
          · rw [r]; exact nt
          · exact h3 u (by omega)
        · refine Or.inr ⟨c, h1, h2, by omega, h4, fun u hu ht => ?_⟩
          by_cases r : u = s
          · rw [r] at ht; exact absurd ht nt
          · exact h5 u (by omega) ht
      · refine ok_f (by rw [tw, nw]; exact c2) ?_
        refine ok_call_eq hbc1 ?_
        unfold k_Mo_hangs_138 k_Mo_hangs_147
        refine ok_call_eq t3 (ok_let ?_)
        rw [hj]
        refine ih fu (s + 1) _ _ (by omega) (by omega) ?_
        have yt : trn n ds v (fun d => if 0 < whS x 6 then - x d else x d) (if 0 < whS x 6 then 0 else 1) (fnS op m s) := Classical.byContradiction (fun h => c2 (t5.2 h))
        refine Or.inr ⟨s, rfl, rfl, by omega, yt, fun u hu ht => ?_⟩
        by_cases r : u = s
        · rw [r]; exact ⟨Nat.le_refl _, fun _ => Nat.le_refl _⟩
        · rcases hB with ⟨h1, h2, h3⟩ | ⟨c, h1, h2, h3, h4, h5⟩
          · exact absurd ht (h3 u (by omega))
          · have := (h5 u (by omega) ht).1
            exact ⟨by omega, fun h => by omega⟩
    · refine ok_f (by rw [w32_eq (by omega) (by omega), w32_eq (by omega) (by omega)]; exact c1) ?_
      unfold k_Mo_hangs_147
      refine ok_let ?_
      rw [hj]
      refine ih fu (s + 1) b z (by omega) (by omega) ?_
      rcases hB with ⟨h1, h2, h3⟩ | ⟨c, h1, h2, h3, h4, h5⟩
      · omega
      · refine Or.inr ⟨c, h1, h2, by omega, h4, fun u hu ht => ?_⟩
        by_cases r : u = s
        · rw [r]; exact ⟨by omega, fun _ => by omega⟩
        · exact h5 u (by omega) ht
theorem sim_hangs {F : Nat → Int → (Nat → Int) → Int} {M : Mem} {a1 : Int} (i1 : I32 a1) (hA : AskI F M) (hP : IvP M) : Simi (d_PP_hangs a1) (d_Mo_hangs a1) M (fun _ => True) := by
  obtain ⟨g1, g1'⟩ := i1
  have hp1 := hP.1
  have hp5 := hP.2.2.1
  by_cases c2 : 0 ≤ a1 ∧ a1 ≤ 519
  rotate_left
  · exact sim_no (r := -1) (code := 5) (by
      unfold d_PP_hangs d_PP_passes k_PP_passes_18 d_PP_isWeek d_PP_isIn
      repeat' (first | with_reducible refine e_let ?_ | with_reducible refine e_cs ?_ | with_reducible refine e_clet ?_ | with_reducible refine e_cc ?_ | (with_reducible refine e_chk ?_ ?_; · (first | omega | ((try simp (disch := omega) only [w32_eq, w64_eq, ix_n, ix_e, sto_n, sto_e, sto_r, zf_r, Int.toNat_natCast, true_or, or_true, eq_self]) <;> (first | omega | decide)))) | (with_reducible refine e_cchk ?_ ?_; · (first | omega | ((try simp (disch := omega) only [w32_eq, w64_eq, ix_n, ix_e, sto_n, sto_e, sto_r, zf_r, Int.toNat_natCast, true_or, or_true, eq_self]) <;> (first | omega | decide)))) | (with_reducible refine e_t ?_ ?_; · (first | omega | ((try simp (disch := omega) only [w32_eq, w64_eq, ix_n, ix_e, sto_n, sto_e, sto_r, zf_r, Int.toNat_natCast, true_or, or_true, eq_self]) <;> (first | omega | decide)))) | (with_reducible refine e_f ?_ ?_; · (first | omega | ((try simp (disch := omega) only [w32_eq, w64_eq, ix_n, ix_e, sto_n, sto_e, sto_r, zf_r, Int.toNat_natCast, true_or, or_true, eq_self]) <;> (first | omega | decide)))) | (with_reducible refine e_ct ?_ ?_; · (first | omega | ((try simp (disch := omega) only [w32_eq, w64_eq, ix_n, ix_e, sto_n, sto_e, sto_r, zf_r, Int.toNat_natCast, true_or, or_true, eq_self]) <;> (first | omega | decide)))) | (with_reducible refine e_cf ?_ ?_; · (first | omega | ((try simp (disch := omega) only [w32_eq, w64_eq, ix_n, ix_e, sto_n, sto_e, sto_r, zf_r, Int.toNat_natCast, true_or, or_true, eq_self]) <;> (first | omega | decide)))) | ((with_reducible refine e_sp (fun h => ?_) (fun h => ?_)) <;> (try simp (disch := omega) only [w32_eq, w64_eq, ix_n, ix_e, sto_n, sto_e, sto_r, zf_r, Int.toNat_natCast] at h)) | ((with_reducible refine e_csp (fun h => ?_) (fun h => ?_)) <;> (try simp (disch := omega) only [w32_eq, w64_eq, ix_n, ix_e, sto_n, sto_e, sto_r, zf_r, Int.toNat_natCast] at h)))
      all_goals first | with_reducible rfl | (simp only [sto_sto]; done) | (simp only [sto_sto, wl_m1]; done) | (exfalso; omega) | skip) (by
      unfold d_Mo_hangs k_Mo_hangs_38 k_Mo_hangs_89 k_Mo_hangs_166 k_Mo_hangs_138 k_Mo_hangs_147 k_Mo_hangs_72 d_Mo_refuse d_Mo_isDay d_Mo_isIn
      repeat' (first | with_reducible refine e_let ?_ | with_reducible refine e_cs ?_ | with_reducible refine e_clet ?_ | with_reducible refine e_cc ?_ | (with_reducible refine e_chk ?_ ?_; · (first | omega | ((try simp (disch := omega) only [w32_eq, w64_eq, ix_n, ix_e, sto_n, sto_e, sto_r, zf_r, Int.toNat_natCast, true_or, or_true, eq_self]) <;> (first | omega | decide)))) | (with_reducible refine e_cchk ?_ ?_; · (first | omega | ((try simp (disch := omega) only [w32_eq, w64_eq, ix_n, ix_e, sto_n, sto_e, sto_r, zf_r, Int.toNat_natCast, true_or, or_true, eq_self]) <;> (first | omega | decide)))) | (with_reducible refine e_t ?_ ?_; · (first | omega | ((try simp (disch := omega) only [w32_eq, w64_eq, ix_n, ix_e, sto_n, sto_e, sto_r, zf_r, Int.toNat_natCast, true_or, or_true, eq_self]) <;> (first | omega | decide)))) | (with_reducible refine e_f ?_ ?_; · (first | omega | ((try simp (disch := omega) only [w32_eq, w64_eq, ix_n, ix_e, sto_n, sto_e, sto_r, zf_r, Int.toNat_natCast, true_or, or_true, eq_self]) <;> (first | omega | decide)))) | (with_reducible refine e_ct ?_ ?_; · (first | omega | ((try simp (disch := omega) only [w32_eq, w64_eq, ix_n, ix_e, sto_n, sto_e, sto_r, zf_r, Int.toNat_natCast, true_or, or_true, eq_self]) <;> (first | omega | decide)))) | (with_reducible refine e_cf ?_ ?_; · (first | omega | ((try simp (disch := omega) only [w32_eq, w64_eq, ix_n, ix_e, sto_n, sto_e, sto_r, zf_r, Int.toNat_natCast, true_or, or_true, eq_self]) <;> (first | omega | decide)))) | ((with_reducible refine e_sp (fun h => ?_) (fun h => ?_)) <;> (try simp (disch := omega) only [w32_eq, w64_eq, ix_n, ix_e, sto_n, sto_e, sto_r, zf_r, Int.toNat_natCast] at h)) | ((with_reducible refine e_csp (fun h => ?_) (fun h => ?_)) <;> (try simp (disch := omega) only [w32_eq, w64_eq, ix_n, ix_e, sto_n, sto_e, sto_r, zf_r, Int.toNat_natCast] at h)))
      all_goals first | with_reducible rfl | (simp only [sto_sto]; done) | (simp only [sto_sto, wl_m1]; done) | (exfalso; omega) | skip) trivial
  obtain ⟨n, en⟩ : ∃ n : Nat, M 111 5 = (n : Int) := ⟨(M 111 5).toNat, by omega⟩
  have hn : n ≤ 20 := by omega
  have en' : (M 111 5).toNat = n := by omega
  have row := fun (f : Nat) (hf : f < n) => hP.2.2.2.2.1 f (by omega)
  have hv := fun f => vt_b hA a1 f
  have hm : ∀ d : Nat, (0 ≤ fvN F M a1 d n ∧ fvN F M a1 d n ≤ 20000) ∧ (0 ≤ agN F M a1 d n ∧ agN F M a1 d n ≤ 20000) := fun d => by
    have := fv_b hA a1 d n
    omega
  have frE : ∀ X : Mem, X 12 = M 12 → frS X n = frS M n := fun X h => by unfold frS; rw [h]
  obtain ⟨v, M1, e1, ⟨h1, h2⟩, h3⟩ : Ok (d_PP_hangs a1 M) (fun v M1 => (HgS n (M 115) (vtS F M a1) (frS M n) (fun d => if 0 < whS (mgS F M a1) 6 then - mgS F M a1 d else mgS F M a1 d) (if 0 < whS (mgS F M a1) 6 then 0 else 1) v ∧ M1 0 0 = 0) ∧ Fr [34, 35, 36, 37, 38, 104, 105, 106, 107, 108, 109, 110] [(0, 0), (32, 2), (32, 8)] M M1) := by
    refine ok_fr ?_ (fun r hr => w_PP_hangs hr)
    have hct := s_count (M := sto M 0 0 0) hA hP c2 fr00
    unfold d_PP_hangs d_PP_passes k_PP_passes_18 d_PP_isWeek d_PP_isIn
    repeat (first | with_reducible refine ok_let ?_ | with_reducible refine ok_cs ?_ | with_reducible refine ok_clet ?_ | with_reducible refine ok_cc ?_ | (with_reducible refine ok_chk ?_ ?_; · (first | omega | ((try simp (disch := omega) only [w32_eq, w64_eq, ix_n, ix_e, sto_n, sto_e, sto_r, zf_r, Int.toNat_natCast, true_or, or_true, eq_self]) <;> (first | omega | decide)))) | (with_reducible refine ok_cchk ?_ ?_; · (first | omega | ((try simp (disch := omega) only [w32_eq, w64_eq, ix_n, ix_e, sto_n, sto_e, sto_r, zf_r, Int.toNat_natCast, true_or, or_true, eq_self]) <;> (first | omega | decide)))) | (with_reducible refine ok_t ?_ ?_; · (first | omega | ((try simp (disch := omega) only [w32_eq, w64_eq, ix_n, ix_e, sto_n, sto_e, sto_r, zf_r, Int.toNat_natCast, true_or, or_true, eq_self]) <;> (first | omega | decide)))) | (with_reducible refine ok_f ?_ ?_; · (first | omega | ((try simp (disch := omega) only [w32_eq, w64_eq, ix_n, ix_e, sto_n, sto_e, sto_r, zf_r, Int.toNat_natCast, true_or, or_true, eq_self]) <;> (first | omega | decide)))) | (with_reducible refine ok_ct ?_ ?_; · (first | omega | ((try simp (disch := omega) only [w32_eq, w64_eq, ix_n, ix_e, sto_n, sto_e, sto_r, zf_r, Int.toNat_natCast, true_or, or_true, eq_self]) <;> (first | omega | decide)))) | (with_reducible refine ok_cf ?_ ?_; · (first | omega | ((try simp (disch := omega) only [w32_eq, w64_eq, ix_n, ix_e, sto_n, sto_e, sto_r, zf_r, Int.toNat_natCast, true_or, or_true, eq_self]) <;> (first | omega | decide)))))
    refine ok_call hct (fun v X h => ?_)
    have hF : Fr [34, 35, 36, 37, 38, 104, 105] [(0, 0), (32, 2), (32, 8)] M X := Fr.trans (fr00.mono (by decide) (by decide)) (h.2.mono (by decide) (by decide))
    have h00 : X 0 0 = 0 := by rw [h.2.f 0 0 (by decide) (by decide), sto_e]
    refine ok_call (s_least (n := n) (ds := M 115) (v := vtS F M a1) (x := mgS F M a1) hn (by rw [hF.f 5 0 (by decide) (by decide), hp5, en]) hv (fun f hf => h.1.1 f (by omega)) (fun f hf => ?_) (fun f hf => ?_) (fun d hd => ⟨h.1.2 d hd, ?_⟩)) (fun r Y hy => ?_)
    · rw [hF.c 6 (by decide) (by decide)]
      have := row f hf
      omega
    · rw [hF.c 12 (by decide) (by decide)]
      have := row f hf
      omega
    · have := hm d
      unfold mgS; rw [en']; omega
    · rw [frE X (hF.c 12 (by decide) (by decide))] at hy
      exact ok_ret ⟨hy.1, by rw [hy.2]; exact h00⟩
  have hF : Fr [34, 35, 36, 37, 38, 104, 105, 106, 107, 108, 109, 110] [(0, 0), (32, 2), (32, 8), (111, 0), (111, 1)] M (sto (sto M1 111 1 0) 111 0 0) := Fr.trans (h3.mono (by decide) (by decide)) (Fr.trans (fr_stoF (by decide)) (fr_stoF (by decide)))
  have ag := hF.ag (L := voL) (K := [(111, 5)]) (by decide) (by decide)
  have hfv := s_findVotes (hA.on (hF.ag (by decide) (by decide))) (hP.on hF (by decide) (by decide)) c2
  obtain ⟨w, M2, e2, h4, h5⟩ : Ok (d_Mo_hangs a1 M1) (fun v M2 => HgS n (M 115) (vtS F M a1) (frS M n) (fun d => if 0 < whS (mgS F M a1) 6 then - mgS F M a1 d else mgS F M a1 d) (if 0 < whS (mgS F M a1) 6 then 0 else 1) v ∧ M2 0 0 = M2 111 0) := by
    unfold d_Mo_hangs k_Mo_hangs_38 k_Mo_hangs_89 k_Mo_hangs_166 k_Mo_hangs_138 k_Mo_hangs_147 k_Mo_hangs_72 d_Mo_refuse d_Mo_isDay d_Mo_isIn
    repeat (first | with_reducible refine ok_let ?_ | with_reducible refine ok_cs ?_ | with_reducible refine ok_clet ?_ | with_reducible refine ok_cc ?_ | (with_reducible refine ok_chk ?_ ?_; · (first | omega | ((try simp (disch := omega) only [w32_eq, w64_eq, ix_n, ix_e, sto_n, sto_e, sto_r, zf_r, Int.toNat_natCast, true_or, or_true, eq_self]) <;> (first | omega | decide)))) | (with_reducible refine ok_cchk ?_ ?_; · (first | omega | ((try simp (disch := omega) only [w32_eq, w64_eq, ix_n, ix_e, sto_n, sto_e, sto_r, zf_r, Int.toNat_natCast, true_or, or_true, eq_self]) <;> (first | omega | decide)))) | (with_reducible refine ok_t ?_ ?_; · (first | omega | ((try simp (disch := omega) only [w32_eq, w64_eq, ix_n, ix_e, sto_n, sto_e, sto_r, zf_r, Int.toNat_natCast, true_or, or_true, eq_self]) <;> (first | omega | decide)))) | (with_reducible refine ok_f ?_ ?_; · (first | omega | ((try simp (disch := omega) only [w32_eq, w64_eq, ix_n, ix_e, sto_n, sto_e, sto_r, zf_r, Int.toNat_natCast, true_or, or_true, eq_self]) <;> (first | omega | decide)))) | (with_reducible refine ok_ct ?_ ?_; · (first | omega | ((try simp (disch := omega) only [w32_eq, w64_eq, ix_n, ix_e, sto_n, sto_e, sto_r, zf_r, Int.toNat_natCast, true_or, or_true, eq_self]) <;> (first | omega | decide)))) | (with_reducible refine ok_cf ?_ ?_; · (first | omega | ((try simp (disch := omega) only [w32_eq, w64_eq, ix_n, ix_e, sto_n, sto_e, sto_r, zf_r, Int.toNat_natCast, true_or, or_true, eq_self]) <;> (first | omega | decide)))))
    refine ok_call hfv (fun v Y h => ?_)
    have h00 : Y 0 0 = Y 111 0 := by rw [h.2.f 0 0 (by decide) (by decide), h.2.f 111 0 (by decide) (by decide), sto_e, sto_r (by decide), sto_r (by decide)]; exact h2
    have y175 : ∀ d : Nat, d < 6 → w64 (Y 175 d) = fvN F M a1 d n ∧ w64 (Y 176 d) = agN F M a1 d n := fun d hd => by
      have := h.1.2 d hd
      rw [(fvN_ag ag).1, (fvN_ag ag).2, ag.f 111 5 (by decide), en'] at this
      exact this
    have hmx : ∀ d, d < 6 → mgS F M a1 d = w64 (Y 175 d) - w64 (Y 176 d) := fun d hd => by
      rw [(y175 d hd).1, (y175 d hd).2]; unfold mgS; rw [en']
    have y5 : Y 111 5 = (n : Int) := by rw [h.2.f 111 5 (by decide) (by decide), ag.f 111 5 (by decide), en]
    have y166 : Y 166 = M 166 := by rw [h.2.c 166 (by decide) (by decide), ag.c 166 (by decide)]
    have y115 : Y 115 = M 115 := by rw [h.2.c 115 (by decide) (by decide), ag.c 115 (by decide)]
    have y177 : ∀ f, f < n → w64 (Y 177 f) = vtS F M a1 f := fun f hf => by
      have := h.1.1 f (by rw [ag.f 111 5 (by decide), en]; omega)
      rw [vtS_ag ag] at this; exact this
    refine ok_call_eq (s_isFor hmx) ?_
    refine l_h38 (n := n) (fr := frS M n) (B := Y) hn y5 (fun f hf => ?_) (fun Z m op hZ hI => ?_) n FU 0 0 (fun _ => 0) Y (by omega) (by unfold FU; omega) Fr.rfl' ⟨fun k hk => by omega, fun i k _ hk => by omega, fun h hh => by omega, by omega⟩
    · rw [y166]
      have r := row f hf
      unfold frS
      by_cases c : M 12 f = -1
      · rw [if_pos ⟨hf, c⟩]; exact Or.inl ⟨by omega, rfl⟩
      · rw [if_neg (fun q => c q.2)]; exact Or.inr ⟨by omega, rfl⟩
    · have z1 : ∀ c, c ≠ 173 → Z c = Y c := fun c hc => hZ.c c (by simp [hc]) (by simp)
      refine ok_mono (l_h89 (n := n) (m := m) (fr := frS M n) (ds := M 115) (v := vtS F M a1) (x := mgS F M a1) (op := op) (M := Z) hn hI hv (fun f hf => ?_) (fun f hf => ?_) (fun d hd => ?_) (fun d hd => ?_) (2 ^ m - 1) FU 1 (-1) ((m : Int) + 1) ?_ ?_ (Or.inl ⟨rfl, rfl, fun u hu ht => ?_⟩)) (fun r Z' hz => ⟨hz.1, ?_⟩)
      · rw [z1 177 (by decide)]; exact y177 f hf
      · rw [z1 115 (by decide), y115]
        have := row f hf
        exact ⟨rfl, by omega⟩
      · rw [z1 175 (by decide), z1 176 (by decide)]; exact hmx d hd
      · rw [z1 175 (by decide), z1 176 (by decide), (y175 d hd).1, (y175 d hd).2]; exact hm d
      · have := Nat.two_pow_pos m; omega
      · have hmm : m ≤ 20 := by have := hI.2.2.2; omega
        have : 2 ^ m ≤ 2 ^ 20 := Nat.pow_le_pow_right (by decide) hmm
        have : (2 : Nat) ^ 20 = 1048576 := by decide
        unfold FU; omega
      · have u0 : u = 0 := by omega
        subst u0
        have ez : ∀ f, fnS op m 0 f = 0 := fun f => sm_0 m (fun k hk => by
          show (if op k = f then ((bt 0 k : Nat) : Int) else 0) = 0
          have : bt 0 k = 0 := by unfold bt; rw [Nat.zero_div]
          rw [this]; split <;> rfl)
        have ea : ∀ d, adV n (M 115) (vtS F M a1) (fnS op m 0) d = 0 := fun d => sm_0 n (fun f _ => by
          show (if M 115 f = (d : Int) then fnS op m 0 f * vtS F M a1 f else 0) = 0
          rw [ez f, Int.zero_mul]; split <;> rfl)
        unfold trn at ht
        by_cases c : 0 < whS (mgS F M a1) 6
        · have : whS (fun d => (if 0 < whS (mgS F M a1) 6 then - mgS F M a1 d else mgS F M a1 d) + adV n (M 115) (vtS F M a1) (fnS op m 0) d) 6 = - whS (mgS F M a1) 6 := by
            rw [← whS_neg]
            exact whS_c 6 (fun d hd => by rw [ea d, if_pos c]; omega)
          rw [this, if_pos c] at ht
          omega
        · have : whS (fun d => (if 0 < whS (mgS F M a1) 6 then - mgS F M a1 d else mgS F M a1 d) + adV n (M 115) (vtS F M a1) (fnS op m 0) d) 6 = whS (mgS F M a1) 6 := by
            exact whS_c 6 (fun d hd => by rw [ea d, if_neg c]; omega)
          rw [this, if_neg c] at ht
          omega
      · rw [hz.2, z1 0 (by decide), z1 111 (by decide)]; exact h00
  exact ⟨_, _, _, _, e1, e2, by rw [HgS_u h1 h4], h5, trivial⟩
