/-! wheat sent: the component finds the ways -/
def dC (m : Nat) (M : Mem) : Nat → Int := fun v => if v < m then M 71 v else M 73 (v - m)
def vC (m : Nat) (M : Mem) : Nat → Int := fun v => if v < m then (if M 72 v = -1 then -1 else if M 72 v < 0 then -2 else M 72 v + m) else M 74 (v - m)
def stC (m : Nat) (M : Mem) : (Nat → Int) × (Nat → Int) := (dC m M, vC m M)
theorem dC_b {m b : Nat} {M : Mem} (h : b < m) : dC m M b = M 71 b := by unfold dC; rw [if_pos h]
theorem dC_o {m o : Nat} {M : Mem} : dC m M (m + o) = M 73 o := by unfold dC; rw [if_neg (by omega), show m + o - m = o by omega]
theorem vC_o {m o : Nat} {M : Mem} : vC m M (m + o) = M 74 o := by unfold vC; rw [if_neg (by omega), show m + o - m = o by omega]
theorem vC_b {m b : Nat} {M : Mem} (h : b < m) : vC m M b = (if M 72 b = -1 then -1 else if M 72 b < 0 then -2 else M 72 b + m) := by unfold vC; rw [if_pos h]
theorem st_o {m o x : Nat} {M : Mem} {v : Int} : stC m (sto (sto M 73 o v) 74 o (x : Int)) = (up (dC m M) (m + o) v, up (vC m M) (m + o) (x : Int)) := by
  unfold stC
  refine Prod.ext (funext fun z => ?_) (funext fun z => ?_)
  · show dC m _ z = up (dC m M) (m + o) v z
    unfold dC
    rw [sto_r (show 71 ≠ 74 by decide), sto_r (show 71 ≠ 73 by decide), sto_r (show 73 ≠ 74 by decide), sto_up]
    unfold up
    dsimp only
    by_cases c : z < m
    · rw [if_pos c, if_neg (show ¬ z = m + o by omega), if_pos c]
    · rw [if_neg c]
      by_cases d : z = m + o
      · rw [if_pos d, if_pos (by omega)]
      · rw [if_neg d, if_neg (by omega), if_neg c]
  · show vC m _ z = up (vC m M) (m + o) (x : Int) z
    unfold vC
    rw [sto_r (show 72 ≠ 74 by decide), sto_r (show 72 ≠ 73 by decide), sto_up, sto_r (show 74 ≠ 73 by decide)]
    unfold up
    dsimp only
    by_cases c : z < m
    · rw [if_pos c, if_neg (show ¬ z = m + o by omega), if_pos c]
    · rw [if_neg c]
      by_cases d : z = m + o
      · rw [if_pos d, if_pos (by omega)]
      · rw [if_neg d, if_neg (by omega), if_neg c]
theorem st_b {m b o : Nat} {M : Mem} {v : Int} (hb : b < m) : stC m (sto (sto M 71 b v) 72 b (o : Int)) = (up (dC m M) b v, up (vC m M) b ((m + o : Nat) : Int)) := by
  unfold stC
  refine Prod.ext (funext fun z => ?_) (funext fun z => ?_)
  · show dC m _ z = up (dC m M) b v z
    unfold dC
    rw [sto_r (show 71 ≠ 72 by decide), sto_up, sto_r (show 73 ≠ 72 by decide), sto_r (show 73 ≠ 71 by decide)]
    unfold up
    dsimp only
    by_cases c : z < m
    · rw [if_pos c]
      by_cases d : z = b
      · rw [if_pos d, if_pos d]
      · rw [if_neg d, if_neg d, if_pos c]
    · rw [if_neg c, if_neg (show ¬ z = b by omega), if_neg c]
  · show vC m _ z = up (vC m M) b ((m + o : Nat) : Int) z
    unfold vC
    rw [sto_up, sto_r (show 72 ≠ 71 by decide), sto_r (show 74 ≠ 72 by decide), sto_r (show 74 ≠ 71 by decide)]
    unfold up
    dsimp only
    by_cases c : z < m
    · rw [if_pos c]
      by_cases d : z = b
      · rw [if_pos d, if_pos d, if_neg (by omega), if_neg (by omega)]; omega
      · rw [if_neg d, if_neg d, if_pos c]
    · rw [if_neg c, if_neg (show ¬ z = b by omega), if_neg c]
theorem s_go65 {m r b o k : Nat} {M : Mem} {a4 : Int} (hmr : m ≤ 5 ∧ r ≤ 4) (hb : b < m) (ho : o < r) (hk : k < 20) (ha : a4 = 0 ∨ a4 = 1) (hc : 0 ≤ M 69 k ∧ M 69 k ≤ 100) (hf : 0 ≤ M 70 k ∧ M 70 k ≤ 30) (h1 : 0 ≤ M 71 b ∧ M 71 b ≤ 1000000) (h2 : 0 ≤ M 73 o ∧ M 73 o ≤ 1000000) :
    Ok (k_Ya_goOn_65 (b : Int) (o : Int) (k : Int) a4 M) (fun g M' => (g = 0 ∨ g = 1) ∧ (g = 0 → a4 = 0 ∧ M' = M ∧ (0 < M 70 k → dC m M b ≤ dC m M (m + o) - M 69 k)) ∧ stC m M' = (if 0 < M 70 k then rl 1000001 (m + o) b (- M 69 k) (stC m M) else stC m M)) := by
  have eb : ix (b : Int) = b := ix_n (by omega)
  have eo : ix (o : Int) = o := ix_n (by omega)
  have ek : ix (k : Int) = k := ix_n (by omega)
  have s1 : (stC m M).1 b = M 71 b := dC_b hb
  have s2 : (stC m M).1 (m + o) = M 73 o := dC_o
  unfold k_Ya_goOn_65
  by_cases c1 : 0 < M 70 k
  · rw [if_pos c1]
    unfold rl
    rw [s1, s2]
    by_cases c2 : M 73 o - M 69 k < M 71 b
    · rw [if_pos ⟨by omega, by omega⟩]
      repeat (first | with_reducible refine ok_let ?_ | with_reducible refine ok_cs ?_ | with_reducible refine ok_clet ?_ | with_reducible refine ok_cc ?_ | (with_reducible refine ok_chk ?_ ?_; · (first | omega | ((try simp (disch := omega) only [w32_eq, w64_eq, ix_n, ix_e, sto_n, sto_e, sto_r, zf_r, Int.toNat_natCast, true_or, or_true, eq_self, ek, eb, eo]) <;> (first | omega | decide)))) | (with_reducible refine ok_cchk ?_ ?_; · (first | omega | ((try simp (disch := omega) only [w32_eq, w64_eq, ix_n, ix_e, sto_n, sto_e, sto_r, zf_r, Int.toNat_natCast, true_or, or_true, eq_self, ek, eb, eo]) <;> (first | omega | decide)))) | (with_reducible refine ok_t ?_ ?_; · (first | omega | ((try simp (disch := omega) only [w32_eq, w64_eq, ix_n, ix_e, sto_n, sto_e, sto_r, zf_r, Int.toNat_natCast, true_or, or_true, eq_self, ek, eb, eo]) <;> (first | omega | decide)))) | (with_reducible refine ok_f ?_ ?_; · (first | omega | ((try simp (disch := omega) only [w32_eq, w64_eq, ix_n, ix_e, sto_n, sto_e, sto_r, zf_r, Int.toNat_natCast, true_or, or_true, eq_self, ek, eb, eo]) <;> (first | omega | decide)))) | (with_reducible refine ok_ct ?_ ?_; · (first | omega | ((try simp (disch := omega) only [w32_eq, w64_eq, ix_n, ix_e, sto_n, sto_e, sto_r, zf_r, Int.toNat_natCast, true_or, or_true, eq_self, ek, eb, eo]) <;> (first | omega | decide)))) | (with_reducible refine ok_cf ?_ ?_; · (first | omega | ((try simp (disch := omega) only [w32_eq, w64_eq, ix_n, ix_e, sto_n, sto_e, sto_r, zf_r, Int.toNat_natCast, true_or, or_true, eq_self, ek, eb, eo]) <;> (first | omega | decide)))))
      refine ok_ret ⟨Or.inr rfl, fun q => absurd q (by decide), ?_⟩
      rw [eb, eo, ek, st_b hb]
      rfl
    · rw [if_neg (by omega)]
      repeat (first | with_reducible refine ok_let ?_ | with_reducible refine ok_cs ?_ | with_reducible refine ok_clet ?_ | with_reducible refine ok_cc ?_ | (with_reducible refine ok_chk ?_ ?_; · (first | omega | ((try simp (disch := omega) only [w32_eq, w64_eq, ix_n, ix_e, sto_n, sto_e, sto_r, zf_r, Int.toNat_natCast, true_or, or_true, eq_self, ek, eb, eo]) <;> (first | omega | decide)))) | (with_reducible refine ok_cchk ?_ ?_; · (first | omega | ((try simp (disch := omega) only [w32_eq, w64_eq, ix_n, ix_e, sto_n, sto_e, sto_r, zf_r, Int.toNat_natCast, true_or, or_true, eq_self, ek, eb, eo]) <;> (first | omega | decide)))) | (with_reducible refine ok_t ?_ ?_; · (first | omega | ((try simp (disch := omega) only [w32_eq, w64_eq, ix_n, ix_e, sto_n, sto_e, sto_r, zf_r, Int.toNat_natCast, true_or, or_true, eq_self, ek, eb, eo]) <;> (first | omega | decide)))) | (with_reducible refine ok_f ?_ ?_; · (first | omega | ((try simp (disch := omega) only [w32_eq, w64_eq, ix_n, ix_e, sto_n, sto_e, sto_r, zf_r, Int.toNat_natCast, true_or, or_true, eq_self, ek, eb, eo]) <;> (first | omega | decide)))) | (with_reducible refine ok_ct ?_ ?_; · (first | omega | ((try simp (disch := omega) only [w32_eq, w64_eq, ix_n, ix_e, sto_n, sto_e, sto_r, zf_r, Int.toNat_natCast, true_or, or_true, eq_self, ek, eb, eo]) <;> (first | omega | decide)))) | (with_reducible refine ok_cf ?_ ?_; · (first | omega | ((try simp (disch := omega) only [w32_eq, w64_eq, ix_n, ix_e, sto_n, sto_e, sto_r, zf_r, Int.toNat_natCast, true_or, or_true, eq_self, ek, eb, eo]) <;> (first | omega | decide)))))
      refine ok_ret ⟨ha, fun q => ⟨q, rfl, fun _ => ?_⟩, rfl⟩
      rw [dC_b hb, dC_o]; omega
  · rw [if_neg c1]
    repeat (first | with_reducible refine ok_let ?_ | with_reducible refine ok_cs ?_ | with_reducible refine ok_clet ?_ | with_reducible refine ok_cc ?_ | (with_reducible refine ok_chk ?_ ?_; · (first | omega | ((try simp (disch := omega) only [w32_eq, w64_eq, ix_n, ix_e, sto_n, sto_e, sto_r, zf_r, Int.toNat_natCast, true_or, or_true, eq_self, ek]) <;> (first | omega | decide)))) | (with_reducible refine ok_cchk ?_ ?_; · (first | omega | ((try simp (disch := omega) only [w32_eq, w64_eq, ix_n, ix_e, sto_n, sto_e, sto_r, zf_r, Int.toNat_natCast, true_or, or_true, eq_self, ek]) <;> (first | omega | decide)))) | (with_reducible refine ok_t ?_ ?_; · (first | omega | ((try simp (disch := omega) only [w32_eq, w64_eq, ix_n, ix_e, sto_n, sto_e, sto_r, zf_r, Int.toNat_natCast, true_or, or_true, eq_self, ek]) <;> (first | omega | decide)))) | (with_reducible refine ok_f ?_ ?_; · (first | omega | ((try simp (disch := omega) only [w32_eq, w64_eq, ix_n, ix_e, sto_n, sto_e, sto_r, zf_r, Int.toNat_natCast, true_or, or_true, eq_self, ek]) <;> (first | omega | decide)))) | (with_reducible refine ok_ct ?_ ?_; · (first | omega | ((try simp (disch := omega) only [w32_eq, w64_eq, ix_n, ix_e, sto_n, sto_e, sto_r, zf_r, Int.toNat_natCast, true_or, or_true, eq_self, ek]) <;> (first | omega | decide)))) | (with_reducible refine ok_cf ?_ ?_; · (first | omega | ((try simp (disch := omega) only [w32_eq, w64_eq, ix_n, ix_e, sto_n, sto_e, sto_r, zf_r, Int.toNat_natCast, true_or, or_true, eq_self, ek]) <;> (first | omega | decide)))))
    exact ok_ret ⟨ha, fun q => ⟨q, rfl, fun h => absurd h c1⟩, rfl⟩
theorem s_goOn {m r b o k : Nat} {M : Mem} (hmr : m ≤ 5 ∧ r ≤ 4) (hb : b < m) (ho : o < r) (hk : k < 20) (hc : 0 ≤ M 69 k ∧ M 69 k ≤ 100) (hf : 0 ≤ M 70 k ∧ M 70 k ≤ 30) (h1 : 0 ≤ M 71 b ∧ M 71 b ≤ 1000000) (h2 : 0 ≤ M 73 o ∧ M 73 o ≤ 1000000) :
    Ok (d_Ya_goOn (b : Int) (o : Int) (k : Int) M) (fun g M' => ((g = 0 ∨ g = 1) ∧ (g = 0 → M' = M ∧ dC m M (m + o) ≤ dC m M b + M 69 k ∧ (0 < M 70 k → dC m M b ≤ dC m M (m + o) - M 69 k)) ∧ stC m M' = wst m 1000001 (M 69) (M 70) b o k (stC m M)) ∧ Fr [71, 72, 73, 74] [] M M') := by
  refine ok_fr ?_ (fun r hr => w_Ya_goOn hr)
  have eb : ix (b : Int) = b := ix_n (by omega)
  have eo : ix (o : Int) = o := ix_n (by omega)
  have ek : ix (k : Int) = k := ix_n (by omega)
  have s1 : (stC m M).1 b = M 71 b := dC_b hb
  have s2 : (stC m M).1 (m + o) = M 73 o := dC_o
  unfold wst
  have er : rl 1000001 b (m + o) (M 69 k) (stC m M) = if M 71 b + M 69 k < M 73 o then (up (dC m M) (m + o) (M 71 b + M 69 k), up (vC m M) (m + o) (b : Int)) else stC m M := by
    unfold rl
    rw [s1, s2]
    by_cases c : M 71 b + M 69 k < M 73 o
    · rw [if_pos ⟨by omega, c⟩, if_pos c]; rfl
    · rw [if_neg (fun q => c q.2), if_neg c]
  rw [er]
  unfold d_Ya_goOn
  by_cases c1 : M 71 b + M 69 k < M 73 o
  · rw [if_pos c1]
    repeat (first | with_reducible refine ok_let ?_ | with_reducible refine ok_cs ?_ | with_reducible refine ok_clet ?_ | with_reducible refine ok_cc ?_ | (with_reducible refine ok_chk ?_ ?_; · (first | omega | ((try simp (disch := omega) only [w32_eq, w64_eq, ix_n, ix_e, sto_n, sto_e, sto_r, zf_r, Int.toNat_natCast, true_or, or_true, eq_self, ek, eb, eo]) <;> (first | omega | decide)))) | (with_reducible refine ok_cchk ?_ ?_; · (first | omega | ((try simp (disch := omega) only [w32_eq, w64_eq, ix_n, ix_e, sto_n, sto_e, sto_r, zf_r, Int.toNat_natCast, true_or, or_true, eq_self, ek, eb, eo]) <;> (first | omega | decide)))) | (with_reducible refine ok_t ?_ ?_; · (first | omega | ((try simp (disch := omega) only [w32_eq, w64_eq, ix_n, ix_e, sto_n, sto_e, sto_r, zf_r, Int.toNat_natCast, true_or, or_true, eq_self, ek, eb, eo]) <;> (first | omega | decide)))) | (with_reducible refine ok_f ?_ ?_; · (first | omega | ((try simp (disch := omega) only [w32_eq, w64_eq, ix_n, ix_e, sto_n, sto_e, sto_r, zf_r, Int.toNat_natCast, true_or, or_true, eq_self, ek, eb, eo]) <;> (first | omega | decide)))) | (with_reducible refine ok_ct ?_ ?_; · (first | omega | ((try simp (disch := omega) only [w32_eq, w64_eq, ix_n, ix_e, sto_n, sto_e, sto_r, zf_r, Int.toNat_natCast, true_or, or_true, eq_self, ek, eb, eo]) <;> (first | omega | decide)))) | (with_reducible refine ok_cf ?_ ?_; · (first | omega | ((try simp (disch := omega) only [w32_eq, w64_eq, ix_n, ix_e, sto_n, sto_e, sto_r, zf_r, Int.toNat_natCast, true_or, or_true, eq_self, ek, eb, eo]) <;> (first | omega | decide)))))
    rw [eb, eo, ek, ← st_o]
    have z : ∀ c, c ≠ 73 → c ≠ 74 → sto (sto M 73 o (M 71 b + M 69 k)) 74 o (b : Int) c = M c := fun c h1 h2 => by rw [sto_r h2, sto_r h1]
    have z73 : sto (sto M 73 o (M 71 b + M 69 k)) 74 o (b : Int) 73 o = M 71 b + M 69 k := by rw [sto_r (by decide), sto_e]
    have q := s_go65 (r := r) (M := sto (sto M 73 o (M 71 b + M 69 k)) 74 o (b : Int)) (a4 := 1) hmr hb ho hk (Or.inr rfl) (by rw [z 69 (by decide) (by decide)]; exact hc) (by rw [z 70 (by decide) (by decide)]; exact hf) (by rw [z 71 (by decide) (by decide)]; exact h1) (by rw [z73]; omega)
    refine ok_mono q (fun g M' h => ⟨h.1, fun e => absurd (h.2.1 e).1 (by decide), ?_⟩)
    rw [h.2.2, z 69 (by decide) (by decide), z 70 (by decide) (by decide)]
  · rw [if_neg c1]
    have q := s_go65 (r := r) (M := M) (a4 := 0) hmr hb ho hk (Or.inl rfl) hc hf h1 h2
    have fin : Ok (k_Ya_goOn_65 (b : Int) (o : Int) (k : Int) 0 M) (fun g M' => (g = 0 ∨ g = 1) ∧ (g = 0 → M' = M ∧ dC m M (m + o) ≤ dC m M b + M 69 k ∧ (0 < M 70 k → dC m M b ≤ dC m M (m + o) - M 69 k)) ∧ stC m M' = (if 0 < M 70 k then rl 1000001 (m + o) b (- M 69 k) (stC m M) else stC m M)) := by
      refine ok_mono q (fun g M' h => ⟨h.1, fun e => ⟨(h.2.1 e).2.1, ?_, (h.2.1 e).2.2⟩, h.2.2⟩)
      rw [dC_b hb, dC_o]; omega
    by_cases c2 : M 71 b < 1000000
    · repeat (first | with_reducible refine ok_let ?_ | with_reducible refine ok_cs ?_ | with_reducible refine ok_clet ?_ | with_reducible refine ok_cc ?_ | (with_reducible refine ok_chk ?_ ?_; · (first | omega | ((try simp (disch := omega) only [w32_eq, w64_eq, ix_n, ix_e, sto_n, sto_e, sto_r, zf_r, Int.toNat_natCast, true_or, or_true, eq_self, ek, eb, eo]) <;> (first | omega | decide)))) | (with_reducible refine ok_cchk ?_ ?_; · (first | omega | ((try simp (disch := omega) only [w32_eq, w64_eq, ix_n, ix_e, sto_n, sto_e, sto_r, zf_r, Int.toNat_natCast, true_or, or_true, eq_self, ek, eb, eo]) <;> (first | omega | decide)))) | (with_reducible refine ok_t ?_ ?_; · (first | omega | ((try simp (disch := omega) only [w32_eq, w64_eq, ix_n, ix_e, sto_n, sto_e, sto_r, zf_r, Int.toNat_natCast, true_or, or_true, eq_self, ek, eb, eo]) <;> (first | omega | decide)))) | (with_reducible refine ok_f ?_ ?_; · (first | omega | ((try simp (disch := omega) only [w32_eq, w64_eq, ix_n, ix_e, sto_n, sto_e, sto_r, zf_r, Int.toNat_natCast, true_or, or_true, eq_self, ek, eb, eo]) <;> (first | omega | decide)))) | (with_reducible refine ok_ct ?_ ?_; · (first | omega | ((try simp (disch := omega) only [w32_eq, w64_eq, ix_n, ix_e, sto_n, sto_e, sto_r, zf_r, Int.toNat_natCast, true_or, or_true, eq_self, ek, eb, eo]) <;> (first | omega | decide)))) | (with_reducible refine ok_cf ?_ ?_; · (first | omega | ((try simp (disch := omega) only [w32_eq, w64_eq, ix_n, ix_e, sto_n, sto_e, sto_r, zf_r, Int.toNat_natCast, true_or, or_true, eq_self, ek, eb, eo]) <;> (first | omega | decide)))))
      exact fin
    · repeat (first | with_reducible refine ok_let ?_ | with_reducible refine ok_cs ?_ | with_reducible refine ok_clet ?_ | with_reducible refine ok_cc ?_ | (with_reducible refine ok_chk ?_ ?_; · (first | omega | ((try simp (disch := omega) only [w32_eq, w64_eq, ix_n, ix_e, sto_n, sto_e, sto_r, zf_r, Int.toNat_natCast, true_or, or_true, eq_self, ek, eb, eo]) <;> (first | omega | decide)))) | (with_reducible refine ok_cchk ?_ ?_; · (first | omega | ((try simp (disch := omega) only [w32_eq, w64_eq, ix_n, ix_e, sto_n, sto_e, sto_r, zf_r, Int.toNat_natCast, true_or, or_true, eq_self, ek, eb, eo]) <;> (first | omega | decide)))) | (with_reducible refine ok_t ?_ ?_; · (first | omega | ((try simp (disch := omega) only [w32_eq, w64_eq, ix_n, ix_e, sto_n, sto_e, sto_r, zf_r, Int.toNat_natCast, true_or, or_true, eq_self, ek, eb, eo]) <;> (first | omega | decide)))) | (with_reducible refine ok_f ?_ ?_; · (first | omega | ((try simp (disch := omega) only [w32_eq, w64_eq, ix_n, ix_e, sto_n, sto_e, sto_r, zf_r, Int.toNat_natCast, true_or, or_true, eq_self, ek, eb, eo]) <;> (first | omega | decide)))) | (with_reducible refine ok_ct ?_ ?_; · (first | omega | ((try simp (disch := omega) only [w32_eq, w64_eq, ix_n, ix_e, sto_n, sto_e, sto_r, zf_r, Int.toNat_natCast, true_or, or_true, eq_self, ek, eb, eo]) <;> (first | omega | decide)))) | (with_reducible refine ok_cf ?_ ?_; · (first | omega | ((try simp (disch := omega) only [w32_eq, w64_eq, ix_n, ix_e, sto_n, sto_e, sto_r, zf_r, Int.toNat_natCast, true_or, or_true, eq_self, ek, eb, eo]) <;> (first | omega | decide)))))
      exact fin
/-- the ways below k can't be bettered -/
def Rk (m r : Nat) (c f : Nat → Int) (k : Nat) (d : Nat → Int) : Prop := ∀ b o, b < m → o < r → b * r + o < k → d (m + o) ≤ d b + c (b * r + o) ∧ (0 < f (b * r + o) → d b ≤ d (m + o) - c (b * r + o))
theorem rk_cl {m r : Nat} {L : Int} {c f d : Nat → Int} (h : Rk m r c f (m * r) d) : Cl L (Ed m r c f) d := by
  intro x y w he _
  rcases he with ⟨b, o, hb, ho, rfl, rfl, rfl⟩ | ⟨b, o, hb, ho, rfl, rfl, rfl, hf⟩
  · exact (h _ _ hb ho (way_l hb ho)).1
  · have := (h _ _ hb ho (way_l hb ho)).2 hf; omega
def FwI (m r : Nat) (B : Mem) (pot : Nat → Int) (i k : Nat) (ch : Int) (M : Mem) : Prop := WI m r 1000001 1000000 (B 69) (B 70) (B 67) pot i k (stC m M) ∧ Fr [71, 72, 73, 74] [] B M ∧ (ch = 0 ∨ ch = 1) ∧ (ch = 0 → Rk m r (B 69) (B 70) k (dC m M))
theorem wi_bd {m r : Nat} {L K : Int} {c f lf pot : Nat → Int} {i k : Nat} {S : (Nat → Int) × (Nat → Int)} (hK : 0 ≤ K) (hC : Cer m r c f lf pot) (h : WI m r L K c f lf pot i k S) {x : Nat} (hx : x < m + r) : 0 ≤ S.1 x ∧ S.1 x ≤ K := by
  obtain ⟨ta, h⟩ := h.1
  obtain ⟨-, h1, h2, -⟩ := h x hx
  have := hC.2.2 x hx
  unfold ini at h2
  split at h2 <;> omega
/-- the world of a sending -/
def SnW (m r : Nat) (B : Mem) : Prop := (m ≤ 5 ∧ r ≤ 4) ∧ (∀ k, k < m * r → (0 ≤ B 69 k ∧ B 69 k ≤ 100) ∧ (0 ≤ B 70 k ∧ B 70 k ≤ 30))
theorem l_fw100 {m r b i : Nat} {B : Mem} {pot : Nat → Int} {P : Int → Mem → Prop} {R74 : Int → Int → Int → Int → Mem → Res} {R91 : Int → Int → Int → Int → Int → Mem → Res} (hW : SnW m r B) (hC : Cer m r (B 69) (B 70) (B 67) pot) (hb : b < m)
    (hR : ∀ (ch : Int) (M : Mem), FwI m r B pot i ((b + 1) * r) ch M → Ok (R91 (m : Int) (r : Int) ch (i : Int) ((b : Int) + 1) M) P) :
    ∀ (j fuel o : Nat) (ch : Int) (M : Mem), o + j = r → j < fuel → FwI m r B pot i (b * r + o) ch M → Ok (fix (fun _ _ _ _ _ _ _ => none) (k_Ya_findWays_100 R74 R91) fuel (m : Int) (r : Int) ch (i : Int) (b : Int) (o : Int) M) P := by
  obtain ⟨hmr, hcf⟩ := hW
  intro j; induction j with
  | zero =>
    intro fuel o ch M e hf hI
    have : o = r := by omega
    subst this
    obtain ⟨f, rfl⟩ : ∃ f, fuel = f + 1 := ⟨fuel - 1, by omega⟩; rw [fix_s]; unfold k_Ya_findWays_100
    repeat (first | with_reducible refine ok_let ?_ | with_reducible refine ok_cs ?_ | with_reducible refine ok_clet ?_ | with_reducible refine ok_cc ?_ | (with_reducible refine ok_chk ?_ ?_; · (first | omega | ((try simp (disch := omega) only [w32_eq, w64_eq, ix_n, ix_e, sto_n, sto_e, sto_r, zf_r, Int.toNat_natCast, true_or, or_true, eq_self]) <;> (first | omega | decide)))) | (with_reducible refine ok_cchk ?_ ?_; · (first | omega | ((try simp (disch := omega) only [w32_eq, w64_eq, ix_n, ix_e, sto_n, sto_e, sto_r, zf_r, Int.toNat_natCast, true_or, or_true, eq_self]) <;> (first | omega | decide)))) | (with_reducible refine ok_t ?_ ?_; · (first | omega | ((try simp (disch := omega) only [w32_eq, w64_eq, ix_n, ix_e, sto_n, sto_e, sto_r, zf_r, Int.toNat_natCast, true_or, or_true, eq_self]) <;> (first | omega | decide)))) | (with_reducible refine ok_f ?_ ?_; · (first | omega | ((try simp (disch := omega) only [w32_eq, w64_eq, ix_n, ix_e, sto_n, sto_e, sto_r, zf_r, Int.toNat_natCast, true_or, or_true, eq_self]) <;> (first | omega | decide)))) | (with_reducible refine ok_ct ?_ ?_; · (first | omega | ((try simp (disch := omega) only [w32_eq, w64_eq, ix_n, ix_e, sto_n, sto_e, sto_r, zf_r, Int.toNat_natCast, true_or, or_true, eq_self]) <;> (first | omega | decide)))) | (with_reducible refine ok_cf ?_ ?_; · (first | omega | ((try simp (disch := omega) only [w32_eq, w64_eq, ix_n, ix_e, sto_n, sto_e, sto_r, zf_r, Int.toNat_natCast, true_or, or_true, eq_self]) <;> (first | omega | decide)))))
    refine hR ch M ?_
    rw [Nat.add_mul, Nat.one_mul]; exact hI
  | succ j ih =>
    intro fuel o ch M e hf hI
    have hj : (o : Int) + 1 = ((o + 1 : Nat) : Int) := by omega
    have ek : (b : Int) * (r : Int) + (o : Int) = ((b * r + o : Nat) : Int) := by push_cast; rfl
    have ho : o < r := by omega
    obtain ⟨i1, i2, i3, i4⟩ := hI
    have u69 := i2.c 69 (by decide) (by decide)
    have u70 := i2.c 70 (by decide) (by decide)
    have hk := way_l hb ho
    have hb1 := wi_bd (by decide) hC i1 (show b < m + r by omega)
    have hb2 := wi_bd (by decide) hC i1 (show m + o < m + r by omega)
    have e1 : (stC m M).1 b = M 71 b := dC_b hb
    have e2 : (stC m M).1 (m + o) = M 73 o := dC_o
    rw [e1] at hb1
    rw [e2] at hb2
    obtain ⟨f, rfl⟩ : ∃ f, fuel = f + 1 := ⟨fuel - 1, by omega⟩; rw [fix_s]; unfold k_Ya_findWays_100
    refine ok_t (by first | omega | ((try simp (disch := omega) only [w32_eq, w64_eq, ix_n, ix_e, sto_n, sto_e, sto_r, zf_r, Int.toNat_natCast, true_or, or_true, eq_self]) <;> (first | omega | decide))) ?_
    rw [ek]
    refine ok_call (s_goOn (m := m) (r := r) (M := M) hmr hb ho (way_20 hmr.1 hmr.2 hb ho) (by rw [u69]; exact (hcf _ hk).1) (by rw [u70]; exact (hcf _ hk).2) hb1 hb2) (fun g X h => ?_)
    obtain ⟨⟨g1, g2, g3⟩, gF⟩ := h
    refine ok_let (ok_let ?_)
    rw [hj]
    have hor : (or32 ch g = 0 ∨ or32 ch g = 1) ∧ (or32 ch g = 0 → ch = 0 ∧ g = 0) := by
      rcases i3 with q | q <;> rcases g1 with t | t <;> rw [q, t] <;> decide
    refine ih f (o + 1) _ X (by omega) (by omega) ⟨?_, i2.trans gF, hor.1, fun q => ?_⟩
    · rw [g3, u69, u70]
      exact wi_step (fun k hk => (hcf k hk).1) hC hb ho i1
    · obtain ⟨q1, q2⟩ := hor.2 q
      obtain ⟨x1, x2, x3⟩ := g2 q2
      rw [x1]
      intro b' o' hb' ho' hlt
      by_cases t : b' * r + o' < b * r + o
      · exact i4 q1 b' o' hb' ho' t
      · obtain ⟨rfl, rfl⟩ := way_u ho' ho (show b' * r + o' = b * r + o by omega)
        rw [← u69, ← u70]
        exact ⟨x2, x3⟩
theorem l_fw91 {m r i : Nat} {B : Mem} {pot : Nat → Int} {P : Int → Mem → Prop} {R74 : Int → Int → Int → Int → Mem → Res} (hW : SnW m r B) (hC : Cer m r (B 69) (B 70) (B 67) pot)
    (hR : ∀ (ch : Int) (M : Mem), FwI m r B pot i (m * r) ch M → Ok (R74 (m : Int) (r : Int) ch ((i : Int) + 1) M) P) :
    ∀ (j fuel b : Nat) (ch : Int) (M : Mem), b + j = m → j < fuel → FwI m r B pot i (b * r) ch M → Ok (fix (fun _ _ _ _ _ _ => none) (k_Ya_findWays_91 R74) fuel (m : Int) (r : Int) ch (i : Int) (b : Int) M) P := by
  have hmr := hW.1
  intro j; induction j with
  | zero =>
    intro fuel b ch M e hf hI
    have : b = m := by omega
    subst this
    obtain ⟨f, rfl⟩ : ∃ f, fuel = f + 1 := ⟨fuel - 1, by omega⟩; rw [fix_s]; unfold k_Ya_findWays_91
    repeat (first | with_reducible refine ok_let ?_ | with_reducible refine ok_cs ?_ | with_reducible refine ok_clet ?_ | with_reducible refine ok_cc ?_ | (with_reducible refine ok_chk ?_ ?_; · (first | omega | ((try simp (disch := omega) only [w32_eq, w64_eq, ix_n, ix_e, sto_n, sto_e, sto_r, zf_r, Int.toNat_natCast, true_or, or_true, eq_self]) <;> (first | omega | decide)))) | (with_reducible refine ok_cchk ?_ ?_; · (first | omega | ((try simp (disch := omega) only [w32_eq, w64_eq, ix_n, ix_e, sto_n, sto_e, sto_r, zf_r, Int.toNat_natCast, true_or, or_true, eq_self]) <;> (first | omega | decide)))) | (with_reducible refine ok_t ?_ ?_; · (first | omega | ((try simp (disch := omega) only [w32_eq, w64_eq, ix_n, ix_e, sto_n, sto_e, sto_r, zf_r, Int.toNat_natCast, true_or, or_true, eq_self]) <;> (first | omega | decide)))) | (with_reducible refine ok_f ?_ ?_; · (first | omega | ((try simp (disch := omega) only [w32_eq, w64_eq, ix_n, ix_e, sto_n, sto_e, sto_r, zf_r, Int.toNat_natCast, true_or, or_true, eq_self]) <;> (first | omega | decide)))) | (with_reducible refine ok_ct ?_ ?_; · (first | omega | ((try simp (disch := omega) only [w32_eq, w64_eq, ix_n, ix_e, sto_n, sto_e, sto_r, zf_r, Int.toNat_natCast, true_or, or_true, eq_self]) <;> (first | omega | decide)))) | (with_reducible refine ok_cf ?_ ?_; · (first | omega | ((try simp (disch := omega) only [w32_eq, w64_eq, ix_n, ix_e, sto_n, sto_e, sto_r, zf_r, Int.toNat_natCast, true_or, or_true, eq_self]) <;> (first | omega | decide)))))
    exact hR ch M hI
  | succ j ih =>
    intro fuel b ch M e hf hI
    have hj : (b : Int) + 1 = ((b + 1 : Nat) : Int) := by omega
    obtain ⟨f, rfl⟩ : ∃ f, fuel = f + 1 := ⟨fuel - 1, by omega⟩; rw [fix_s]; unfold k_Ya_findWays_91
    repeat (first | with_reducible refine ok_let ?_ | with_reducible refine ok_cs ?_ | with_reducible refine ok_clet ?_ | with_reducible refine ok_cc ?_ | (with_reducible refine ok_chk ?_ ?_; · (first | omega | ((try simp (disch := omega) only [w32_eq, w64_eq, ix_n, ix_e, sto_n, sto_e, sto_r, zf_r, Int.toNat_natCast, true_or, or_true, eq_self]) <;> (first | omega | decide)))) | (with_reducible refine ok_cchk ?_ ?_; · (first | omega | ((try simp (disch := omega) only [w32_eq, w64_eq, ix_n, ix_e, sto_n, sto_e, sto_r, zf_r, Int.toNat_natCast, true_or, or_true, eq_self]) <;> (first | omega | decide)))) | (with_reducible refine ok_t ?_ ?_; · (first | omega | ((try simp (disch := omega) only [w32_eq, w64_eq, ix_n, ix_e, sto_n, sto_e, sto_r, zf_r, Int.toNat_natCast, true_or, or_true, eq_self]) <;> (first | omega | decide)))) | (with_reducible refine ok_f ?_ ?_; · (first | omega | ((try simp (disch := omega) only [w32_eq, w64_eq, ix_n, ix_e, sto_n, sto_e, sto_r, zf_r, Int.toNat_natCast, true_or, or_true, eq_self]) <;> (first | omega | decide)))) | (with_reducible refine ok_ct ?_ ?_; · (first | omega | ((try simp (disch := omega) only [w32_eq, w64_eq, ix_n, ix_e, sto_n, sto_e, sto_r, zf_r, Int.toNat_natCast, true_or, or_true, eq_self]) <;> (first | omega | decide)))) | (with_reducible refine ok_cf ?_ ?_; · (first | omega | ((try simp (disch := omega) only [w32_eq, w64_eq, ix_n, ix_e, sto_n, sto_e, sto_r, zf_r, Int.toNat_natCast, true_or, or_true, eq_self]) <;> (first | omega | decide)))))
    exact l_fw100 hW hC (by omega) (fun ch' M' h => by rw [hj]; exact ih f (b + 1) ch' M' (by omega) (by omega) h) r FU 0 ch M (by omega) (by unfold FU; omega) hI
/-- what is found -/
def FwP (m r : Nat) (B : Mem) (pot : Nat → Int) (M : Mem) : Prop := ∃ i, i ≤ m + r ∧ BI (m + r) 1000001 1000000 (Ed m r (B 69) (B 70)) pot (ini m 1000000 (B 67)) (2 * (i * (m * r))) (stC m M) ∧ Cl 1000001 (Ed m r (B 69) (B 70)) (dC m M)
theorem l_fw74 {m r : Nat} {B : Mem} {pot : Nat → Int} (hW : SnW m r B) (hC : Cer m r (B 69) (B 70) (B 67) pot) :
    ∀ (j fuel i : Nat) (ch : Int) (M : Mem), i + j = m + r → j < fuel → WS m r 1000001 1000000 (B 69) (B 70) (B 67) pot i (stC m M) → Fr [71, 72, 73, 74] [] B M → (ch = 0 ∨ ch = 1) → (ch = 0 → Cl 1000001 (Ed m r (B 69) (B 70)) (dC m M)) → Ok (fix (fun _ _ _ _ _ => none) k_Ya_findWays_74 fuel (m : Int) (r : Int) ch (i : Int) M) (fun _ M' => FwP m r B pot M') := by
  have hmr := hW.1
  have hE := edh (fun k hk => (hW.2 k hk).1) hC
  intro j; induction j with
  | zero =>
    intro fuel i ch M e hf h1 h2 h3 h4
    have : i = m + r := by omega
    subst this
    obtain ⟨f, rfl⟩ : ∃ f, fuel = f + 1 := ⟨fuel - 1, by omega⟩; rw [fix_s]; unfold k_Ya_findWays_74
    repeat (first | with_reducible refine ok_let ?_ | with_reducible refine ok_cs ?_ | with_reducible refine ok_clet ?_ | with_reducible refine ok_cc ?_ | (with_reducible refine ok_chk ?_ ?_; · (first | omega | ((try simp (disch := omega) only [w32_eq, w64_eq, ix_n, ix_e, sto_n, sto_e, sto_r, zf_r, Int.toNat_natCast, true_or, or_true, eq_self]) <;> (first | omega | decide)))) | (with_reducible refine ok_cchk ?_ ?_; · (first | omega | ((try simp (disch := omega) only [w32_eq, w64_eq, ix_n, ix_e, sto_n, sto_e, sto_r, zf_r, Int.toNat_natCast, true_or, or_true, eq_self]) <;> (first | omega | decide)))) | (with_reducible refine ok_t ?_ ?_; · (first | omega | ((try simp (disch := omega) only [w32_eq, w64_eq, ix_n, ix_e, sto_n, sto_e, sto_r, zf_r, Int.toNat_natCast, true_or, or_true, eq_self]) <;> (first | omega | decide)))) | (with_reducible refine ok_f ?_ ?_; · (first | omega | ((try simp (disch := omega) only [w32_eq, w64_eq, ix_n, ix_e, sto_n, sto_e, sto_r, zf_r, Int.toNat_natCast, true_or, or_true, eq_self]) <;> (first | omega | decide)))) | (with_reducible refine ok_ct ?_ ?_; · (first | omega | ((try simp (disch := omega) only [w32_eq, w64_eq, ix_n, ix_e, sto_n, sto_e, sto_r, zf_r, Int.toNat_natCast, true_or, or_true, eq_self]) <;> (first | omega | decide)))) | (with_reducible refine ok_cf ?_ ?_; · (first | omega | ((try simp (disch := omega) only [w32_eq, w64_eq, ix_n, ix_e, sto_n, sto_e, sto_r, zf_r, Int.toNat_natCast, true_or, or_true, eq_self]) <;> (first | omega | decide)))))
    exact ok_ret ⟨_, Nat.le_refl _, h1.1, ps_cl hE h1.2⟩
  | succ j ih =>
    intro fuel i ch M e hf h1 h2 h3 h4
    have hj : (i : Int) + 1 = ((i + 1 : Nat) : Int) := by omega
    obtain ⟨f, rfl⟩ : ∃ f, fuel = f + 1 := ⟨fuel - 1, by omega⟩; rw [fix_s]; unfold k_Ya_findWays_74
    rcases h3 with q | q
    · repeat (first | with_reducible refine ok_let ?_ | with_reducible refine ok_cs ?_ | with_reducible refine ok_clet ?_ | with_reducible refine ok_cc ?_ | (with_reducible refine ok_chk ?_ ?_; · (first | omega | ((try simp (disch := omega) only [w32_eq, w64_eq, ix_n, ix_e, sto_n, sto_e, sto_r, zf_r, Int.toNat_natCast, true_or, or_true, eq_self]) <;> (first | omega | decide)))) | (with_reducible refine ok_cchk ?_ ?_; · (first | omega | ((try simp (disch := omega) only [w32_eq, w64_eq, ix_n, ix_e, sto_n, sto_e, sto_r, zf_r, Int.toNat_natCast, true_or, or_true, eq_self]) <;> (first | omega | decide)))) | (with_reducible refine ok_t ?_ ?_; · (first | omega | ((try simp (disch := omega) only [w32_eq, w64_eq, ix_n, ix_e, sto_n, sto_e, sto_r, zf_r, Int.toNat_natCast, true_or, or_true, eq_self]) <;> (first | omega | decide)))) | (with_reducible refine ok_f ?_ ?_; · (first | omega | ((try simp (disch := omega) only [w32_eq, w64_eq, ix_n, ix_e, sto_n, sto_e, sto_r, zf_r, Int.toNat_natCast, true_or, or_true, eq_self]) <;> (first | omega | decide)))) | (with_reducible refine ok_ct ?_ ?_; · (first | omega | ((try simp (disch := omega) only [w32_eq, w64_eq, ix_n, ix_e, sto_n, sto_e, sto_r, zf_r, Int.toNat_natCast, true_or, or_true, eq_self]) <;> (first | omega | decide)))) | (with_reducible refine ok_cf ?_ ?_; · (first | omega | ((try simp (disch := omega) only [w32_eq, w64_eq, ix_n, ix_e, sto_n, sto_e, sto_r, zf_r, Int.toNat_natCast, true_or, or_true, eq_self]) <;> (first | omega | decide)))))
      exact ok_ret ⟨_, by omega, h1.1, h4 q⟩
    · repeat (first | with_reducible refine ok_let ?_ | with_reducible refine ok_cs ?_ | with_reducible refine ok_clet ?_ | with_reducible refine ok_cc ?_ | (with_reducible refine ok_chk ?_ ?_; · (first | omega | ((try simp (disch := omega) only [w32_eq, w64_eq, ix_n, ix_e, sto_n, sto_e, sto_r, zf_r, Int.toNat_natCast, true_or, or_true, eq_self]) <;> (first | omega | decide)))) | (with_reducible refine ok_cchk ?_ ?_; · (first | omega | ((try simp (disch := omega) only [w32_eq, w64_eq, ix_n, ix_e, sto_n, sto_e, sto_r, zf_r, Int.toNat_natCast, true_or, or_true, eq_self]) <;> (first | omega | decide)))) | (with_reducible refine ok_t ?_ ?_; · (first | omega | ((try simp (disch := omega) only [w32_eq, w64_eq, ix_n, ix_e, sto_n, sto_e, sto_r, zf_r, Int.toNat_natCast, true_or, or_true, eq_self]) <;> (first | omega | decide)))) | (with_reducible refine ok_f ?_ ?_; · (first | omega | ((try simp (disch := omega) only [w32_eq, w64_eq, ix_n, ix_e, sto_n, sto_e, sto_r, zf_r, Int.toNat_natCast, true_or, or_true, eq_self]) <;> (first | omega | decide)))) | (with_reducible refine ok_ct ?_ ?_; · (first | omega | ((try simp (disch := omega) only [w32_eq, w64_eq, ix_n, ix_e, sto_n, sto_e, sto_r, zf_r, Int.toNat_natCast, true_or, or_true, eq_self]) <;> (first | omega | decide)))) | (with_reducible refine ok_cf ?_ ?_; · (first | omega | ((try simp (disch := omega) only [w32_eq, w64_eq, ix_n, ix_e, sto_n, sto_e, sto_r, zf_r, Int.toNat_natCast, true_or, or_true, eq_self]) <;> (first | omega | decide)))))
      refine l_fw91 hW hC (fun ch' M' h => ?_) m FU 0 0 M (by omega) (by unfold FU; omega) ⟨?_, h2, Or.inl rfl, fun _ b o _ _ hk => ?_⟩
      · rw [hj]
        exact ih f (i + 1) ch' M' (by omega) (by omega) (wi_ws h.1) h.2.1 h.2.2.1 (fun q => rk_cl (h.2.2.2 q))
      · rw [Nat.zero_mul]
        exact ws_wi hmr (by omega) (fun k hk => (hW.2 k hk).1) hC (by decide) (Or.inr (by decide)) h1
      · rw [Nat.zero_mul] at hk; omega
theorem l_fw43 {m r : Nat} {B : Mem} {pot : Nat → Int} (hW : SnW m r B) (hC : Cer m r (B 69) (B 70) (B 67) pot) :
    ∀ (j fuel o : Nat) (M : Mem), o + j = r → j < fuel → Fr [71, 72, 73, 74] [] B M → (∀ b, b < m → M 71 b = ini m 1000000 (B 67) b ∧ M 72 b = -1) → (∀ p, p < o → M 73 p = 1000000 ∧ M 74 p = -1) → Ok (fix (fun _ _ _ _ => none) k_Ya_findWays_43 fuel (m : Int) (r : Int) (o : Int) M) (fun _ M' => FwP m r B pot M') := by
  have hmr := hW.1
  intro j; induction j with
  | zero =>
    intro fuel o M e hf h1 h2 h3
    have : o = r := by omega
    subst this
    obtain ⟨f, rfl⟩ : ∃ f, fuel = f + 1 := ⟨fuel - 1, by omega⟩; rw [fix_s]; unfold k_Ya_findWays_43
    repeat (first | with_reducible refine ok_let ?_ | with_reducible refine ok_cs ?_ | with_reducible refine ok_clet ?_ | with_reducible refine ok_cc ?_ | (with_reducible refine ok_chk ?_ ?_; · (first | omega | ((try simp (disch := omega) only [w32_eq, w64_eq, ix_n, ix_e, sto_n, sto_e, sto_r, zf_r, Int.toNat_natCast, true_or, or_true, eq_self]) <;> (first | omega | decide)))) | (with_reducible refine ok_cchk ?_ ?_; · (first | omega | ((try simp (disch := omega) only [w32_eq, w64_eq, ix_n, ix_e, sto_n, sto_e, sto_r, zf_r, Int.toNat_natCast, true_or, or_true, eq_self]) <;> (first | omega | decide)))) | (with_reducible refine ok_t ?_ ?_; · (first | omega | ((try simp (disch := omega) only [w32_eq, w64_eq, ix_n, ix_e, sto_n, sto_e, sto_r, zf_r, Int.toNat_natCast, true_or, or_true, eq_self]) <;> (first | omega | decide)))) | (with_reducible refine ok_f ?_ ?_; · (first | omega | ((try simp (disch := omega) only [w32_eq, w64_eq, ix_n, ix_e, sto_n, sto_e, sto_r, zf_r, Int.toNat_natCast, true_or, or_true, eq_self]) <;> (first | omega | decide)))) | (with_reducible refine ok_ct ?_ ?_; · (first | omega | ((try simp (disch := omega) only [w32_eq, w64_eq, ix_n, ix_e, sto_n, sto_e, sto_r, zf_r, Int.toNat_natCast, true_or, or_true, eq_self]) <;> (first | omega | decide)))) | (with_reducible refine ok_cf ?_ ?_; · (first | omega | ((try simp (disch := omega) only [w32_eq, w64_eq, ix_n, ix_e, sto_n, sto_e, sto_r, zf_r, Int.toNat_natCast, true_or, or_true, eq_self]) <;> (first | omega | decide)))))
    refine l_fw74 hW hC (m + o) FU 0 1 M (by omega) (by unfold FU; omega) (ws_0 hC (by decide) (fun x hx => ?_)) h1 (Or.inr rfl) (fun q => absurd q (by decide))
    show dC m M x = _ ∧ vC m M x = -1
    by_cases c : x < m
    · rw [dC_b c, vC_b c, (h2 x c).2, if_pos rfl]; exact ⟨(h2 x c).1, rfl⟩
    · obtain ⟨p, rfl⟩ : ∃ p, x = m + p := ⟨x - m, by omega⟩
      rw [dC_o, vC_o, (h3 p (by omega)).1, (h3 p (by omega)).2]
      unfold ini
      rw [if_neg (by omega)]; exact ⟨rfl, rfl⟩
  | succ j ih =>
    intro fuel o M e hf h1 h2 h3
    have hj : (o : Int) + 1 = ((o + 1 : Nat) : Int) := by omega
    obtain ⟨f, rfl⟩ : ∃ f, fuel = f + 1 := ⟨fuel - 1, by omega⟩; rw [fix_s]; unfold k_Ya_findWays_43
    repeat (first | with_reducible refine ok_let ?_ | with_reducible refine ok_cs ?_ | with_reducible refine ok_clet ?_ | with_reducible refine ok_cc ?_ | (with_reducible refine ok_chk ?_ ?_; · (first | omega | ((try simp (disch := omega) only [w32_eq, w64_eq, ix_n, ix_e, sto_n, sto_e, sto_r, zf_r, Int.toNat_natCast, true_or, or_true, eq_self]) <;> (first | omega | decide)))) | (with_reducible refine ok_cchk ?_ ?_; · (first | omega | ((try simp (disch := omega) only [w32_eq, w64_eq, ix_n, ix_e, sto_n, sto_e, sto_r, zf_r, Int.toNat_natCast, true_or, or_true, eq_self]) <;> (first | omega | decide)))) | (with_reducible refine ok_t ?_ ?_; · (first | omega | ((try simp (disch := omega) only [w32_eq, w64_eq, ix_n, ix_e, sto_n, sto_e, sto_r, zf_r, Int.toNat_natCast, true_or, or_true, eq_self]) <;> (first | omega | decide)))) | (with_reducible refine ok_f ?_ ?_; · (first | omega | ((try simp (disch := omega) only [w32_eq, w64_eq, ix_n, ix_e, sto_n, sto_e, sto_r, zf_r, Int.toNat_natCast, true_or, or_true, eq_self]) <;> (first | omega | decide)))) | (with_reducible refine ok_ct ?_ ?_; · (first | omega | ((try simp (disch := omega) only [w32_eq, w64_eq, ix_n, ix_e, sto_n, sto_e, sto_r, zf_r, Int.toNat_natCast, true_or, or_true, eq_self]) <;> (first | omega | decide)))) | (with_reducible refine ok_cf ?_ ?_; · (first | omega | ((try simp (disch := omega) only [w32_eq, w64_eq, ix_n, ix_e, sto_n, sto_e, sto_r, zf_r, Int.toNat_natCast, true_or, or_true, eq_self]) <;> (first | omega | decide)))))
    rw [hj, ix_n (by omega)]
    refine ih f (o + 1) _ (by omega) (by omega) (h1.trans (Fr.trans (fr_stoA (by decide)) (fr_stoA (by decide)))) (fun b hb => ?_) (fun p hp => ?_)
    · simp (disch := decide) only [sto_r]; exact h2 b hb
    · simp (disch := decide) only [sto_r, sto_up]
      unfold up
      by_cases c : p = o
      · rw [if_pos c, if_pos c]; exact ⟨rfl, rfl⟩
      · rw [if_neg c, if_neg c]; exact h3 p (by omega)
theorem l_fw2 {m r : Nat} {B : Mem} {pot : Nat → Int} (hW : SnW m r B) (hl : ∀ b, b < m → 0 ≤ B 67 b ∧ B 67 b ≤ 30) (hC : Cer m r (B 69) (B 70) (B 67) pot) :
    ∀ (j fuel b : Nat) (M : Mem), b + j = m → j < fuel → Fr [71, 72, 73, 74] [] B M → (∀ p, p < b → M 71 p = ini m 1000000 (B 67) p ∧ M 72 p = -1) → Ok (fix (fun _ _ _ _ => none) k_Ya_findWays_2 fuel (m : Int) (r : Int) (b : Int) M) (fun _ M' => FwP m r B pot M') := by
  have hmr := hW.1
  intro j; induction j with
  | zero =>
    intro fuel b M e hf h1 h2
    have : b = m := by omega
    subst this
    obtain ⟨f, rfl⟩ : ∃ f, fuel = f + 1 := ⟨fuel - 1, by omega⟩; rw [fix_s]; unfold k_Ya_findWays_2
    repeat (first | with_reducible refine ok_let ?_ | with_reducible refine ok_cs ?_ | with_reducible refine ok_clet ?_ | with_reducible refine ok_cc ?_ | (with_reducible refine ok_chk ?_ ?_; · (first | omega | ((try simp (disch := omega) only [w32_eq, w64_eq, ix_n, ix_e, sto_n, sto_e, sto_r, zf_r, Int.toNat_natCast, true_or, or_true, eq_self]) <;> (first | omega | decide)))) | (with_reducible refine ok_cchk ?_ ?_; · (first | omega | ((try simp (disch := omega) only [w32_eq, w64_eq, ix_n, ix_e, sto_n, sto_e, sto_r, zf_r, Int.toNat_natCast, true_or, or_true, eq_self]) <;> (first | omega | decide)))) | (with_reducible refine ok_t ?_ ?_; · (first | omega | ((try simp (disch := omega) only [w32_eq, w64_eq, ix_n, ix_e, sto_n, sto_e, sto_r, zf_r, Int.toNat_natCast, true_or, or_true, eq_self]) <;> (first | omega | decide)))) | (with_reducible refine ok_f ?_ ?_; · (first | omega | ((try simp (disch := omega) only [w32_eq, w64_eq, ix_n, ix_e, sto_n, sto_e, sto_r, zf_r, Int.toNat_natCast, true_or, or_true, eq_self]) <;> (first | omega | decide)))) | (with_reducible refine ok_ct ?_ ?_; · (first | omega | ((try simp (disch := omega) only [w32_eq, w64_eq, ix_n, ix_e, sto_n, sto_e, sto_r, zf_r, Int.toNat_natCast, true_or, or_true, eq_self]) <;> (first | omega | decide)))) | (with_reducible refine ok_cf ?_ ?_; · (first | omega | ((try simp (disch := omega) only [w32_eq, w64_eq, ix_n, ix_e, sto_n, sto_e, sto_r, zf_r, Int.toNat_natCast, true_or, or_true, eq_self]) <;> (first | omega | decide)))))
    exact l_fw43 hW hC r FU 0 M (by omega) (by unfold FU; omega) h1 h2 (fun p hp => by omega)
  | succ j ih =>
    intro fuel b M e hf h1 h2
    have hj : (b : Int) + 1 = ((b + 1 : Nat) : Int) := by omega
    have hlb := hl b (by omega)
    have u67 := h1.c 67 (by decide) (by decide)
    have eb : ix (b : Int) = b := ix_n (by omega)
    have nxt : ∀ v : Int, v = ini m 1000000 (B 67) b → Ok (fix (fun _ _ _ _ => none) k_Ya_findWays_2 (fuel - 1) (m : Int) (r : Int) ((b : Int) + 1) (sto (sto M 71 b v) 72 b (-1))) (fun _ M' => FwP m r B pot M') := by
      intro v hv
      rw [hj]
      refine ih (fuel - 1) (b + 1) _ (by omega) (by omega) (h1.trans (Fr.trans (fr_stoA (by decide)) (fr_stoA (by decide)))) (fun p hp => ?_)
      simp (disch := decide) only [sto_r, sto_up]
      unfold up
      by_cases c : p = b
      · rw [if_pos c, if_pos c, c]; exact ⟨hv, rfl⟩
      · rw [if_neg c, if_neg c]; exact h2 p (by omega)
    obtain ⟨f, rfl⟩ : ∃ f, fuel = f + 1 := ⟨fuel - 1, by omega⟩; rw [fix_s]; unfold k_Ya_findWays_2
    rw [show f + 1 - 1 = f from rfl] at nxt
    by_cases c : 0 < B 67 b
    · repeat (first | with_reducible refine ok_let ?_ | with_reducible refine ok_cs ?_ | with_reducible refine ok_clet ?_ | with_reducible refine ok_cc ?_ | (with_reducible refine ok_chk ?_ ?_; · (first | omega | ((try simp (disch := omega) only [w32_eq, w64_eq, ix_n, ix_e, sto_n, sto_e, sto_r, zf_r, Int.toNat_natCast, true_or, or_true, eq_self, u67, eb]) <;> (first | omega | decide)))) | (with_reducible refine ok_cchk ?_ ?_; · (first | omega | ((try simp (disch := omega) only [w32_eq, w64_eq, ix_n, ix_e, sto_n, sto_e, sto_r, zf_r, Int.toNat_natCast, true_or, or_true, eq_self, u67, eb]) <;> (first | omega | decide)))) | (with_reducible refine ok_t ?_ ?_; · (first | omega | ((try simp (disch := omega) only [w32_eq, w64_eq, ix_n, ix_e, sto_n, sto_e, sto_r, zf_r, Int.toNat_natCast, true_or, or_true, eq_self, u67, eb]) <;> (first | omega | decide)))) | (with_reducible refine ok_f ?_ ?_; · (first | omega | ((try simp (disch := omega) only [w32_eq, w64_eq, ix_n, ix_e, sto_n, sto_e, sto_r, zf_r, Int.toNat_natCast, true_or, or_true, eq_self, u67, eb]) <;> (first | omega | decide)))) | (with_reducible refine ok_ct ?_ ?_; · (first | omega | ((try simp (disch := omega) only [w32_eq, w64_eq, ix_n, ix_e, sto_n, sto_e, sto_r, zf_r, Int.toNat_natCast, true_or, or_true, eq_self, u67, eb]) <;> (first | omega | decide)))) | (with_reducible refine ok_cf ?_ ?_; · (first | omega | ((try simp (disch := omega) only [w32_eq, w64_eq, ix_n, ix_e, sto_n, sto_e, sto_r, zf_r, Int.toNat_natCast, true_or, or_true, eq_self, u67, eb]) <;> (first | omega | decide)))))
      unfold k_Ya_findWays_27
      repeat (first | with_reducible refine ok_let ?_ | with_reducible refine ok_cs ?_ | with_reducible refine ok_clet ?_ | with_reducible refine ok_cc ?_ | (with_reducible refine ok_chk ?_ ?_; · (first | omega | ((try simp (disch := omega) only [w32_eq, w64_eq, ix_n, ix_e, sto_n, sto_e, sto_r, zf_r, Int.toNat_natCast, true_or, or_true, eq_self]) <;> (first | omega | decide)))) | (with_reducible refine ok_cchk ?_ ?_; · (first | omega | ((try simp (disch := omega) only [w32_eq, w64_eq, ix_n, ix_e, sto_n, sto_e, sto_r, zf_r, Int.toNat_natCast, true_or, or_true, eq_self]) <;> (first | omega | decide)))) | (with_reducible refine ok_t ?_ ?_; · (first | omega | ((try simp (disch := omega) only [w32_eq, w64_eq, ix_n, ix_e, sto_n, sto_e, sto_r, zf_r, Int.toNat_natCast, true_or, or_true, eq_self]) <;> (first | omega | decide)))) | (with_reducible refine ok_f ?_ ?_; · (first | omega | ((try simp (disch := omega) only [w32_eq, w64_eq, ix_n, ix_e, sto_n, sto_e, sto_r, zf_r, Int.toNat_natCast, true_or, or_true, eq_self]) <;> (first | omega | decide)))) | (with_reducible refine ok_ct ?_ ?_; · (first | omega | ((try simp (disch := omega) only [w32_eq, w64_eq, ix_n, ix_e, sto_n, sto_e, sto_r, zf_r, Int.toNat_natCast, true_or, or_true, eq_self]) <;> (first | omega | decide)))) | (with_reducible refine ok_cf ?_ ?_; · (first | omega | ((try simp (disch := omega) only [w32_eq, w64_eq, ix_n, ix_e, sto_n, sto_e, sto_r, zf_r, Int.toNat_natCast, true_or, or_true, eq_self]) <;> (first | omega | decide)))))
      rw [eb]
      exact nxt 0 (by unfold ini; rw [if_pos ⟨by omega, c⟩])
    · repeat (first | with_reducible refine ok_let ?_ | with_reducible refine ok_cs ?_ | with_reducible refine ok_clet ?_ | with_reducible refine ok_cc ?_ | (with_reducible refine ok_chk ?_ ?_; · (first | omega | ((try simp (disch := omega) only [w32_eq, w64_eq, ix_n, ix_e, sto_n, sto_e, sto_r, zf_r, Int.toNat_natCast, true_or, or_true, eq_self, u67, eb]) <;> (first | omega | decide)))) | (with_reducible refine ok_cchk ?_ ?_; · (first | omega | ((try simp (disch := omega) only [w32_eq, w64_eq, ix_n, ix_e, sto_n, sto_e, sto_r, zf_r, Int.toNat_natCast, true_or, or_true, eq_self, u67, eb]) <;> (first | omega | decide)))) | (with_reducible refine ok_t ?_ ?_; · (first | omega | ((try simp (disch := omega) only [w32_eq, w64_eq, ix_n, ix_e, sto_n, sto_e, sto_r, zf_r, Int.toNat_natCast, true_or, or_true, eq_self, u67, eb]) <;> (first | omega | decide)))) | (with_reducible refine ok_f ?_ ?_; · (first | omega | ((try simp (disch := omega) only [w32_eq, w64_eq, ix_n, ix_e, sto_n, sto_e, sto_r, zf_r, Int.toNat_natCast, true_or, or_true, eq_self, u67, eb]) <;> (first | omega | decide)))) | (with_reducible refine ok_ct ?_ ?_; · (first | omega | ((try simp (disch := omega) only [w32_eq, w64_eq, ix_n, ix_e, sto_n, sto_e, sto_r, zf_r, Int.toNat_natCast, true_or, or_true, eq_self, u67, eb]) <;> (first | omega | decide)))) | (with_reducible refine ok_cf ?_ ?_; · (first | omega | ((try simp (disch := omega) only [w32_eq, w64_eq, ix_n, ix_e, sto_n, sto_e, sto_r, zf_r, Int.toNat_natCast, true_or, or_true, eq_self, u67, eb]) <;> (first | omega | decide)))))
      unfold k_Ya_findWays_27
      repeat (first | with_reducible refine ok_let ?_ | with_reducible refine ok_cs ?_ | with_reducible refine ok_clet ?_ | with_reducible refine ok_cc ?_ | (with_reducible refine ok_chk ?_ ?_; · (first | omega | ((try simp (disch := omega) only [w32_eq, w64_eq, ix_n, ix_e, sto_n, sto_e, sto_r, zf_r, Int.toNat_natCast, true_or, or_true, eq_self]) <;> (first | omega | decide)))) | (with_reducible refine ok_cchk ?_ ?_; · (first | omega | ((try simp (disch := omega) only [w32_eq, w64_eq, ix_n, ix_e, sto_n, sto_e, sto_r, zf_r, Int.toNat_natCast, true_or, or_true, eq_self]) <;> (first | omega | decide)))) | (with_reducible refine ok_t ?_ ?_; · (first | omega | ((try simp (disch := omega) only [w32_eq, w64_eq, ix_n, ix_e, sto_n, sto_e, sto_r, zf_r, Int.toNat_natCast, true_or, or_true, eq_self]) <;> (first | omega | decide)))) | (with_reducible refine ok_f ?_ ?_; · (first | omega | ((try simp (disch := omega) only [w32_eq, w64_eq, ix_n, ix_e, sto_n, sto_e, sto_r, zf_r, Int.toNat_natCast, true_or, or_true, eq_self]) <;> (first | omega | decide)))) | (with_reducible refine ok_ct ?_ ?_; · (first | omega | ((try simp (disch := omega) only [w32_eq, w64_eq, ix_n, ix_e, sto_n, sto_e, sto_r, zf_r, Int.toNat_natCast, true_or, or_true, eq_self]) <;> (first | omega | decide)))) | (with_reducible refine ok_cf ?_ ?_; · (first | omega | ((try simp (disch := omega) only [w32_eq, w64_eq, ix_n, ix_e, sto_n, sto_e, sto_r, zf_r, Int.toNat_natCast, true_or, or_true, eq_self]) <;> (first | omega | decide)))))
      rw [eb]
      exact nxt 1000000 (by unfold ini; rw [if_neg (fun q => c q.2)])
theorem s_findWays {m r : Nat} {M : Mem} {pot : Nat → Int} (hW : SnW m r M) (hl : ∀ b, b < m → 0 ≤ M 67 b ∧ M 67 b ≤ 30) (hC : Cer m r (M 69) (M 70) (M 67) pot) :
    Ok (d_Ya_findWays (m : Int) (r : Int) M) (fun _ M' => ((∃ b, b < m ∧ 0 < M 67 b) → ∃ ta, Fnd m r (M 69) (M 70) (M 67) (dC m M') (vC m M') ta) ∧ Fr [71, 72, 73, 74] [] M M') := by
  refine ok_fr ?_ (fun r hr => w_Ya_findWays hr)
  unfold d_Ya_findWays
  refine ok_mono (l_fw2 hW hl hC m FU 0 M (by omega) (by unfold FU; have := hW.1; omega) Fr.rfl' (fun p hp => by omega)) (fun _ M' h ⟨b, hb⟩ => ?_)
  obtain ⟨i, h1, h2, h3⟩ := h
  exact fnd (S := stC m M') hW.1 h1 (fun k hk => (hW.2 k hk).1) hC (by decide) (by decide) h2 h3 hb
