/-! a text is taken up -/
theorem cpy_s {M : Mem} {ks kd dp k : Nat} : sto (cpy M ks 0 kd dp k) kd (dp + k) (M ks k) = cpy M ks 0 kd dp (k + 1) := by
  funext a
  by_cases c : a = kd
  · subst c
    funext b
    rw [sto_up, cpy_c]
    unfold up
    rw [cpy_c]
    by_cases d : b = dp + k
    · rw [if_pos d, if_pos (by omega), show 0 + (b - dp) = k by omega]
    · rw [if_neg d]
      by_cases e : dp ≤ b ∧ b < dp + k
      · rw [if_pos e, if_pos (by omega)]
      · rw [if_neg e, if_neg (by omega)]
  · rw [sto_r c, cpy_r c, cpy_r c]
theorem cpy_0 {M : Mem} {ks kd dp : Nat} : cpy M ks 0 kd dp 0 = M := by
  funext a
  by_cases c : a = kd
  · subst c; funext b; rw [cpy_c, if_neg (by omega)]
  · rw [cpy_r c]
def cpR (M : Mem) (T m D : Nat) (a2 : Int) : Mem := sto (sto (sto (cpy (cpy (cpy M 152 0 150 (1100 * T) m) 151 0 149 (11 * T) (D + 1)) 154 0 153 (10 * T) D) 148 T (D : Int)) 147 T a2) 111 56 ((T : Int) + 1)
theorem l_228 {M : Mem} {T D : Nat} {a2 : Int} (hT : T < 4) (hD : D ≤ 10) (h56 : M 111 56 = (T : Int)) (h57 : M 111 57 = (D : Int)) : ∀ r fuel k : Nat, k + r = D → r < fuel → fix (fun _ _ _ => none) k_Mo_acts_228 fuel a2 (k : Int) (cpy M 154 0 153 (10 * T) k) = some ((D : Int), sto (sto (sto (cpy M 154 0 153 (10 * T) D) 148 T (D : Int)) 147 T a2) 111 56 ((T : Int) + 1)) := by
  have xT : ix (T : Int) = T := ix_n (by omega)
  intro r; induction r with
  | zero =>
    intro fuel k e hf
    obtain ⟨f, rfl⟩ : ∃ f, fuel = f + 1 := ⟨fuel - 1, by omega⟩
    have ek : k = D := by omega
    subst ek
    have key : ∀ R : Int → Int → Mem → Res, k_Mo_acts_228 R a2 (k : Int) (cpy M 154 0 153 (10 * T) k) = some ((k : Int), sto (sto (sto (cpy M 154 0 153 (10 * T) k) 148 T (k : Int)) 147 T a2) 111 56 ((T : Int) + 1)) := fun R => by
      unfold k_Mo_acts_228
      rw [cpy_r (show 111 ≠ 153 by decide), h56, h57]
      refine e_let (e_f (Int.lt_irrefl _) (e_let (e_let (e_chk (by rw [w32_eq (by omega) (by omega)]; omega) (e_let ?_)))))
      rw [xT, sto_r (show 111 ≠ 148 by decide), cpy_r (show 111 ≠ 153 by decide), h56]
      refine e_let (e_chk (by rw [w32_eq (by omega) (by omega)]; omega) (e_let ?_))
      rw [xT, sto_r (show 111 ≠ 147 by decide), sto_r (show 111 ≠ 148 by decide), cpy_r (show 111 ≠ 153 by decide), h56]
      refine e_let (e_let ?_)
      rw [sto_n (show 57 ≠ 56 by decide), sto_r (show 111 ≠ 147 by decide), sto_r (show 111 ≠ 148 by decide), cpy_r (show 111 ≠ 153 by decide), h57]
      rfl
    rw [fix_s]; exact key _
  | succ r ih =>
    intro fuel k e hf
    obtain ⟨f, rfl⟩ : ∃ f, fuel = f + 1 := ⟨fuel - 1, by omega⟩
    have xk : ix (k : Int) = k := ix_n (by omega)
    have key : ∀ R : Int → Int → Mem → Res, k_Mo_acts_228 R a2 (k : Int) (cpy M 154 0 153 (10 * T) k) = R a2 ((k + 1 : Nat) : Int) (cpy M 154 0 153 (10 * T) (k + 1)) := fun R => by
      unfold k_Mo_acts_228
      rw [cpy_r (show 111 ≠ 153 by decide), h56, h57]
      refine e_let (e_t (by rw [w32_eq (by omega) (by omega), w32_eq (by omega) (by omega)]; omega) (e_let (e_chk (by rw [w32_eq (by omega) (by omega)]; omega) (e_let (e_chk (by rw [w32_eq (by omega) (by omega)]; omega) (e_let (e_let ?_)))))))
      rw [xk, cpy_r (show 154 ≠ 153 by decide), show ix (10 * (T : Int) + (k : Int)) = 10 * T + k by rw [ix_e (by omega) (by omega)]; omega, cpy_s, show ((k + 1 : Nat) : Int) = (k : Int) + 1 by omega]
    rw [fix_s, key]
    exact ih f (k + 1) (by omega) (by omega)
theorem l_192 {M : Mem} {T D : Nat} {a2 : Int} (hT : T < 4) (hD : D ≤ 10) (h56 : M 111 56 = (T : Int)) (h57 : M 111 57 = (D : Int)) : ∀ r fuel k : Nat, k + r = D + 1 → r < fuel → fix (fun _ _ _ => none) k_Mo_acts_192 fuel a2 (k : Int) (cpy M 151 0 149 (11 * T) k) = fix (fun _ _ _ => none) k_Mo_acts_228 FU a2 0 (cpy M 151 0 149 (11 * T) (D + 1)) := by
  intro r; induction r with
  | zero =>
    intro fuel k e hf
    obtain ⟨f, rfl⟩ : ∃ f, fuel = f + 1 := ⟨fuel - 1, by omega⟩
    have key : ∀ R : Int → Int → Mem → Res, k_Mo_acts_192 R a2 (k : Int) (cpy M 151 0 149 (11 * T) k) = fix (fun _ _ _ => none) k_Mo_acts_228 FU a2 0 (cpy M 151 0 149 (11 * T) (D + 1)) := fun R => by
      unfold k_Mo_acts_192
      rw [cpy_r (show 111 ≠ 149 by decide), h57]
      refine e_let (e_t (by rw [w32_eq (by omega) (by omega), w32_eq (by omega) (by omega)]; omega) ?_)
      rw [show k = D + 1 by omega]
    rw [fix_s]; exact key _
  | succ r ih =>
    intro fuel k e hf
    obtain ⟨f, rfl⟩ : ∃ f, fuel = f + 1 := ⟨fuel - 1, by omega⟩
    have xk : ix (k : Int) = k := ix_n (by omega)
    have key : ∀ R : Int → Int → Mem → Res, k_Mo_acts_192 R a2 (k : Int) (cpy M 151 0 149 (11 * T) k) = R a2 ((k + 1 : Nat) : Int) (cpy M 151 0 149 (11 * T) (k + 1)) := fun R => by
      unfold k_Mo_acts_192
      rw [cpy_r (show 111 ≠ 149 by decide), h56, h57]
      refine e_let (e_f (by rw [w32_eq (by omega) (by omega), w32_eq (by omega) (by omega)]; omega) (e_let (e_chk (by rw [w32_eq (by omega) (by omega)]; omega) (e_let (e_chk (by rw [w32_eq (by omega) (by omega)]; omega) (e_let (e_let ?_)))))))
      rw [xk, cpy_r (show 151 ≠ 149 by decide), show ix (11 * (T : Int) + (k : Int)) = 11 * T + k by rw [ix_e (by omega) (by omega)]; omega, cpy_s, show ((k + 1 : Nat) : Int) = (k : Int) + 1 by omega]
    rw [fix_s, key]
    exact ih f (k + 1) (by omega) (by omega)
theorem l_155 {M : Mem} {T m : Nat} {a2 : Int} (hT : T < 4) (hm : m ≤ 500) (h56 : M 111 56 = (T : Int)) (h58 : M 111 58 = (m : Int)) : ∀ r fuel k : Nat, k + r = m → r < fuel → fix (fun _ _ _ => none) k_Mo_acts_155 fuel a2 (k : Int) (cpy M 152 0 150 (1100 * T) k) = fix (fun _ _ _ => none) k_Mo_acts_192 FU a2 0 (cpy M 152 0 150 (1100 * T) m) := by
  intro r; induction r with
  | zero =>
    intro fuel k e hf
    obtain ⟨f, rfl⟩ : ∃ f, fuel = f + 1 := ⟨fuel - 1, by omega⟩
    have key : ∀ R : Int → Int → Mem → Res, k_Mo_acts_155 R a2 (k : Int) (cpy M 152 0 150 (1100 * T) k) = fix (fun _ _ _ => none) k_Mo_acts_192 FU a2 0 (cpy M 152 0 150 (1100 * T) m) := fun R => by
      unfold k_Mo_acts_155
      rw [cpy_r (show 111 ≠ 150 by decide), h58]
      refine e_let (e_f (by rw [w32_eq (by omega) (by omega), w32_eq (by omega) (by omega)]; omega) ?_)
      rw [show k = m by omega]
    rw [fix_s]; exact key _
  | succ r ih =>
    intro fuel k e hf
    obtain ⟨f, rfl⟩ : ∃ f, fuel = f + 1 := ⟨fuel - 1, by omega⟩
    have xk : ix (k : Int) = k := ix_n (by omega)
    have key : ∀ R : Int → Int → Mem → Res, k_Mo_acts_155 R a2 (k : Int) (cpy M 152 0 150 (1100 * T) k) = R a2 ((k + 1 : Nat) : Int) (cpy M 152 0 150 (1100 * T) (k + 1)) := fun R => by
      unfold k_Mo_acts_155
      rw [cpy_r (show 111 ≠ 150 by decide), h56, h58]
      refine e_let (e_t (by rw [w32_eq (by omega) (by omega), w32_eq (by omega) (by omega)]; omega) (e_let (e_chk (by rw [w32_eq (by omega) (by omega)]; omega) (e_let (e_chk (by rw [w32_eq (by omega) (by omega)]; omega) (e_let (e_let ?_)))))))
      rw [xk, cpy_r (show 152 ≠ 150 by decide), show ix (1100 * (T : Int) + (k : Int)) = 1100 * T + k by rw [ix_e (by omega) (by omega)]; omega, cpy_s, show ((k + 1 : Nat) : Int) = (k : Int) + 1 by omega]
    rw [fix_s, key]
    exact ih f (k + 1) (by omega) (by omega)
theorem s_copy {M : Mem} {T m D : Nat} {a2 : Int} (hT : T < 4) (hm : m ≤ 500) (hD : D ≤ 10) (h56 : M 111 56 = (T : Int)) (h57 : M 111 57 = (D : Int)) (h58 : M 111 58 = (m : Int)) : fix (fun _ _ _ => none) k_Mo_acts_155 FU a2 0 M = some ((D : Int), cpR M T m D a2) := by
  have a := l_155 (a2 := a2) hT hm h56 h58 m FU 0 (by omega) (by unfold FU; omega)
  rw [cpy_0] at a
  have b := l_192 (M := cpy M 152 0 150 (1100 * T) m) (a2 := a2) hT hD (by rw [cpy_r (by decide)]; exact h56) (by rw [cpy_r (by decide)]; exact h57) (D + 1) FU 0 (by omega) (by unfold FU; omega)
  rw [cpy_0] at b
  have c := l_228 (M := cpy (cpy M 152 0 150 (1100 * T) m) 151 0 149 (11 * T) (D + 1)) (a2 := a2) hT hD (by rw [cpy_r (by decide), cpy_r (by decide)]; exact h56) (by rw [cpy_r (by decide), cpy_r (by decide)]; exact h57) D FU 0 (by omega) (by unfold FU; omega)
  rw [cpy_0] at c
  exact a.trans (b.trans c)
/-- the model's answer shows in its memory -/
theorem s_112 {M : Mem} {T m D : Nat} {a2 : Int} (hb : M 111 48 = 0) (hT : T < 4) (hm : m ≤ 500) (hD : D ≤ 10) (h56 : M 111 56 = (T : Int)) (h57 : M 111 57 = (D : Int)) (h58 : M 111 58 = (m : Int)) : k_Mo_acts_112 a2 M = some ((D : Int), cpR (sto (sto M 111 46 0) 111 47 (-1)) T m D a2) := by
  unfold k_Mo_acts_112 k_Mo_acts_136
  rw [hb]
  refine e_let (e_let ?_)
  rw [sto_n (show 48 ≠ 46 by decide), hb]
  refine e_let (e_t (by decide) (e_let ?_))
  rw [sto_n (show 48 ≠ 47 by decide), sto_n (show 48 ≠ 46 by decide), hb]
  refine e_let (e_f (by decide) ?_)
  exact s_copy hT hm hD (by simp (disch := omega) only [w32_eq, w64_eq, ix_n, ix_e, sto_n, sto_e, sto_r, zf_r, Int.toNat_natCast, h56]) (by simp (disch := omega) only [w32_eq, w64_eq, ix_n, ix_e, sto_n, sto_e, sto_r, zf_r, Int.toNat_natCast, h57]) (by simp (disch := omega) only [w32_eq, w64_eq, ix_n, ix_e, sto_n, sto_e, sto_r, zf_r, Int.toNat_natCast, h58])
theorem f_112 {M : Mem} {a2 : Int} (hb : 1 ≤ M 111 48 ∧ M 111 48 ≤ 6) : k_Mo_acts_112 a2 M = some (-1, sto (sto (sto M 111 46 (M 111 48)) 111 47 (M 111 49)) 111 0 10) := by
  unfold k_Mo_acts_112 k_Mo_acts_136 d_Mo_refuse
  refine e_let (e_let ?_)
  rw [sto_n (show 48 ≠ 46 by decide), sto_n (show 49 ≠ 46 by decide)]
  refine e_let (e_f (by rw [w32_eq (by omega) (by omega)]; omega) (e_let (e_let ?_)))
  rw [sto_n (show 48 ≠ 47 by decide), sto_n (show 48 ≠ 46 by decide)]
  exact e_let (e_t (by rw [w32_eq (by omega) (by omega)]; omega) rfl)
/-- what the component does -/
def adM (M : Mem) (T : Nat) (a2 : Int) : Mem := sto (sto (cpy (cpy (cpy (sto (sto M (39 + 4 * T) 1 (M 57 1)) (39 + 4 * T) 2 (M 57 2)) 58 0 (39 + 4 * T + 1) 0 500) 59 0 (39 + 4 * T + 2) 0 10) 60 0 (39 + 4 * T + 3) 0 7) (39 + 4 * T) 0 a2) 32 0 ((T : Int) + 1)
theorem s_adopt {M : Mem} {T : Nat} {a2 : Int} (hT : T < 4) (h32 : M 32 0 = (T : Int)) : d_As_adopt 57 a2 M = some (0, adM M T a2) := by
  have xT : ix (T : Int) = T := ix_n (by omega)
  unfold d_As_adopt d_Tx_copyFrom
  rw [h32]
  refine e_let (e_chk (by rw [w32_eq (by omega) (by omega)]; omega) ?_)
  rw [xT]
  refine e_clet (e_clet (e_clet (e_clet (e_clet (e_clet (e_clet (e_cs ?_)))))))
  have e57 : (sto M (39 + 4 * T) 1 (M 57 1)) 57 2 = M 57 2 := by rw [sto_r (by omega)]
  rw [e57]
  have e32 : (cpy (cpy (cpy (sto (sto M (39 + 4 * T) 1 (M 57 1)) (39 + 4 * T) 2 (M 57 2)) (57 + 1) 0 (39 + 4 * T + 1) 0 500) (57 + 2) 0 (39 + 4 * T + 2) 0 10) (57 + 3) 0 (39 + 4 * T + 3) 0 7) 32 0 = (T : Int) := by
    rw [cpy_r (by omega), cpy_r (by omega), cpy_r (by omega), sto_r (by omega), sto_r (by omega), h32]
  rw [e32]
  refine e_let (e_chk (by rw [w32_eq (by omega) (by omega)]; omega) (e_let ?_))
  rw [xT, sto_r (show 32 ≠ 39 + 4 * T by omega), e32]
  rfl
