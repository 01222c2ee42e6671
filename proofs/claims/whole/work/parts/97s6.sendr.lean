/-! wheat sent: the model sends a bushel -/
theorem dv_n {k r : Nat} (hk : k < 2147483648) (hr : r < 2147483648) : dv32 (k : Int) (r : Int) = ((k / r : Nat) : Int) := by
  unfold dv32
  rw [w32_eq (by omega) (by omega), w32_eq (by omega) (by omega)]; rfl
theorem rm_n {k r : Nat} (hk : k < 2147483648) (hr : r < 2147483648) : rm32 (k : Int) (r : Int) = ((k % r : Nat) : Int) := by
  unfold rm32
  rw [w32_eq (by omega) (by omega), w32_eq (by omega) (by omega)]; rfl
def stR (M : Mem) : (Nat → Int) × (Nat → Int) := (M 186, M 187)
theorem st_up {M : Mem} {y x : Nat} {v : Int} : stR (sto (sto M 186 y v) 187 y (x : Int)) = (up (M 186) y v, up (M 187) y (x : Int)) := by
  unfold stR
  rw [sto_r (show 186 ≠ 187 by decide), sto_up, sto_up, sto_r (show 187 ≠ 186 by decide)]
theorem s_bu160 {m r b o k : Nat} {M : Mem} {a3 a4 : Int} {P : Int → Mem → Prop} {R60 : Int → Int → Int → Int → Mem → Res} {R69 : Int → Int → Int → Int → Int → Mem → Res} (hmr : m ≤ 5 ∧ r ≤ 4) (hb : b < m) (ho : o < r) (hk : k < 20) (hc : 0 ≤ M 184 k ∧ M 184 k ≤ 100) (hf : 0 ≤ M 185 k ∧ M 185 k ≤ 30) (h1 : 0 ≤ M 186 b ∧ M 186 b ≤ 100000) (h2 : 0 ≤ M 186 (m + o) ∧ M 186 (m + o) ≤ 100000)
    (hR : ∀ M' : Mem, Fr [186, 187] [] M M' → stR M' = (if 0 < M 185 k then rl 100000 (m + o) b (- M 184 k) (stR M) else stR M) → Ok (R69 (m : Int) (r : Int) a3 a4 ((k : Int) + 1) M') P) :
    Ok (k_Mo_bushel_160 R60 R69 (m : Int) (r : Int) a3 a4 (k : Int) (b : Int) ((m + o : Nat) : Int) M) P := by
  have eb : ix (b : Int) = b := ix_n (by omega)
  have eo : ix ((m + o : Nat) : Int) = m + o := ix_n (by omega)
  have ek : ix (k : Int) = k := ix_n (by omega)
  have s1 : (stR M).1 b = M 186 b := rfl
  have s2 : (stR M).1 (m + o) = M 186 (m + o) := rfl
  unfold k_Mo_bushel_160
  by_cases c1 : 0 < M 185 k
  · rw [if_pos c1] at hR
    unfold rl at hR
    rw [s1, s2] at hR
    by_cases c3 : M 186 (m + o) < 100000
    · by_cases c2 : M 186 (m + o) - M 184 k < M 186 b
      · rw [if_pos ⟨c3, by omega⟩] at hR
        repeat (first | with_reducible refine ok_let ?_ | with_reducible refine ok_cs ?_ | with_reducible refine ok_clet ?_ | with_reducible refine ok_cc ?_ | (with_reducible refine ok_chk ?_ ?_; · (first | omega | ((try simp (disch := omega) only [w32_eq, w64_eq, ix_n, ix_e, sto_n, sto_e, sto_r, zf_r, Int.toNat_natCast, true_or, or_true, eq_self, ek, eb, eo]) <;> (first | omega | decide)))) | (with_reducible refine ok_cchk ?_ ?_; · (first | omega | ((try simp (disch := omega) only [w32_eq, w64_eq, ix_n, ix_e, sto_n, sto_e, sto_r, zf_r, Int.toNat_natCast, true_or, or_true, eq_self, ek, eb, eo]) <;> (first | omega | decide)))) | (with_reducible refine ok_t ?_ ?_; · (first | omega | ((try simp (disch := omega) only [w32_eq, w64_eq, ix_n, ix_e, sto_n, sto_e, sto_r, zf_r, Int.toNat_natCast, true_or, or_true, eq_self, ek, eb, eo]) <;> (first | omega | decide)))) | (with_reducible refine ok_f ?_ ?_; · (first | omega | ((try simp (disch := omega) only [w32_eq, w64_eq, ix_n, ix_e, sto_n, sto_e, sto_r, zf_r, Int.toNat_natCast, true_or, or_true, eq_self, ek, eb, eo]) <;> (first | omega | decide)))) | (with_reducible refine ok_ct ?_ ?_; · (first | omega | ((try simp (disch := omega) only [w32_eq, w64_eq, ix_n, ix_e, sto_n, sto_e, sto_r, zf_r, Int.toNat_natCast, true_or, or_true, eq_self, ek, eb, eo]) <;> (first | omega | decide)))) | (with_reducible refine ok_cf ?_ ?_; · (first | omega | ((try simp (disch := omega) only [w32_eq, w64_eq, ix_n, ix_e, sto_n, sto_e, sto_r, zf_r, Int.toNat_natCast, true_or, or_true, eq_self, ek, eb, eo]) <;> (first | omega | decide)))))
        unfold k_Mo_bushel_239
        repeat (first | with_reducible refine ok_let ?_ | with_reducible refine ok_cs ?_ | with_reducible refine ok_clet ?_ | with_reducible refine ok_cc ?_ | (with_reducible refine ok_chk ?_ ?_; · (first | omega | ((try simp (disch := omega) only [w32_eq, w64_eq, ix_n, ix_e, sto_n, sto_e, sto_r, zf_r, Int.toNat_natCast, true_or, or_true, eq_self]) <;> (first | omega | decide)))) | (with_reducible refine ok_cchk ?_ ?_; · (first | omega | ((try simp (disch := omega) only [w32_eq, w64_eq, ix_n, ix_e, sto_n, sto_e, sto_r, zf_r, Int.toNat_natCast, true_or, or_true, eq_self]) <;> (first | omega | decide)))) | (with_reducible refine ok_t ?_ ?_; · (first | omega | ((try simp (disch := omega) only [w32_eq, w64_eq, ix_n, ix_e, sto_n, sto_e, sto_r, zf_r, Int.toNat_natCast, true_or, or_true, eq_self]) <;> (first | omega | decide)))) | (with_reducible refine ok_f ?_ ?_; · (first | omega | ((try simp (disch := omega) only [w32_eq, w64_eq, ix_n, ix_e, sto_n, sto_e, sto_r, zf_r, Int.toNat_natCast, true_or, or_true, eq_self]) <;> (first | omega | decide)))) | (with_reducible refine ok_ct ?_ ?_; · (first | omega | ((try simp (disch := omega) only [w32_eq, w64_eq, ix_n, ix_e, sto_n, sto_e, sto_r, zf_r, Int.toNat_natCast, true_or, or_true, eq_self]) <;> (first | omega | decide)))) | (with_reducible refine ok_cf ?_ ?_; · (first | omega | ((try simp (disch := omega) only [w32_eq, w64_eq, ix_n, ix_e, sto_n, sto_e, sto_r, zf_r, Int.toNat_natCast, true_or, or_true, eq_self]) <;> (first | omega | decide)))))
        rw [eb, eo, ek]
        refine hR _ (Fr.trans (fr_stoA (by decide)) (fr_stoA (by decide))) ?_
        rw [st_up]
        rfl
      · rw [if_neg (fun q => c2 (by omega))] at hR
        repeat (first | with_reducible refine ok_let ?_ | with_reducible refine ok_cs ?_ | with_reducible refine ok_clet ?_ | with_reducible refine ok_cc ?_ | (with_reducible refine ok_chk ?_ ?_; · (first | omega | ((try simp (disch := omega) only [w32_eq, w64_eq, ix_n, ix_e, sto_n, sto_e, sto_r, zf_r, Int.toNat_natCast, true_or, or_true, eq_self, ek, eb, eo]) <;> (first | omega | decide)))) | (with_reducible refine ok_cchk ?_ ?_; · (first | omega | ((try simp (disch := omega) only [w32_eq, w64_eq, ix_n, ix_e, sto_n, sto_e, sto_r, zf_r, Int.toNat_natCast, true_or, or_true, eq_self, ek, eb, eo]) <;> (first | omega | decide)))) | (with_reducible refine ok_t ?_ ?_; · (first | omega | ((try simp (disch := omega) only [w32_eq, w64_eq, ix_n, ix_e, sto_n, sto_e, sto_r, zf_r, Int.toNat_natCast, true_or, or_true, eq_self, ek, eb, eo]) <;> (first | omega | decide)))) | (with_reducible refine ok_f ?_ ?_; · (first | omega | ((try simp (disch := omega) only [w32_eq, w64_eq, ix_n, ix_e, sto_n, sto_e, sto_r, zf_r, Int.toNat_natCast, true_or, or_true, eq_self, ek, eb, eo]) <;> (first | omega | decide)))) | (with_reducible refine ok_ct ?_ ?_; · (first | omega | ((try simp (disch := omega) only [w32_eq, w64_eq, ix_n, ix_e, sto_n, sto_e, sto_r, zf_r, Int.toNat_natCast, true_or, or_true, eq_self, ek, eb, eo]) <;> (first | omega | decide)))) | (with_reducible refine ok_cf ?_ ?_; · (first | omega | ((try simp (disch := omega) only [w32_eq, w64_eq, ix_n, ix_e, sto_n, sto_e, sto_r, zf_r, Int.toNat_natCast, true_or, or_true, eq_self, ek, eb, eo]) <;> (first | omega | decide)))))
        unfold k_Mo_bushel_239
        repeat (first | with_reducible refine ok_let ?_ | with_reducible refine ok_cs ?_ | with_reducible refine ok_clet ?_ | with_reducible refine ok_cc ?_ | (with_reducible refine ok_chk ?_ ?_; · (first | omega | ((try simp (disch := omega) only [w32_eq, w64_eq, ix_n, ix_e, sto_n, sto_e, sto_r, zf_r, Int.toNat_natCast, true_or, or_true, eq_self]) <;> (first | omega | decide)))) | (with_reducible refine ok_cchk ?_ ?_; · (first | omega | ((try simp (disch := omega) only [w32_eq, w64_eq, ix_n, ix_e, sto_n, sto_e, sto_r, zf_r, Int.toNat_natCast, true_or, or_true, eq_self]) <;> (first | omega | decide)))) | (with_reducible refine ok_t ?_ ?_; · (first | omega | ((try simp (disch := omega) only [w32_eq, w64_eq, ix_n, ix_e, sto_n, sto_e, sto_r, zf_r, Int.toNat_natCast, true_or, or_true, eq_self]) <;> (first | omega | decide)))) | (with_reducible refine ok_f ?_ ?_; · (first | omega | ((try simp (disch := omega) only [w32_eq, w64_eq, ix_n, ix_e, sto_n, sto_e, sto_r, zf_r, Int.toNat_natCast, true_or, or_true, eq_self]) <;> (first | omega | decide)))) | (with_reducible refine ok_ct ?_ ?_; · (first | omega | ((try simp (disch := omega) only [w32_eq, w64_eq, ix_n, ix_e, sto_n, sto_e, sto_r, zf_r, Int.toNat_natCast, true_or, or_true, eq_self]) <;> (first | omega | decide)))) | (with_reducible refine ok_cf ?_ ?_; · (first | omega | ((try simp (disch := omega) only [w32_eq, w64_eq, ix_n, ix_e, sto_n, sto_e, sto_r, zf_r, Int.toNat_natCast, true_or, or_true, eq_self]) <;> (first | omega | decide)))))
        exact hR M Fr.rfl' rfl
    · rw [if_neg (fun q => c3 q.1)] at hR
      repeat (first | with_reducible refine ok_let ?_ | with_reducible refine ok_cs ?_ | with_reducible refine ok_clet ?_ | with_reducible refine ok_cc ?_ | (with_reducible refine ok_chk ?_ ?_; · (first | omega | ((try simp (disch := omega) only [w32_eq, w64_eq, ix_n, ix_e, sto_n, sto_e, sto_r, zf_r, Int.toNat_natCast, true_or, or_true, eq_self, ek, eb, eo]) <;> (first | omega | decide)))) | (with_reducible refine ok_cchk ?_ ?_; · (first | omega | ((try simp (disch := omega) only [w32_eq, w64_eq, ix_n, ix_e, sto_n, sto_e, sto_r, zf_r, Int.toNat_natCast, true_or, or_true, eq_self, ek, eb, eo]) <;> (first | omega | decide)))) | (with_reducible refine ok_t ?_ ?_; · (first | omega | ((try simp (disch := omega) only [w32_eq, w64_eq, ix_n, ix_e, sto_n, sto_e, sto_r, zf_r, Int.toNat_natCast, true_or, or_true, eq_self, ek, eb, eo]) <;> (first | omega | decide)))) | (with_reducible refine ok_f ?_ ?_; · (first | omega | ((try simp (disch := omega) only [w32_eq, w64_eq, ix_n, ix_e, sto_n, sto_e, sto_r, zf_r, Int.toNat_natCast, true_or, or_true, eq_self, ek, eb, eo]) <;> (first | omega | decide)))) | (with_reducible refine ok_ct ?_ ?_; · (first | omega | ((try simp (disch := omega) only [w32_eq, w64_eq, ix_n, ix_e, sto_n, sto_e, sto_r, zf_r, Int.toNat_natCast, true_or, or_true, eq_self, ek, eb, eo]) <;> (first | omega | decide)))) | (with_reducible refine ok_cf ?_ ?_; · (first | omega | ((try simp (disch := omega) only [w32_eq, w64_eq, ix_n, ix_e, sto_n, sto_e, sto_r, zf_r, Int.toNat_natCast, true_or, or_true, eq_self, ek, eb, eo]) <;> (first | omega | decide)))))
      unfold k_Mo_bushel_239
      repeat (first | with_reducible refine ok_let ?_ | with_reducible refine ok_cs ?_ | with_reducible refine ok_clet ?_ | with_reducible refine ok_cc ?_ | (with_reducible refine ok_chk ?_ ?_; · (first | omega | ((try simp (disch := omega) only [w32_eq, w64_eq, ix_n, ix_e, sto_n, sto_e, sto_r, zf_r, Int.toNat_natCast, true_or, or_true, eq_self]) <;> (first | omega | decide)))) | (with_reducible refine ok_cchk ?_ ?_; · (first | omega | ((try simp (disch := omega) only [w32_eq, w64_eq, ix_n, ix_e, sto_n, sto_e, sto_r, zf_r, Int.toNat_natCast, true_or, or_true, eq_self]) <;> (first | omega | decide)))) | (with_reducible refine ok_t ?_ ?_; · (first | omega | ((try simp (disch := omega) only [w32_eq, w64_eq, ix_n, ix_e, sto_n, sto_e, sto_r, zf_r, Int.toNat_natCast, true_or, or_true, eq_self]) <;> (first | omega | decide)))) | (with_reducible refine ok_f ?_ ?_; · (first | omega | ((try simp (disch := omega) only [w32_eq, w64_eq, ix_n, ix_e, sto_n, sto_e, sto_r, zf_r, Int.toNat_natCast, true_or, or_true, eq_self]) <;> (first | omega | decide)))) | (with_reducible refine ok_ct ?_ ?_; · (first | omega | ((try simp (disch := omega) only [w32_eq, w64_eq, ix_n, ix_e, sto_n, sto_e, sto_r, zf_r, Int.toNat_natCast, true_or, or_true, eq_self]) <;> (first | omega | decide)))) | (with_reducible refine ok_cf ?_ ?_; · (first | omega | ((try simp (disch := omega) only [w32_eq, w64_eq, ix_n, ix_e, sto_n, sto_e, sto_r, zf_r, Int.toNat_natCast, true_or, or_true, eq_self]) <;> (first | omega | decide)))))
      exact hR M Fr.rfl' rfl
  · rw [if_neg c1] at hR
    repeat (first | with_reducible refine ok_let ?_ | with_reducible refine ok_cs ?_ | with_reducible refine ok_clet ?_ | with_reducible refine ok_cc ?_ | (with_reducible refine ok_chk ?_ ?_; · (first | omega | ((try simp (disch := omega) only [w32_eq, w64_eq, ix_n, ix_e, sto_n, sto_e, sto_r, zf_r, Int.toNat_natCast, true_or, or_true, eq_self, ek]) <;> (first | omega | decide)))) | (with_reducible refine ok_cchk ?_ ?_; · (first | omega | ((try simp (disch := omega) only [w32_eq, w64_eq, ix_n, ix_e, sto_n, sto_e, sto_r, zf_r, Int.toNat_natCast, true_or, or_true, eq_self, ek]) <;> (first | omega | decide)))) | (with_reducible refine ok_t ?_ ?_; · (first | omega | ((try simp (disch := omega) only [w32_eq, w64_eq, ix_n, ix_e, sto_n, sto_e, sto_r, zf_r, Int.toNat_natCast, true_or, or_true, eq_self, ek]) <;> (first | omega | decide)))) | (with_reducible refine ok_f ?_ ?_; · (first | omega | ((try simp (disch := omega) only [w32_eq, w64_eq, ix_n, ix_e, sto_n, sto_e, sto_r, zf_r, Int.toNat_natCast, true_or, or_true, eq_self, ek]) <;> (first | omega | decide)))) | (with_reducible refine ok_ct ?_ ?_; · (first | omega | ((try simp (disch := omega) only [w32_eq, w64_eq, ix_n, ix_e, sto_n, sto_e, sto_r, zf_r, Int.toNat_natCast, true_or, or_true, eq_self, ek]) <;> (first | omega | decide)))) | (with_reducible refine ok_cf ?_ ?_; · (first | omega | ((try simp (disch := omega) only [w32_eq, w64_eq, ix_n, ix_e, sto_n, sto_e, sto_r, zf_r, Int.toNat_natCast, true_or, or_true, eq_self, ek]) <;> (first | omega | decide)))))
    unfold k_Mo_bushel_239
    repeat (first | with_reducible refine ok_let ?_ | with_reducible refine ok_cs ?_ | with_reducible refine ok_clet ?_ | with_reducible refine ok_cc ?_ | (with_reducible refine ok_chk ?_ ?_; · (first | omega | ((try simp (disch := omega) only [w32_eq, w64_eq, ix_n, ix_e, sto_n, sto_e, sto_r, zf_r, Int.toNat_natCast, true_or, or_true, eq_self]) <;> (first | omega | decide)))) | (with_reducible refine ok_cchk ?_ ?_; · (first | omega | ((try simp (disch := omega) only [w32_eq, w64_eq, ix_n, ix_e, sto_n, sto_e, sto_r, zf_r, Int.toNat_natCast, true_or, or_true, eq_self]) <;> (first | omega | decide)))) | (with_reducible refine ok_t ?_ ?_; · (first | omega | ((try simp (disch := omega) only [w32_eq, w64_eq, ix_n, ix_e, sto_n, sto_e, sto_r, zf_r, Int.toNat_natCast, true_or, or_true, eq_self]) <;> (first | omega | decide)))) | (with_reducible refine ok_f ?_ ?_; · (first | omega | ((try simp (disch := omega) only [w32_eq, w64_eq, ix_n, ix_e, sto_n, sto_e, sto_r, zf_r, Int.toNat_natCast, true_or, or_true, eq_self]) <;> (first | omega | decide)))) | (with_reducible refine ok_ct ?_ ?_; · (first | omega | ((try simp (disch := omega) only [w32_eq, w64_eq, ix_n, ix_e, sto_n, sto_e, sto_r, zf_r, Int.toNat_natCast, true_or, or_true, eq_self]) <;> (first | omega | decide)))) | (with_reducible refine ok_cf ?_ ?_; · (first | omega | ((try simp (disch := omega) only [w32_eq, w64_eq, ix_n, ix_e, sto_n, sto_e, sto_r, zf_r, Int.toNat_natCast, true_or, or_true, eq_self]) <;> (first | omega | decide)))))
    exact hR M Fr.rfl' rfl
theorem l_bu69 {m r i : Nat} {B : Mem} {pot : Nat → Int} {P : Int → Mem → Prop} {R60 : Int → Int → Int → Int → Mem → Res} (hmr : m ≤ 5 ∧ r ≤ 4) (hr0 : 0 < r) (hcf : ∀ k, k < m * r → (0 ≤ B 184 k ∧ B 184 k ≤ 100) ∧ (0 ≤ B 185 k ∧ B 185 k ≤ 30)) (hC : Cer m r (B 184) (B 185) (B 182) pot)
    (hR : ∀ M : Mem, WI m r 100000 100000 (B 184) (B 185) (B 182) pot i (m * r) (stR M) → Fr [186, 187] [] B M → Ok (R60 (m : Int) (r : Int) ((m + r : Nat) : Int) ((i : Int) + 1) M) P) :
    ∀ (j fuel k : Nat) (M : Mem), k + j = m * r → j < fuel → WI m r 100000 100000 (B 184) (B 185) (B 182) pot i k (stR M) → Fr [186, 187] [] B M → Ok (fix (fun _ _ _ _ _ _ => none) (k_Mo_bushel_69 R60) fuel (m : Int) (r : Int) ((m + r : Nat) : Int) (i : Int) (k : Int) M) P := by
  have b1 : m * r ≤ 5 * 4 := Nat.mul_le_mul hmr.1 hmr.2
  have em : (m : Int) * (r : Int) = ((m * r : Nat) : Int) := by push_cast; rfl
  intro j; induction j with
  | zero =>
    intro fuel k M e hf h1 h2
    have : k = m * r := by omega
    subst this
    obtain ⟨f, rfl⟩ : ∃ f, fuel = f + 1 := ⟨fuel - 1, by omega⟩; rw [fix_s]; unfold k_Mo_bushel_69
    rw [em]
    repeat (first | with_reducible refine ok_let ?_ | with_reducible refine ok_cs ?_ | with_reducible refine ok_clet ?_ | with_reducible refine ok_cc ?_ | (with_reducible refine ok_chk ?_ ?_; · (first | omega | ((try simp (disch := omega) only [w32_eq, w64_eq, ix_n, ix_e, sto_n, sto_e, sto_r, zf_r, Int.toNat_natCast, true_or, or_true, eq_self]) <;> (first | omega | decide)))) | (with_reducible refine ok_cchk ?_ ?_; · (first | omega | ((try simp (disch := omega) only [w32_eq, w64_eq, ix_n, ix_e, sto_n, sto_e, sto_r, zf_r, Int.toNat_natCast, true_or, or_true, eq_self]) <;> (first | omega | decide)))) | (with_reducible refine ok_t ?_ ?_; · (first | omega | ((try simp (disch := omega) only [w32_eq, w64_eq, ix_n, ix_e, sto_n, sto_e, sto_r, zf_r, Int.toNat_natCast, true_or, or_true, eq_self]) <;> (first | omega | decide)))) | (with_reducible refine ok_f ?_ ?_; · (first | omega | ((try simp (disch := omega) only [w32_eq, w64_eq, ix_n, ix_e, sto_n, sto_e, sto_r, zf_r, Int.toNat_natCast, true_or, or_true, eq_self]) <;> (first | omega | decide)))) | (with_reducible refine ok_ct ?_ ?_; · (first | omega | ((try simp (disch := omega) only [w32_eq, w64_eq, ix_n, ix_e, sto_n, sto_e, sto_r, zf_r, Int.toNat_natCast, true_or, or_true, eq_self]) <;> (first | omega | decide)))) | (with_reducible refine ok_cf ?_ ?_; · (first | omega | ((try simp (disch := omega) only [w32_eq, w64_eq, ix_n, ix_e, sto_n, sto_e, sto_r, zf_r, Int.toNat_natCast, true_or, or_true, eq_self]) <;> (first | omega | decide)))))
    exact hR M h1 h2
  | succ j ih =>
    intro fuel k M e hf h1 h2
    have hj : (k : Int) + 1 = ((k + 1 : Nat) : Int) := by omega
    have hdm : k / r * r + k % r = k := by rw [Nat.mul_comm]; exact Nat.div_add_mod k r
    have hb : k / r < m := Nat.div_lt_of_lt_mul (by rw [Nat.mul_comm]; omega)
    have ho : k % r < r := Nat.mod_lt _ hr0
    have ed := dv_n (k := k) (r := r) (by omega) (by omega)
    have em2 := rm_n (k := k) (r := r) (by omega) (by omega)
    generalize hbb : k / r = b at *
    generalize hoo : k % r = o at *
    clear hbb hoo
    have u184 := h2.c 184 (by decide) (by decide)
    have u185 := h2.c 185 (by decide) (by decide)
    have hcfk := hcf k (by omega)
    have hb1 := wi_bd (by decide) hC h1 (show b < m + r by omega)
    have hb2 := wi_bd (by decide) hC h1 (show m + o < m + r by omega)
    have e1 : (stR M).1 b = M 186 b := rfl
    have e2 : (stR M).1 (m + o) = M 186 (m + o) := rfl
    rw [e1] at hb1
    rw [e2] at hb2
    have emo : (m : Int) + (o : Int) = ((m + o : Nat) : Int) := by omega
    have eb : ix (b : Int) = b := ix_n (by omega)
    have eo : ix ((m + o : Nat) : Int) = m + o := ix_n (by omega)
    have ek : ix (k : Int) = k := ix_n (by omega)
    have stp := wi_step (b := b) (o := o) (fun k hk => (hcf k hk).1) hC hb ho (by rw [hdm]; exact h1)
    rw [hdm] at stp
    unfold wst at stp
    have er : rl 100000 b (m + o) (B 184 k) (stR M) = if M 186 b < 100000 ∧ M 186 b + B 184 k < M 186 (m + o) then (up (M 186) (m + o) (M 186 b + B 184 k), up (M 187) (m + o) (b : Int)) else stR M := rfl
    obtain ⟨f, rfl⟩ : ∃ f, fuel = f + 1 := ⟨fuel - 1, by omega⟩
    have nxt : ∀ X : Mem, Fr [186, 187] [] B X → stR X = rl 100000 b (m + o) (B 184 k) (stR M) → (0 ≤ X 186 (m + o) ∧ X 186 (m + o) ≤ 100000) → X 186 b = M 186 b → Ok (k_Mo_bushel_160 R60 (fix (fun _ _ _ _ _ _ => none) (k_Mo_bushel_69 R60) f) (m : Int) (r : Int) ((m + r : Nat) : Int) (i : Int) (k : Int) (b : Int) ((m + o : Nat) : Int) X) P := by
      intro X hX eX hX2 hX1
      have x184 := hX.c 184 (by decide) (by decide)
      have x185 := hX.c 185 (by decide) (by decide)
      refine s_bu160 hmr hb ho (by omega) (by rw [x184]; exact hcfk.1) (by rw [x185]; exact hcfk.2) (by rw [hX1]; exact hb1) hX2 (fun Y hY eY => ?_)
      rw [hj]
      refine ih f (k + 1) Y (by omega) (by omega) ?_ (hX.trans hY)
      rw [eY, x184, x185, eX]
      exact stp
    rw [fix_s]; unfold k_Mo_bushel_69
    rw [em]
    refine ok_t (by first | omega | ((try simp (disch := omega) only [w32_eq, w64_eq, ix_n, ix_e, sto_n, sto_e, sto_r, zf_r, Int.toNat_natCast, true_or, or_true, eq_self]) <;> (first | omega | decide))) (ok_chk (by first | omega | ((try simp (disch := omega) only [w32_eq, w64_eq, ix_n, ix_e, sto_n, sto_e, sto_r, zf_r, Int.toNat_natCast, true_or, or_true, eq_self]) <;> (first | omega | decide))) (ok_let (ok_chk (by first | omega | ((try simp (disch := omega) only [w32_eq, w64_eq, ix_n, ix_e, sto_n, sto_e, sto_r, zf_r, Int.toNat_natCast, true_or, or_true, eq_self]) <;> (first | omega | decide))) (ok_let ?_))))
    rw [ed, em2, emo]
    refine ok_chk (by first | omega | ((try simp (disch := omega) only [w32_eq, w64_eq, ix_n, ix_e, sto_n, sto_e, sto_r, zf_r, Int.toNat_natCast, true_or, or_true, eq_self]) <;> (first | omega | decide))) (ok_let ?_)
    rw [eb]
    by_cases c1 : M 186 b < 100000
    · refine ok_t (by first | omega | ((try simp (disch := omega) only [w32_eq, w64_eq, ix_n, ix_e, sto_n, sto_e, sto_r, zf_r, Int.toNat_natCast, true_or, or_true, eq_self]) <;> (first | omega | decide))) (ok_chk (by first | omega | ((try simp (disch := omega) only [w32_eq, w64_eq, ix_n, ix_e, sto_n, sto_e, sto_r, zf_r, Int.toNat_natCast, true_or, or_true, eq_self]) <;> (first | omega | decide))) (ok_let (ok_chk (by first | omega | ((try simp (disch := omega) only [w32_eq, w64_eq, ix_n, ix_e, sto_n, sto_e, sto_r, zf_r, Int.toNat_natCast, true_or, or_true, eq_self]) <;> (first | omega | decide))) (ok_let (ok_chk (by first | omega | ((try simp (disch := omega) only [w32_eq, w64_eq, ix_n, ix_e, sto_n, sto_e, sto_r, zf_r, Int.toNat_natCast, true_or, or_true, eq_self]) <;> (first | omega | decide))) (ok_let ?_))))))
      rw [ek, eo, u184]
      by_cases c2 : M 186 b + B 184 k < M 186 (m + o)
      · refine ok_t (by first | omega | ((try simp (disch := omega) only [w32_eq, w64_eq, ix_n, ix_e, sto_n, sto_e, sto_r, zf_r, Int.toNat_natCast, true_or, or_true, eq_self]) <;> (first | omega | decide))) (ok_chk (by first | omega | ((try simp (disch := omega) only [w32_eq, w64_eq, ix_n, ix_e, sto_n, sto_e, sto_r, zf_r, Int.toNat_natCast, true_or, or_true, eq_self]) <;> (first | omega | decide))) (ok_let (ok_chk (by first | omega | ((try simp (disch := omega) only [w32_eq, w64_eq, ix_n, ix_e, sto_n, sto_e, sto_r, zf_r, Int.toNat_natCast, true_or, or_true, eq_self]) <;> (first | omega | decide))) (ok_let (ok_chk (by first | omega | ((try simp (disch := omega) only [w32_eq, w64_eq, ix_n, ix_e, sto_n, sto_e, sto_r, zf_r, Int.toNat_natCast, true_or, or_true, eq_self]) <;> (first | omega | decide))) (ok_let (ok_chk (by first | omega | ((try simp (disch := omega) only [w32_eq, w64_eq, ix_n, ix_e, sto_n, sto_e, sto_r, zf_r, Int.toNat_natCast, true_or, or_true, eq_self]) <;> (first | omega | decide))) (ok_let ?_))))))))
        have nbo : b ≠ m + o := by omega
        refine nxt _ (h2.trans (Fr.trans (fr_stoA (by decide)) (fr_stoA (by decide)))) ?_ ?_ ?_
        · rw [er, if_pos ⟨c1, c2⟩, st_up]
        · rw [sto_r (by decide), sto_e]; omega
        · rw [sto_r (by decide), sto_n nbo]
      · refine ok_f (by first | omega | ((try simp (disch := omega) only [w32_eq, w64_eq, ix_n, ix_e, sto_n, sto_e, sto_r, zf_r, Int.toNat_natCast, true_or, or_true, eq_self]) <;> (first | omega | decide))) (nxt M h2 ?_ hb2 rfl)
        rw [er, if_neg (fun q => c2 q.2)]
    · refine ok_f (by first | omega | ((try simp (disch := omega) only [w32_eq, w64_eq, ix_n, ix_e, sto_n, sto_e, sto_r, zf_r, Int.toNat_natCast, true_or, or_true, eq_self]) <;> (first | omega | decide))) (nxt M h2 ?_ hb2 rfl)
      rw [er, if_neg (fun q => c1 q.1)]
def BuP (m r : Nat) (hv wn : Nat → Int) (B : Mem) (v : Int) (M' : Mem) : Prop := FI m r hv wn (M' 185) (M' 182) (M' 183) ∧ (∃ pot, Cer m r (B 184) (M' 185) (M' 182) pot) ∧ csS m r (B 184) (M' 185) = csS m r (B 184) (B 185) + v ∧ sm (M' 183) r = sm (B 183) r - 1
theorem b3_o {m r t o x : Nat} {M : Mem} {R : Int → Int → Int → Int → Mem → Res} (hmr : m ≤ 5 ∧ r ≤ 4) (ho : o < r) (hx : x < m) (hv : M 187 (m + o) = (x : Int)) : k_Mo_bushel_326 R (m : Int) (r : Int) (t : Int) ((m + o : Nat) : Int) M = R (m : Int) (r : Int) (t : Int) (x : Int) (sto M 185 (x * r + o) (M 185 (x * r + o) + 1)) := by
  have eo : ix ((m + o : Nat) : Int) = m + o := ix_n (by omega)
  have hk := way_20 hmr.1 hmr.2 hx ho
  have ek : (r : Int) * (x : Int) + ((m + o : Nat) : Int) - (m : Int) = ((x * r + o : Nat) : Int) := by rw [Int.mul_comm]; push_cast; omega
  have eko : ix ((x * r + o : Nat) : Int) = x * r + o := ix_n (by omega)
  unfold k_Mo_bushel_326
  refine e_chk (by rw [w32_eq (by omega) (by omega)]; omega) (e_let ?_)
  rw [eo, hv]
  refine e_f (by rw [w32_eq (by omega) (by omega)]; omega) (e_chk (by rw [w32_eq (by omega) (by omega)]; omega) (e_let (e_f (by rw [w32_eq (by omega) (by omega), w32_eq (by omega) (by omega)]; omega) ?_)))
  rw [ek, eko]
  refine e_chk (by rw [w32_eq (by omega) (by omega)]; omega) (e_let (e_chk (by rw [w32_eq (by omega) (by omega)]; omega) (e_let ?_)))
  try unfold k_Mo_bushel_391
  rfl
theorem b3_x {m r t x : Nat} {M : Mem} {R : Int → Int → Int → Int → Mem → Res} (hmr : m ≤ 5 ∧ r ≤ 4) (ht : t < r) (hx : x < m) (hv : M 187 x = -1) : k_Mo_bushel_326 R (m : Int) (r : Int) (t : Int) (x : Int) M = some (M 186 (m + t), sto M 182 x (M 182 x - 1)) := by
  have ex : ix (x : Int) = x := ix_n (by omega)
  have em : (m : Int) + (t : Int) = ((m + t : Nat) : Int) := by omega
  have em' : ix ((m + t : Nat) : Int) = m + t := ix_n (by omega)
  unfold k_Mo_bushel_326
  refine e_chk (by rw [w32_eq (by omega) (by omega)]; omega) (e_let ?_)
  rw [ex, hv]
  refine e_t (by decide) (e_chk (by rw [w32_eq (by omega) (by omega)]; omega) (e_let (e_chk (by rw [w32_eq (by omega) (by omega)]; omega) (e_let ?_))))
  rw [em, em']
  refine e_chk (by rw [w32_eq (by omega) (by omega)]; omega) (e_let ?_)
  rw [sto_r (by decide)]
theorem b3_y {m r t x p : Nat} {M : Mem} {R : Int → Int → Int → Int → Mem → Res} (hmr : m ≤ 5 ∧ r ≤ 4) (hx : x < m) (hp : p < r) (hv : M 187 x = ((m + p : Nat) : Int)) : k_Mo_bushel_326 R (m : Int) (r : Int) (t : Int) (x : Int) M = R (m : Int) (r : Int) (t : Int) ((m + p : Nat) : Int) (sto M 185 (x * r + p) (M 185 (x * r + p) - 1)) := by
  have ex : ix (x : Int) = x := ix_n (by omega)
  have hk := way_20 hmr.1 hmr.2 hx hp
  have ek : (r : Int) * (x : Int) + ((m + p : Nat) : Int) - (m : Int) = ((x * r + p : Nat) : Int) := by rw [Int.mul_comm]; push_cast; omega
  have eko : ix ((x * r + p : Nat) : Int) = x * r + p := ix_n (by omega)
  unfold k_Mo_bushel_326
  refine e_chk (by rw [w32_eq (by omega) (by omega)]; omega) (e_let ?_)
  rw [ex, hv]
  refine e_f (by rw [w32_eq (by omega) (by omega)]; omega) (e_chk (by rw [w32_eq (by omega) (by omega)]; omega) (e_let (e_t (by rw [w32_eq (by omega) (by omega), w32_eq (by omega) (by omega)]; omega) ?_)))
  rw [ek, eko]
  refine e_chk (by rw [w32_eq (by omega) (by omega)]; omega) (e_let (e_chk (by rw [w32_eq (by omega) (by omega)]; omega) (e_let ?_)))
  try unfold k_Mo_bushel_391
  rfl
theorem l_bu326 {m r : Nat} {B : Mem} {ta : Nat → Nat} {hv wn : Nat → Int} {t : Nat} {T : Int} (hmr : m ≤ 5 ∧ r ≤ 4) (ht : t < r) (hc : ∀ k, k < m * r → 0 ≤ B 184 k ∧ B 184 k ≤ 100) (hF : Fnd m r (B 184) (B 185) (B 182) (B 186) (B 187) ta) :
    ∀ (j fuel o : Nat) (M : Mem), 2 * j + 2 ≤ fuel → o < r → (∀ x : Nat, x < m → B 187 (m + o) = (x : Int) → rkS m ta x < j) → Fr [182, 183, 185] [] B M → AI m r (B 184) hv wn (B 185) (B 182) (B 186) ta 1 T o (M 185) (M 182) (M 183) →
    Ok (fix (fun _ _ _ _ _ => none) k_Mo_bushel_326 fuel (m : Int) (r : Int) (t : Int) ((m + o : Nat) : Int) M) (fun v M' => FI m r hv wn (M' 185) (M' 182) (M' 183) ∧ (∃ pot, Cer m r (B 184) (M' 185) (M' 182) pot) ∧ csS m r (B 184) (M' 185) = T ∧ M' 183 = M 183 ∧ v = B 186 (m + t)) := by
  intro j; induction j with
  | zero =>
    intro fuel o M hf' ho hr hFr hA
    obtain ⟨x, hx, v1, -⟩ := way_b hF ho
    have := hr x hx v1
    have := rk_b (ta := ta) hx
    omega
  | succ j ih =>
    intro fuel o M hf' ho hr hFr hA
    have eo : ix ((m + o : Nat) : Int) = m + o := ix_n (by omega)
    obtain ⟨f, rfl⟩ : ∃ f, fuel = f + 1 + 1 := ⟨fuel - 2, by omega⟩
    obtain ⟨x, hx, v1, t1, d1, dx, rest⟩ := way_b hF ho
    have hrx := hr x hx v1
    have ex : ix (x : Int) = x := ix_n (by omega)
    have u187 := hFr.c 187 (by decide) (by decide)
    have ek : (r : Int) * (x : Int) + ((m + o : Nat) : Int) - (m : Int) = ((x * r + o : Nat) : Int) := by rw [Int.mul_comm]; push_cast; omega
    have hk := way_20 hmr.1 hmr.2 hx ho
    have eko : ix ((x * r + o : Nat) : Int) = x * r + o := ix_n (by omega)
    rw [fix_s, b3_o (x := x) hmr ho hx (by rw [u187]; exact v1), fix_s]
    have q187 : (sto M 185 (x * r + o) (M 185 (x * r + o) + 1)) 187 = B 187 := by rw [sto_r (by decide), u187]
    rcases rest with ⟨v2, l2⟩ | ⟨p, hp, hpo, v2, t2, d2, f2⟩
    · rw [b3_x (x := x) hmr ht hx (by rw [q187]; exact v2)]
      refine ok_ret ?_
      obtain ⟨a1, a2, a3⟩ := ai_end hc hF (by decide) ho hx t1 d1 dx l2 (by omega) hA
      simp (disch := decide) only [sto_r, sto_up]
      exact ⟨a1, a2, a3, by first | rfl | trivial, by rw [hFr.c 186 (by decide) (by decide)]⟩
    · have hkp := way_20 hmr.1 hmr.2 hx hp
      have npo : x * r + p ≠ x * r + o := by omega
      rw [b3_y (x := x) (p := p) hmr hx hp (by rw [q187]; exact v2)]
      have w1 : sto M 185 (x * r + o) (M 185 (x * r + o) + 1) 185 (x * r + p) = M 185 (x * r + p) := sto_n npo
      rw [w1]
      have q185 : sto (sto M 185 (x * r + o) (M 185 (x * r + o) + 1)) 185 (x * r + p) (M 185 (x * r + p) - 1) 185 = up (up (M 185) (x * r + o) (M 185 (x * r + o) + 1)) (x * r + p) (M 185 (x * r + p) - 1) := by rw [sto_up, sto_up]
      have nx := ih f p (sto (sto M 185 (x * r + o) (M 185 (x * r + o) + 1)) 185 (x * r + p) (M 185 (x * r + p) - 1)) (by omega) hp (fun y hy q => ?_) (hFr.trans (Fr.trans (fr_stoA (by decide)) (fr_stoA (by decide)))) ?_
      · refine ok_mono nx (fun _ M' h => ⟨h.1, h.2.1, h.2.2.1, ?_, h.2.2.2.2⟩)
        rw [h.2.2.2.1, sto_r (by decide), sto_r (by decide)]
      · obtain ⟨y', hy', w', t', -⟩ := way_b hF hp
        have : y' = y := by rw [w'] at q; omega
        subst this
        have := rk_lt (m := m) (ta := ta) hy' (show ta y' < ta x by omega)
        omega
      · rw [q185, sto_r (show 182 ≠ 185 by decide), sto_r (show 182 ≠ 185 by decide), sto_r (show 183 ≠ 185 by decide), sto_r (show 183 ≠ 185 by decide)]
        exact ai_mid (by decide) ho hx hp hpo t1 t2 d1 dx d2 (by omega) hA
theorem l_bu257 {m r : Nat} {M : Mem} {ta : Nat → Nat} {hv wn : Nat → Int} (hmr : m ≤ 5 ∧ r ≤ 4) (hc : ∀ k, k < m * r → 0 ≤ M 184 k ∧ M 184 k ≤ 100) (hI : FI m r hv wn (M 185) (M 182) (M 183)) (hw : ∀ o, o < r → 0 ≤ M 183 o ∧ M 183 o ≤ 30) (hex : ∃ o, o < r ∧ 0 < M 183 o) (hF : Fnd m r (M 184) (M 185) (M 182) (M 186) (M 187) ta) :
    ∀ (j fuel i : Nat) (a : Int), i + j = r → j < fuel → ((a = -1 ∧ ∀ o, o < i → M 183 o = 0) ∨ ∃ o : Nat, a = (o : Int) ∧ o < i ∧ 0 < M 183 o) → Ok (fix (fun _ _ _ _ _ => none) k_Mo_bushel_257 fuel (m : Int) (r : Int) a (i : Int) M) (fun v M' => BuP m r hv wn M v M') := by
  intro j; induction j with
  | zero =>
    intro fuel i a e hf hA
    have : i = r := by omega
    subst this
    rcases hA with ⟨-, h2⟩ | ⟨o, rfl, h2, h3⟩
    · obtain ⟨o, ho, h⟩ := hex
      have := h2 o ho; omega
    · have eo : ix (o : Int) = o := ix_n (by omega)
      have emo : (m : Int) + (o : Int) = ((m + o : Nat) : Int) := by omega
      obtain ⟨f, rfl⟩ : ∃ f, fuel = f + 1 := ⟨fuel - 1, by omega⟩; rw [fix_s]; unfold k_Mo_bushel_257
      refine ok_f (by first | omega | ((try simp (disch := omega) only [w32_eq, w64_eq, ix_n, ix_e, sto_n, sto_e, sto_r, zf_r, Int.toNat_natCast, true_or, or_true, eq_self]) <;> (first | omega | decide))) (ok_chk (by first | omega | ((try simp (disch := omega) only [w32_eq, w64_eq, ix_n, ix_e, sto_n, sto_e, sto_r, zf_r, Int.toNat_natCast, true_or, or_true, eq_self]) <;> (first | omega | decide))) (ok_let (ok_chk (by first | omega | ((try simp (disch := omega) only [w32_eq, w64_eq, ix_n, ix_e, sto_n, sto_e, sto_r, zf_r, Int.toNat_natCast, true_or, or_true, eq_self]) <;> (first | omega | decide))) (ok_let (ok_let ?_)))))
      rw [eo, emo]
      have s : ∀ c, c ≠ 183 → sto M 183 o (M 183 o - 1) c = M c := fun c h => sto_r h
      have q := l_bu326 (B := sto M 183 o (M 183 o - 1)) (ta := ta) (hv := hv) (wn := wn) (t := o) (T := csS m i (M 184) (M 185) + 1 * M 186 (m + o)) hmr h2 (by rw [s 184 (by decide)]; exact hc) (by rw [s 184 (by decide), s 185 (by decide), s 182 (by decide), s 186 (by decide), s 187 (by decide)]; exact hF) 6 FU o (sto M 183 o (M 183 o - 1)) (by unfold FU; omega) h2 (fun x hx _ => by have := rk_b (ta := ta) hx; omega) Fr.rfl' (by
        rw [s 184 (by decide), s 185 (by decide), s 182 (by decide), s 186 (by decide), sto_up]
        exact ai_0 hF hI h2 (by omega))
      refine ok_mono q (fun v M' h => ⟨h.1, ?_, ?_, ?_⟩)
      · rw [← s 184 (by decide)]; exact h.2.1
      · have h3 := h.2.2.1
        rw [s 184 (by decide)] at h3
        rw [h3, h.2.2.2.2, s 186 (by decide), Int.one_mul]
      · rw [h.2.2.2.1, sto_up, sm_up i h2]; omega
  | succ j ih =>
    intro fuel i a e hf hA
    have hj : (i : Int) + 1 = ((i + 1 : Nat) : Int) := by omega
    have ei : ix (i : Int) = i := ix_n (by omega)
    have hwi := hw i (by omega)
    obtain ⟨f, rfl⟩ : ∃ f, fuel = f + 1 := ⟨fuel - 1, by omega⟩
    rw [fix_s]; unfold k_Mo_bushel_257 k_Mo_bushel_299 k_Mo_bushel_303
    by_cases c : 0 < M 183 i
    · have tk := ih f (i + 1) (i : Int) (by omega) (by omega) (Or.inr ⟨i, rfl, by omega, c⟩)
      rcases hA with ⟨h1, h2⟩ | ⟨o, h1, h2, h3⟩
      · rw [h1]
        repeat (first | with_reducible refine ok_let ?_ | with_reducible refine ok_cs ?_ | with_reducible refine ok_clet ?_ | with_reducible refine ok_cc ?_ | (with_reducible refine ok_chk ?_ ?_; · (first | omega | ((try simp (disch := omega) only [w32_eq, w64_eq, ix_n, ix_e, sto_n, sto_e, sto_r, zf_r, Int.toNat_natCast, true_or, or_true, eq_self, ei]) <;> (first | omega | decide)))) | (with_reducible refine ok_cchk ?_ ?_; · (first | omega | ((try simp (disch := omega) only [w32_eq, w64_eq, ix_n, ix_e, sto_n, sto_e, sto_r, zf_r, Int.toNat_natCast, true_or, or_true, eq_self, ei]) <;> (first | omega | decide)))) | (with_reducible refine ok_t ?_ ?_; · (first | omega | ((try simp (disch := omega) only [w32_eq, w64_eq, ix_n, ix_e, sto_n, sto_e, sto_r, zf_r, Int.toNat_natCast, true_or, or_true, eq_self, ei]) <;> (first | omega | decide)))) | (with_reducible refine ok_f ?_ ?_; · (first | omega | ((try simp (disch := omega) only [w32_eq, w64_eq, ix_n, ix_e, sto_n, sto_e, sto_r, zf_r, Int.toNat_natCast, true_or, or_true, eq_self, ei]) <;> (first | omega | decide)))) | (with_reducible refine ok_ct ?_ ?_; · (first | omega | ((try simp (disch := omega) only [w32_eq, w64_eq, ix_n, ix_e, sto_n, sto_e, sto_r, zf_r, Int.toNat_natCast, true_or, or_true, eq_self, ei]) <;> (first | omega | decide)))) | (with_reducible refine ok_cf ?_ ?_; · (first | omega | ((try simp (disch := omega) only [w32_eq, w64_eq, ix_n, ix_e, sto_n, sto_e, sto_r, zf_r, Int.toNat_natCast, true_or, or_true, eq_self, ei]) <;> (first | omega | decide)))))
        rw [hj]; exact tk
      · have kp := ih f (i + 1) (o : Int) (by omega) (by omega) (Or.inr ⟨o, rfl, by omega, h3⟩)
        have g1 := hF.1 (m + i) (by omega)
        have g2 := hF.2.2.1 i (by omega)
        have g3 := hF.1 (m + o) (by omega)
        have g4 := hF.2.2.1 o (by omega)
        have emi : (m : Int) + (i : Int) = ((m + i : Nat) : Int) := by omega
        have emo : (m : Int) + (o : Int) = ((m + o : Nat) : Int) := by omega
        have emi' : ix ((m + i : Nat) : Int) = m + i := ix_n (by omega)
        have emo' : ix ((m + o : Nat) : Int) = m + o := ix_n (by omega)
        rw [h1, emi, emo]
        by_cases c2 : M 186 (m + i) < M 186 (m + o)
        · repeat (first | with_reducible refine ok_let ?_ | with_reducible refine ok_cs ?_ | with_reducible refine ok_clet ?_ | with_reducible refine ok_cc ?_ | (with_reducible refine ok_chk ?_ ?_; · (first | omega | ((try simp (disch := omega) only [w32_eq, w64_eq, ix_n, ix_e, sto_n, sto_e, sto_r, zf_r, Int.toNat_natCast, true_or, or_true, eq_self, ei, emi', emo']) <;> (first | omega | decide)))) | (with_reducible refine ok_cchk ?_ ?_; · (first | omega | ((try simp (disch := omega) only [w32_eq, w64_eq, ix_n, ix_e, sto_n, sto_e, sto_r, zf_r, Int.toNat_natCast, true_or, or_true, eq_self, ei, emi', emo']) <;> (first | omega | decide)))) | (with_reducible refine ok_t ?_ ?_; · (first | omega | ((try simp (disch := omega) only [w32_eq, w64_eq, ix_n, ix_e, sto_n, sto_e, sto_r, zf_r, Int.toNat_natCast, true_or, or_true, eq_self, ei, emi', emo']) <;> (first | omega | decide)))) | (with_reducible refine ok_f ?_ ?_; · (first | omega | ((try simp (disch := omega) only [w32_eq, w64_eq, ix_n, ix_e, sto_n, sto_e, sto_r, zf_r, Int.toNat_natCast, true_or, or_true, eq_self, ei, emi', emo']) <;> (first | omega | decide)))) | (with_reducible refine ok_ct ?_ ?_; · (first | omega | ((try simp (disch := omega) only [w32_eq, w64_eq, ix_n, ix_e, sto_n, sto_e, sto_r, zf_r, Int.toNat_natCast, true_or, or_true, eq_self, ei, emi', emo']) <;> (first | omega | decide)))) | (with_reducible refine ok_cf ?_ ?_; · (first | omega | ((try simp (disch := omega) only [w32_eq, w64_eq, ix_n, ix_e, sto_n, sto_e, sto_r, zf_r, Int.toNat_natCast, true_or, or_true, eq_self, ei, emi', emo']) <;> (first | omega | decide)))))
          rw [hj]; exact tk
        · repeat (first | with_reducible refine ok_let ?_ | with_reducible refine ok_cs ?_ | with_reducible refine ok_clet ?_ | with_reducible refine ok_cc ?_ | (with_reducible refine ok_chk ?_ ?_; · (first | omega | ((try simp (disch := omega) only [w32_eq, w64_eq, ix_n, ix_e, sto_n, sto_e, sto_r, zf_r, Int.toNat_natCast, true_or, or_true, eq_self, ei, emi', emo']) <;> (first | omega | decide)))) | (with_reducible refine ok_cchk ?_ ?_; · (first | omega | ((try simp (disch := omega) only [w32_eq, w64_eq, ix_n, ix_e, sto_n, sto_e, sto_r, zf_r, Int.toNat_natCast, true_or, or_true, eq_self, ei, emi', emo']) <;> (first | omega | decide)))) | (with_reducible refine ok_t ?_ ?_; · (first | omega | ((try simp (disch := omega) only [w32_eq, w64_eq, ix_n, ix_e, sto_n, sto_e, sto_r, zf_r, Int.toNat_natCast, true_or, or_true, eq_self, ei, emi', emo']) <;> (first | omega | decide)))) | (with_reducible refine ok_f ?_ ?_; · (first | omega | ((try simp (disch := omega) only [w32_eq, w64_eq, ix_n, ix_e, sto_n, sto_e, sto_r, zf_r, Int.toNat_natCast, true_or, or_true, eq_self, ei, emi', emo']) <;> (first | omega | decide)))) | (with_reducible refine ok_ct ?_ ?_; · (first | omega | ((try simp (disch := omega) only [w32_eq, w64_eq, ix_n, ix_e, sto_n, sto_e, sto_r, zf_r, Int.toNat_natCast, true_or, or_true, eq_self, ei, emi', emo']) <;> (first | omega | decide)))) | (with_reducible refine ok_cf ?_ ?_; · (first | omega | ((try simp (disch := omega) only [w32_eq, w64_eq, ix_n, ix_e, sto_n, sto_e, sto_r, zf_r, Int.toNat_natCast, true_or, or_true, eq_self, ei, emi', emo']) <;> (first | omega | decide)))))
          rw [hj]; exact kp
    · repeat (first | with_reducible refine ok_let ?_ | with_reducible refine ok_cs ?_ | with_reducible refine ok_clet ?_ | with_reducible refine ok_cc ?_ | (with_reducible refine ok_chk ?_ ?_; · (first | omega | ((try simp (disch := omega) only [w32_eq, w64_eq, ix_n, ix_e, sto_n, sto_e, sto_r, zf_r, Int.toNat_natCast, true_or, or_true, eq_self, ei]) <;> (first | omega | decide)))) | (with_reducible refine ok_cchk ?_ ?_; · (first | omega | ((try simp (disch := omega) only [w32_eq, w64_eq, ix_n, ix_e, sto_n, sto_e, sto_r, zf_r, Int.toNat_natCast, true_or, or_true, eq_self, ei]) <;> (first | omega | decide)))) | (with_reducible refine ok_t ?_ ?_; · (first | omega | ((try simp (disch := omega) only [w32_eq, w64_eq, ix_n, ix_e, sto_n, sto_e, sto_r, zf_r, Int.toNat_natCast, true_or, or_true, eq_self, ei]) <;> (first | omega | decide)))) | (with_reducible refine ok_f ?_ ?_; · (first | omega | ((try simp (disch := omega) only [w32_eq, w64_eq, ix_n, ix_e, sto_n, sto_e, sto_r, zf_r, Int.toNat_natCast, true_or, or_true, eq_self, ei]) <;> (first | omega | decide)))) | (with_reducible refine ok_ct ?_ ?_; · (first | omega | ((try simp (disch := omega) only [w32_eq, w64_eq, ix_n, ix_e, sto_n, sto_e, sto_r, zf_r, Int.toNat_natCast, true_or, or_true, eq_self, ei]) <;> (first | omega | decide)))) | (with_reducible refine ok_cf ?_ ?_; · (first | omega | ((try simp (disch := omega) only [w32_eq, w64_eq, ix_n, ix_e, sto_n, sto_e, sto_r, zf_r, Int.toNat_natCast, true_or, or_true, eq_self, ei]) <;> (first | omega | decide)))))
      rw [hj]
      refine ih f (i + 1) a (by omega) (by omega) ?_
      rcases hA with ⟨h1, h2⟩ | ⟨o, h1, h2, h3⟩
      · refine Or.inl ⟨h1, fun o ho => ?_⟩
        by_cases d : o = i
        · rw [d]; omega
        · exact h2 o (by omega)
      · exact Or.inr ⟨o, h1, by omega, h3⟩
theorem l_bu60 {m r : Nat} {B : Mem} {pot : Nat → Int} {P : Int → Mem → Prop} (hmr : m ≤ 5 ∧ r ≤ 4) (hr0 : 0 < r) (hcf : ∀ k, k < m * r → (0 ≤ B 184 k ∧ B 184 k ≤ 100) ∧ (0 ≤ B 185 k ∧ B 185 k ≤ 30)) (hC : Cer m r (B 184) (B 185) (B 182) pot)
    (hP : ∀ M : Mem, BI (m + r) 100000 100000 (Ed m r (B 184) (B 185)) pot (ini m 100000 (B 182)) (2 * ((m + r) * (m * r))) (stR M) → Cl 100000 (Ed m r (B 184) (B 185)) (M 186) → Fr [186, 187] [] B M → Ok (fix (fun _ _ _ _ _ => none) k_Mo_bushel_257 FU (m : Int) (r : Int) (-1) 0 M) P) :
    ∀ (j fuel i : Nat) (M : Mem), i + j = m + r → j < fuel → WS m r 100000 100000 (B 184) (B 185) (B 182) pot i (stR M) → Fr [186, 187] [] B M → Ok (fix (fun _ _ _ _ _ => none) k_Mo_bushel_60 fuel (m : Int) (r : Int) ((m + r : Nat) : Int) (i : Int) M) P := by
  have hE := edh (fun k hk => (hcf k hk).1) hC
  have b1 : m * r ≤ 5 * 4 := Nat.mul_le_mul hmr.1 hmr.2
  intro j; induction j with
  | zero =>
    intro fuel i M e hf h1 h2
    have : i = m + r := by omega
    subst this
    obtain ⟨f, rfl⟩ : ∃ f, fuel = f + 1 := ⟨fuel - 1, by omega⟩; rw [fix_s]; unfold k_Mo_bushel_60
    repeat (first | with_reducible refine ok_let ?_ | with_reducible refine ok_cs ?_ | with_reducible refine ok_clet ?_ | with_reducible refine ok_cc ?_ | (with_reducible refine ok_chk ?_ ?_; · (first | omega | ((try simp (disch := omega) only [w32_eq, w64_eq, ix_n, ix_e, sto_n, sto_e, sto_r, zf_r, Int.toNat_natCast, true_or, or_true, eq_self]) <;> (first | omega | decide)))) | (with_reducible refine ok_cchk ?_ ?_; · (first | omega | ((try simp (disch := omega) only [w32_eq, w64_eq, ix_n, ix_e, sto_n, sto_e, sto_r, zf_r, Int.toNat_natCast, true_or, or_true, eq_self]) <;> (first | omega | decide)))) | (with_reducible refine ok_t ?_ ?_; · (first | omega | ((try simp (disch := omega) only [w32_eq, w64_eq, ix_n, ix_e, sto_n, sto_e, sto_r, zf_r, Int.toNat_natCast, true_or, or_true, eq_self]) <;> (first | omega | decide)))) | (with_reducible refine ok_f ?_ ?_; · (first | omega | ((try simp (disch := omega) only [w32_eq, w64_eq, ix_n, ix_e, sto_n, sto_e, sto_r, zf_r, Int.toNat_natCast, true_or, or_true, eq_self]) <;> (first | omega | decide)))) | (with_reducible refine ok_ct ?_ ?_; · (first | omega | ((try simp (disch := omega) only [w32_eq, w64_eq, ix_n, ix_e, sto_n, sto_e, sto_r, zf_r, Int.toNat_natCast, true_or, or_true, eq_self]) <;> (first | omega | decide)))) | (with_reducible refine ok_cf ?_ ?_; · (first | omega | ((try simp (disch := omega) only [w32_eq, w64_eq, ix_n, ix_e, sto_n, sto_e, sto_r, zf_r, Int.toNat_natCast, true_or, or_true, eq_self]) <;> (first | omega | decide)))))
    exact hP M h1.1 (ps_cl hE h1.2) h2
  | succ j ih =>
    intro fuel i M e hf h1 h2
    have hj : (i : Int) + 1 = ((i + 1 : Nat) : Int) := by omega
    obtain ⟨f, rfl⟩ : ∃ f, fuel = f + 1 := ⟨fuel - 1, by omega⟩; rw [fix_s]; unfold k_Mo_bushel_60
    repeat (first | with_reducible refine ok_let ?_ | with_reducible refine ok_cs ?_ | with_reducible refine ok_clet ?_ | with_reducible refine ok_cc ?_ | (with_reducible refine ok_chk ?_ ?_; · (first | omega | ((try simp (disch := omega) only [w32_eq, w64_eq, ix_n, ix_e, sto_n, sto_e, sto_r, zf_r, Int.toNat_natCast, true_or, or_true, eq_self]) <;> (first | omega | decide)))) | (with_reducible refine ok_cchk ?_ ?_; · (first | omega | ((try simp (disch := omega) only [w32_eq, w64_eq, ix_n, ix_e, sto_n, sto_e, sto_r, zf_r, Int.toNat_natCast, true_or, or_true, eq_self]) <;> (first | omega | decide)))) | (with_reducible refine ok_t ?_ ?_; · (first | omega | ((try simp (disch := omega) only [w32_eq, w64_eq, ix_n, ix_e, sto_n, sto_e, sto_r, zf_r, Int.toNat_natCast, true_or, or_true, eq_self]) <;> (first | omega | decide)))) | (with_reducible refine ok_f ?_ ?_; · (first | omega | ((try simp (disch := omega) only [w32_eq, w64_eq, ix_n, ix_e, sto_n, sto_e, sto_r, zf_r, Int.toNat_natCast, true_or, or_true, eq_self]) <;> (first | omega | decide)))) | (with_reducible refine ok_ct ?_ ?_; · (first | omega | ((try simp (disch := omega) only [w32_eq, w64_eq, ix_n, ix_e, sto_n, sto_e, sto_r, zf_r, Int.toNat_natCast, true_or, or_true, eq_self]) <;> (first | omega | decide)))) | (with_reducible refine ok_cf ?_ ?_; · (first | omega | ((try simp (disch := omega) only [w32_eq, w64_eq, ix_n, ix_e, sto_n, sto_e, sto_r, zf_r, Int.toNat_natCast, true_or, or_true, eq_self]) <;> (first | omega | decide)))))
    refine l_bu69 hmr hr0 hcf hC (fun M' g1 g2 => ?_) (m * r) FU 0 M (by omega) (by unfold FU; omega) (ws_wi hmr (by omega) (fun k hk => (hcf k hk).1) hC (by decide) (Or.inl rfl) h1) h2
    rw [hj]
    exact ih f (i + 1) M' (by omega) (by omega) (wi_ws g1) g2
theorem l_bu7 {m r : Nat} {B : Mem} {P : Int → Mem → Prop} (hmr : m ≤ 5 ∧ r ≤ 4) (hl : ∀ b, b < m → 0 ≤ B 182 b ∧ B 182 b ≤ 30)
    (hP : ∀ M : Mem, Fr [186, 187] [] B M → (∀ x, x < m + r → M 186 x = ini m 100000 (B 182) x ∧ M 187 x = -1) → Ok (fix (fun _ _ _ _ _ => none) k_Mo_bushel_60 FU (m : Int) (r : Int) ((m + r : Nat) : Int) 0 M) P) :
    ∀ (j fuel v : Nat) (M : Mem), v + j = m + r → j < fuel → Fr [186, 187] [] B M → (∀ x, x < v → M 186 x = ini m 100000 (B 182) x ∧ M 187 x = -1) → Ok (fix (fun _ _ _ _ _ => none) k_Mo_bushel_7 fuel (m : Int) (r : Int) ((m + r : Nat) : Int) (v : Int) M) P := by
  intro j; induction j with
  | zero =>
    intro fuel v M e hf h1 h2
    have : v = m + r := by omega
    subst this
    obtain ⟨f, rfl⟩ : ∃ f, fuel = f + 1 := ⟨fuel - 1, by omega⟩; rw [fix_s]; unfold k_Mo_bushel_7
    repeat (first | with_reducible refine ok_let ?_ | with_reducible refine ok_cs ?_ | with_reducible refine ok_clet ?_ | with_reducible refine ok_cc ?_ | (with_reducible refine ok_chk ?_ ?_; · (first | omega | ((try simp (disch := omega) only [w32_eq, w64_eq, ix_n, ix_e, sto_n, sto_e, sto_r, zf_r, Int.toNat_natCast, true_or, or_true, eq_self]) <;> (first | omega | decide)))) | (with_reducible refine ok_cchk ?_ ?_; · (first | omega | ((try simp (disch := omega) only [w32_eq, w64_eq, ix_n, ix_e, sto_n, sto_e, sto_r, zf_r, Int.toNat_natCast, true_or, or_true, eq_self]) <;> (first | omega | decide)))) | (with_reducible refine ok_t ?_ ?_; · (first | omega | ((try simp (disch := omega) only [w32_eq, w64_eq, ix_n, ix_e, sto_n, sto_e, sto_r, zf_r, Int.toNat_natCast, true_or, or_true, eq_self]) <;> (first | omega | decide)))) | (with_reducible refine ok_f ?_ ?_; · (first | omega | ((try simp (disch := omega) only [w32_eq, w64_eq, ix_n, ix_e, sto_n, sto_e, sto_r, zf_r, Int.toNat_natCast, true_or, or_true, eq_self]) <;> (first | omega | decide)))) | (with_reducible refine ok_ct ?_ ?_; · (first | omega | ((try simp (disch := omega) only [w32_eq, w64_eq, ix_n, ix_e, sto_n, sto_e, sto_r, zf_r, Int.toNat_natCast, true_or, or_true, eq_self]) <;> (first | omega | decide)))) | (with_reducible refine ok_cf ?_ ?_; · (first | omega | ((try simp (disch := omega) only [w32_eq, w64_eq, ix_n, ix_e, sto_n, sto_e, sto_r, zf_r, Int.toNat_natCast, true_or, or_true, eq_self]) <;> (first | omega | decide)))))
    exact hP M h1 h2
  | succ j ih =>
    intro fuel v M e hf h1 h2
    have hj : (v : Int) + 1 = ((v + 1 : Nat) : Int) := by omega
    have ev : ix (v : Int) = v := ix_n (by omega)
    have u182 := h1.c 182 (by decide) (by decide)
    obtain ⟨f, rfl⟩ : ∃ f, fuel = f + 1 := ⟨fuel - 1, by omega⟩
    have nxt : ∀ w : Int, w = ini m 100000 (B 182) v → Ok (fix (fun _ _ _ _ _ => none) k_Mo_bushel_7 f (m : Int) (r : Int) ((m + r : Nat) : Int) ((v : Int) + 1) (sto (sto M 186 v w) 187 v (-1))) P := by
      intro w hw
      rw [hj]
      refine ih f (v + 1) _ (by omega) (by omega) (h1.trans (Fr.trans (fr_stoA (by decide)) (fr_stoA (by decide)))) (fun x hx => ?_)
      simp (disch := decide) only [sto_r, sto_up]
      unfold up
      by_cases c : x = v
      · rw [if_pos c, if_pos c, c]; exact ⟨hw, rfl⟩
      · rw [if_neg c, if_neg c]; exact h2 x (by omega)
    rw [fix_s]; unfold k_Mo_bushel_7
    by_cases c1 : v < m
    · have hlv := hl v c1
      by_cases c2 : 0 < B 182 v
      · repeat (first | with_reducible refine ok_let ?_ | with_reducible refine ok_cs ?_ | with_reducible refine ok_clet ?_ | with_reducible refine ok_cc ?_ | (with_reducible refine ok_chk ?_ ?_; · (first | omega | ((try simp (disch := omega) only [w32_eq, w64_eq, ix_n, ix_e, sto_n, sto_e, sto_r, zf_r, Int.toNat_natCast, true_or, or_true, eq_self, u182, ev]) <;> (first | omega | decide)))) | (with_reducible refine ok_cchk ?_ ?_; · (first | omega | ((try simp (disch := omega) only [w32_eq, w64_eq, ix_n, ix_e, sto_n, sto_e, sto_r, zf_r, Int.toNat_natCast, true_or, or_true, eq_self, u182, ev]) <;> (first | omega | decide)))) | (with_reducible refine ok_t ?_ ?_; · (first | omega | ((try simp (disch := omega) only [w32_eq, w64_eq, ix_n, ix_e, sto_n, sto_e, sto_r, zf_r, Int.toNat_natCast, true_or, or_true, eq_self, u182, ev]) <;> (first | omega | decide)))) | (with_reducible refine ok_f ?_ ?_; · (first | omega | ((try simp (disch := omega) only [w32_eq, w64_eq, ix_n, ix_e, sto_n, sto_e, sto_r, zf_r, Int.toNat_natCast, true_or, or_true, eq_self, u182, ev]) <;> (first | omega | decide)))) | (with_reducible refine ok_ct ?_ ?_; · (first | omega | ((try simp (disch := omega) only [w32_eq, w64_eq, ix_n, ix_e, sto_n, sto_e, sto_r, zf_r, Int.toNat_natCast, true_or, or_true, eq_self, u182, ev]) <;> (first | omega | decide)))) | (with_reducible refine ok_cf ?_ ?_; · (first | omega | ((try simp (disch := omega) only [w32_eq, w64_eq, ix_n, ix_e, sto_n, sto_e, sto_r, zf_r, Int.toNat_natCast, true_or, or_true, eq_self, u182, ev]) <;> (first | omega | decide)))))
        unfold k_Mo_bushel_42
        repeat (first | with_reducible refine ok_let ?_ | with_reducible refine ok_cs ?_ | with_reducible refine ok_clet ?_ | with_reducible refine ok_cc ?_ | (with_reducible refine ok_chk ?_ ?_; · (first | omega | ((try simp (disch := omega) only [w32_eq, w64_eq, ix_n, ix_e, sto_n, sto_e, sto_r, zf_r, Int.toNat_natCast, true_or, or_true, eq_self]) <;> (first | omega | decide)))) | (with_reducible refine ok_cchk ?_ ?_; · (first | omega | ((try simp (disch := omega) only [w32_eq, w64_eq, ix_n, ix_e, sto_n, sto_e, sto_r, zf_r, Int.toNat_natCast, true_or, or_true, eq_self]) <;> (first | omega | decide)))) | (with_reducible refine ok_t ?_ ?_; · (first | omega | ((try simp (disch := omega) only [w32_eq, w64_eq, ix_n, ix_e, sto_n, sto_e, sto_r, zf_r, Int.toNat_natCast, true_or, or_true, eq_self]) <;> (first | omega | decide)))) | (with_reducible refine ok_f ?_ ?_; · (first | omega | ((try simp (disch := omega) only [w32_eq, w64_eq, ix_n, ix_e, sto_n, sto_e, sto_r, zf_r, Int.toNat_natCast, true_or, or_true, eq_self]) <;> (first | omega | decide)))) | (with_reducible refine ok_ct ?_ ?_; · (first | omega | ((try simp (disch := omega) only [w32_eq, w64_eq, ix_n, ix_e, sto_n, sto_e, sto_r, zf_r, Int.toNat_natCast, true_or, or_true, eq_self]) <;> (first | omega | decide)))) | (with_reducible refine ok_cf ?_ ?_; · (first | omega | ((try simp (disch := omega) only [w32_eq, w64_eq, ix_n, ix_e, sto_n, sto_e, sto_r, zf_r, Int.toNat_natCast, true_or, or_true, eq_self]) <;> (first | omega | decide)))))
        rw [ev]
        exact nxt 0 (by unfold ini; rw [if_pos ⟨c1, c2⟩])
      · repeat (first | with_reducible refine ok_let ?_ | with_reducible refine ok_cs ?_ | with_reducible refine ok_clet ?_ | with_reducible refine ok_cc ?_ | (with_reducible refine ok_chk ?_ ?_; · (first | omega | ((try simp (disch := omega) only [w32_eq, w64_eq, ix_n, ix_e, sto_n, sto_e, sto_r, zf_r, Int.toNat_natCast, true_or, or_true, eq_self, u182, ev]) <;> (first | omega | decide)))) | (with_reducible refine ok_cchk ?_ ?_; · (first | omega | ((try simp (disch := omega) only [w32_eq, w64_eq, ix_n, ix_e, sto_n, sto_e, sto_r, zf_r, Int.toNat_natCast, true_or, or_true, eq_self, u182, ev]) <;> (first | omega | decide)))) | (with_reducible refine ok_t ?_ ?_; · (first | omega | ((try simp (disch := omega) only [w32_eq, w64_eq, ix_n, ix_e, sto_n, sto_e, sto_r, zf_r, Int.toNat_natCast, true_or, or_true, eq_self, u182, ev]) <;> (first | omega | decide)))) | (with_reducible refine ok_f ?_ ?_; · (first | omega | ((try simp (disch := omega) only [w32_eq, w64_eq, ix_n, ix_e, sto_n, sto_e, sto_r, zf_r, Int.toNat_natCast, true_or, or_true, eq_self, u182, ev]) <;> (first | omega | decide)))) | (with_reducible refine ok_ct ?_ ?_; · (first | omega | ((try simp (disch := omega) only [w32_eq, w64_eq, ix_n, ix_e, sto_n, sto_e, sto_r, zf_r, Int.toNat_natCast, true_or, or_true, eq_self, u182, ev]) <;> (first | omega | decide)))) | (with_reducible refine ok_cf ?_ ?_; · (first | omega | ((try simp (disch := omega) only [w32_eq, w64_eq, ix_n, ix_e, sto_n, sto_e, sto_r, zf_r, Int.toNat_natCast, true_or, or_true, eq_self, u182, ev]) <;> (first | omega | decide)))))
        unfold k_Mo_bushel_39 k_Mo_bushel_42
        repeat (first | with_reducible refine ok_let ?_ | with_reducible refine ok_cs ?_ | with_reducible refine ok_clet ?_ | with_reducible refine ok_cc ?_ | (with_reducible refine ok_chk ?_ ?_; · (first | omega | ((try simp (disch := omega) only [w32_eq, w64_eq, ix_n, ix_e, sto_n, sto_e, sto_r, zf_r, Int.toNat_natCast, true_or, or_true, eq_self]) <;> (first | omega | decide)))) | (with_reducible refine ok_cchk ?_ ?_; · (first | omega | ((try simp (disch := omega) only [w32_eq, w64_eq, ix_n, ix_e, sto_n, sto_e, sto_r, zf_r, Int.toNat_natCast, true_or, or_true, eq_self]) <;> (first | omega | decide)))) | (with_reducible refine ok_t ?_ ?_; · (first | omega | ((try simp (disch := omega) only [w32_eq, w64_eq, ix_n, ix_e, sto_n, sto_e, sto_r, zf_r, Int.toNat_natCast, true_or, or_true, eq_self]) <;> (first | omega | decide)))) | (with_reducible refine ok_f ?_ ?_; · (first | omega | ((try simp (disch := omega) only [w32_eq, w64_eq, ix_n, ix_e, sto_n, sto_e, sto_r, zf_r, Int.toNat_natCast, true_or, or_true, eq_self]) <;> (first | omega | decide)))) | (with_reducible refine ok_ct ?_ ?_; · (first | omega | ((try simp (disch := omega) only [w32_eq, w64_eq, ix_n, ix_e, sto_n, sto_e, sto_r, zf_r, Int.toNat_natCast, true_or, or_true, eq_self]) <;> (first | omega | decide)))) | (with_reducible refine ok_cf ?_ ?_; · (first | omega | ((try simp (disch := omega) only [w32_eq, w64_eq, ix_n, ix_e, sto_n, sto_e, sto_r, zf_r, Int.toNat_natCast, true_or, or_true, eq_self]) <;> (first | omega | decide)))))
        rw [ev]
        exact nxt 100000 (by unfold ini; rw [if_neg (fun q => c2 q.2)])
    · repeat (first | with_reducible refine ok_let ?_ | with_reducible refine ok_cs ?_ | with_reducible refine ok_clet ?_ | with_reducible refine ok_cc ?_ | (with_reducible refine ok_chk ?_ ?_; · (first | omega | ((try simp (disch := omega) only [w32_eq, w64_eq, ix_n, ix_e, sto_n, sto_e, sto_r, zf_r, Int.toNat_natCast, true_or, or_true, eq_self]) <;> (first | omega | decide)))) | (with_reducible refine ok_cchk ?_ ?_; · (first | omega | ((try simp (disch := omega) only [w32_eq, w64_eq, ix_n, ix_e, sto_n, sto_e, sto_r, zf_r, Int.toNat_natCast, true_or, or_true, eq_self]) <;> (first | omega | decide)))) | (with_reducible refine ok_t ?_ ?_; · (first | omega | ((try simp (disch := omega) only [w32_eq, w64_eq, ix_n, ix_e, sto_n, sto_e, sto_r, zf_r, Int.toNat_natCast, true_or, or_true, eq_self]) <;> (first | omega | decide)))) | (with_reducible refine ok_f ?_ ?_; · (first | omega | ((try simp (disch := omega) only [w32_eq, w64_eq, ix_n, ix_e, sto_n, sto_e, sto_r, zf_r, Int.toNat_natCast, true_or, or_true, eq_self]) <;> (first | omega | decide)))) | (with_reducible refine ok_ct ?_ ?_; · (first | omega | ((try simp (disch := omega) only [w32_eq, w64_eq, ix_n, ix_e, sto_n, sto_e, sto_r, zf_r, Int.toNat_natCast, true_or, or_true, eq_self]) <;> (first | omega | decide)))) | (with_reducible refine ok_cf ?_ ?_; · (first | omega | ((try simp (disch := omega) only [w32_eq, w64_eq, ix_n, ix_e, sto_n, sto_e, sto_r, zf_r, Int.toNat_natCast, true_or, or_true, eq_self]) <;> (first | omega | decide)))))
      unfold k_Mo_bushel_39 k_Mo_bushel_42
      repeat (first | with_reducible refine ok_let ?_ | with_reducible refine ok_cs ?_ | with_reducible refine ok_clet ?_ | with_reducible refine ok_cc ?_ | (with_reducible refine ok_chk ?_ ?_; · (first | omega | ((try simp (disch := omega) only [w32_eq, w64_eq, ix_n, ix_e, sto_n, sto_e, sto_r, zf_r, Int.toNat_natCast, true_or, or_true, eq_self]) <;> (first | omega | decide)))) | (with_reducible refine ok_cchk ?_ ?_; · (first | omega | ((try simp (disch := omega) only [w32_eq, w64_eq, ix_n, ix_e, sto_n, sto_e, sto_r, zf_r, Int.toNat_natCast, true_or, or_true, eq_self]) <;> (first | omega | decide)))) | (with_reducible refine ok_t ?_ ?_; · (first | omega | ((try simp (disch := omega) only [w32_eq, w64_eq, ix_n, ix_e, sto_n, sto_e, sto_r, zf_r, Int.toNat_natCast, true_or, or_true, eq_self]) <;> (first | omega | decide)))) | (with_reducible refine ok_f ?_ ?_; · (first | omega | ((try simp (disch := omega) only [w32_eq, w64_eq, ix_n, ix_e, sto_n, sto_e, sto_r, zf_r, Int.toNat_natCast, true_or, or_true, eq_self]) <;> (first | omega | decide)))) | (with_reducible refine ok_ct ?_ ?_; · (first | omega | ((try simp (disch := omega) only [w32_eq, w64_eq, ix_n, ix_e, sto_n, sto_e, sto_r, zf_r, Int.toNat_natCast, true_or, or_true, eq_self]) <;> (first | omega | decide)))) | (with_reducible refine ok_cf ?_ ?_; · (first | omega | ((try simp (disch := omega) only [w32_eq, w64_eq, ix_n, ix_e, sto_n, sto_e, sto_r, zf_r, Int.toNat_natCast, true_or, or_true, eq_self]) <;> (first | omega | decide)))))
      rw [ev]
      exact nxt 100000 (by unfold ini; rw [if_neg (fun q => c1 q.1)])
theorem s_bushel {m r : Nat} {M : Mem} {hv wn : Nat → Int} (hmr : m ≤ 5 ∧ r ≤ 4) (hr0 : 0 < r) (hc : ∀ k, k < m * r → 0 ≤ M 184 k ∧ M 184 k ≤ 100) (h1 : ∀ b, b < m → hv b ≤ 30) (h2 : ∀ o, o < r → wn o ≤ 30) (hs : sm wn r ≤ sm hv m) (hI : FI m r hv wn (M 185) (M 182) (M 183)) (hC : ∃ pot, Cer m r (M 184) (M 185) (M 182) pot) (hw : 0 < sm (M 183) r) :
    Ok (d_Mo_bushel (m : Int) (r : Int) M) (fun v M' => BuP m r hv wn M v M' ∧ Fr [182, 183, 185, 186, 187] [] M M') := by
  refine ok_fr ?_ (fun r hr => w_Mo_bushel hr)
  obtain ⟨bd1, bd2, bd3⟩ := fi_bd hI h1 h2
  obtain ⟨pot, hC⟩ := hC
  have hex : ∃ o, o < r ∧ 0 < M 183 o := Classical.byContradiction fun q => by
    have : sm (M 183) r = 0 := sm_0 r (fun o ho => by
      have := bd3 o ho
      by_cases c : 0 < M 183 o
      · exact absurd ⟨o, ho, c⟩ q
      · omega)
    omega
  obtain ⟨o0, ho0, hw0⟩ := hex
  obtain ⟨b0, hb0⟩ := fi_left hI hs ho0 hw0
  unfold d_Mo_bushel
  refine ok_let ?_
  rw [show (m : Int) + (r : Int) = ((m + r : Nat) : Int) by omega]
  refine l_bu7 (B := M) hmr bd2 (fun X hX hx => ?_) (m + r) FU 0 M (by omega) (by unfold FU; omega) Fr.rfl' (fun x hx => by omega)
  refine l_bu60 (B := M) (pot := pot) hmr hr0 (fun k hk => ⟨hc k hk, bd1 k hk⟩) hC (fun Y y1 y2 y3 => ?_) (m + r) FU 0 X (by omega) (by unfold FU; omega) (ws_0 hC (by decide) hx) hX
  obtain ⟨ta, hF⟩ := fnd (S := stR Y) hmr (Nat.le_refl _) hc hC (by decide) (by decide) y1 y2 hb0
  have z : ∀ c, c ≠ 186 → c ≠ 187 → Y c = M c := fun c q1 q2 => y3.c c (by simp [q1, q2]) (by simp)
  have e182 := z 182 (by decide) (by decide)
  have e183 := z 183 (by decide) (by decide)
  have e184 := z 184 (by decide) (by decide)
  have e185 := z 185 (by decide) (by decide)
  have q := l_bu257 (M := Y) (ta := ta) (hv := hv) (wn := wn) hmr (by rw [e184]; exact hc) (by rw [e185, e182, e183]; exact hI) (by rw [e183]; exact bd3) ⟨o0, ho0, by rw [e183]; exact hw0⟩ (by rw [e184, e185, e182]; exact hF) r FU 0 (-1) (by omega) (by unfold FU; omega) (Or.inl ⟨rfl, fun o ho => by omega⟩)
  refine ok_mono q (fun v M' h => ?_)
  unfold BuP at h ⊢
  rw [e184, e185, e183] at h
  exact h
theorem l_sn153 {m r : Nat} {B : Mem} {hv wn : Nat → Int} (hmr : m ≤ 5 ∧ r ≤ 4) (hr0 : 0 < r) (hc : ∀ k, k < m * r → 0 ≤ B 184 k ∧ B 184 k ≤ 100) (h1 : ∀ b, b < m → hv b ≤ 30) (h2 : ∀ o, o < r → wn o ≤ 30) (hs : sm wn r ≤ sm hv m) {n : Nat} (hn : n ≤ 120) :
    ∀ (j fuel u : Nat) (M : Mem), u + j = n → j < fuel → Fr [182, 183, 185, 186, 187] [] B M → FI m r hv wn (M 185) (M 182) (M 183) → (∃ pot, Cer m r (B 184) (M 185) (M 182) pot) → sm (M 183) r = j →
    Ok (fix (fun _ _ _ _ _ _ => none) k_Mo_send_153 fuel (m : Int) (r : Int) (n : Int) (csS m r (B 184) (M 185)) (u : Int) M) (fun v M' => (∃ f lf, FI m r hv wn f lf (fun _ => 0) ∧ (∃ pot, Cer m r (B 184) f lf pot) ∧ v = csS m r (B 184) f) ∧ M' 0 0 = B 0 0 ∧ M' 111 0 = B 111 0) := by
  intro j; induction j with
  | zero =>
    intro fuel u M e hf hFr hI hC hsm
    obtain ⟨f, rfl⟩ : ∃ f, fuel = f + 1 := ⟨fuel - 1, by omega⟩; rw [fix_s]; unfold k_Mo_send_153
    refine ok_f (by first | omega | ((try simp (disch := omega) only [w32_eq, w64_eq, ix_n, ix_e, sto_n, sto_e, sto_r, zf_r, Int.toNat_natCast, true_or, or_true, eq_self]) <;> (first | omega | decide))) (ok_ret ⟨⟨M 185, M 182, ⟨hI.1, hI.2.1, fun o ho => ?_⟩, hC, rfl⟩, hFr.f 0 0 (by decide) (by decide), hFr.f 111 0 (by decide) (by decide)⟩)
    have g := sm_ge (w := M 183) r (fun o ho => (hI.2.2 o ho).1) o ho
    have := hI.2.2 o ho
    rw [show M 183 o = 0 by omega] at this
    exact this
  | succ j ih =>
    intro fuel u M e hf hFr hI hC hsm
    have hj : (u : Int) + 1 = ((u + 1 : Nat) : Int) := by omega
    have u184 := hFr.c 184 (by decide) (by decide)
    obtain ⟨f, rfl⟩ : ∃ f, fuel = f + 1 := ⟨fuel - 1, by omega⟩; rw [fix_s]; unfold k_Mo_send_153
    refine ok_t (by first | omega | ((try simp (disch := omega) only [w32_eq, w64_eq, ix_n, ix_e, sto_n, sto_e, sto_r, zf_r, Int.toNat_natCast, true_or, or_true, eq_self]) <;> (first | omega | decide))) (ok_call (s_bushel (hv := hv) (wn := wn) hmr hr0 (by rw [u184]; exact hc) h1 h2 hs hI (by rw [u184]; exact hC) (by omega)) (fun v X h => ?_))
    obtain ⟨⟨p1, p2, p3, p4⟩, hF⟩ := h
    rw [u184] at p2 p3
    refine ok_let (ok_let ?_)
    rw [hj, ← p3]
    exact ih f (u + 1) X (by omega) (by omega) (hFr.trans hF) p1 p2 (by omega)
