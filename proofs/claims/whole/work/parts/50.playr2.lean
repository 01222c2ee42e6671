/-! the model: other events; all events -/
theorem up_id {w : Nat → Int} {j : Nat} : up w j (w j + 0) = w := by
  funext i; unfold up; split
  · rename_i c; rw [c]; omega
  · rfl
theorem adP_s0 {w p : Nat → Int} {n : Nat} : up (adP w 0 p n) n (w n + p n) = adP w 0 p (n + 1) := by
  have := adP_s (w := w) (p := p) (a := 0) (n := n)
  rw [Nat.zero_add] at this; exact this
theorem adP_n0 {w p : Nat → Int} {n : Nat} : adP w 0 p n n = w n := by
  have := adP_n (w := w) (p := p) (a := 0) (n := n)
  rw [Nat.zero_add] at this; exact this
theorem l_oCar {n k b bp : Nat} (hn : n ≤ 20) (hk : k < 120) {M0 : Mem} (h5 : M0 111 5 = (n : Int)) (hkd : M0 120 k = 1) (hb : b + 20 ≤ 9600) (hbp : 20 * ((6 * M0 123 k + M0 124 k) * 10 + M0 125 k) = (bp : Int)) (hb2 : bp + 20 ≤ 2400) : ∀ (d fuel i : Nat) (M : Mem), i + d = n → d < fuel → (∀ c, c ≠ 134 → c ≠ 135 → c ≠ 141 → c ≠ 142 → M c = M0 c) → M 134 = adP (M0 134) b (fun f => - M0 144 f) i → M 135 = adP (M0 135) bp (M0 144) i → M 141 = M0 141 → M 142 = M0 142 →
    Ok (fix (fun _ _ _ _ _ => none) k_Mo_playOther_59 fuel (k : Int) 0 (b : Int) (i : Int) M) (fun _ M' => (∀ c, c ≠ 134 → c ≠ 135 → c ≠ 141 → c ≠ 142 → M' c = M0 c) ∧ M' 134 = adP (M0 134) b (fun f => - M0 144 f) n ∧ M' 135 = adP (M0 135) bp (M0 144) n ∧ M' 141 = M0 141 ∧ M' 142 = M0 142) := by
  intro d; induction d with
  | zero =>
    intro fuel i M e hf hM h1 h2 h3 h4
    have q111 := hM 111 (by decide) (by decide) (by decide) (by decide)
    obtain ⟨f, rfl⟩ : ∃ f, fuel = f + 1 := ⟨fuel - 1, by omega⟩
    rw [fix_s]; unfold k_Mo_playOther_59
    repeat (first | with_reducible refine ok_let ?_ | with_reducible refine ok_cs ?_ | with_reducible refine ok_clet ?_ | with_reducible refine ok_cc ?_ | (with_reducible refine ok_chk ?_ ?_; · (first | omega | ((try simp (disch := omega) only [w32_eq, w64_eq, ix_n, ix_e, sto_n, sto_e, sto_r, zf_r, Int.toNat_natCast, true_or, or_true, eq_self, q111, h5]) <;> (first | omega | decide)))) | (with_reducible refine ok_cchk ?_ ?_; · (first | omega | ((try simp (disch := omega) only [w32_eq, w64_eq, ix_n, ix_e, sto_n, sto_e, sto_r, zf_r, Int.toNat_natCast, true_or, or_true, eq_self, q111, h5]) <;> (first | omega | decide)))) | (with_reducible refine ok_t ?_ ?_; · (first | omega | ((try simp (disch := omega) only [w32_eq, w64_eq, ix_n, ix_e, sto_n, sto_e, sto_r, zf_r, Int.toNat_natCast, true_or, or_true, eq_self, q111, h5]) <;> (first | omega | decide)))) | (with_reducible refine ok_f ?_ ?_; · (first | omega | ((try simp (disch := omega) only [w32_eq, w64_eq, ix_n, ix_e, sto_n, sto_e, sto_r, zf_r, Int.toNat_natCast, true_or, or_true, eq_self, q111, h5]) <;> (first | omega | decide)))) | (with_reducible refine ok_ct ?_ ?_; · (first | omega | ((try simp (disch := omega) only [w32_eq, w64_eq, ix_n, ix_e, sto_n, sto_e, sto_r, zf_r, Int.toNat_natCast, true_or, or_true, eq_self, q111, h5]) <;> (first | omega | decide)))) | (with_reducible refine ok_cf ?_ ?_; · (first | omega | ((try simp (disch := omega) only [w32_eq, w64_eq, ix_n, ix_e, sto_n, sto_e, sto_r, zf_r, Int.toNat_natCast, true_or, or_true, eq_self, q111, h5]) <;> (first | omega | decide)))))
    have hi : i = n := by omega
    subst hi
    exact ok_ret ⟨hM, h1, h2, h3, h4⟩
  | succ d ih =>
    intro fuel i M e hf hM h1 h2 h3 h4
    have q111 := hM 111 (by decide) (by decide) (by decide) (by decide)
    have q120 := hM 120 (by decide) (by decide) (by decide) (by decide)
    have q123 := hM 123 (by decide) (by decide) (by decide) (by decide)
    have q124 := hM 124 (by decide) (by decide) (by decide) (by decide)
    have q125 := hM 125 (by decide) (by decide) (by decide) (by decide)
    have q144 := hM 144 (by decide) (by decide) (by decide) (by decide)
    have hj : (i : Int) + 1 = ((i + 1 : Nat) : Int) := by omega
    have ex : ix ((b : Int) + (i : Int)) = b + i := by rw [show (b : Int) + (i : Int) = ((b + i : Nat) : Int) by omega, ix_n (by omega)]
    have ei : ix (i : Int) = i := ix_n (by omega)
    have ek : ix (k : Int) = k := ix_n (by omega)
    obtain ⟨f, rfl⟩ : ∃ f, fuel = f + 1 := ⟨fuel - 1, by omega⟩
    rw [fix_s]; unfold k_Mo_playOther_59
    repeat (first | with_reducible refine ok_let ?_ | with_reducible refine ok_cs ?_ | with_reducible refine ok_clet ?_ | with_reducible refine ok_cc ?_ | (with_reducible refine ok_chk ?_ ?_; · (first | omega | ((try simp (disch := omega) only [w32_eq, w64_eq, ix_n, ix_e, sto_n, sto_e, sto_r, zf_r, Int.toNat_natCast, true_or, or_true, eq_self, q111, h5]) <;> (first | omega | decide)))) | (with_reducible refine ok_cchk ?_ ?_; · (first | omega | ((try simp (disch := omega) only [w32_eq, w64_eq, ix_n, ix_e, sto_n, sto_e, sto_r, zf_r, Int.toNat_natCast, true_or, or_true, eq_self, q111, h5]) <;> (first | omega | decide)))) | (with_reducible refine ok_t ?_ ?_; · (first | omega | ((try simp (disch := omega) only [w32_eq, w64_eq, ix_n, ix_e, sto_n, sto_e, sto_r, zf_r, Int.toNat_natCast, true_or, or_true, eq_self, q111, h5]) <;> (first | omega | decide)))) | (with_reducible refine ok_f ?_ ?_; · (first | omega | ((try simp (disch := omega) only [w32_eq, w64_eq, ix_n, ix_e, sto_n, sto_e, sto_r, zf_r, Int.toNat_natCast, true_or, or_true, eq_self, q111, h5]) <;> (first | omega | decide)))) | (with_reducible refine ok_ct ?_ ?_; · (first | omega | ((try simp (disch := omega) only [w32_eq, w64_eq, ix_n, ix_e, sto_n, sto_e, sto_r, zf_r, Int.toNat_natCast, true_or, or_true, eq_self, q111, h5]) <;> (first | omega | decide)))) | (with_reducible refine ok_cf ?_ ?_; · (first | omega | ((try simp (disch := omega) only [w32_eq, w64_eq, ix_n, ix_e, sto_n, sto_e, sto_r, zf_r, Int.toNat_natCast, true_or, or_true, eq_self, q111, h5]) <;> (first | omega | decide)))))
    unfold k_Mo_playOther_113
    repeat (first | with_reducible refine ok_let ?_ | with_reducible refine ok_cs ?_ | with_reducible refine ok_clet ?_ | with_reducible refine ok_cc ?_ | (with_reducible refine ok_chk ?_ ?_; · (first | omega | ((try simp (disch := omega) only [w32_eq, w64_eq, ix_n, ix_e, sto_n, sto_e, sto_r, zf_r, Int.toNat_natCast, true_or, or_true, eq_self, q120, hkd]) <;> (first | omega | decide)))) | (with_reducible refine ok_cchk ?_ ?_; · (first | omega | ((try simp (disch := omega) only [w32_eq, w64_eq, ix_n, ix_e, sto_n, sto_e, sto_r, zf_r, Int.toNat_natCast, true_or, or_true, eq_self, q120, hkd]) <;> (first | omega | decide)))) | (with_reducible refine ok_t ?_ ?_; · (first | omega | ((try simp (disch := omega) only [w32_eq, w64_eq, ix_n, ix_e, sto_n, sto_e, sto_r, zf_r, Int.toNat_natCast, true_or, or_true, eq_self, q120, hkd]) <;> (first | omega | decide)))) | (with_reducible refine ok_f ?_ ?_; · (first | omega | ((try simp (disch := omega) only [w32_eq, w64_eq, ix_n, ix_e, sto_n, sto_e, sto_r, zf_r, Int.toNat_natCast, true_or, or_true, eq_self, q120, hkd]) <;> (first | omega | decide)))) | (with_reducible refine ok_ct ?_ ?_; · (first | omega | ((try simp (disch := omega) only [w32_eq, w64_eq, ix_n, ix_e, sto_n, sto_e, sto_r, zf_r, Int.toNat_natCast, true_or, or_true, eq_self, q120, hkd]) <;> (first | omega | decide)))) | (with_reducible refine ok_cf ?_ ?_; · (first | omega | ((try simp (disch := omega) only [w32_eq, w64_eq, ix_n, ix_e, sto_n, sto_e, sto_r, zf_r, Int.toNat_natCast, true_or, or_true, eq_self, q120, hkd]) <;> (first | omega | decide)))))
    rw [ek, sto_r (show 123 ≠ 134 by decide), sto_r (show 124 ≠ 134 by decide), sto_r (show 125 ≠ 134 by decide), q123, q124, q125]
    refine ok_call_eq s_binAt ?_
    rw [hbp]
    have ep : ix ((bp : Int) + (i : Int)) = bp + i := by rw [show (bp : Int) + (i : Int) = ((bp + i : Nat) : Int) by omega, ix_n (by omega)]
    repeat (first | with_reducible refine ok_let ?_ | with_reducible refine ok_cs ?_ | with_reducible refine ok_clet ?_ | with_reducible refine ok_cc ?_ | (with_reducible refine ok_chk ?_ ?_; · (first | omega | ((try simp (disch := omega) only [w32_eq, w64_eq, ix_n, ix_e, sto_n, sto_e, sto_r, zf_r, Int.toNat_natCast, true_or, or_true, eq_self]) <;> (first | omega | decide)))) | (with_reducible refine ok_cchk ?_ ?_; · (first | omega | ((try simp (disch := omega) only [w32_eq, w64_eq, ix_n, ix_e, sto_n, sto_e, sto_r, zf_r, Int.toNat_natCast, true_or, or_true, eq_self]) <;> (first | omega | decide)))) | (with_reducible refine ok_t ?_ ?_; · (first | omega | ((try simp (disch := omega) only [w32_eq, w64_eq, ix_n, ix_e, sto_n, sto_e, sto_r, zf_r, Int.toNat_natCast, true_or, or_true, eq_self]) <;> (first | omega | decide)))) | (with_reducible refine ok_f ?_ ?_; · (first | omega | ((try simp (disch := omega) only [w32_eq, w64_eq, ix_n, ix_e, sto_n, sto_e, sto_r, zf_r, Int.toNat_natCast, true_or, or_true, eq_self]) <;> (first | omega | decide)))) | (with_reducible refine ok_ct ?_ ?_; · (first | omega | ((try simp (disch := omega) only [w32_eq, w64_eq, ix_n, ix_e, sto_n, sto_e, sto_r, zf_r, Int.toNat_natCast, true_or, or_true, eq_self]) <;> (first | omega | decide)))) | (with_reducible refine ok_cf ?_ ?_; · (first | omega | ((try simp (disch := omega) only [w32_eq, w64_eq, ix_n, ix_e, sto_n, sto_e, sto_r, zf_r, Int.toNat_natCast, true_or, or_true, eq_self]) <;> (first | omega | decide)))))
    rw [ep]
    unfold k_Mo_playOther_157
    repeat (first | with_reducible refine ok_let ?_ | with_reducible refine ok_cs ?_ | with_reducible refine ok_clet ?_ | with_reducible refine ok_cc ?_ | (with_reducible refine ok_chk ?_ ?_; · (first | omega | ((try simp (disch := omega) only [w32_eq, w64_eq, ix_n, ix_e, sto_n, sto_e, sto_r, zf_r, Int.toNat_natCast, true_or, or_true, eq_self]) <;> (first | omega | decide)))) | (with_reducible refine ok_cchk ?_ ?_; · (first | omega | ((try simp (disch := omega) only [w32_eq, w64_eq, ix_n, ix_e, sto_n, sto_e, sto_r, zf_r, Int.toNat_natCast, true_or, or_true, eq_self]) <;> (first | omega | decide)))) | (with_reducible refine ok_t ?_ ?_; · (first | omega | ((try simp (disch := omega) only [w32_eq, w64_eq, ix_n, ix_e, sto_n, sto_e, sto_r, zf_r, Int.toNat_natCast, true_or, or_true, eq_self]) <;> (first | omega | decide)))) | (with_reducible refine ok_f ?_ ?_; · (first | omega | ((try simp (disch := omega) only [w32_eq, w64_eq, ix_n, ix_e, sto_n, sto_e, sto_r, zf_r, Int.toNat_natCast, true_or, or_true, eq_self]) <;> (first | omega | decide)))) | (with_reducible refine ok_ct ?_ ?_; · (first | omega | ((try simp (disch := omega) only [w32_eq, w64_eq, ix_n, ix_e, sto_n, sto_e, sto_r, zf_r, Int.toNat_natCast, true_or, or_true, eq_self]) <;> (first | omega | decide)))) | (with_reducible refine ok_cf ?_ ?_; · (first | omega | ((try simp (disch := omega) only [w32_eq, w64_eq, ix_n, ix_e, sto_n, sto_e, sto_r, zf_r, Int.toNat_natCast, true_or, or_true, eq_self]) <;> (first | omega | decide)))))
    unfold k_Mo_playOther_175
    repeat (first | with_reducible refine ok_let ?_ | with_reducible refine ok_cs ?_ | with_reducible refine ok_clet ?_ | with_reducible refine ok_cc ?_ | (with_reducible refine ok_chk ?_ ?_; · (first | omega | ((try simp (disch := omega) only [w32_eq, w64_eq, ix_n, ix_e, sto_n, sto_e, sto_r, zf_r, Int.toNat_natCast, true_or, or_true, eq_self, q120, hkd]) <;> (first | omega | decide)))) | (with_reducible refine ok_cchk ?_ ?_; · (first | omega | ((try simp (disch := omega) only [w32_eq, w64_eq, ix_n, ix_e, sto_n, sto_e, sto_r, zf_r, Int.toNat_natCast, true_or, or_true, eq_self, q120, hkd]) <;> (first | omega | decide)))) | (with_reducible refine ok_t ?_ ?_; · (first | omega | ((try simp (disch := omega) only [w32_eq, w64_eq, ix_n, ix_e, sto_n, sto_e, sto_r, zf_r, Int.toNat_natCast, true_or, or_true, eq_self, q120, hkd]) <;> (first | omega | decide)))) | (with_reducible refine ok_f ?_ ?_; · (first | omega | ((try simp (disch := omega) only [w32_eq, w64_eq, ix_n, ix_e, sto_n, sto_e, sto_r, zf_r, Int.toNat_natCast, true_or, or_true, eq_self, q120, hkd]) <;> (first | omega | decide)))) | (with_reducible refine ok_ct ?_ ?_; · (first | omega | ((try simp (disch := omega) only [w32_eq, w64_eq, ix_n, ix_e, sto_n, sto_e, sto_r, zf_r, Int.toNat_natCast, true_or, or_true, eq_self, q120, hkd]) <;> (first | omega | decide)))) | (with_reducible refine ok_cf ?_ ?_; · (first | omega | ((try simp (disch := omega) only [w32_eq, w64_eq, ix_n, ix_e, sto_n, sto_e, sto_r, zf_r, Int.toNat_natCast, true_or, or_true, eq_self, q120, hkd]) <;> (first | omega | decide)))))
    unfold k_Mo_playOther_201
    repeat (first | with_reducible refine ok_let ?_ | with_reducible refine ok_cs ?_ | with_reducible refine ok_clet ?_ | with_reducible refine ok_cc ?_ | (with_reducible refine ok_chk ?_ ?_; · (first | omega | ((try simp (disch := omega) only [w32_eq, w64_eq, ix_n, ix_e, sto_n, sto_e, sto_r, zf_r, Int.toNat_natCast, true_or, or_true, eq_self]) <;> (first | omega | decide)))) | (with_reducible refine ok_cchk ?_ ?_; · (first | omega | ((try simp (disch := omega) only [w32_eq, w64_eq, ix_n, ix_e, sto_n, sto_e, sto_r, zf_r, Int.toNat_natCast, true_or, or_true, eq_self]) <;> (first | omega | decide)))) | (with_reducible refine ok_t ?_ ?_; · (first | omega | ((try simp (disch := omega) only [w32_eq, w64_eq, ix_n, ix_e, sto_n, sto_e, sto_r, zf_r, Int.toNat_natCast, true_or, or_true, eq_self]) <;> (first | omega | decide)))) | (with_reducible refine ok_f ?_ ?_; · (first | omega | ((try simp (disch := omega) only [w32_eq, w64_eq, ix_n, ix_e, sto_n, sto_e, sto_r, zf_r, Int.toNat_natCast, true_or, or_true, eq_self]) <;> (first | omega | decide)))) | (with_reducible refine ok_ct ?_ ?_; · (first | omega | ((try simp (disch := omega) only [w32_eq, w64_eq, ix_n, ix_e, sto_n, sto_e, sto_r, zf_r, Int.toNat_natCast, true_or, or_true, eq_self]) <;> (first | omega | decide)))) | (with_reducible refine ok_cf ?_ ?_; · (first | omega | ((try simp (disch := omega) only [w32_eq, w64_eq, ix_n, ix_e, sto_n, sto_e, sto_r, zf_r, Int.toNat_natCast, true_or, or_true, eq_self]) <;> (first | omega | decide)))))
    rw [hj]
    simp (disch := omega) only [ei, ex, ek, sto_r]
    rw [q144, h1, h2, h3, h4]
    refine ih f (i + 1) _ (by omega) (by omega) (fun c g1 g2 g3 g4 => ?_) ?_ ?_ ?_ ?_
    · simp (disch := assumption) only [sto_r]; exact hM c g1 g2 g3 g4
    · simp (disch := decide) only [sto_r, sto_up]; rw [h1]; rw [adP_n, Int.sub_eq_add_neg, adP_s]
    · simp (disch := decide) only [sto_r, sto_up]; rw [h2]; rw [adP_n, adP_s]
    · simp (disch := decide) only [sto_r, sto_up]; rw [h3]; rw [up_id]
    · simp (disch := decide) only [sto_r, sto_up]; rw [h4]; rw [up_id]
theorem l_oSale {n k b bp : Nat} (hn : n ≤ 20) (hk : k < 120) {M0 : Mem} (h5 : M0 111 5 = (n : Int)) (hkd : M0 120 k = 2) (hb : b + 20 ≤ 2400) : ∀ (d fuel i : Nat) (M : Mem), i + d = n → d < fuel → (∀ c, c ≠ 134 → c ≠ 135 → c ≠ 141 → c ≠ 142 → M c = M0 c) → M 134 = M0 134 → M 135 = adP (M0 135) b (fun f => - M0 144 f) i → M 141 = adP (M0 141) 0 (M0 144) i → M 142 = M0 142 →
    Ok (fix (fun _ _ _ _ _ => none) k_Mo_playOther_59 fuel (k : Int) 1 (b : Int) (i : Int) M) (fun _ M' => (∀ c, c ≠ 134 → c ≠ 135 → c ≠ 141 → c ≠ 142 → M' c = M0 c) ∧ M' 134 = M0 134 ∧ M' 135 = adP (M0 135) b (fun f => - M0 144 f) n ∧ M' 141 = adP (M0 141) 0 (M0 144) n ∧ M' 142 = M0 142) := by
  intro d; induction d with
  | zero =>
    intro fuel i M e hf hM h1 h2 h3 h4
    have q111 := hM 111 (by decide) (by decide) (by decide) (by decide)
    obtain ⟨f, rfl⟩ : ∃ f, fuel = f + 1 := ⟨fuel - 1, by omega⟩
    rw [fix_s]; unfold k_Mo_playOther_59
    repeat (first | with_reducible refine ok_let ?_ | with_reducible refine ok_cs ?_ | with_reducible refine ok_clet ?_ | with_reducible refine ok_cc ?_ | (with_reducible refine ok_chk ?_ ?_; · (first | omega | ((try simp (disch := omega) only [w32_eq, w64_eq, ix_n, ix_e, sto_n, sto_e, sto_r, zf_r, Int.toNat_natCast, true_or, or_true, eq_self, q111, h5]) <;> (first | omega | decide)))) | (with_reducible refine ok_cchk ?_ ?_; · (first | omega | ((try simp (disch := omega) only [w32_eq, w64_eq, ix_n, ix_e, sto_n, sto_e, sto_r, zf_r, Int.toNat_natCast, true_or, or_true, eq_self, q111, h5]) <;> (first | omega | decide)))) | (with_reducible refine ok_t ?_ ?_; · (first | omega | ((try simp (disch := omega) only [w32_eq, w64_eq, ix_n, ix_e, sto_n, sto_e, sto_r, zf_r, Int.toNat_natCast, true_or, or_true, eq_self, q111, h5]) <;> (first | omega | decide)))) | (with_reducible refine ok_f ?_ ?_; · (first | omega | ((try simp (disch := omega) only [w32_eq, w64_eq, ix_n, ix_e, sto_n, sto_e, sto_r, zf_r, Int.toNat_natCast, true_or, or_true, eq_self, q111, h5]) <;> (first | omega | decide)))) | (with_reducible refine ok_ct ?_ ?_; · (first | omega | ((try simp (disch := omega) only [w32_eq, w64_eq, ix_n, ix_e, sto_n, sto_e, sto_r, zf_r, Int.toNat_natCast, true_or, or_true, eq_self, q111, h5]) <;> (first | omega | decide)))) | (with_reducible refine ok_cf ?_ ?_; · (first | omega | ((try simp (disch := omega) only [w32_eq, w64_eq, ix_n, ix_e, sto_n, sto_e, sto_r, zf_r, Int.toNat_natCast, true_or, or_true, eq_self, q111, h5]) <;> (first | omega | decide)))))
    have hi : i = n := by omega
    subst hi
    exact ok_ret ⟨hM, h1, h2, h3, h4⟩
  | succ d ih =>
    intro fuel i M e hf hM h1 h2 h3 h4
    have q111 := hM 111 (by decide) (by decide) (by decide) (by decide)
    have q120 := hM 120 (by decide) (by decide) (by decide) (by decide)
    have q123 := hM 123 (by decide) (by decide) (by decide) (by decide)
    have q124 := hM 124 (by decide) (by decide) (by decide) (by decide)
    have q125 := hM 125 (by decide) (by decide) (by decide) (by decide)
    have q144 := hM 144 (by decide) (by decide) (by decide) (by decide)
    have hj : (i : Int) + 1 = ((i + 1 : Nat) : Int) := by omega
    have ex : ix ((b : Int) + (i : Int)) = b + i := by rw [show (b : Int) + (i : Int) = ((b + i : Nat) : Int) by omega, ix_n (by omega)]
    have ei : ix (i : Int) = i := ix_n (by omega)
    have ek : ix (k : Int) = k := ix_n (by omega)
    obtain ⟨f, rfl⟩ : ∃ f, fuel = f + 1 := ⟨fuel - 1, by omega⟩
    rw [fix_s]; unfold k_Mo_playOther_59
    repeat (first | with_reducible refine ok_let ?_ | with_reducible refine ok_cs ?_ | with_reducible refine ok_clet ?_ | with_reducible refine ok_cc ?_ | (with_reducible refine ok_chk ?_ ?_; · (first | omega | ((try simp (disch := omega) only [w32_eq, w64_eq, ix_n, ix_e, sto_n, sto_e, sto_r, zf_r, Int.toNat_natCast, true_or, or_true, eq_self, q111, h5]) <;> (first | omega | decide)))) | (with_reducible refine ok_cchk ?_ ?_; · (first | omega | ((try simp (disch := omega) only [w32_eq, w64_eq, ix_n, ix_e, sto_n, sto_e, sto_r, zf_r, Int.toNat_natCast, true_or, or_true, eq_self, q111, h5]) <;> (first | omega | decide)))) | (with_reducible refine ok_t ?_ ?_; · (first | omega | ((try simp (disch := omega) only [w32_eq, w64_eq, ix_n, ix_e, sto_n, sto_e, sto_r, zf_r, Int.toNat_natCast, true_or, or_true, eq_self, q111, h5]) <;> (first | omega | decide)))) | (with_reducible refine ok_f ?_ ?_; · (first | omega | ((try simp (disch := omega) only [w32_eq, w64_eq, ix_n, ix_e, sto_n, sto_e, sto_r, zf_r, Int.toNat_natCast, true_or, or_true, eq_self, q111, h5]) <;> (first | omega | decide)))) | (with_reducible refine ok_ct ?_ ?_; · (first | omega | ((try simp (disch := omega) only [w32_eq, w64_eq, ix_n, ix_e, sto_n, sto_e, sto_r, zf_r, Int.toNat_natCast, true_or, or_true, eq_self, q111, h5]) <;> (first | omega | decide)))) | (with_reducible refine ok_cf ?_ ?_; · (first | omega | ((try simp (disch := omega) only [w32_eq, w64_eq, ix_n, ix_e, sto_n, sto_e, sto_r, zf_r, Int.toNat_natCast, true_or, or_true, eq_self, q111, h5]) <;> (first | omega | decide)))))
    unfold k_Mo_playOther_113
    repeat (first | with_reducible refine ok_let ?_ | with_reducible refine ok_cs ?_ | with_reducible refine ok_clet ?_ | with_reducible refine ok_cc ?_ | (with_reducible refine ok_chk ?_ ?_; · (first | omega | ((try simp (disch := omega) only [w32_eq, w64_eq, ix_n, ix_e, sto_n, sto_e, sto_r, zf_r, Int.toNat_natCast, true_or, or_true, eq_self, q120, hkd]) <;> (first | omega | decide)))) | (with_reducible refine ok_cchk ?_ ?_; · (first | omega | ((try simp (disch := omega) only [w32_eq, w64_eq, ix_n, ix_e, sto_n, sto_e, sto_r, zf_r, Int.toNat_natCast, true_or, or_true, eq_self, q120, hkd]) <;> (first | omega | decide)))) | (with_reducible refine ok_t ?_ ?_; · (first | omega | ((try simp (disch := omega) only [w32_eq, w64_eq, ix_n, ix_e, sto_n, sto_e, sto_r, zf_r, Int.toNat_natCast, true_or, or_true, eq_self, q120, hkd]) <;> (first | omega | decide)))) | (with_reducible refine ok_f ?_ ?_; · (first | omega | ((try simp (disch := omega) only [w32_eq, w64_eq, ix_n, ix_e, sto_n, sto_e, sto_r, zf_r, Int.toNat_natCast, true_or, or_true, eq_self, q120, hkd]) <;> (first | omega | decide)))) | (with_reducible refine ok_ct ?_ ?_; · (first | omega | ((try simp (disch := omega) only [w32_eq, w64_eq, ix_n, ix_e, sto_n, sto_e, sto_r, zf_r, Int.toNat_natCast, true_or, or_true, eq_self, q120, hkd]) <;> (first | omega | decide)))) | (with_reducible refine ok_cf ?_ ?_; · (first | omega | ((try simp (disch := omega) only [w32_eq, w64_eq, ix_n, ix_e, sto_n, sto_e, sto_r, zf_r, Int.toNat_natCast, true_or, or_true, eq_self, q120, hkd]) <;> (first | omega | decide)))))
    unfold k_Mo_playOther_157
    repeat (first | with_reducible refine ok_let ?_ | with_reducible refine ok_cs ?_ | with_reducible refine ok_clet ?_ | with_reducible refine ok_cc ?_ | (with_reducible refine ok_chk ?_ ?_; · (first | omega | ((try simp (disch := omega) only [w32_eq, w64_eq, ix_n, ix_e, sto_n, sto_e, sto_r, zf_r, Int.toNat_natCast, true_or, or_true, eq_self]) <;> (first | omega | decide)))) | (with_reducible refine ok_cchk ?_ ?_; · (first | omega | ((try simp (disch := omega) only [w32_eq, w64_eq, ix_n, ix_e, sto_n, sto_e, sto_r, zf_r, Int.toNat_natCast, true_or, or_true, eq_self]) <;> (first | omega | decide)))) | (with_reducible refine ok_t ?_ ?_; · (first | omega | ((try simp (disch := omega) only [w32_eq, w64_eq, ix_n, ix_e, sto_n, sto_e, sto_r, zf_r, Int.toNat_natCast, true_or, or_true, eq_self]) <;> (first | omega | decide)))) | (with_reducible refine ok_f ?_ ?_; · (first | omega | ((try simp (disch := omega) only [w32_eq, w64_eq, ix_n, ix_e, sto_n, sto_e, sto_r, zf_r, Int.toNat_natCast, true_or, or_true, eq_self]) <;> (first | omega | decide)))) | (with_reducible refine ok_ct ?_ ?_; · (first | omega | ((try simp (disch := omega) only [w32_eq, w64_eq, ix_n, ix_e, sto_n, sto_e, sto_r, zf_r, Int.toNat_natCast, true_or, or_true, eq_self]) <;> (first | omega | decide)))) | (with_reducible refine ok_cf ?_ ?_; · (first | omega | ((try simp (disch := omega) only [w32_eq, w64_eq, ix_n, ix_e, sto_n, sto_e, sto_r, zf_r, Int.toNat_natCast, true_or, or_true, eq_self]) <;> (first | omega | decide)))))
    unfold k_Mo_playOther_175
    repeat (first | with_reducible refine ok_let ?_ | with_reducible refine ok_cs ?_ | with_reducible refine ok_clet ?_ | with_reducible refine ok_cc ?_ | (with_reducible refine ok_chk ?_ ?_; · (first | omega | ((try simp (disch := omega) only [w32_eq, w64_eq, ix_n, ix_e, sto_n, sto_e, sto_r, zf_r, Int.toNat_natCast, true_or, or_true, eq_self, q120, hkd]) <;> (first | omega | decide)))) | (with_reducible refine ok_cchk ?_ ?_; · (first | omega | ((try simp (disch := omega) only [w32_eq, w64_eq, ix_n, ix_e, sto_n, sto_e, sto_r, zf_r, Int.toNat_natCast, true_or, or_true, eq_self, q120, hkd]) <;> (first | omega | decide)))) | (with_reducible refine ok_t ?_ ?_; · (first | omega | ((try simp (disch := omega) only [w32_eq, w64_eq, ix_n, ix_e, sto_n, sto_e, sto_r, zf_r, Int.toNat_natCast, true_or, or_true, eq_self, q120, hkd]) <;> (first | omega | decide)))) | (with_reducible refine ok_f ?_ ?_; · (first | omega | ((try simp (disch := omega) only [w32_eq, w64_eq, ix_n, ix_e, sto_n, sto_e, sto_r, zf_r, Int.toNat_natCast, true_or, or_true, eq_self, q120, hkd]) <;> (first | omega | decide)))) | (with_reducible refine ok_ct ?_ ?_; · (first | omega | ((try simp (disch := omega) only [w32_eq, w64_eq, ix_n, ix_e, sto_n, sto_e, sto_r, zf_r, Int.toNat_natCast, true_or, or_true, eq_self, q120, hkd]) <;> (first | omega | decide)))) | (with_reducible refine ok_cf ?_ ?_; · (first | omega | ((try simp (disch := omega) only [w32_eq, w64_eq, ix_n, ix_e, sto_n, sto_e, sto_r, zf_r, Int.toNat_natCast, true_or, or_true, eq_self, q120, hkd]) <;> (first | omega | decide)))))
    unfold k_Mo_playOther_201
    repeat (first | with_reducible refine ok_let ?_ | with_reducible refine ok_cs ?_ | with_reducible refine ok_clet ?_ | with_reducible refine ok_cc ?_ | (with_reducible refine ok_chk ?_ ?_; · (first | omega | ((try simp (disch := omega) only [w32_eq, w64_eq, ix_n, ix_e, sto_n, sto_e, sto_r, zf_r, Int.toNat_natCast, true_or, or_true, eq_self]) <;> (first | omega | decide)))) | (with_reducible refine ok_cchk ?_ ?_; · (first | omega | ((try simp (disch := omega) only [w32_eq, w64_eq, ix_n, ix_e, sto_n, sto_e, sto_r, zf_r, Int.toNat_natCast, true_or, or_true, eq_self]) <;> (first | omega | decide)))) | (with_reducible refine ok_t ?_ ?_; · (first | omega | ((try simp (disch := omega) only [w32_eq, w64_eq, ix_n, ix_e, sto_n, sto_e, sto_r, zf_r, Int.toNat_natCast, true_or, or_true, eq_self]) <;> (first | omega | decide)))) | (with_reducible refine ok_f ?_ ?_; · (first | omega | ((try simp (disch := omega) only [w32_eq, w64_eq, ix_n, ix_e, sto_n, sto_e, sto_r, zf_r, Int.toNat_natCast, true_or, or_true, eq_self]) <;> (first | omega | decide)))) | (with_reducible refine ok_ct ?_ ?_; · (first | omega | ((try simp (disch := omega) only [w32_eq, w64_eq, ix_n, ix_e, sto_n, sto_e, sto_r, zf_r, Int.toNat_natCast, true_or, or_true, eq_self]) <;> (first | omega | decide)))) | (with_reducible refine ok_cf ?_ ?_; · (first | omega | ((try simp (disch := omega) only [w32_eq, w64_eq, ix_n, ix_e, sto_n, sto_e, sto_r, zf_r, Int.toNat_natCast, true_or, or_true, eq_self]) <;> (first | omega | decide)))))
    rw [hj]
    simp (disch := omega) only [ei, ex, ek, sto_r]
    rw [q144, h2, h3, h4]
    refine ih f (i + 1) _ (by omega) (by omega) (fun c g1 g2 g3 g4 => ?_) ?_ ?_ ?_ ?_
    · simp (disch := assumption) only [sto_r]; exact hM c g1 g2 g3 g4
    · simp (disch := decide) only [sto_r, sto_up]; rw [h1]
    · simp (disch := decide) only [sto_r, sto_up]; rw [h2]; rw [adP_n, Int.sub_eq_add_neg, adP_s]
    · simp (disch := decide) only [sto_r, sto_up]; rw [h3]; rw [adP_n0, adP_s0]
    · simp (disch := decide) only [sto_r, sto_up]; rw [h4]; rw [up_id]
theorem l_oSpoil {n k b bp : Nat} (hn : n ≤ 20) (hk : k < 120) {M0 : Mem} (h5 : M0 111 5 = (n : Int)) (hkd : M0 120 k = 3) (hb : b + 20 ≤ 9600) : ∀ (d fuel i : Nat) (M : Mem), i + d = n → d < fuel → (∀ c, c ≠ 134 → c ≠ 135 → c ≠ 141 → c ≠ 142 → M c = M0 c) → M 134 = adP (M0 134) b (fun f => - M0 144 f) i → M 135 = M0 135 → M 141 = M0 141 → M 142 = adP (M0 142) 0 (M0 144) i →
    Ok (fix (fun _ _ _ _ _ => none) k_Mo_playOther_59 fuel (k : Int) 0 (b : Int) (i : Int) M) (fun _ M' => (∀ c, c ≠ 134 → c ≠ 135 → c ≠ 141 → c ≠ 142 → M' c = M0 c) ∧ M' 134 = adP (M0 134) b (fun f => - M0 144 f) n ∧ M' 135 = M0 135 ∧ M' 141 = M0 141 ∧ M' 142 = adP (M0 142) 0 (M0 144) n) := by
  intro d; induction d with
  | zero =>
    intro fuel i M e hf hM h1 h2 h3 h4
    have q111 := hM 111 (by decide) (by decide) (by decide) (by decide)
    obtain ⟨f, rfl⟩ : ∃ f, fuel = f + 1 := ⟨fuel - 1, by omega⟩
    rw [fix_s]; unfold k_Mo_playOther_59
    repeat (first | with_reducible refine ok_let ?_ | with_reducible refine ok_cs ?_ | with_reducible refine ok_clet ?_ | with_reducible refine ok_cc ?_ | (with_reducible refine ok_chk ?_ ?_; · (first | omega | ((try simp (disch := omega) only [w32_eq, w64_eq, ix_n, ix_e, sto_n, sto_e, sto_r, zf_r, Int.toNat_natCast, true_or, or_true, eq_self, q111, h5]) <;> (first | omega | decide)))) | (with_reducible refine ok_cchk ?_ ?_; · (first | omega | ((try simp (disch := omega) only [w32_eq, w64_eq, ix_n, ix_e, sto_n, sto_e, sto_r, zf_r, Int.toNat_natCast, true_or, or_true, eq_self, q111, h5]) <;> (first | omega | decide)))) | (with_reducible refine ok_t ?_ ?_; · (first | omega | ((try simp (disch := omega) only [w32_eq, w64_eq, ix_n, ix_e, sto_n, sto_e, sto_r, zf_r, Int.toNat_natCast, true_or, or_true, eq_self, q111, h5]) <;> (first | omega | decide)))) | (with_reducible refine ok_f ?_ ?_; · (first | omega | ((try simp (disch := omega) only [w32_eq, w64_eq, ix_n, ix_e, sto_n, sto_e, sto_r, zf_r, Int.toNat_natCast, true_or, or_true, eq_self, q111, h5]) <;> (first | omega | decide)))) | (with_reducible refine ok_ct ?_ ?_; · (first | omega | ((try simp (disch := omega) only [w32_eq, w64_eq, ix_n, ix_e, sto_n, sto_e, sto_r, zf_r, Int.toNat_natCast, true_or, or_true, eq_self, q111, h5]) <;> (first | omega | decide)))) | (with_reducible refine ok_cf ?_ ?_; · (first | omega | ((try simp (disch := omega) only [w32_eq, w64_eq, ix_n, ix_e, sto_n, sto_e, sto_r, zf_r, Int.toNat_natCast, true_or, or_true, eq_self, q111, h5]) <;> (first | omega | decide)))))
    have hi : i = n := by omega
    subst hi
    exact ok_ret ⟨hM, h1, h2, h3, h4⟩
  | succ d ih =>
    intro fuel i M e hf hM h1 h2 h3 h4
    have q111 := hM 111 (by decide) (by decide) (by decide) (by decide)
    have q120 := hM 120 (by decide) (by decide) (by decide) (by decide)
    have q123 := hM 123 (by decide) (by decide) (by decide) (by decide)
    have q124 := hM 124 (by decide) (by decide) (by decide) (by decide)
    have q125 := hM 125 (by decide) (by decide) (by decide) (by decide)
    have q144 := hM 144 (by decide) (by decide) (by decide) (by decide)
    have hj : (i : Int) + 1 = ((i + 1 : Nat) : Int) := by omega
    have ex : ix ((b : Int) + (i : Int)) = b + i := by rw [show (b : Int) + (i : Int) = ((b + i : Nat) : Int) by omega, ix_n (by omega)]
    have ei : ix (i : Int) = i := ix_n (by omega)
    have ek : ix (k : Int) = k := ix_n (by omega)
    obtain ⟨f, rfl⟩ : ∃ f, fuel = f + 1 := ⟨fuel - 1, by omega⟩
    rw [fix_s]; unfold k_Mo_playOther_59
    repeat (first | with_reducible refine ok_let ?_ | with_reducible refine ok_cs ?_ | with_reducible refine ok_clet ?_ | with_reducible refine ok_cc ?_ | (with_reducible refine ok_chk ?_ ?_; · (first | omega | ((try simp (disch := omega) only [w32_eq, w64_eq, ix_n, ix_e, sto_n, sto_e, sto_r, zf_r, Int.toNat_natCast, true_or, or_true, eq_self, q111, h5]) <;> (first | omega | decide)))) | (with_reducible refine ok_cchk ?_ ?_; · (first | omega | ((try simp (disch := omega) only [w32_eq, w64_eq, ix_n, ix_e, sto_n, sto_e, sto_r, zf_r, Int.toNat_natCast, true_or, or_true, eq_self, q111, h5]) <;> (first | omega | decide)))) | (with_reducible refine ok_t ?_ ?_; · (first | omega | ((try simp (disch := omega) only [w32_eq, w64_eq, ix_n, ix_e, sto_n, sto_e, sto_r, zf_r, Int.toNat_natCast, true_or, or_true, eq_self, q111, h5]) <;> (first | omega | decide)))) | (with_reducible refine ok_f ?_ ?_; · (first | omega | ((try simp (disch := omega) only [w32_eq, w64_eq, ix_n, ix_e, sto_n, sto_e, sto_r, zf_r, Int.toNat_natCast, true_or, or_true, eq_self, q111, h5]) <;> (first | omega | decide)))) | (with_reducible refine ok_ct ?_ ?_; · (first | omega | ((try simp (disch := omega) only [w32_eq, w64_eq, ix_n, ix_e, sto_n, sto_e, sto_r, zf_r, Int.toNat_natCast, true_or, or_true, eq_self, q111, h5]) <;> (first | omega | decide)))) | (with_reducible refine ok_cf ?_ ?_; · (first | omega | ((try simp (disch := omega) only [w32_eq, w64_eq, ix_n, ix_e, sto_n, sto_e, sto_r, zf_r, Int.toNat_natCast, true_or, or_true, eq_self, q111, h5]) <;> (first | omega | decide)))))
    unfold k_Mo_playOther_113
    repeat (first | with_reducible refine ok_let ?_ | with_reducible refine ok_cs ?_ | with_reducible refine ok_clet ?_ | with_reducible refine ok_cc ?_ | (with_reducible refine ok_chk ?_ ?_; · (first | omega | ((try simp (disch := omega) only [w32_eq, w64_eq, ix_n, ix_e, sto_n, sto_e, sto_r, zf_r, Int.toNat_natCast, true_or, or_true, eq_self, q120, hkd]) <;> (first | omega | decide)))) | (with_reducible refine ok_cchk ?_ ?_; · (first | omega | ((try simp (disch := omega) only [w32_eq, w64_eq, ix_n, ix_e, sto_n, sto_e, sto_r, zf_r, Int.toNat_natCast, true_or, or_true, eq_self, q120, hkd]) <;> (first | omega | decide)))) | (with_reducible refine ok_t ?_ ?_; · (first | omega | ((try simp (disch := omega) only [w32_eq, w64_eq, ix_n, ix_e, sto_n, sto_e, sto_r, zf_r, Int.toNat_natCast, true_or, or_true, eq_self, q120, hkd]) <;> (first | omega | decide)))) | (with_reducible refine ok_f ?_ ?_; · (first | omega | ((try simp (disch := omega) only [w32_eq, w64_eq, ix_n, ix_e, sto_n, sto_e, sto_r, zf_r, Int.toNat_natCast, true_or, or_true, eq_self, q120, hkd]) <;> (first | omega | decide)))) | (with_reducible refine ok_ct ?_ ?_; · (first | omega | ((try simp (disch := omega) only [w32_eq, w64_eq, ix_n, ix_e, sto_n, sto_e, sto_r, zf_r, Int.toNat_natCast, true_or, or_true, eq_self, q120, hkd]) <;> (first | omega | decide)))) | (with_reducible refine ok_cf ?_ ?_; · (first | omega | ((try simp (disch := omega) only [w32_eq, w64_eq, ix_n, ix_e, sto_n, sto_e, sto_r, zf_r, Int.toNat_natCast, true_or, or_true, eq_self, q120, hkd]) <;> (first | omega | decide)))))
    unfold k_Mo_playOther_157
    repeat (first | with_reducible refine ok_let ?_ | with_reducible refine ok_cs ?_ | with_reducible refine ok_clet ?_ | with_reducible refine ok_cc ?_ | (with_reducible refine ok_chk ?_ ?_; · (first | omega | ((try simp (disch := omega) only [w32_eq, w64_eq, ix_n, ix_e, sto_n, sto_e, sto_r, zf_r, Int.toNat_natCast, true_or, or_true, eq_self]) <;> (first | omega | decide)))) | (with_reducible refine ok_cchk ?_ ?_; · (first | omega | ((try simp (disch := omega) only [w32_eq, w64_eq, ix_n, ix_e, sto_n, sto_e, sto_r, zf_r, Int.toNat_natCast, true_or, or_true, eq_self]) <;> (first | omega | decide)))) | (with_reducible refine ok_t ?_ ?_; · (first | omega | ((try simp (disch := omega) only [w32_eq, w64_eq, ix_n, ix_e, sto_n, sto_e, sto_r, zf_r, Int.toNat_natCast, true_or, or_true, eq_self]) <;> (first | omega | decide)))) | (with_reducible refine ok_f ?_ ?_; · (first | omega | ((try simp (disch := omega) only [w32_eq, w64_eq, ix_n, ix_e, sto_n, sto_e, sto_r, zf_r, Int.toNat_natCast, true_or, or_true, eq_self]) <;> (first | omega | decide)))) | (with_reducible refine ok_ct ?_ ?_; · (first | omega | ((try simp (disch := omega) only [w32_eq, w64_eq, ix_n, ix_e, sto_n, sto_e, sto_r, zf_r, Int.toNat_natCast, true_or, or_true, eq_self]) <;> (first | omega | decide)))) | (with_reducible refine ok_cf ?_ ?_; · (first | omega | ((try simp (disch := omega) only [w32_eq, w64_eq, ix_n, ix_e, sto_n, sto_e, sto_r, zf_r, Int.toNat_natCast, true_or, or_true, eq_self]) <;> (first | omega | decide)))))
    unfold k_Mo_playOther_175
    repeat (first | with_reducible refine ok_let ?_ | with_reducible refine ok_cs ?_ | with_reducible refine ok_clet ?_ | with_reducible refine ok_cc ?_ | (with_reducible refine ok_chk ?_ ?_; · (first | omega | ((try simp (disch := omega) only [w32_eq, w64_eq, ix_n, ix_e, sto_n, sto_e, sto_r, zf_r, Int.toNat_natCast, true_or, or_true, eq_self, q120, hkd]) <;> (first | omega | decide)))) | (with_reducible refine ok_cchk ?_ ?_; · (first | omega | ((try simp (disch := omega) only [w32_eq, w64_eq, ix_n, ix_e, sto_n, sto_e, sto_r, zf_r, Int.toNat_natCast, true_or, or_true, eq_self, q120, hkd]) <;> (first | omega | decide)))) | (with_reducible refine ok_t ?_ ?_; · (first | omega | ((try simp (disch := omega) only [w32_eq, w64_eq, ix_n, ix_e, sto_n, sto_e, sto_r, zf_r, Int.toNat_natCast, true_or, or_true, eq_self, q120, hkd]) <;> (first | omega | decide)))) | (with_reducible refine ok_f ?_ ?_; · (first | omega | ((try simp (disch := omega) only [w32_eq, w64_eq, ix_n, ix_e, sto_n, sto_e, sto_r, zf_r, Int.toNat_natCast, true_or, or_true, eq_self, q120, hkd]) <;> (first | omega | decide)))) | (with_reducible refine ok_ct ?_ ?_; · (first | omega | ((try simp (disch := omega) only [w32_eq, w64_eq, ix_n, ix_e, sto_n, sto_e, sto_r, zf_r, Int.toNat_natCast, true_or, or_true, eq_self, q120, hkd]) <;> (first | omega | decide)))) | (with_reducible refine ok_cf ?_ ?_; · (first | omega | ((try simp (disch := omega) only [w32_eq, w64_eq, ix_n, ix_e, sto_n, sto_e, sto_r, zf_r, Int.toNat_natCast, true_or, or_true, eq_self, q120, hkd]) <;> (first | omega | decide)))))
    unfold k_Mo_playOther_201
    repeat (first | with_reducible refine ok_let ?_ | with_reducible refine ok_cs ?_ | with_reducible refine ok_clet ?_ | with_reducible refine ok_cc ?_ | (with_reducible refine ok_chk ?_ ?_; · (first | omega | ((try simp (disch := omega) only [w32_eq, w64_eq, ix_n, ix_e, sto_n, sto_e, sto_r, zf_r, Int.toNat_natCast, true_or, or_true, eq_self]) <;> (first | omega | decide)))) | (with_reducible refine ok_cchk ?_ ?_; · (first | omega | ((try simp (disch := omega) only [w32_eq, w64_eq, ix_n, ix_e, sto_n, sto_e, sto_r, zf_r, Int.toNat_natCast, true_or, or_true, eq_self]) <;> (first | omega | decide)))) | (with_reducible refine ok_t ?_ ?_; · (first | omega | ((try simp (disch := omega) only [w32_eq, w64_eq, ix_n, ix_e, sto_n, sto_e, sto_r, zf_r, Int.toNat_natCast, true_or, or_true, eq_self]) <;> (first | omega | decide)))) | (with_reducible refine ok_f ?_ ?_; · (first | omega | ((try simp (disch := omega) only [w32_eq, w64_eq, ix_n, ix_e, sto_n, sto_e, sto_r, zf_r, Int.toNat_natCast, true_or, or_true, eq_self]) <;> (first | omega | decide)))) | (with_reducible refine ok_ct ?_ ?_; · (first | omega | ((try simp (disch := omega) only [w32_eq, w64_eq, ix_n, ix_e, sto_n, sto_e, sto_r, zf_r, Int.toNat_natCast, true_or, or_true, eq_self]) <;> (first | omega | decide)))) | (with_reducible refine ok_cf ?_ ?_; · (first | omega | ((try simp (disch := omega) only [w32_eq, w64_eq, ix_n, ix_e, sto_n, sto_e, sto_r, zf_r, Int.toNat_natCast, true_or, or_true, eq_self]) <;> (first | omega | decide)))))
    rw [hj]
    simp (disch := omega) only [ei, ex, ek, sto_r]
    rw [q144, h1, h3, h4]
    refine ih f (i + 1) _ (by omega) (by omega) (fun c g1 g2 g3 g4 => ?_) ?_ ?_ ?_ ?_
    · simp (disch := assumption) only [sto_r]; exact hM c g1 g2 g3 g4
    · simp (disch := decide) only [sto_r, sto_up]; rw [h1]; rw [adP_n, Int.sub_eq_add_neg, adP_s]
    · simp (disch := decide) only [sto_r, sto_up]; rw [h2]
    · simp (disch := decide) only [sto_r, sto_up]; rw [h3]; rw [up_id]
    · simp (disch := decide) only [sto_r, sto_up]; rw [h4]; rw [adP_n0, adP_s0]
theorem adP_S {w p p' : Nat → Int} {a n : Nat} (hn : n ≤ 20) (h : ∀ f, f < n → p f = p' f) (h0 : ∀ f, n ≤ f → f < 20 → p' f = 0) : adP w a p n = adS w a p' := by
  funext i; unfold adP adS
  by_cases c : a ≤ i ∧ i < a + n
  · rw [if_pos c, if_pos (by omega), h _ (by omega)]
  · rw [if_neg c]
    by_cases c2 : a ≤ i ∧ i < a + 20
    · rw [if_pos c2, h0 _ (by omega) (by omega)]; omega
    · rw [if_neg c2]
theorem y_other {M0 M S : Mem} {n : Nat} {kw : Int} (hE : IvE M0) (hP : IvP M0) (hF : Fr raL raK M0 M) (hn : (n : Int) < M0 111 7) (h0 : M0 120 n ≠ 0) (hW : PW M0 n S) (hR : RR n kw M0 M S) :
    Ok (d_Mo_playOther (n : Int) M) (fun _ M' => RR (n + 1) kw M0 M' (stO M0 n S)) := by
  have hE1 := hE.1
  have hP1 := hP.1
  have hP2 := hP.2.1
  have n120 : n < 120 := by omega
  obtain ⟨t0, t1, t2, t3, t4, t5, t6, t7, t8, t9, t10⟩ := (hE.2.2.2.2.2.2.2.1 n hn).other h0
  obtain ⟨-, htk, hsl, hpr, hsum⟩ := hW.other hE hP hn h0
  have hw := hW.w hsl
  obtain ⟨p1, p2, p3, p4, p5, p6, p7⟩ := hW
  obtain ⟨r1, r2, r3, r4, r5⟩ := hR
  have ex : ix (n : Int) = n := ix_n (by omega)
  obtain ⟨N, hN⟩ : ∃ N : Nat, M0 111 5 = (N : Int) := ⟨(M0 111 5).toNat, by omega⟩
  have hN20 : N ≤ 20 := by omega
  have hwz : ∀ f, N ≤ f → f < 20 → wO S (slO M0 n) f = 0 := fun f h1 h2 => by
    unfold wO; rw [if_pos h2]; exact p4 _ f hsl (by omega) h2
  have hprz : ∀ f, N ≤ f → f < 20 → prO M0 n S f = 0 := fun f h1 h2 => by
    have := hpr f; rw [hwz f h1 h2] at this; omega
  obtain ⟨D, hD⟩ : ∃ D : Nat, 20 = N + D := ⟨20 - N, by omega⟩
  have hsm : sm (wO S (slO M0 n)) N = sm (wO S (slO M0 n)) 20 := by
    rw [hD, sm_split, sm_0 D (fun i hi => hwz (N + i) (by omega) (by omega))]; omega
  have htkN : (if M0 126 n ≤ sm (wO S (slO M0 n)) N then M0 126 n else sm (wO S (slO M0 n)) N) = tkO M0 n S := by rw [hsm]; rfl
  have hprN : prtS N (tkO M0 n S) (wO S (slO M0 n)) = prO M0 n S := by
    unfold prO; rw [hD, prtS_ext (fun f => (hw f).1) (fun f h1 h2 => hwz f h1 (by omega))]
  have u120 := hF.c 120 (by decide) (by decide)
  have u122 := hF.c 122 (by decide) (by decide)
  have u123 := hF.c 123 (by decide) (by decide)
  have u124 := hF.c 124 (by decide) (by decide)
  have u125 := hF.c 125 (by decide) (by decide)
  have u126 := hF.c 126 (by decide) (by decide)
  have u5 := hF.f 111 5 (by decide) (by decide)
  unfold d_Mo_playOther
  have big : ∀ (b : Nat) (a3 : Int), tbS M a3 b (wO S (slO M0 n)) → 20 * ((6 * M0 122 n + M0 124 n) * 10 + M0 125 n) = (b : Int) →
      (∀ M1 : Mem, Fr [137, 143, 144, 145] [(111, 39)] M M1 → M1 137 = up (M 137) n (tkO M0 n S) → (∀ f, f < N → M1 144 f = prO M0 n S f) → M1 111 39 = M 111 39 + (M0 126 n - tkO M0 n S) → Ok (fix (fun _ _ _ _ _ => none) k_Mo_playOther_59 FU (n : Int) a3 (b : Int) 0 M1) (fun _ M' => RR (n + 1) kw M0 M' (stO M0 n S))) →
      Ok (k_Mo_playOther_15 (n : Int) a3 M) (fun _ M' => RR (n + 1) kw M0 M' (stO M0 n S)) := by
    intro b a3 ht hb hk
    unfold k_Mo_playOther_15
    repeat (first | with_reducible refine ok_let ?_ | with_reducible refine ok_cs ?_ | with_reducible refine ok_clet ?_ | with_reducible refine ok_cc ?_ | (with_reducible refine ok_chk ?_ ?_; · (first | omega | ((try simp (disch := omega) only [w32_eq, w64_eq, ix_n, ix_e, sto_n, sto_e, sto_r, zf_r, Int.toNat_natCast, true_or, or_true, eq_self]) <;> (first | omega | decide)))) | (with_reducible refine ok_cchk ?_ ?_; · (first | omega | ((try simp (disch := omega) only [w32_eq, w64_eq, ix_n, ix_e, sto_n, sto_e, sto_r, zf_r, Int.toNat_natCast, true_or, or_true, eq_self]) <;> (first | omega | decide)))) | (with_reducible refine ok_t ?_ ?_; · (first | omega | ((try simp (disch := omega) only [w32_eq, w64_eq, ix_n, ix_e, sto_n, sto_e, sto_r, zf_r, Int.toNat_natCast, true_or, or_true, eq_self]) <;> (first | omega | decide)))) | (with_reducible refine ok_f ?_ ?_; · (first | omega | ((try simp (disch := omega) only [w32_eq, w64_eq, ix_n, ix_e, sto_n, sto_e, sto_r, zf_r, Int.toNat_natCast, true_or, or_true, eq_self]) <;> (first | omega | decide)))) | (with_reducible refine ok_ct ?_ ?_; · (first | omega | ((try simp (disch := omega) only [w32_eq, w64_eq, ix_n, ix_e, sto_n, sto_e, sto_r, zf_r, Int.toNat_natCast, true_or, or_true, eq_self]) <;> (first | omega | decide)))) | (with_reducible refine ok_cf ?_ ?_; · (first | omega | ((try simp (disch := omega) only [w32_eq, w64_eq, ix_n, ix_e, sto_n, sto_e, sto_r, zf_r, Int.toNat_natCast, true_or, or_true, eq_self]) <;> (first | omega | decide)))))
    rw [ex, u122, u124, u125]
    refine ok_call_eq s_binAt ?_
    repeat (first | with_reducible refine ok_let ?_ | with_reducible refine ok_cs ?_ | with_reducible refine ok_clet ?_ | with_reducible refine ok_cc ?_ | (with_reducible refine ok_chk ?_ ?_; · (first | omega | ((try simp (disch := omega) only [w32_eq, w64_eq, ix_n, ix_e, sto_n, sto_e, sto_r, zf_r, Int.toNat_natCast, true_or, or_true, eq_self]) <;> (first | omega | decide)))) | (with_reducible refine ok_cchk ?_ ?_; · (first | omega | ((try simp (disch := omega) only [w32_eq, w64_eq, ix_n, ix_e, sto_n, sto_e, sto_r, zf_r, Int.toNat_natCast, true_or, or_true, eq_self]) <;> (first | omega | decide)))) | (with_reducible refine ok_t ?_ ?_; · (first | omega | ((try simp (disch := omega) only [w32_eq, w64_eq, ix_n, ix_e, sto_n, sto_e, sto_r, zf_r, Int.toNat_natCast, true_or, or_true, eq_self]) <;> (first | omega | decide)))) | (with_reducible refine ok_f ?_ ?_; · (first | omega | ((try simp (disch := omega) only [w32_eq, w64_eq, ix_n, ix_e, sto_n, sto_e, sto_r, zf_r, Int.toNat_natCast, true_or, or_true, eq_self]) <;> (first | omega | decide)))) | (with_reducible refine ok_ct ?_ ?_; · (first | omega | ((try simp (disch := omega) only [w32_eq, w64_eq, ix_n, ix_e, sto_n, sto_e, sto_r, zf_r, Int.toNat_natCast, true_or, or_true, eq_self]) <;> (first | omega | decide)))) | (with_reducible refine ok_cf ?_ ?_; · (first | omega | ((try simp (disch := omega) only [w32_eq, w64_eq, ix_n, ix_e, sto_n, sto_e, sto_r, zf_r, Int.toNat_natCast, true_or, or_true, eq_self]) <;> (first | omega | decide)))))
    rw [u126, hb]
    refine ok_call (s_takeBin (n := N) hN20 (w := wO S (slO M0 n)) (fun f => by have := hw f; omega) t7 (by rw [u5]; exact hN) ht) (fun v M1 hv => ?_)
    obtain ⟨⟨a1, a2, a3'⟩, hF1⟩ := hv
    rw [htkN] at a1 a2 a3'
    rw [hprN] at a2
    repeat (first | with_reducible refine ok_let ?_ | with_reducible refine ok_cs ?_ | with_reducible refine ok_clet ?_ | with_reducible refine ok_cc ?_ | (with_reducible refine ok_chk ?_ ?_; · (first | omega | ((try simp (disch := omega) only [w32_eq, w64_eq, ix_n, ix_e, sto_n, sto_e, sto_r, zf_r, Int.toNat_natCast, true_or, or_true, eq_self]) <;> (first | omega | decide)))) | (with_reducible refine ok_cchk ?_ ?_; · (first | omega | ((try simp (disch := omega) only [w32_eq, w64_eq, ix_n, ix_e, sto_n, sto_e, sto_r, zf_r, Int.toNat_natCast, true_or, or_true, eq_self]) <;> (first | omega | decide)))) | (with_reducible refine ok_t ?_ ?_; · (first | omega | ((try simp (disch := omega) only [w32_eq, w64_eq, ix_n, ix_e, sto_n, sto_e, sto_r, zf_r, Int.toNat_natCast, true_or, or_true, eq_self]) <;> (first | omega | decide)))) | (with_reducible refine ok_f ?_ ?_; · (first | omega | ((try simp (disch := omega) only [w32_eq, w64_eq, ix_n, ix_e, sto_n, sto_e, sto_r, zf_r, Int.toNat_natCast, true_or, or_true, eq_self]) <;> (first | omega | decide)))) | (with_reducible refine ok_ct ?_ ?_; · (first | omega | ((try simp (disch := omega) only [w32_eq, w64_eq, ix_n, ix_e, sto_n, sto_e, sto_r, zf_r, Int.toNat_natCast, true_or, or_true, eq_self]) <;> (first | omega | decide)))) | (with_reducible refine ok_cf ?_ ?_; · (first | omega | ((try simp (disch := omega) only [w32_eq, w64_eq, ix_n, ix_e, sto_n, sto_e, sto_r, zf_r, Int.toNat_natCast, true_or, or_true, eq_self]) <;> (first | omega | decide)))))
    refine hk _ ?_ ?_ ?_ ?_
    · exact Fr.trans (hF1.mono (by decide) (by decide)) (fr_stoA (by decide))
    · rw [sto_up, hF1.c 137 (by decide) (by decide), a1]
    · intro f hf; rw [sto_r (by decide)]; exact a2 f hf
    · rw [sto_r (by decide)]; exact a3'
  have k5 : ∀ M' : Mem, M' 136 = M 136 → M' 138 = M 138 → M' 137 = up (M 137) n (tkO M0 n S) → ∀ k, k < n + 1 → (M0 120 k = 0 → M' 136 k = netS M0 k - stO M0 n S 4 k ∧ M' 138 k = gS M0 k kw) ∧ (M0 120 k ≠ 0 → M' 137 k = stO M0 n S 4 k) := by
    intro M' e1 e2 e3 k hk
    show (_ → _ = _ - up (S 4) n _ k ∧ _) ∧ (_ → _ = up (S 4) n _ k)
    rw [e1, e2, e3]
    by_cases c : k = n
    · subst c; rw [up_e, up_e]; exact ⟨fun h => absurd h h0, fun _ => rfl⟩
    · rw [up_n c, up_n c]; exact r5 k (by omega)
  have k4 : ∀ M' : Mem, M' 111 39 = M 111 39 + (M0 126 n - tkO M0 n S) → M' 111 39 = stO M0 n S 3 0 := by
    intro M' e1
    show _ = up (S 3) 0 _ 0
    rw [up_e, e1, r4]
  rcases t0 with h1 | h1 | h1
  · have t9' := t9 (by omega)
    have t10' := t10 h1
    repeat (first | with_reducible refine ok_let ?_ | with_reducible refine ok_cs ?_ | with_reducible refine ok_clet ?_ | with_reducible refine ok_cc ?_ | (with_reducible refine ok_chk ?_ ?_; · (first | omega | ((try simp (disch := omega) only [w32_eq, w64_eq, ix_n, ix_e, sto_n, sto_e, sto_r, zf_r, Int.toNat_natCast, true_or, or_true, eq_self, u120, h1]) <;> (first | omega | decide)))) | (with_reducible refine ok_cchk ?_ ?_; · (first | omega | ((try simp (disch := omega) only [w32_eq, w64_eq, ix_n, ix_e, sto_n, sto_e, sto_r, zf_r, Int.toNat_natCast, true_or, or_true, eq_self, u120, h1]) <;> (first | omega | decide)))) | (with_reducible refine ok_t ?_ ?_; · (first | omega | ((try simp (disch := omega) only [w32_eq, w64_eq, ix_n, ix_e, sto_n, sto_e, sto_r, zf_r, Int.toNat_natCast, true_or, or_true, eq_self, u120, h1]) <;> (first | omega | decide)))) | (with_reducible refine ok_f ?_ ?_; · (first | omega | ((try simp (disch := omega) only [w32_eq, w64_eq, ix_n, ix_e, sto_n, sto_e, sto_r, zf_r, Int.toNat_natCast, true_or, or_true, eq_self, u120, h1]) <;> (first | omega | decide)))) | (with_reducible refine ok_ct ?_ ?_; · (first | omega | ((try simp (disch := omega) only [w32_eq, w64_eq, ix_n, ix_e, sto_n, sto_e, sto_r, zf_r, Int.toNat_natCast, true_or, or_true, eq_self, u120, h1]) <;> (first | omega | decide)))) | (with_reducible refine ok_cf ?_ ?_; · (first | omega | ((try simp (disch := omega) only [w32_eq, w64_eq, ix_n, ix_e, sto_n, sto_e, sto_r, zf_r, Int.toNat_natCast, true_or, or_true, eq_self, u120, h1]) <;> (first | omega | decide)))))
    refine big (20 * slO M0 n) 0 (Or.inl ⟨rfl, ?_, fun f hf => ?_⟩) ?_ (fun M1 hF1 e137 e144 e39 => ?_)
    · unfold slO; rw [if_neg (by omega)]; omega
    · unfold wO; rw [if_pos hf]; refine r1 _ ?_; unfold slO; rw [if_neg (by omega)]; omega
    · unfold slO; rw [if_neg (by omega)]; omega
    · refine ok_mono (l_oCar (n := N) (k := n) (b := 20 * slO M0 n) (bp := 20 * slP M0 n - 9600) hN20 n120 (M0 := M1) (by rw [hF1.f 111 5 (by decide) (by decide), u5]; exact hN) (by rw [hF1.c 120 (by decide) (by decide), u120]; exact h1) ?_ ?_ ?_ N FU 0 M1 (by omega) (by unfold FU; omega) (fun _ _ _ _ _ => rfl) adP_0.symm adP_0.symm rfl rfl) (fun v M' h => ?_)
      · unfold slO; rw [if_neg (by omega)]; omega
      · rw [hF1.c 123 (by decide) (by decide), hF1.c 124 (by decide) (by decide), hF1.c 125 (by decide) (by decide), u123, u124, u125]; unfold slP; omega
      · unfold slP; omega
      · obtain ⟨z1, z2, z3, z4, z5⟩ := h
        rw [adP_S (p' := fun f => - prO M0 n S f) hN20 (fun f hf => by show - M1 144 f = - prO M0 n S f; rw [e144 f hf]) (fun f h1 h2 => by show - prO M0 n S f = 0; rw [hprz f h1 h2]; rfl), hF1.c 134 (by decide) (by decide)] at z2
        rw [adP_S (p' := prO M0 n S) hN20 e144 hprz, hF1.c 135 (by decide) (by decide)] at z3
        rw [hF1.c 141 (by decide) (by decide)] at z4
        rw [hF1.c 142 (by decide) (by decide)] at z5
        have e0 : stO M0 n S 0 = adS (adS (S 0) (20 * slO M0 n) (fun f => - prO M0 n S f)) (20 * slP M0 n) (prO M0 n S) := by
          show (if M0 120 n = 1 then _ else _) = _
          rw [if_pos h1]
        have hsP : 480 ≤ slP M0 n ∧ slP M0 n < 600 := by unfold slP; omega
        have hsO : slO M0 n < 480 := by unfold slO; rw [if_neg (by omega)]; omega
        refine ⟨fun i hi => ?_, fun i hi => ?_, fun g hg => ?_, ?_, ?_⟩
        · rw [e0, z2, adS_out (a := 20 * slP M0 n) (by omega)]
          unfold adS; split
          · rw [r1 i hi]
          · exact r1 i hi
        · rw [e0, z3]
          have q := r2 i hi
          unfold adS
          by_cases c : 20 * slP M0 n - 9600 ≤ i ∧ i < 20 * slP M0 n - 9600 + 20
          · rw [if_pos c, if_pos (by omega), if_neg (by omega), q, show 9600 + i - 20 * slP M0 n = i - (20 * slP M0 n - 9600) by omega]
          · rw [if_neg c, if_neg (by omega), if_neg (by omega)]; exact q
        · have e2 : stO M0 n S 2 = S 2 := by
            show (if M0 120 n = 2 then _ else if M0 120 n = 3 then _ else S 2) = _
            rw [if_neg (by omega), if_neg (by omega)]
          rw [e2, z4, z5, z1 139 (by decide) (by decide) (by decide) (by decide), z1 140 (by decide) (by decide) (by decide) (by decide), hF1.c 139 (by decide) (by decide), hF1.c 140 (by decide) (by decide)]
          exact r3 g hg
        · exact k4 _ (by rw [z1 111 (by decide) (by decide) (by decide) (by decide)]; exact e39)
        · exact k5 _ (by rw [z1 136 (by decide) (by decide) (by decide) (by decide), hF1.c 136 (by decide) (by decide)]) (by rw [z1 138 (by decide) (by decide) (by decide) (by decide), hF1.c 138 (by decide) (by decide)]) (by rw [z1 137 (by decide) (by decide) (by decide) (by decide)]; exact e137)
  · have t8' := t8 h1
    have hsO : 480 ≤ slO M0 n := by unfold slO; rw [if_pos h1]; omega
    repeat (first | with_reducible refine ok_let ?_ | with_reducible refine ok_cs ?_ | with_reducible refine ok_clet ?_ | with_reducible refine ok_cc ?_ | (with_reducible refine ok_chk ?_ ?_; · (first | omega | ((try simp (disch := omega) only [w32_eq, w64_eq, ix_n, ix_e, sto_n, sto_e, sto_r, zf_r, Int.toNat_natCast, true_or, or_true, eq_self, u120, h1]) <;> (first | omega | decide)))) | (with_reducible refine ok_cchk ?_ ?_; · (first | omega | ((try simp (disch := omega) only [w32_eq, w64_eq, ix_n, ix_e, sto_n, sto_e, sto_r, zf_r, Int.toNat_natCast, true_or, or_true, eq_self, u120, h1]) <;> (first | omega | decide)))) | (with_reducible refine ok_t ?_ ?_; · (first | omega | ((try simp (disch := omega) only [w32_eq, w64_eq, ix_n, ix_e, sto_n, sto_e, sto_r, zf_r, Int.toNat_natCast, true_or, or_true, eq_self, u120, h1]) <;> (first | omega | decide)))) | (with_reducible refine ok_f ?_ ?_; · (first | omega | ((try simp (disch := omega) only [w32_eq, w64_eq, ix_n, ix_e, sto_n, sto_e, sto_r, zf_r, Int.toNat_natCast, true_or, or_true, eq_self, u120, h1]) <;> (first | omega | decide)))) | (with_reducible refine ok_ct ?_ ?_; · (first | omega | ((try simp (disch := omega) only [w32_eq, w64_eq, ix_n, ix_e, sto_n, sto_e, sto_r, zf_r, Int.toNat_natCast, true_or, or_true, eq_self, u120, h1]) <;> (first | omega | decide)))) | (with_reducible refine ok_cf ?_ ?_; · (first | omega | ((try simp (disch := omega) only [w32_eq, w64_eq, ix_n, ix_e, sto_n, sto_e, sto_r, zf_r, Int.toNat_natCast, true_or, or_true, eq_self, u120, h1]) <;> (first | omega | decide)))))
    refine big (20 * slO M0 n - 9600) 1 (Or.inr ⟨rfl, by omega, fun f hf => ?_⟩) ?_ (fun M1 hF1 e137 e144 e39 => ?_)
    · unfold wO; rw [if_pos hf, r2 _ (by omega), show 9600 + (20 * slO M0 n - 9600 + f) = 20 * slO M0 n + f by omega]
    · unfold slO; rw [if_pos h1]; omega
    · refine ok_mono (l_oSale (n := N) (k := n) (b := 20 * slO M0 n - 9600) (bp := 0) hN20 n120 (M0 := M1) (by rw [hF1.f 111 5 (by decide) (by decide), u5]; exact hN) (by rw [hF1.c 120 (by decide) (by decide), u120]; exact h1) (by omega) N FU 0 M1 (by omega) (by unfold FU; omega) (fun _ _ _ _ _ => rfl) rfl adP_0.symm adP_0.symm rfl) (fun v M' h => ?_)
      obtain ⟨z1, z2, z3, z4, z5⟩ := h
      rw [hF1.c 134 (by decide) (by decide)] at z2
      rw [adP_S (p' := fun f => - prO M0 n S f) hN20 (fun f hf => by show - M1 144 f = - prO M0 n S f; rw [e144 f hf]) (fun f h1 h2 => by show - prO M0 n S f = 0; rw [hprz f h1 h2]; rfl), hF1.c 135 (by decide) (by decide)] at z3
      rw [adP_S (p' := prO M0 n S) hN20 e144 hprz, hF1.c 141 (by decide) (by decide)] at z4
      rw [hF1.c 142 (by decide) (by decide)] at z5
      have e0 : stO M0 n S 0 = adS (S 0) (20 * slO M0 n) (fun f => - prO M0 n S f) := by
        show (if M0 120 n = 1 then _ else _) = _
        rw [if_neg (by omega)]
      have e2 : stO M0 n S 2 = adS (S 2) 40 (prO M0 n S) := by
        show (if M0 120 n = 2 then _ else if M0 120 n = 3 then _ else S 2) = _
        rw [if_pos h1]
      refine ⟨fun i hi => ?_, fun i hi => ?_, fun g hg => ?_, ?_, ?_⟩
      · rw [e0, z2, adS_out (by omega)]; exact r1 i hi
      · rw [e0, z3]
        have q := r2 i hi
        unfold adS
        by_cases c : 20 * slO M0 n - 9600 ≤ i ∧ i < 20 * slO M0 n - 9600 + 20
        · rw [if_pos c, if_pos (by omega), q, show 9600 + i - 20 * slO M0 n = i - (20 * slO M0 n - 9600) by omega]
        · rw [if_neg c, if_neg (by omega)]; exact q
      · rw [e2, z4, z5, z1 139 (by decide) (by decide) (by decide) (by decide), z1 140 (by decide) (by decide) (by decide) (by decide), hF1.c 139 (by decide) (by decide), hF1.c 140 (by decide) (by decide)]
        obtain ⟨q1, q2, q3, q4⟩ := r3 g hg
        refine ⟨by rw [adS_out (by omega)]; exact q1, by rw [adS_out (by omega)]; exact q2, ?_, by rw [adS_out (by omega)]; exact q4⟩
        rw [adS_in hg]; unfold adS; rw [if_pos (by omega), q3]; rfl
      · exact k4 _ (by rw [z1 111 (by decide) (by decide) (by decide) (by decide)]; exact e39)
      · exact k5 _ (by rw [z1 136 (by decide) (by decide) (by decide) (by decide), hF1.c 136 (by decide) (by decide)]) (by rw [z1 138 (by decide) (by decide) (by decide) (by decide), hF1.c 138 (by decide) (by decide)]) (by rw [z1 137 (by decide) (by decide) (by decide) (by decide)]; exact e137)
  · have t9' := t9 (by omega)
    have hsO : slO M0 n < 480 := by unfold slO; rw [if_neg (by omega)]; omega
    repeat (first | with_reducible refine ok_let ?_ | with_reducible refine ok_cs ?_ | with_reducible refine ok_clet ?_ | with_reducible refine ok_cc ?_ | (with_reducible refine ok_chk ?_ ?_; · (first | omega | ((try simp (disch := omega) only [w32_eq, w64_eq, ix_n, ix_e, sto_n, sto_e, sto_r, zf_r, Int.toNat_natCast, true_or, or_true, eq_self, u120, h1]) <;> (first | omega | decide)))) | (with_reducible refine ok_cchk ?_ ?_; · (first | omega | ((try simp (disch := omega) only [w32_eq, w64_eq, ix_n, ix_e, sto_n, sto_e, sto_r, zf_r, Int.toNat_natCast, true_or, or_true, eq_self, u120, h1]) <;> (first | omega | decide)))) | (with_reducible refine ok_t ?_ ?_; · (first | omega | ((try simp (disch := omega) only [w32_eq, w64_eq, ix_n, ix_e, sto_n, sto_e, sto_r, zf_r, Int.toNat_natCast, true_or, or_true, eq_self, u120, h1]) <;> (first | omega | decide)))) | (with_reducible refine ok_f ?_ ?_; · (first | omega | ((try simp (disch := omega) only [w32_eq, w64_eq, ix_n, ix_e, sto_n, sto_e, sto_r, zf_r, Int.toNat_natCast, true_or, or_true, eq_self, u120, h1]) <;> (first | omega | decide)))) | (with_reducible refine ok_ct ?_ ?_; · (first | omega | ((try simp (disch := omega) only [w32_eq, w64_eq, ix_n, ix_e, sto_n, sto_e, sto_r, zf_r, Int.toNat_natCast, true_or, or_true, eq_self, u120, h1]) <;> (first | omega | decide)))) | (with_reducible refine ok_cf ?_ ?_; · (first | omega | ((try simp (disch := omega) only [w32_eq, w64_eq, ix_n, ix_e, sto_n, sto_e, sto_r, zf_r, Int.toNat_natCast, true_or, or_true, eq_self, u120, h1]) <;> (first | omega | decide)))))
    refine big (20 * slO M0 n) 0 (Or.inl ⟨rfl, by omega, fun f hf => ?_⟩) ?_ (fun M1 hF1 e137 e144 e39 => ?_)
    · unfold wO; rw [if_pos hf]; exact r1 _ (by omega)
    · unfold slO; rw [if_neg (by omega)]; omega
    · refine ok_mono (l_oSpoil (n := N) (k := n) (b := 20 * slO M0 n) (bp := 0) hN20 n120 (M0 := M1) (by rw [hF1.f 111 5 (by decide) (by decide), u5]; exact hN) (by rw [hF1.c 120 (by decide) (by decide), u120]; exact h1) (by omega) N FU 0 M1 (by omega) (by unfold FU; omega) (fun _ _ _ _ _ => rfl) adP_0.symm rfl rfl adP_0.symm) (fun v M' h => ?_)
      obtain ⟨z1, z2, z3, z4, z5⟩ := h
      rw [adP_S (p' := fun f => - prO M0 n S f) hN20 (fun f hf => by show - M1 144 f = - prO M0 n S f; rw [e144 f hf]) (fun f h1 h2 => by show - prO M0 n S f = 0; rw [hprz f h1 h2]; rfl), hF1.c 134 (by decide) (by decide)] at z2
      rw [hF1.c 135 (by decide) (by decide)] at z3
      rw [hF1.c 141 (by decide) (by decide)] at z4
      rw [adP_S (p' := prO M0 n S) hN20 e144 hprz, hF1.c 142 (by decide) (by decide)] at z5
      have e0 : stO M0 n S 0 = adS (S 0) (20 * slO M0 n) (fun f => - prO M0 n S f) := by
        show (if M0 120 n = 1 then _ else _) = _
        rw [if_neg (by omega)]
      have e2 : stO M0 n S 2 = adS (S 2) 60 (prO M0 n S) := by
        show (if M0 120 n = 2 then _ else if M0 120 n = 3 then _ else S 2) = _
        rw [if_neg (by omega), if_pos h1]
      refine ⟨fun i hi => ?_, fun i hi => ?_, fun g hg => ?_, ?_, ?_⟩
      · rw [e0, z2]
        unfold adS; split
        · rw [r1 i hi]
        · exact r1 i hi
      · rw [e0, z3, adS_out (by omega)]; exact r2 i hi
      · rw [e2, z4, z5, z1 139 (by decide) (by decide) (by decide) (by decide), z1 140 (by decide) (by decide) (by decide) (by decide), hF1.c 139 (by decide) (by decide), hF1.c 140 (by decide) (by decide)]
        obtain ⟨q1, q2, q3, q4⟩ := r3 g hg
        refine ⟨by rw [adS_out (by omega)]; exact q1, by rw [adS_out (by omega)]; exact q2, by rw [adS_out (by omega)]; exact q3, ?_⟩
        rw [adS_in hg]; unfold adS; rw [if_pos (by omega), q4]; rfl
      · exact k4 _ (by rw [z1 111 (by decide) (by decide) (by decide) (by decide)]; exact e39)
      · exact k5 _ (by rw [z1 136 (by decide) (by decide) (by decide) (by decide), hF1.c 136 (by decide) (by decide)]) (by rw [z1 138 (by decide) (by decide) (by decide) (by decide), hF1.c 138 (by decide) (by decide)]) (by rw [z1 137 (by decide) (by decide) (by decide) (by decide)]; exact e137)
