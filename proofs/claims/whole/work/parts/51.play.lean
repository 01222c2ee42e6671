/-! the model plays all -/
theorem zf_up {M : Mem} {c k : Nat} {v : Int} : sto (zf M c 0 k v) c k v = zf M c 0 (k + 1) v := by
  funext a; by_cases h : a = c
  · subst h; funext b; rw [sto_c, if_pos rfl, zf_c, zf_c]
    by_cases h1 : b = k
    · rw [if_pos h1, if_pos (by omega)]
    · rw [if_neg h1]
      by_cases h2 : 0 ≤ b ∧ b < k
      · rw [if_pos h2, if_pos (by omega)]
      · rw [if_neg h2, if_neg (by omega)]
  · rw [sto_r h, zf_r h, zf_r h]
theorem l_play2 {M : Mem} {kw : Int} : ∀ n fuel i : Nat, i + n = 9600 → n < fuel → fix (fun _ _ _ => none) k_Mo_play_2 fuel kw (i : Int) (zf M 134 0 i 0) = fix (fun _ _ _ => none) k_Mo_play_24 FU kw 0 (zf M 134 0 9600 0) := by
  intro n; induction n with
  | zero =>
    intro fuel i e hf
    obtain ⟨f, rfl⟩ : ∃ f, fuel = f + 1 := ⟨fuel - 1, by omega⟩
    rw [fix_s]; unfold k_Mo_play_2
    repeat (first | with_reducible refine e_let ?_ | with_reducible refine e_cs ?_ | with_reducible refine e_clet ?_ | with_reducible refine e_cc ?_ | (with_reducible refine e_chk ?_ ?_; · (first | omega | ((try simp (disch := omega) only [w32_eq, w64_eq, ix_n, ix_e, sto_n, sto_e, sto_r, zf_r, Int.toNat_natCast, true_or, or_true, eq_self]) <;> (first | omega | decide)))) | (with_reducible refine e_cchk ?_ ?_; · (first | omega | ((try simp (disch := omega) only [w32_eq, w64_eq, ix_n, ix_e, sto_n, sto_e, sto_r, zf_r, Int.toNat_natCast, true_or, or_true, eq_self]) <;> (first | omega | decide)))) | (with_reducible refine e_t ?_ ?_; · (first | omega | ((try simp (disch := omega) only [w32_eq, w64_eq, ix_n, ix_e, sto_n, sto_e, sto_r, zf_r, Int.toNat_natCast, true_or, or_true, eq_self]) <;> (first | omega | decide)))) | (with_reducible refine e_f ?_ ?_; · (first | omega | ((try simp (disch := omega) only [w32_eq, w64_eq, ix_n, ix_e, sto_n, sto_e, sto_r, zf_r, Int.toNat_natCast, true_or, or_true, eq_self]) <;> (first | omega | decide)))) | (with_reducible refine e_ct ?_ ?_; · (first | omega | ((try simp (disch := omega) only [w32_eq, w64_eq, ix_n, ix_e, sto_n, sto_e, sto_r, zf_r, Int.toNat_natCast, true_or, or_true, eq_self]) <;> (first | omega | decide)))) | (with_reducible refine e_cf ?_ ?_; · (first | omega | ((try simp (disch := omega) only [w32_eq, w64_eq, ix_n, ix_e, sto_n, sto_e, sto_r, zf_r, Int.toNat_natCast, true_or, or_true, eq_self]) <;> (first | omega | decide)))))
    rw [show i = 9600 by omega]
  | succ n ih =>
    intro fuel i e hf
    obtain ⟨f, rfl⟩ : ∃ f, fuel = f + 1 := ⟨fuel - 1, by omega⟩
    rw [fix_s]
    have := ih f (i + 1) (by omega) (by omega)
    have hj : (i : Int) + 1 = ((i + 1 : Nat) : Int) := by omega
    rw [← hj, ← zf_up] at this
    unfold k_Mo_play_2
    repeat (first | with_reducible refine e_let ?_ | with_reducible refine e_cs ?_ | with_reducible refine e_clet ?_ | with_reducible refine e_cc ?_ | (with_reducible refine e_chk ?_ ?_; · (first | omega | ((try simp (disch := omega) only [w32_eq, w64_eq, ix_n, ix_e, sto_n, sto_e, sto_r, zf_r, Int.toNat_natCast, true_or, or_true, eq_self]) <;> (first | omega | decide)))) | (with_reducible refine e_cchk ?_ ?_; · (first | omega | ((try simp (disch := omega) only [w32_eq, w64_eq, ix_n, ix_e, sto_n, sto_e, sto_r, zf_r, Int.toNat_natCast, true_or, or_true, eq_self]) <;> (first | omega | decide)))) | (with_reducible refine e_t ?_ ?_; · (first | omega | ((try simp (disch := omega) only [w32_eq, w64_eq, ix_n, ix_e, sto_n, sto_e, sto_r, zf_r, Int.toNat_natCast, true_or, or_true, eq_self]) <;> (first | omega | decide)))) | (with_reducible refine e_f ?_ ?_; · (first | omega | ((try simp (disch := omega) only [w32_eq, w64_eq, ix_n, ix_e, sto_n, sto_e, sto_r, zf_r, Int.toNat_natCast, true_or, or_true, eq_self]) <;> (first | omega | decide)))) | (with_reducible refine e_ct ?_ ?_; · (first | omega | ((try simp (disch := omega) only [w32_eq, w64_eq, ix_n, ix_e, sto_n, sto_e, sto_r, zf_r, Int.toNat_natCast, true_or, or_true, eq_self]) <;> (first | omega | decide)))) | (with_reducible refine e_cf ?_ ?_; · (first | omega | ((try simp (disch := omega) only [w32_eq, w64_eq, ix_n, ix_e, sto_n, sto_e, sto_r, zf_r, Int.toNat_natCast, true_or, or_true, eq_self]) <;> (first | omega | decide)))))
    rw [ix_n (by omega)]
    exact this
theorem l_play24 {M : Mem} {kw : Int} : ∀ n fuel i : Nat, i + n = 2400 → n < fuel → fix (fun _ _ _ => none) k_Mo_play_24 fuel kw (i : Int) (zf M 135 0 i 0) = fix (fun _ _ _ => none) k_Mo_play_46 FU kw 0 (zf M 135 0 2400 0) := by
  intro n; induction n with
  | zero =>
    intro fuel i e hf
    obtain ⟨f, rfl⟩ : ∃ f, fuel = f + 1 := ⟨fuel - 1, by omega⟩
    rw [fix_s]; unfold k_Mo_play_24
    repeat (first | with_reducible refine e_let ?_ | with_reducible refine e_cs ?_ | with_reducible refine e_clet ?_ | with_reducible refine e_cc ?_ | (with_reducible refine e_chk ?_ ?_; · (first | omega | ((try simp (disch := omega) only [w32_eq, w64_eq, ix_n, ix_e, sto_n, sto_e, sto_r, zf_r, Int.toNat_natCast, true_or, or_true, eq_self]) <;> (first | omega | decide)))) | (with_reducible refine e_cchk ?_ ?_; · (first | omega | ((try simp (disch := omega) only [w32_eq, w64_eq, ix_n, ix_e, sto_n, sto_e, sto_r, zf_r, Int.toNat_natCast, true_or, or_true, eq_self]) <;> (first | omega | decide)))) | (with_reducible refine e_t ?_ ?_; · (first | omega | ((try simp (disch := omega) only [w32_eq, w64_eq, ix_n, ix_e, sto_n, sto_e, sto_r, zf_r, Int.toNat_natCast, true_or, or_true, eq_self]) <;> (first | omega | decide)))) | (with_reducible refine e_f ?_ ?_; · (first | omega | ((try simp (disch := omega) only [w32_eq, w64_eq, ix_n, ix_e, sto_n, sto_e, sto_r, zf_r, Int.toNat_natCast, true_or, or_true, eq_self]) <;> (first | omega | decide)))) | (with_reducible refine e_ct ?_ ?_; · (first | omega | ((try simp (disch := omega) only [w32_eq, w64_eq, ix_n, ix_e, sto_n, sto_e, sto_r, zf_r, Int.toNat_natCast, true_or, or_true, eq_self]) <;> (first | omega | decide)))) | (with_reducible refine e_cf ?_ ?_; · (first | omega | ((try simp (disch := omega) only [w32_eq, w64_eq, ix_n, ix_e, sto_n, sto_e, sto_r, zf_r, Int.toNat_natCast, true_or, or_true, eq_self]) <;> (first | omega | decide)))))
    rw [show i = 2400 by omega]
  | succ n ih =>
    intro fuel i e hf
    obtain ⟨f, rfl⟩ : ∃ f, fuel = f + 1 := ⟨fuel - 1, by omega⟩
    rw [fix_s]
    have := ih f (i + 1) (by omega) (by omega)
    have hj : (i : Int) + 1 = ((i + 1 : Nat) : Int) := by omega
    rw [← hj, ← zf_up] at this
    unfold k_Mo_play_24
    repeat (first | with_reducible refine e_let ?_ | with_reducible refine e_cs ?_ | with_reducible refine e_clet ?_ | with_reducible refine e_cc ?_ | (with_reducible refine e_chk ?_ ?_; · (first | omega | ((try simp (disch := omega) only [w32_eq, w64_eq, ix_n, ix_e, sto_n, sto_e, sto_r, zf_r, Int.toNat_natCast, true_or, or_true, eq_self]) <;> (first | omega | decide)))) | (with_reducible refine e_cchk ?_ ?_; · (first | omega | ((try simp (disch := omega) only [w32_eq, w64_eq, ix_n, ix_e, sto_n, sto_e, sto_r, zf_r, Int.toNat_natCast, true_or, or_true, eq_self]) <;> (first | omega | decide)))) | (with_reducible refine e_t ?_ ?_; · (first | omega | ((try simp (disch := omega) only [w32_eq, w64_eq, ix_n, ix_e, sto_n, sto_e, sto_r, zf_r, Int.toNat_natCast, true_or, or_true, eq_self]) <;> (first | omega | decide)))) | (with_reducible refine e_f ?_ ?_; · (first | omega | ((try simp (disch := omega) only [w32_eq, w64_eq, ix_n, ix_e, sto_n, sto_e, sto_r, zf_r, Int.toNat_natCast, true_or, or_true, eq_self]) <;> (first | omega | decide)))) | (with_reducible refine e_ct ?_ ?_; · (first | omega | ((try simp (disch := omega) only [w32_eq, w64_eq, ix_n, ix_e, sto_n, sto_e, sto_r, zf_r, Int.toNat_natCast, true_or, or_true, eq_self]) <;> (first | omega | decide)))) | (with_reducible refine e_cf ?_ ?_; · (first | omega | ((try simp (disch := omega) only [w32_eq, w64_eq, ix_n, ix_e, sto_n, sto_e, sto_r, zf_r, Int.toNat_natCast, true_or, or_true, eq_self]) <;> (first | omega | decide)))))
    rw [ix_n (by omega)]
    exact this
theorem l_play46 {M0 : Mem} {kw : Int} {P : Int → Mem → Prop} (hP : ∀ M : Mem, (∀ c, c ≠ 139 → c ≠ 140 → c ≠ 141 → c ≠ 142 → M c = M0 c) → (∀ f, f < 20 → M 139 f = 0 ∧ M 140 f = 0 ∧ M 141 f = 0 ∧ M 142 f = 0) → Ok (fix (fun _ _ _ => none) k_Mo_play_93 FU kw 0 (sto M 111 39 0)) P) :
    ∀ (n fuel i : Nat) (M : Mem), i + n = 20 → n < fuel → (∀ c, c ≠ 139 → c ≠ 140 → c ≠ 141 → c ≠ 142 → M c = M0 c) → (∀ f, f < i → M 139 f = 0 ∧ M 140 f = 0 ∧ M 141 f = 0 ∧ M 142 f = 0) → Ok (fix (fun _ _ _ => none) k_Mo_play_46 fuel kw (i : Int) M) P := by
  intro n; induction n with
  | zero =>
    intro fuel i M e hf h1 h2
    obtain ⟨f, rfl⟩ : ∃ f, fuel = f + 1 := ⟨fuel - 1, by omega⟩
    rw [fix_s]; unfold k_Mo_play_46
    repeat (first | with_reducible refine ok_let ?_ | with_reducible refine ok_cs ?_ | with_reducible refine ok_clet ?_ | with_reducible refine ok_cc ?_ | (with_reducible refine ok_chk ?_ ?_; · (first | omega | ((try simp (disch := omega) only [w32_eq, w64_eq, ix_n, ix_e, sto_n, sto_e, sto_r, zf_r, Int.toNat_natCast, true_or, or_true, eq_self]) <;> (first | omega | decide)))) | (with_reducible refine ok_cchk ?_ ?_; · (first | omega | ((try simp (disch := omega) only [w32_eq, w64_eq, ix_n, ix_e, sto_n, sto_e, sto_r, zf_r, Int.toNat_natCast, true_or, or_true, eq_self]) <;> (first | omega | decide)))) | (with_reducible refine ok_t ?_ ?_; · (first | omega | ((try simp (disch := omega) only [w32_eq, w64_eq, ix_n, ix_e, sto_n, sto_e, sto_r, zf_r, Int.toNat_natCast, true_or, or_true, eq_self]) <;> (first | omega | decide)))) | (with_reducible refine ok_f ?_ ?_; · (first | omega | ((try simp (disch := omega) only [w32_eq, w64_eq, ix_n, ix_e, sto_n, sto_e, sto_r, zf_r, Int.toNat_natCast, true_or, or_true, eq_self]) <;> (first | omega | decide)))) | (with_reducible refine ok_ct ?_ ?_; · (first | omega | ((try simp (disch := omega) only [w32_eq, w64_eq, ix_n, ix_e, sto_n, sto_e, sto_r, zf_r, Int.toNat_natCast, true_or, or_true, eq_self]) <;> (first | omega | decide)))) | (with_reducible refine ok_cf ?_ ?_; · (first | omega | ((try simp (disch := omega) only [w32_eq, w64_eq, ix_n, ix_e, sto_n, sto_e, sto_r, zf_r, Int.toNat_natCast, true_or, or_true, eq_self]) <;> (first | omega | decide)))))
    have : i = 20 := by omega
    subst this
    exact hP M h1 h2
  | succ n ih =>
    intro fuel i M e hf h1 h2
    obtain ⟨f, rfl⟩ : ∃ f, fuel = f + 1 := ⟨fuel - 1, by omega⟩
    rw [fix_s]
    have hj : (i : Int) + 1 = ((i + 1 : Nat) : Int) := by omega
    unfold k_Mo_play_46
    repeat (first | with_reducible refine ok_let ?_ | with_reducible refine ok_cs ?_ | with_reducible refine ok_clet ?_ | with_reducible refine ok_cc ?_ | (with_reducible refine ok_chk ?_ ?_; · (first | omega | ((try simp (disch := omega) only [w32_eq, w64_eq, ix_n, ix_e, sto_n, sto_e, sto_r, zf_r, Int.toNat_natCast, true_or, or_true, eq_self]) <;> (first | omega | decide)))) | (with_reducible refine ok_cchk ?_ ?_; · (first | omega | ((try simp (disch := omega) only [w32_eq, w64_eq, ix_n, ix_e, sto_n, sto_e, sto_r, zf_r, Int.toNat_natCast, true_or, or_true, eq_self]) <;> (first | omega | decide)))) | (with_reducible refine ok_t ?_ ?_; · (first | omega | ((try simp (disch := omega) only [w32_eq, w64_eq, ix_n, ix_e, sto_n, sto_e, sto_r, zf_r, Int.toNat_natCast, true_or, or_true, eq_self]) <;> (first | omega | decide)))) | (with_reducible refine ok_f ?_ ?_; · (first | omega | ((try simp (disch := omega) only [w32_eq, w64_eq, ix_n, ix_e, sto_n, sto_e, sto_r, zf_r, Int.toNat_natCast, true_or, or_true, eq_self]) <;> (first | omega | decide)))) | (with_reducible refine ok_ct ?_ ?_; · (first | omega | ((try simp (disch := omega) only [w32_eq, w64_eq, ix_n, ix_e, sto_n, sto_e, sto_r, zf_r, Int.toNat_natCast, true_or, or_true, eq_self]) <;> (first | omega | decide)))) | (with_reducible refine ok_cf ?_ ?_; · (first | omega | ((try simp (disch := omega) only [w32_eq, w64_eq, ix_n, ix_e, sto_n, sto_e, sto_r, zf_r, Int.toNat_natCast, true_or, or_true, eq_self]) <;> (first | omega | decide)))))
    rw [hj, ix_n (by omega)]
    refine ih f (i + 1) _ (by omega) (by omega) (fun c g1 g2 g3 g4 => ?_) (fun g hg => ?_)
    · simp (disch := assumption) only [sto_r]; exact h1 c g1 g2 g3 g4
    · simp (disch := decide) only [sto_r, sto_up]
      unfold up
      by_cases c : g = i
      · rw [if_pos c, if_pos c, if_pos c, if_pos c]; exact ⟨rfl, rfl, rfl, rfl⟩
      · rw [if_neg c, if_neg c, if_neg c, if_neg c]; exact h2 g (by omega)
theorem cnK_ge' {K : Nat → Int} {kw : Int} {N : Nat} (hm : ∀ i k : Nat, i ≤ k → k < N → K i ≤ K k) : ∀ n k : Nat, n ≤ N → cnK K kw n ≤ k → k < n → kw < K k
  | 0, k, _, _, h => by omega
  | n + 1, k, h0, h1, h2 => by
    by_cases c : cnK K kw n = n ∧ K n ≤ kw
    · unfold cnK at h1; rw [if_pos c] at h1; omega
    · unfold cnK at h1; rw [if_neg c] at h1
      by_cases e : k = n
      · by_cases d : cnK K kw n = n
        · rw [e]; omega
        · have := cnK_le (K := K) (kw := kw) n
          have q := cnK_ge' hm n (cnK K kw n) (by omega) (Nat.le_refl _) (by omega)
          have := hm (cnK K kw n) k (by omega) (by omega)
          omega
      · exact cnK_ge' hm n k (by omega) h1 (by omega)
/-- known means: among the first -/
theorem known_iff {M : Mem} {kw : Int} (hE : IvE M) {k : Nat} (hk : (k : Int) < M 111 7) : M 129 k ≤ kw ↔ k < knN M kw := by
  have hE1 := hE.1
  have hm := hE.2.2.2.2.2.2.2.2.2
  constructor
  · intro h
    by_cases c : k < knN M kw
    · exact c
    · have := cnK_ge' (K := M 129) (kw := kw) (N := (M 111 7).toNat) (fun i k h1 h2 => hm i k h1 (by omega)) (M 111 7).toNat k (Nat.le_refl _) (by unfold knN at c; omega) (by omega)
      omega
  · intro h; exact cnK_lt _ k h
theorem RR.keep {n k : Nat} {kw : Int} {M0 M S : Mem} (h : RR n kw M0 M S) (hk : n ≤ k) : RR n kw M0 (sto (sto M 136 k 0) 137 k 0) S := by
  obtain ⟨r1, r2, r3, r4, r5⟩ := h
  refine ⟨?_, ?_, ?_, ?_, fun j hj => ?_⟩
  · simp (disch := decide) only [sto_r]; exact r1
  · simp (disch := decide) only [sto_r]; exact r2
  · simp (disch := decide) only [sto_r]; exact r3
  · simp (disch := decide) only [sto_r]; exact r4
  · simp (disch := decide) only [sto_r, sto_up]
    rw [up_n (by omega), up_n (by omega)]; exact r5 j hj
theorem l_play93 {F : Nat → Int → (Nat → Int) → Int} {M0 : Mem} {kw : Int} (hA : AskI F M0) (hG : IvG F M0) (hE : IvE M0) (hP : IvP M0) (hkw : 0 ≤ kw ∧ kw ≤ 519) :
    ∀ (n fuel i m : Nat) (M : Mem), i + n = (M0 111 7).toNat → n < fuel → m = (if i ≤ knN M0 kw then i else knN M0 kw) → Fr raL raK M0 M → RR m kw M0 M (pyS M0 kw m) →
    Ok (fix (fun _ _ _ => none) k_Mo_play_93 fuel kw (i : Int) M) (fun _ M' => RR (knN M0 kw) kw M0 M' (pyS M0 kw (knN M0 kw))) := by
  have hE1 := hE.1
  have hkn := knN_le (M := M0) (kw := kw) hE1.1
  intro n; induction n with
  | zero =>
    intro fuel i m M e hf hm hF hR
    obtain ⟨f, rfl⟩ : ∃ f, fuel = f + 1 := ⟨fuel - 1, by omega⟩
    have u7 := hF.f 111 7 (by decide) (by decide)
    rw [fix_s]; unfold k_Mo_play_93
    repeat (first | with_reducible refine ok_let ?_ | with_reducible refine ok_cs ?_ | with_reducible refine ok_clet ?_ | with_reducible refine ok_cc ?_ | (with_reducible refine ok_chk ?_ ?_; · (first | omega | ((try simp (disch := omega) only [w32_eq, w64_eq, ix_n, ix_e, sto_n, sto_e, sto_r, zf_r, Int.toNat_natCast, true_or, or_true, eq_self, u7]) <;> (first | omega | decide)))) | (with_reducible refine ok_cchk ?_ ?_; · (first | omega | ((try simp (disch := omega) only [w32_eq, w64_eq, ix_n, ix_e, sto_n, sto_e, sto_r, zf_r, Int.toNat_natCast, true_or, or_true, eq_self, u7]) <;> (first | omega | decide)))) | (with_reducible refine ok_t ?_ ?_; · (first | omega | ((try simp (disch := omega) only [w32_eq, w64_eq, ix_n, ix_e, sto_n, sto_e, sto_r, zf_r, Int.toNat_natCast, true_or, or_true, eq_self, u7]) <;> (first | omega | decide)))) | (with_reducible refine ok_f ?_ ?_; · (first | omega | ((try simp (disch := omega) only [w32_eq, w64_eq, ix_n, ix_e, sto_n, sto_e, sto_r, zf_r, Int.toNat_natCast, true_or, or_true, eq_self, u7]) <;> (first | omega | decide)))) | (with_reducible refine ok_ct ?_ ?_; · (first | omega | ((try simp (disch := omega) only [w32_eq, w64_eq, ix_n, ix_e, sto_n, sto_e, sto_r, zf_r, Int.toNat_natCast, true_or, or_true, eq_self, u7]) <;> (first | omega | decide)))) | (with_reducible refine ok_cf ?_ ?_; · (first | omega | ((try simp (disch := omega) only [w32_eq, w64_eq, ix_n, ix_e, sto_n, sto_e, sto_r, zf_r, Int.toNat_natCast, true_or, or_true, eq_self, u7]) <;> (first | omega | decide)))))
    have : m = knN M0 kw := by rw [hm]; split <;> omega
    rw [this] at hR
    exact ok_ret hR
  | succ n ih =>
    intro fuel i m M e hf hm hF hR
    have hj : (i : Int) + 1 = ((i + 1 : Nat) : Int) := by omega
    have ei : ix (i : Int) = i := ix_n (by omega)
    have u7 := hF.f 111 7 (by decide) (by decide)
    have u129 := hF.c 129 (by decide) (by decide)
    have u120 := hF.c 120 (by decide) (by decide)
    have ek := (hE.2.2.2.2.2.2.2.1 i (by omega)).kind
    have hi := known_iff (kw := kw) hE (k := i) (by omega)
    have hR2 := hR.keep (k := i) (by rw [hm]; split <;> omega)
    have hF2 : Fr raL raK M0 (sto (sto M 136 i 0) 137 i 0) := Fr.trans hF (Fr.trans (fr_stoA (by decide)) (fr_stoA (by decide)))
    obtain ⟨f, rfl⟩ : ∃ f, fuel = f + 1 := ⟨fuel - 1, by omega⟩
    rw [fix_s]; unfold k_Mo_play_93
    by_cases c : i < knN M0 kw
    · have hk := hi.2 c
      have hmi : m = i := by rw [hm, if_pos (by omega)]
      subst hmi
      have hW := PW_py (kw := kw) hA hG hE hP m (by omega)
      have hps : pyS M0 kw (m + 1) = stp M0 kw m (pyS M0 kw m) := rfl
      by_cases h0 : M0 120 m = 0
      · repeat (first | with_reducible refine ok_let ?_ | with_reducible refine ok_cs ?_ | with_reducible refine ok_clet ?_ | with_reducible refine ok_cc ?_ | (with_reducible refine ok_chk ?_ ?_; · (first | omega | ((try simp (disch := omega) only [w32_eq, w64_eq, ix_n, ix_e, sto_n, sto_e, sto_r, zf_r, Int.toNat_natCast, true_or, or_true, eq_self, u7, u129, u120]) <;> (first | omega | decide)))) | (with_reducible refine ok_cchk ?_ ?_; · (first | omega | ((try simp (disch := omega) only [w32_eq, w64_eq, ix_n, ix_e, sto_n, sto_e, sto_r, zf_r, Int.toNat_natCast, true_or, or_true, eq_self, u7, u129, u120]) <;> (first | omega | decide)))) | (with_reducible refine ok_t ?_ ?_; · (first | omega | ((try simp (disch := omega) only [w32_eq, w64_eq, ix_n, ix_e, sto_n, sto_e, sto_r, zf_r, Int.toNat_natCast, true_or, or_true, eq_self, u7, u129, u120]) <;> (first | omega | decide)))) | (with_reducible refine ok_f ?_ ?_; · (first | omega | ((try simp (disch := omega) only [w32_eq, w64_eq, ix_n, ix_e, sto_n, sto_e, sto_r, zf_r, Int.toNat_natCast, true_or, or_true, eq_self, u7, u129, u120]) <;> (first | omega | decide)))) | (with_reducible refine ok_ct ?_ ?_; · (first | omega | ((try simp (disch := omega) only [w32_eq, w64_eq, ix_n, ix_e, sto_n, sto_e, sto_r, zf_r, Int.toNat_natCast, true_or, or_true, eq_self, u7, u129, u120]) <;> (first | omega | decide)))) | (with_reducible refine ok_cf ?_ ?_; · (first | omega | ((try simp (disch := omega) only [w32_eq, w64_eq, ix_n, ix_e, sto_n, sto_e, sto_r, zf_r, Int.toNat_natCast, true_or, or_true, eq_self, u7, u129, u120]) <;> (first | omega | decide)))))
        rw [ei]
        refine ok_call (ok_fr (y_load hA hG hE hP hkw hF2 (by omega) h0 hW hR2) (fun r hr => w_Mo_playLoad hr)) (fun v M1 hv => ?_)
        unfold k_Mo_play_151
        repeat (first | with_reducible refine ok_let ?_ | with_reducible refine ok_cs ?_ | with_reducible refine ok_clet ?_ | with_reducible refine ok_cc ?_ | (with_reducible refine ok_chk ?_ ?_; · (first | omega | ((try simp (disch := omega) only [w32_eq, w64_eq, ix_n, ix_e, sto_n, sto_e, sto_r, zf_r, Int.toNat_natCast, true_or, or_true, eq_self]) <;> (first | omega | decide)))) | (with_reducible refine ok_cchk ?_ ?_; · (first | omega | ((try simp (disch := omega) only [w32_eq, w64_eq, ix_n, ix_e, sto_n, sto_e, sto_r, zf_r, Int.toNat_natCast, true_or, or_true, eq_self]) <;> (first | omega | decide)))) | (with_reducible refine ok_t ?_ ?_; · (first | omega | ((try simp (disch := omega) only [w32_eq, w64_eq, ix_n, ix_e, sto_n, sto_e, sto_r, zf_r, Int.toNat_natCast, true_or, or_true, eq_self]) <;> (first | omega | decide)))) | (with_reducible refine ok_f ?_ ?_; · (first | omega | ((try simp (disch := omega) only [w32_eq, w64_eq, ix_n, ix_e, sto_n, sto_e, sto_r, zf_r, Int.toNat_natCast, true_or, or_true, eq_self]) <;> (first | omega | decide)))) | (with_reducible refine ok_ct ?_ ?_; · (first | omega | ((try simp (disch := omega) only [w32_eq, w64_eq, ix_n, ix_e, sto_n, sto_e, sto_r, zf_r, Int.toNat_natCast, true_or, or_true, eq_self]) <;> (first | omega | decide)))) | (with_reducible refine ok_cf ?_ ?_; · (first | omega | ((try simp (disch := omega) only [w32_eq, w64_eq, ix_n, ix_e, sto_n, sto_e, sto_r, zf_r, Int.toNat_natCast, true_or, or_true, eq_self]) <;> (first | omega | decide)))))
        rw [hj]
        refine ih f (m + 1) (m + 1) M1 (by omega) (by omega) (by rw [if_pos (by omega)]) (hF2.trans (hv.2.mono (by decide) (by decide))) ?_
        rw [hps]; unfold stp; rw [if_pos h0]; exact hv.1
      · repeat (first | with_reducible refine ok_let ?_ | with_reducible refine ok_cs ?_ | with_reducible refine ok_clet ?_ | with_reducible refine ok_cc ?_ | (with_reducible refine ok_chk ?_ ?_; · (first | omega | ((try simp (disch := omega) only [w32_eq, w64_eq, ix_n, ix_e, sto_n, sto_e, sto_r, zf_r, Int.toNat_natCast, true_or, or_true, eq_self, u7, u129, u120]) <;> (first | omega | decide)))) | (with_reducible refine ok_cchk ?_ ?_; · (first | omega | ((try simp (disch := omega) only [w32_eq, w64_eq, ix_n, ix_e, sto_n, sto_e, sto_r, zf_r, Int.toNat_natCast, true_or, or_true, eq_self, u7, u129, u120]) <;> (first | omega | decide)))) | (with_reducible refine ok_t ?_ ?_; · (first | omega | ((try simp (disch := omega) only [w32_eq, w64_eq, ix_n, ix_e, sto_n, sto_e, sto_r, zf_r, Int.toNat_natCast, true_or, or_true, eq_self, u7, u129, u120]) <;> (first | omega | decide)))) | (with_reducible refine ok_f ?_ ?_; · (first | omega | ((try simp (disch := omega) only [w32_eq, w64_eq, ix_n, ix_e, sto_n, sto_e, sto_r, zf_r, Int.toNat_natCast, true_or, or_true, eq_self, u7, u129, u120]) <;> (first | omega | decide)))) | (with_reducible refine ok_ct ?_ ?_; · (first | omega | ((try simp (disch := omega) only [w32_eq, w64_eq, ix_n, ix_e, sto_n, sto_e, sto_r, zf_r, Int.toNat_natCast, true_or, or_true, eq_self, u7, u129, u120]) <;> (first | omega | decide)))) | (with_reducible refine ok_cf ?_ ?_; · (first | omega | ((try simp (disch := omega) only [w32_eq, w64_eq, ix_n, ix_e, sto_n, sto_e, sto_r, zf_r, Int.toNat_natCast, true_or, or_true, eq_self, u7, u129, u120]) <;> (first | omega | decide)))))
        rw [ei]
        refine ok_call (ok_fr (y_other (kw := kw) hE hP hF2 (by omega) h0 hW hR2) (fun r hr => w_Mo_playOther hr)) (fun v M1 hv => ?_)
        unfold k_Mo_play_151
        repeat (first | with_reducible refine ok_let ?_ | with_reducible refine ok_cs ?_ | with_reducible refine ok_clet ?_ | with_reducible refine ok_cc ?_ | (with_reducible refine ok_chk ?_ ?_; · (first | omega | ((try simp (disch := omega) only [w32_eq, w64_eq, ix_n, ix_e, sto_n, sto_e, sto_r, zf_r, Int.toNat_natCast, true_or, or_true, eq_self]) <;> (first | omega | decide)))) | (with_reducible refine ok_cchk ?_ ?_; · (first | omega | ((try simp (disch := omega) only [w32_eq, w64_eq, ix_n, ix_e, sto_n, sto_e, sto_r, zf_r, Int.toNat_natCast, true_or, or_true, eq_self]) <;> (first | omega | decide)))) | (with_reducible refine ok_t ?_ ?_; · (first | omega | ((try simp (disch := omega) only [w32_eq, w64_eq, ix_n, ix_e, sto_n, sto_e, sto_r, zf_r, Int.toNat_natCast, true_or, or_true, eq_self]) <;> (first | omega | decide)))) | (with_reducible refine ok_f ?_ ?_; · (first | omega | ((try simp (disch := omega) only [w32_eq, w64_eq, ix_n, ix_e, sto_n, sto_e, sto_r, zf_r, Int.toNat_natCast, true_or, or_true, eq_self]) <;> (first | omega | decide)))) | (with_reducible refine ok_ct ?_ ?_; · (first | omega | ((try simp (disch := omega) only [w32_eq, w64_eq, ix_n, ix_e, sto_n, sto_e, sto_r, zf_r, Int.toNat_natCast, true_or, or_true, eq_self]) <;> (first | omega | decide)))) | (with_reducible refine ok_cf ?_ ?_; · (first | omega | ((try simp (disch := omega) only [w32_eq, w64_eq, ix_n, ix_e, sto_n, sto_e, sto_r, zf_r, Int.toNat_natCast, true_or, or_true, eq_self]) <;> (first | omega | decide)))))
        rw [hj]
        refine ih f (m + 1) (m + 1) M1 (by omega) (by omega) (by rw [if_pos (by omega)]) (hF2.trans (hv.2.mono (by decide) (by decide))) ?_
        rw [hps]; unfold stp; rw [if_neg h0]; exact hv.1
    · have hk : ¬ M0 129 i ≤ kw := fun h => c (hi.1 h)
      repeat (first | with_reducible refine ok_let ?_ | with_reducible refine ok_cs ?_ | with_reducible refine ok_clet ?_ | with_reducible refine ok_cc ?_ | (with_reducible refine ok_chk ?_ ?_; · (first | omega | ((try simp (disch := omega) only [w32_eq, w64_eq, ix_n, ix_e, sto_n, sto_e, sto_r, zf_r, Int.toNat_natCast, true_or, or_true, eq_self, u7, u129]) <;> (first | omega | decide)))) | (with_reducible refine ok_cchk ?_ ?_; · (first | omega | ((try simp (disch := omega) only [w32_eq, w64_eq, ix_n, ix_e, sto_n, sto_e, sto_r, zf_r, Int.toNat_natCast, true_or, or_true, eq_self, u7, u129]) <;> (first | omega | decide)))) | (with_reducible refine ok_t ?_ ?_; · (first | omega | ((try simp (disch := omega) only [w32_eq, w64_eq, ix_n, ix_e, sto_n, sto_e, sto_r, zf_r, Int.toNat_natCast, true_or, or_true, eq_self, u7, u129]) <;> (first | omega | decide)))) | (with_reducible refine ok_f ?_ ?_; · (first | omega | ((try simp (disch := omega) only [w32_eq, w64_eq, ix_n, ix_e, sto_n, sto_e, sto_r, zf_r, Int.toNat_natCast, true_or, or_true, eq_self, u7, u129]) <;> (first | omega | decide)))) | (with_reducible refine ok_ct ?_ ?_; · (first | omega | ((try simp (disch := omega) only [w32_eq, w64_eq, ix_n, ix_e, sto_n, sto_e, sto_r, zf_r, Int.toNat_natCast, true_or, or_true, eq_self, u7, u129]) <;> (first | omega | decide)))) | (with_reducible refine ok_cf ?_ ?_; · (first | omega | ((try simp (disch := omega) only [w32_eq, w64_eq, ix_n, ix_e, sto_n, sto_e, sto_r, zf_r, Int.toNat_natCast, true_or, or_true, eq_self, u7, u129]) <;> (first | omega | decide)))))
      unfold k_Mo_play_151
      repeat (first | with_reducible refine ok_let ?_ | with_reducible refine ok_cs ?_ | with_reducible refine ok_clet ?_ | with_reducible refine ok_cc ?_ | (with_reducible refine ok_chk ?_ ?_; · (first | omega | ((try simp (disch := omega) only [w32_eq, w64_eq, ix_n, ix_e, sto_n, sto_e, sto_r, zf_r, Int.toNat_natCast, true_or, or_true, eq_self]) <;> (first | omega | decide)))) | (with_reducible refine ok_cchk ?_ ?_; · (first | omega | ((try simp (disch := omega) only [w32_eq, w64_eq, ix_n, ix_e, sto_n, sto_e, sto_r, zf_r, Int.toNat_natCast, true_or, or_true, eq_self]) <;> (first | omega | decide)))) | (with_reducible refine ok_t ?_ ?_; · (first | omega | ((try simp (disch := omega) only [w32_eq, w64_eq, ix_n, ix_e, sto_n, sto_e, sto_r, zf_r, Int.toNat_natCast, true_or, or_true, eq_self]) <;> (first | omega | decide)))) | (with_reducible refine ok_f ?_ ?_; · (first | omega | ((try simp (disch := omega) only [w32_eq, w64_eq, ix_n, ix_e, sto_n, sto_e, sto_r, zf_r, Int.toNat_natCast, true_or, or_true, eq_self]) <;> (first | omega | decide)))) | (with_reducible refine ok_ct ?_ ?_; · (first | omega | ((try simp (disch := omega) only [w32_eq, w64_eq, ix_n, ix_e, sto_n, sto_e, sto_r, zf_r, Int.toNat_natCast, true_or, or_true, eq_self]) <;> (first | omega | decide)))) | (with_reducible refine ok_cf ?_ ?_; · (first | omega | ((try simp (disch := omega) only [w32_eq, w64_eq, ix_n, ix_e, sto_n, sto_e, sto_r, zf_r, Int.toNat_natCast, true_or, or_true, eq_self]) <;> (first | omega | decide)))))
      rw [hj, ei]
      refine ih f (i + 1) m _ (by omega) (by omega) (by rw [hm]; split <;> split <;> omega) hF2 hR2
theorem s_play {F : Nat → Int → (Nat → Int) → Int} {M : Mem} {kw : Int} (hA : AskI F M) (hG : IvG F M) (hE : IvE M) (hP : IvP M) (hkw : 0 ≤ kw ∧ kw ≤ 519) :
    Ok (d_Mo_play kw M) (fun _ M' => RR (knN M kw) kw M M' (pyS M kw (knN M kw)) ∧ Fr raL raK M M') := by
  refine ok_fr ?_ (fun r hr => w_Mo_play hr)
  have hE1 := hE.1
  unfold d_Mo_play
  have q := l_play2 (M := M) (kw := kw) 9600 FU 0 (by omega) (by unfold FU; omega)
  rw [zf_0] at q
  refine ok_eqr q ?_
  have q2 := l_play24 (M := zf M 134 0 9600 0) (kw := kw) 2400 FU 0 (by omega) (by unfold FU; omega)
  rw [zf_0] at q2
  refine ok_eqr q2 ?_
  refine l_play46 (M0 := zf (zf M 134 0 9600 0) 135 0 2400 0) (fun M1 h1 h2 => ?_) 20 FU 0 _ (by omega) (by unfold FU; omega) (fun _ _ _ _ _ => rfl) (fun f hf => by omega)
  refine l_play93 hA hG hE hP hkw (M 111 7).toNat FU 0 0 _ (by omega) (by unfold FU; omega) (by rw [if_pos (by omega)]) ?_ ?_
  · refine Fr.trans (M1 := M1) ?_ (fr_stoF (by decide))
    intro c hc j hj
    have hc' : c ≠ 134 ∧ c ≠ 135 ∧ c ≠ 139 ∧ c ≠ 140 ∧ c ≠ 141 ∧ c ≠ 142 := by
      refine ⟨?_, ?_, ?_, ?_, ?_, ?_⟩ <;> (intro h; subst h; exact hc (by decide))
    obtain ⟨g1, g2, g3, g4, g5, g6⟩ := hc'
    rw [h1 c g3 g4 g5 g6, zf_r g2, zf_r g1]
  · refine ⟨fun i hi => ?_, fun i hi => ?_, fun f hf => ?_, sto_e, fun k hk => by omega⟩
    · rw [sto_r (by decide), h1 134 (by decide) (by decide) (by decide) (by decide), zf_r (by decide), zf_c, if_pos (by omega)]; rfl
    · rw [sto_r (by decide), h1 135 (by decide) (by decide) (by decide) (by decide), zf_c, if_pos (by omega)]; rfl
    · simp (disch := decide) only [sto_r]; exact h2 f hf
