/-! the model: all that is paid -/
theorem l_pay7 {B : Mem} {y kw : Int} {P : Int → Mem → Prop} (hP : ∀ M : Mem, (∀ c, c ≠ 161 → c ≠ 162 → c ≠ 163 → M c = B c) → (∀ f, f < 20 → M 161 f = 0 ∧ M 162 f = 0 ∧ M 163 f = 0) → Ok (fix (fun _ _ _ _ => none) k_Mo_pay_42 FU y kw 0 M) P) :
    ∀ (n fuel i : Nat) (M : Mem), i + n = 20 → n < fuel → (∀ c, c ≠ 161 → c ≠ 162 → c ≠ 163 → M c = B c) → (∀ f, f < i → M 161 f = 0 ∧ M 162 f = 0 ∧ M 163 f = 0) → Ok (fix (fun _ _ _ _ => none) k_Mo_pay_7 fuel y kw (i : Int) M) P := by
  intro n; induction n with
  | zero =>
    intro fuel i M e hf h1 h2
    obtain ⟨f, rfl⟩ : ∃ f, fuel = f + 1 := ⟨fuel - 1, by omega⟩; rw [fix_s]; unfold k_Mo_pay_7
    repeat (first | with_reducible refine ok_let ?_ | with_reducible refine ok_cs ?_ | with_reducible refine ok_clet ?_ | with_reducible refine ok_cc ?_ | (with_reducible refine ok_chk ?_ ?_; · (first | omega | ((try simp (disch := omega) only [w32_eq, w64_eq, ix_n, ix_e, sto_n, sto_e, sto_r, zf_r, Int.toNat_natCast, true_or, or_true, eq_self]) <;> (first | omega | decide)))) | (with_reducible refine ok_cchk ?_ ?_; · (first | omega | ((try simp (disch := omega) only [w32_eq, w64_eq, ix_n, ix_e, sto_n, sto_e, sto_r, zf_r, Int.toNat_natCast, true_or, or_true, eq_self]) <;> (first | omega | decide)))) | (with_reducible refine ok_t ?_ ?_; · (first | omega | ((try simp (disch := omega) only [w32_eq, w64_eq, ix_n, ix_e, sto_n, sto_e, sto_r, zf_r, Int.toNat_natCast, true_or, or_true, eq_self]) <;> (first | omega | decide)))) | (with_reducible refine ok_f ?_ ?_; · (first | omega | ((try simp (disch := omega) only [w32_eq, w64_eq, ix_n, ix_e, sto_n, sto_e, sto_r, zf_r, Int.toNat_natCast, true_or, or_true, eq_self]) <;> (first | omega | decide)))) | (with_reducible refine ok_ct ?_ ?_; · (first | omega | ((try simp (disch := omega) only [w32_eq, w64_eq, ix_n, ix_e, sto_n, sto_e, sto_r, zf_r, Int.toNat_natCast, true_or, or_true, eq_self]) <;> (first | omega | decide)))) | (with_reducible refine ok_cf ?_ ?_; · (first | omega | ((try simp (disch := omega) only [w32_eq, w64_eq, ix_n, ix_e, sto_n, sto_e, sto_r, zf_r, Int.toNat_natCast, true_or, or_true, eq_self]) <;> (first | omega | decide)))))
    have : i = 20 := by omega
    subst this
    exact hP M h1 h2
  | succ n ih =>
    intro fuel i M e hf h1 h2
    obtain ⟨f, rfl⟩ : ∃ f, fuel = f + 1 := ⟨fuel - 1, by omega⟩; rw [fix_s]
    have hj : (i : Int) + 1 = ((i + 1 : Nat) : Int) := by omega
    unfold k_Mo_pay_7
    repeat (first | with_reducible refine ok_let ?_ | with_reducible refine ok_cs ?_ | with_reducible refine ok_clet ?_ | with_reducible refine ok_cc ?_ | (with_reducible refine ok_chk ?_ ?_; · (first | omega | ((try simp (disch := omega) only [w32_eq, w64_eq, ix_n, ix_e, sto_n, sto_e, sto_r, zf_r, Int.toNat_natCast, true_or, or_true, eq_self]) <;> (first | omega | decide)))) | (with_reducible refine ok_cchk ?_ ?_; · (first | omega | ((try simp (disch := omega) only [w32_eq, w64_eq, ix_n, ix_e, sto_n, sto_e, sto_r, zf_r, Int.toNat_natCast, true_or, or_true, eq_self]) <;> (first | omega | decide)))) | (with_reducible refine ok_t ?_ ?_; · (first | omega | ((try simp (disch := omega) only [w32_eq, w64_eq, ix_n, ix_e, sto_n, sto_e, sto_r, zf_r, Int.toNat_natCast, true_or, or_true, eq_self]) <;> (first | omega | decide)))) | (with_reducible refine ok_f ?_ ?_; · (first | omega | ((try simp (disch := omega) only [w32_eq, w64_eq, ix_n, ix_e, sto_n, sto_e, sto_r, zf_r, Int.toNat_natCast, true_or, or_true, eq_self]) <;> (first | omega | decide)))) | (with_reducible refine ok_ct ?_ ?_; · (first | omega | ((try simp (disch := omega) only [w32_eq, w64_eq, ix_n, ix_e, sto_n, sto_e, sto_r, zf_r, Int.toNat_natCast, true_or, or_true, eq_self]) <;> (first | omega | decide)))) | (with_reducible refine ok_cf ?_ ?_; · (first | omega | ((try simp (disch := omega) only [w32_eq, w64_eq, ix_n, ix_e, sto_n, sto_e, sto_r, zf_r, Int.toNat_natCast, true_or, or_true, eq_self]) <;> (first | omega | decide)))))
    rw [hj, ix_n (by omega)]
    refine ih f (i + 1) _ (by omega) (by omega) (fun c g1 g2 g3 => ?_) (fun g hg => ?_)
    · rw [sto_r g3, sto_r g2, sto_r g1]; exact h1 c g1 g2 g3
    · simp (disch := decide) only [sto_r, sto_up]
      unfold up
      by_cases c : g = i
      · rw [if_pos c, if_pos c, if_pos c]; exact ⟨rfl, rfl, rfl⟩
      · rw [if_neg c, if_neg c, if_neg c]; exact h2 g (by omega)
theorem l_pay98 {B : Mem} {y kw g a4 a6 : Int} {R42 : Int → Int → Int → Mem → Res} {P : Int → Mem → Prop} (hP : ∀ M : Mem, (∀ c, c ≠ 143 → M c = B c) → (∀ f, f < 20 → M 143 f = B 160 f) → Ok (bcall (d_Mo_parts a4 M) fun _ M8 => fix (fun _ _ _ _ _ _ => none) (k_Mo_pay_134 R42) FU y kw g a6 0 M8) P) :
    ∀ (n fuel i : Nat) (M : Mem), i + n = 20 → n < fuel → (∀ c, c ≠ 143 → M c = B c) → (∀ f, f < i → M 143 f = B 160 f) → Ok (fix (fun _ _ _ _ _ _ _ => none) (k_Mo_pay_98 R42) fuel y kw g a4 a6 (i : Int) M) P := by
  intro n; induction n with
  | zero =>
    intro fuel i M e hf h1 h2
    obtain ⟨f, rfl⟩ : ∃ f, fuel = f + 1 := ⟨fuel - 1, by omega⟩; rw [fix_s]; unfold k_Mo_pay_98
    repeat (first | with_reducible refine ok_let ?_ | with_reducible refine ok_cs ?_ | with_reducible refine ok_clet ?_ | with_reducible refine ok_cc ?_ | (with_reducible refine ok_chk ?_ ?_; · (first | omega | ((try simp (disch := omega) only [w32_eq, w64_eq, ix_n, ix_e, sto_n, sto_e, sto_r, zf_r, Int.toNat_natCast, true_or, or_true, eq_self]) <;> (first | omega | decide)))) | (with_reducible refine ok_cchk ?_ ?_; · (first | omega | ((try simp (disch := omega) only [w32_eq, w64_eq, ix_n, ix_e, sto_n, sto_e, sto_r, zf_r, Int.toNat_natCast, true_or, or_true, eq_self]) <;> (first | omega | decide)))) | (with_reducible refine ok_t ?_ ?_; · (first | omega | ((try simp (disch := omega) only [w32_eq, w64_eq, ix_n, ix_e, sto_n, sto_e, sto_r, zf_r, Int.toNat_natCast, true_or, or_true, eq_self]) <;> (first | omega | decide)))) | (with_reducible refine ok_f ?_ ?_; · (first | omega | ((try simp (disch := omega) only [w32_eq, w64_eq, ix_n, ix_e, sto_n, sto_e, sto_r, zf_r, Int.toNat_natCast, true_or, or_true, eq_self]) <;> (first | omega | decide)))) | (with_reducible refine ok_ct ?_ ?_; · (first | omega | ((try simp (disch := omega) only [w32_eq, w64_eq, ix_n, ix_e, sto_n, sto_e, sto_r, zf_r, Int.toNat_natCast, true_or, or_true, eq_self]) <;> (first | omega | decide)))) | (with_reducible refine ok_cf ?_ ?_; · (first | omega | ((try simp (disch := omega) only [w32_eq, w64_eq, ix_n, ix_e, sto_n, sto_e, sto_r, zf_r, Int.toNat_natCast, true_or, or_true, eq_self]) <;> (first | omega | decide)))))
    have : i = 20 := by omega
    subst this
    exact hP M h1 h2
  | succ n ih =>
    intro fuel i M e hf h1 h2
    obtain ⟨f, rfl⟩ : ∃ f, fuel = f + 1 := ⟨fuel - 1, by omega⟩; rw [fix_s]
    have hj : (i : Int) + 1 = ((i + 1 : Nat) : Int) := by omega
    unfold k_Mo_pay_98
    repeat (first | with_reducible refine ok_let ?_ | with_reducible refine ok_cs ?_ | with_reducible refine ok_clet ?_ | with_reducible refine ok_cc ?_ | (with_reducible refine ok_chk ?_ ?_; · (first | omega | ((try simp (disch := omega) only [w32_eq, w64_eq, ix_n, ix_e, sto_n, sto_e, sto_r, zf_r, Int.toNat_natCast, true_or, or_true, eq_self]) <;> (first | omega | decide)))) | (with_reducible refine ok_cchk ?_ ?_; · (first | omega | ((try simp (disch := omega) only [w32_eq, w64_eq, ix_n, ix_e, sto_n, sto_e, sto_r, zf_r, Int.toNat_natCast, true_or, or_true, eq_self]) <;> (first | omega | decide)))) | (with_reducible refine ok_t ?_ ?_; · (first | omega | ((try simp (disch := omega) only [w32_eq, w64_eq, ix_n, ix_e, sto_n, sto_e, sto_r, zf_r, Int.toNat_natCast, true_or, or_true, eq_self]) <;> (first | omega | decide)))) | (with_reducible refine ok_f ?_ ?_; · (first | omega | ((try simp (disch := omega) only [w32_eq, w64_eq, ix_n, ix_e, sto_n, sto_e, sto_r, zf_r, Int.toNat_natCast, true_or, or_true, eq_self]) <;> (first | omega | decide)))) | (with_reducible refine ok_ct ?_ ?_; · (first | omega | ((try simp (disch := omega) only [w32_eq, w64_eq, ix_n, ix_e, sto_n, sto_e, sto_r, zf_r, Int.toNat_natCast, true_or, or_true, eq_self]) <;> (first | omega | decide)))) | (with_reducible refine ok_cf ?_ ?_; · (first | omega | ((try simp (disch := omega) only [w32_eq, w64_eq, ix_n, ix_e, sto_n, sto_e, sto_r, zf_r, Int.toNat_natCast, true_or, or_true, eq_self]) <;> (first | omega | decide)))))
    rw [hj, ix_n (by omega), h1 160 (by decide)]
    refine ih f (i + 1) _ (by omega) (by omega) (fun c g1 => ?_) (fun g hg => ?_)
    · rw [sto_r g1]; exact h1 c g1
    · rw [sto_up]
      unfold up
      by_cases c : g = i
      · rw [if_pos c, c]
      · rw [if_neg c]; exact h2 g (by omega)
theorem l_pay134 {B : Mem} {y kw g a6 : Int} {N : Nat} (hN : N ≤ 20) (h5 : B 111 5 = (N : Int)) {R42 : Int → Int → Int → Mem → Res} {P : Int → Mem → Prop} (hP : ∀ M : Mem, (∀ c, c ≠ 161 → c ≠ 162 → M c = B c) → M 161 = adP (B 161) 0 (fun f => a6 * B 160 f) N → M 162 = adP (B 162) 0 (fun f => B 144 f - a6 * B 160 f) N → Ok (R42 y kw (g + 1) M) P) :
    ∀ (n fuel i : Nat) (M : Mem), i + n = N → n < fuel → (∀ c, c ≠ 161 → c ≠ 162 → M c = B c) → M 161 = adP (B 161) 0 (fun f => a6 * B 160 f) i → M 162 = adP (B 162) 0 (fun f => B 144 f - a6 * B 160 f) i → Ok (fix (fun _ _ _ _ _ _ => none) (k_Mo_pay_134 R42) fuel y kw g a6 (i : Int) M) P := by
  intro n; induction n with
  | zero =>
    intro fuel i M e hf h1 h2 h3
    have u := h1 111 (by decide) (by decide)
    obtain ⟨f, rfl⟩ : ∃ f, fuel = f + 1 := ⟨fuel - 1, by omega⟩; rw [fix_s]; unfold k_Mo_pay_134
    repeat (first | with_reducible refine ok_let ?_ | with_reducible refine ok_cs ?_ | with_reducible refine ok_clet ?_ | with_reducible refine ok_cc ?_ | (with_reducible refine ok_chk ?_ ?_; · (first | omega | ((try simp (disch := omega) only [w32_eq, w64_eq, ix_n, ix_e, sto_n, sto_e, sto_r, zf_r, Int.toNat_natCast, true_or, or_true, eq_self, u, h5]) <;> (first | omega | decide)))) | (with_reducible refine ok_cchk ?_ ?_; · (first | omega | ((try simp (disch := omega) only [w32_eq, w64_eq, ix_n, ix_e, sto_n, sto_e, sto_r, zf_r, Int.toNat_natCast, true_or, or_true, eq_self, u, h5]) <;> (first | omega | decide)))) | (with_reducible refine ok_t ?_ ?_; · (first | omega | ((try simp (disch := omega) only [w32_eq, w64_eq, ix_n, ix_e, sto_n, sto_e, sto_r, zf_r, Int.toNat_natCast, true_or, or_true, eq_self, u, h5]) <;> (first | omega | decide)))) | (with_reducible refine ok_f ?_ ?_; · (first | omega | ((try simp (disch := omega) only [w32_eq, w64_eq, ix_n, ix_e, sto_n, sto_e, sto_r, zf_r, Int.toNat_natCast, true_or, or_true, eq_self, u, h5]) <;> (first | omega | decide)))) | (with_reducible refine ok_ct ?_ ?_; · (first | omega | ((try simp (disch := omega) only [w32_eq, w64_eq, ix_n, ix_e, sto_n, sto_e, sto_r, zf_r, Int.toNat_natCast, true_or, or_true, eq_self, u, h5]) <;> (first | omega | decide)))) | (with_reducible refine ok_cf ?_ ?_; · (first | omega | ((try simp (disch := omega) only [w32_eq, w64_eq, ix_n, ix_e, sto_n, sto_e, sto_r, zf_r, Int.toNat_natCast, true_or, or_true, eq_self, u, h5]) <;> (first | omega | decide)))))
    have : i = N := by omega
    subst this
    exact hP M h1 h2 h3
  | succ n ih =>
    intro fuel i M e hf h1 h2 h3
    have u := h1 111 (by decide) (by decide)
    have ei : ix (i : Int) = i := ix_n (by omega)
    obtain ⟨f, rfl⟩ : ∃ f, fuel = f + 1 := ⟨fuel - 1, by omega⟩; rw [fix_s]
    have hj : (i : Int) + 1 = ((i + 1 : Nat) : Int) := by omega
    unfold k_Mo_pay_134
    repeat (first | with_reducible refine ok_let ?_ | with_reducible refine ok_cs ?_ | with_reducible refine ok_clet ?_ | with_reducible refine ok_cc ?_ | (with_reducible refine ok_chk ?_ ?_; · (first | omega | ((try simp (disch := omega) only [w32_eq, w64_eq, ix_n, ix_e, sto_n, sto_e, sto_r, zf_r, Int.toNat_natCast, true_or, or_true, eq_self, u, h5]) <;> (first | omega | decide)))) | (with_reducible refine ok_cchk ?_ ?_; · (first | omega | ((try simp (disch := omega) only [w32_eq, w64_eq, ix_n, ix_e, sto_n, sto_e, sto_r, zf_r, Int.toNat_natCast, true_or, or_true, eq_self, u, h5]) <;> (first | omega | decide)))) | (with_reducible refine ok_t ?_ ?_; · (first | omega | ((try simp (disch := omega) only [w32_eq, w64_eq, ix_n, ix_e, sto_n, sto_e, sto_r, zf_r, Int.toNat_natCast, true_or, or_true, eq_self, u, h5]) <;> (first | omega | decide)))) | (with_reducible refine ok_f ?_ ?_; · (first | omega | ((try simp (disch := omega) only [w32_eq, w64_eq, ix_n, ix_e, sto_n, sto_e, sto_r, zf_r, Int.toNat_natCast, true_or, or_true, eq_self, u, h5]) <;> (first | omega | decide)))) | (with_reducible refine ok_ct ?_ ?_; · (first | omega | ((try simp (disch := omega) only [w32_eq, w64_eq, ix_n, ix_e, sto_n, sto_e, sto_r, zf_r, Int.toNat_natCast, true_or, or_true, eq_self, u, h5]) <;> (first | omega | decide)))) | (with_reducible refine ok_cf ?_ ?_; · (first | omega | ((try simp (disch := omega) only [w32_eq, w64_eq, ix_n, ix_e, sto_n, sto_e, sto_r, zf_r, Int.toNat_natCast, true_or, or_true, eq_self, u, h5]) <;> (first | omega | decide)))))
    rw [hj]
    simp (disch := decide) only [ei, sto_r]
    rw [h1 160 (by decide) (by decide), h1 144 (by decide) (by decide), h2, h3]
    refine ih f (i + 1) _ (by omega) (by omega) (fun c g1 g2 => ?_) ?_ ?_
    · rw [sto_r g2, sto_r g1]; exact h1 c g1 g2
    · rw [sto_r (by decide), sto_up, h2, adP_n0, adP_s0]
    · rw [sto_up, sto_r (by decide), h3, adP_n0, adP_s0]
theorem brg_le {F : Nat → Int → (Nat → Int) → Int} {M : Mem} {kw y : Int} (h : Gv F M kw y) (g : Int) {f : Nat} (hf : f < 20) : brgS M kw y g f ≤ 1200000 := by
  have := sm_ge (w := brgS M kw y g) 20 (fun f _ => brg_nn h g f) f hf
  rw [brg_tot h] at this
  have := brgT_b h g
  omega
theorem fsN_r {F : Nat → Int → (Nat → Int) → Int} {M : Mem} {kw y : Int} (h : Gv F M kw y) {f : Nat} (hf : f < 20) (n : Nat) : 0 ≤ fsN F M kw y f n ∧ fsN F M kw y f n ≤ 1200000000 * n := by
  have hq : ∀ g : Nat, 0 ≤ firS F y g * brgS M kw y g f ∧ firS F y g * brgS M kw y g f ≤ 1000 * 1200000 := fun g => mul_b (fir_b h g) ⟨brg_nn h g f, brg_le h g hf⟩
  refine ⟨sm_nn n (fun g _ => (hq g).1), ?_⟩
  have := sm_b (w := fun g : Nat => firS F y g * brgS M kw y g f) (c := 1200000000) n (fun g _ => (hq g).2)
  exact this
theorem paN_r {F : Nat → Int → (Nat → Int) → Int} {M : Mem} {kw y : Int} (h : Gv F M kw y) {f : Nat} (hf : f < 20) (n : Nat) : 0 ≤ paN F M kw y f n ∧ paN F M kw y f n ≤ 12000000000 * n :=
  ⟨pa_b h f n, sm_b (w := fun g : Nat => pgS F M kw y g f) (c := 12000000000) n (fun g _ => pg_le h hf)⟩
theorem pg_z {F : Nat → Int → (Nat → Int) → Int} {M : Mem} {kw y : Int} (h : Gv F M kw y) (g : Int) {f : Nat} (h0 : brgS M kw y g f = 0) : pgS F M kw y g f = 0 := by
  have := kep_b (g := g) h
  exact prtS_z (fun f => brg_nn h g f) h0 (by omega)
theorem las_z {F : Nat → Int → (Nat → Int) → Int} {M : Mem} {kw y : Int} (h : Gv F M kw y) {f : Nat} (hf : M 111 5 ≤ (f : Int)) (n : Nat) : fsN F M kw y f n = 0 ∧ paN F M kw y f n = 0 := by
  constructor
  · exact sm_0 n (fun g _ => by rw [brg_z h g hf, Int.mul_zero])
  · exact sm_0 n (fun g _ => pg_z h g (brg_z h g hf))
/-- what the model holds behind pay -/
def PY (F : Nat → Int → (Nat → Int) → Int) (R : Mem) (kw y : Int) (M : Mem) : Prop := PR R kw M ∧ (∀ f, f < 20 → w64 (M 161 f) = fsN F R kw y f 6 ∧ w64 (M 162 f) = lasS F R kw y f) ∧ (∀ f : Nat, (f : Int) < R 111 5 → M 163 f = oweS F R kw y f) ∧ w64 (M 111 77) = belS F R kw y ∧ M 111 78 = staS F R kw y
theorem l_pay309 {N : Nat} (hN : N ≤ 20) {B : Mem} (h5 : B 111 5 = (N : Int)) : ∀ (n fuel i : Nat) (M : Mem), i + n = N → n < fuel → (∀ c, c ≠ 163 → M c = B c) → (∀ f, f < i → M 163 f = B 144 f) → Ok (fix (fun _ _ => none) k_Mo_pay_309 fuel (i : Int) M) (fun _ M' => (∀ c, c ≠ 163 → M' c = B c) ∧ ∀ f, f < N → M' 163 f = B 144 f) := by
  intro n; induction n with
  | zero =>
    intro fuel i M e hf h1 h2
    have u := h1 111 (by decide)
    obtain ⟨f, rfl⟩ : ∃ f, fuel = f + 1 := ⟨fuel - 1, by omega⟩; rw [fix_s]; unfold k_Mo_pay_309
    repeat (first | with_reducible refine ok_let ?_ | with_reducible refine ok_cs ?_ | with_reducible refine ok_clet ?_ | with_reducible refine ok_cc ?_ | (with_reducible refine ok_chk ?_ ?_; · (first | omega | ((try simp (disch := omega) only [w32_eq, w64_eq, ix_n, ix_e, sto_n, sto_e, sto_r, zf_r, Int.toNat_natCast, true_or, or_true, eq_self, u, h5]) <;> (first | omega | decide)))) | (with_reducible refine ok_cchk ?_ ?_; · (first | omega | ((try simp (disch := omega) only [w32_eq, w64_eq, ix_n, ix_e, sto_n, sto_e, sto_r, zf_r, Int.toNat_natCast, true_or, or_true, eq_self, u, h5]) <;> (first | omega | decide)))) | (with_reducible refine ok_t ?_ ?_; · (first | omega | ((try simp (disch := omega) only [w32_eq, w64_eq, ix_n, ix_e, sto_n, sto_e, sto_r, zf_r, Int.toNat_natCast, true_or, or_true, eq_self, u, h5]) <;> (first | omega | decide)))) | (with_reducible refine ok_f ?_ ?_; · (first | omega | ((try simp (disch := omega) only [w32_eq, w64_eq, ix_n, ix_e, sto_n, sto_e, sto_r, zf_r, Int.toNat_natCast, true_or, or_true, eq_self, u, h5]) <;> (first | omega | decide)))) | (with_reducible refine ok_ct ?_ ?_; · (first | omega | ((try simp (disch := omega) only [w32_eq, w64_eq, ix_n, ix_e, sto_n, sto_e, sto_r, zf_r, Int.toNat_natCast, true_or, or_true, eq_self, u, h5]) <;> (first | omega | decide)))) | (with_reducible refine ok_cf ?_ ?_; · (first | omega | ((try simp (disch := omega) only [w32_eq, w64_eq, ix_n, ix_e, sto_n, sto_e, sto_r, zf_r, Int.toNat_natCast, true_or, or_true, eq_self, u, h5]) <;> (first | omega | decide)))))
    have : i = N := by omega
    subst this
    exact ok_ret ⟨h1, h2⟩
  | succ n ih =>
    intro fuel i M e hf h1 h2
    have u := h1 111 (by decide)
    obtain ⟨f, rfl⟩ : ∃ f, fuel = f + 1 := ⟨fuel - 1, by omega⟩; rw [fix_s]
    have hj : (i : Int) + 1 = ((i + 1 : Nat) : Int) := by omega
    unfold k_Mo_pay_309
    repeat (first | with_reducible refine ok_let ?_ | with_reducible refine ok_cs ?_ | with_reducible refine ok_clet ?_ | with_reducible refine ok_cc ?_ | (with_reducible refine ok_chk ?_ ?_; · (first | omega | ((try simp (disch := omega) only [w32_eq, w64_eq, ix_n, ix_e, sto_n, sto_e, sto_r, zf_r, Int.toNat_natCast, true_or, or_true, eq_self, u, h5]) <;> (first | omega | decide)))) | (with_reducible refine ok_cchk ?_ ?_; · (first | omega | ((try simp (disch := omega) only [w32_eq, w64_eq, ix_n, ix_e, sto_n, sto_e, sto_r, zf_r, Int.toNat_natCast, true_or, or_true, eq_self, u, h5]) <;> (first | omega | decide)))) | (with_reducible refine ok_t ?_ ?_; · (first | omega | ((try simp (disch := omega) only [w32_eq, w64_eq, ix_n, ix_e, sto_n, sto_e, sto_r, zf_r, Int.toNat_natCast, true_or, or_true, eq_self, u, h5]) <;> (first | omega | decide)))) | (with_reducible refine ok_f ?_ ?_; · (first | omega | ((try simp (disch := omega) only [w32_eq, w64_eq, ix_n, ix_e, sto_n, sto_e, sto_r, zf_r, Int.toNat_natCast, true_or, or_true, eq_self, u, h5]) <;> (first | omega | decide)))) | (with_reducible refine ok_ct ?_ ?_; · (first | omega | ((try simp (disch := omega) only [w32_eq, w64_eq, ix_n, ix_e, sto_n, sto_e, sto_r, zf_r, Int.toNat_natCast, true_or, or_true, eq_self, u, h5]) <;> (first | omega | decide)))) | (with_reducible refine ok_cf ?_ ?_; · (first | omega | ((try simp (disch := omega) only [w32_eq, w64_eq, ix_n, ix_e, sto_n, sto_e, sto_r, zf_r, Int.toNat_natCast, true_or, or_true, eq_self, u, h5]) <;> (first | omega | decide)))))
    rw [hj, ix_n (by omega), h1 144 (by decide)]
    refine ih f (i + 1) _ (by omega) (by omega) (fun c g1 => ?_) (fun g hg => ?_)
    · rw [sto_r g1]; exact h1 c g1
    · rw [sto_up]
      unfold up
      by_cases c : g = i
      · rw [if_pos c, c]
      · rw [if_neg c]; exact h2 g (by omega)
theorem mx64_w {x X : Int} (h : w64 x = X) : w64 (mx64 0 x) = mz X := by
  unfold mx64 mz; rw [h, show w64 0 = 0 from rfl]
  split
  · rfl
  · exact h
theorem l_pay208 {F : Nat → Int → (Nat → Int) → Int} {R B : Mem} {kw y : Int} (hv : Gv F R kw y) (hB : PR R kw B) (hAB : Ag TxL TxK R B) (hL : ∀ f, f < 20 → w64 (B 161 f) = fsN F R kw y f 6 ∧ w64 (B 162 f) = lasS F R kw y f) :
    ∀ (n fuel i : Nat) (a3 : Int) (M : Mem), i + n = 20 → n < fuel → w64 a3 = w64 (sm (lasS F R kw y) i) → (∀ c, c ≠ 143 → M c = B c) → (∀ f, f < i → w64 (M 143 f) = byS F R kw y f) →
    Ok (fix (fun _ _ _ _ => none) k_Mo_pay_208 fuel y a3 (i : Int) M) (fun _ M' => PY F R kw y M') := by
  have hy := hv.2.2.2.2.2
  have hP1 := hv.2.2.2.1.1
  intro n; induction n with
  | zero =>
    intro fuel i a3 M e hf ha3 hM h143
    have : i = 20 := by omega
    subst this
    have ht := tot_b hv
    have hb := bel_b hv
    have hby := by_b hv
    obtain ⟨N, hN⟩ : ∃ N : Nat, R 111 5 = (N : Int) := ⟨(R 111 5).toNat, by omega⟩
    rw [w64_eq (x := sm (lasS F R kw y) 20) (by omega) (by omega)] at ha3
    have hbel : w64 (mx64 0 (-a3)) = belS F R kw y := mx64_w (by rw [w64_neg, ha3, w64_eq (by omega) (by omega)])
    have hFM : Fr [143] [] B M := fun c hc j _ => by rw [hM c (by intro h; subst h; exact hc (by decide))]
    obtain ⟨f, rfl⟩ : ∃ f, fuel = f + 1 := ⟨fuel - 1, by omega⟩; rw [fix_s]; unfold k_Mo_pay_208
    repeat (first | with_reducible refine ok_let ?_ | with_reducible refine ok_cs ?_ | with_reducible refine ok_clet ?_ | with_reducible refine ok_cc ?_ | (with_reducible refine ok_chk ?_ ?_; · (first | omega | ((try simp (disch := omega) only [w32_eq, w64_eq, ix_n, ix_e, sto_n, sto_e, sto_r, zf_r, Int.toNat_natCast, true_or, or_true, eq_self]) <;> (first | omega | decide)))) | (with_reducible refine ok_cchk ?_ ?_; · (first | omega | ((try simp (disch := omega) only [w32_eq, w64_eq, ix_n, ix_e, sto_n, sto_e, sto_r, zf_r, Int.toNat_natCast, true_or, or_true, eq_self]) <;> (first | omega | decide)))) | (with_reducible refine ok_t ?_ ?_; · (first | omega | ((try simp (disch := omega) only [w32_eq, w64_eq, ix_n, ix_e, sto_n, sto_e, sto_r, zf_r, Int.toNat_natCast, true_or, or_true, eq_self]) <;> (first | omega | decide)))) | (with_reducible refine ok_f ?_ ?_; · (first | omega | ((try simp (disch := omega) only [w32_eq, w64_eq, ix_n, ix_e, sto_n, sto_e, sto_r, zf_r, Int.toNat_natCast, true_or, or_true, eq_self]) <;> (first | omega | decide)))) | (with_reducible refine ok_ct ?_ ?_; · (first | omega | ((try simp (disch := omega) only [w32_eq, w64_eq, ix_n, ix_e, sto_n, sto_e, sto_r, zf_r, Int.toNat_natCast, true_or, or_true, eq_self]) <;> (first | omega | decide)))) | (with_reducible refine ok_cf ?_ ?_; · (first | omega | ((try simp (disch := omega) only [w32_eq, w64_eq, ix_n, ix_e, sto_n, sto_e, sto_r, zf_r, Int.toNat_natCast, true_or, or_true, eq_self]) <;> (first | omega | decide)))))
    refine ok_call_eq s_spl3 ?_
    have hF1 : Fr [143] [(111, 77)] B (sto M 111 77 (mx64 0 (-a3))) := Fr.trans (hFM.mono (by decide) (by decide)) (fr_stoF (by decide))
    refine ok_call (s_ofYear 3 (Or.inr (Or.inr rfl)) rfl hv.1 (hAB.trans (hF1.ag (by decide) (by decide))) hy (by decide)) (fun v X h => ?_)
    obtain ⟨b1, F1⟩ := h
    repeat (first | with_reducible refine ok_let ?_ | with_reducible refine ok_cs ?_ | with_reducible refine ok_clet ?_ | with_reducible refine ok_cc ?_ | (with_reducible refine ok_chk ?_ ?_; · (first | omega | ((try simp (disch := omega) only [w32_eq, w64_eq, ix_n, ix_e, sto_n, sto_e, sto_r, zf_r, Int.toNat_natCast, true_or, or_true, eq_self]) <;> (first | omega | decide)))) | (with_reducible refine ok_cchk ?_ ?_; · (first | omega | ((try simp (disch := omega) only [w32_eq, w64_eq, ix_n, ix_e, sto_n, sto_e, sto_r, zf_r, Int.toNat_natCast, true_or, or_true, eq_self]) <;> (first | omega | decide)))) | (with_reducible refine ok_t ?_ ?_; · (first | omega | ((try simp (disch := omega) only [w32_eq, w64_eq, ix_n, ix_e, sto_n, sto_e, sto_r, zf_r, Int.toNat_natCast, true_or, or_true, eq_self]) <;> (first | omega | decide)))) | (with_reducible refine ok_f ?_ ?_; · (first | omega | ((try simp (disch := omega) only [w32_eq, w64_eq, ix_n, ix_e, sto_n, sto_e, sto_r, zf_r, Int.toNat_natCast, true_or, or_true, eq_self]) <;> (first | omega | decide)))) | (with_reducible refine ok_ct ?_ ?_; · (first | omega | ((try simp (disch := omega) only [w32_eq, w64_eq, ix_n, ix_e, sto_n, sto_e, sto_r, zf_r, Int.toNat_natCast, true_or, or_true, eq_self]) <;> (first | omega | decide)))) | (with_reducible refine ok_cf ?_ ?_; · (first | omega | ((try simp (disch := omega) only [w32_eq, w64_eq, ix_n, ix_e, sto_n, sto_e, sto_r, zf_r, Int.toNat_natCast, true_or, or_true, eq_self]) <;> (first | omega | decide)))))
    have e77 : X 111 77 = mx64 0 (-a3) := by rw [F1.f 111 77 (by decide) (by decide), sto_e]
    have esta : dv64 (sto M 111 77 (mx64 0 (-a3)) 111 77 * v) 1000 = staS F R kw y :=
      (dv64_w (X := belS F R kw y * F 3 (52 * y + 51) (qE 0 y)) (Y := 1000) (by rw [sto_e, w64_mul, b1, hbel, w64_eq (by omega) (by omega)]) (by decide) hb.2.2.1).1
    rw [esta, sto_n (by decide), sto_e, e77]
    have hF2 : Fr [143, 155, 156, 157, 158, 159] [(111, 72), (111, 77), (111, 78), (111, 108)] B (sto X 111 78 (staS F R kw y)) := Fr.trans (hF1.mono (by decide) (by decide)) (Fr.trans (F1.mono (by decide) (by decide)) (fr_stoF (by decide)))
    have hR2 : PR R kw (sto X 111 78 (staS F R kw y)) := hB.on hF2 (by decide) (by decide) (by decide)
    have h143' : ∀ f, f < N → w64 (sto X 111 78 (staS F R kw y) 143 f) = byS F R kw y f := fun f hf => by
      rw [sto_r (by decide), F1.c 143 (by decide) (by decide), sto_r (by decide)]; exact h143 f (by omega)
    have h161 : sto X 111 78 (staS F R kw y) 161 = B 161 := hF2.c 161 (by decide) (by decide)
    have h162 : sto X 111 78 (staS F R kw y) 162 = B 162 := hF2.c 162 (by decide) (by decide)
    have x77 : sto X 111 78 (staS F R kw y) 111 77 = mx64 0 (-a3) := by rw [sto_n (by decide)]; exact e77
    have x78 : sto X 111 78 (staS F R kw y) 111 78 = staS F R kw y := sto_e
    have x5 : sto X 111 78 (staS F R kw y) 111 5 = (N : Int) := by rw [hR2.1.f 111 5 (by decide)]; exact hN
    generalize sto X 111 78 (staS F R kw y) = Y at *
    obtain ⟨D, hD⟩ : ∃ D : Nat, 20 = N + D := ⟨20 - N, by omega⟩
    have hbz : ∀ f, N ≤ f → f < N + D → byS F R kw y f = 0 := fun f h1 h2 => by
      have := las_z hv (f := f) (by omega) 6
      unfold byS lasS; rw [if_pos (by omega), this.1, this.2]; rfl
    have hsm : sm (byS F R kw y) N = sm (byS F R kw y) 20 := by
      rw [hD, sm_split, sm_0 D (fun i hi => hbz (N + i) (by omega) (by omega))]; omega
    have h0 := sm_nn (w := byS F R kw y) 20 (fun f _ => hby.1 f)
    refine ok_call (s_partsW (n := N) (much := belS F R kw y - staS F R kw y) (by omega) x5 h143' (by rw [w64_sub, hbel, w64_eq (x := staS F R kw y) (by omega) (by omega), w64_eq (by omega) (by omega)]) hby.1 (by omega) (by rw [hsm]; omega) ?_ (by omega)) (fun v2 Z h => ?_)
    · rw [hsm]
      have := mul_b (x := belS F R kw y - staS F R kw y) (y := sm (byS F R kw y) 20) (a := 1200000000) (b := 1200000000) (by omega) ⟨h0, hby.2⟩
      omega
    · obtain ⟨b2, F2⟩ := h
      refine ok_mono (l_pay309 (N := N) (by omega) (B := Z) (by rw [F2.f 111 5 (by decide) (by decide)]; exact x5) N FU 0 Z (by omega) (by unfold FU; omega) (fun _ _ => rfl) (fun f hf => by omega)) (fun v3 W h => ?_)
      obtain ⟨z1, z2⟩ := h
      have hFW : Fr [144, 145, 163] [] Y W := Fr.trans (F2.mono (by decide) (by decide)) (fun c hc j _ => by rw [z1 c (by intro h; subst h; exact hc (by decide))])
      refine ⟨hR2.on hFW (by decide) (by decide) (by decide), fun f hf => ?_, fun f hf => ?_, ?_, ?_⟩
      · rw [hFW.c 161 (by decide) (by decide), hFW.c 162 (by decide) (by decide), h161, h162]; exact hL f hf
      · rw [z2 f (by omega), b2 f (by omega)]
        unfold oweS
        rw [hD, prtS_ext hby.1 hbz]
      · rw [hFW.f 111 77 (by decide) (by decide), x77]; exact hbel
      · rw [hFW.f 111 78 (by decide) (by decide)]; exact x78
  | succ n ih =>
    intro fuel i a3 M e hf ha3 hM h143
    have hj : (i : Int) + 1 = ((i + 1 : Nat) : Int) := by omega
    have hl := las_b hv (f := i) (by omega)
    have hq := (hL i (by omega)).2
    obtain ⟨f, rfl⟩ : ∃ f, fuel = f + 1 := ⟨fuel - 1, by omega⟩; rw [fix_s]; unfold k_Mo_pay_208
    repeat (first | with_reducible refine ok_let ?_ | with_reducible refine ok_cs ?_ | with_reducible refine ok_clet ?_ | with_reducible refine ok_cc ?_ | (with_reducible refine ok_chk ?_ ?_; · (first | omega | ((try simp (disch := omega) only [w32_eq, w64_eq, ix_n, ix_e, sto_n, sto_e, sto_r, zf_r, Int.toNat_natCast, true_or, or_true, eq_self]) <;> (first | omega | decide)))) | (with_reducible refine ok_cchk ?_ ?_; · (first | omega | ((try simp (disch := omega) only [w32_eq, w64_eq, ix_n, ix_e, sto_n, sto_e, sto_r, zf_r, Int.toNat_natCast, true_or, or_true, eq_self]) <;> (first | omega | decide)))) | (with_reducible refine ok_t ?_ ?_; · (first | omega | ((try simp (disch := omega) only [w32_eq, w64_eq, ix_n, ix_e, sto_n, sto_e, sto_r, zf_r, Int.toNat_natCast, true_or, or_true, eq_self]) <;> (first | omega | decide)))) | (with_reducible refine ok_f ?_ ?_; · (first | omega | ((try simp (disch := omega) only [w32_eq, w64_eq, ix_n, ix_e, sto_n, sto_e, sto_r, zf_r, Int.toNat_natCast, true_or, or_true, eq_self]) <;> (first | omega | decide)))) | (with_reducible refine ok_ct ?_ ?_; · (first | omega | ((try simp (disch := omega) only [w32_eq, w64_eq, ix_n, ix_e, sto_n, sto_e, sto_r, zf_r, Int.toNat_natCast, true_or, or_true, eq_self]) <;> (first | omega | decide)))) | (with_reducible refine ok_cf ?_ ?_; · (first | omega | ((try simp (disch := omega) only [w32_eq, w64_eq, ix_n, ix_e, sto_n, sto_e, sto_r, zf_r, Int.toNat_natCast, true_or, or_true, eq_self]) <;> (first | omega | decide)))))
    rw [hj, ix_n (by omega), hM 162 (by decide)]
    refine ih f (i + 1) _ _ (by omega) (by omega) ?_ (fun c hc => ?_) (fun f hf => ?_)
    · rw [w64_add, ha3, hq]
      show _ = w64 (sm (lasS F R kw y) i + lasS F R kw y i)
      unfold w64; omega
    · rw [sto_r hc]; exact hM c hc
    · rw [sto_up]; unfold up; split
      · rename_i c; rw [c]; unfold byS; rw [if_pos (by omega)]
        exact mx64_w (by rw [w64_neg, hq, w64_eq (by omega) (by omega)])
      · exact h143 f (by omega)
theorem l_pay42 {F : Nat → Int → (Nat → Int) → Int} {R : Mem} {kw y : Int} (hv : Gv F R kw y) : ∀ (n fuel g : Nat) (M : Mem), g + n = 6 → n < fuel → PR R kw M → Ag TxL TxK R M → (∀ f, f < 20 → w64 (M 161 f) = fsN F R kw y f g ∧ w64 (M 162 f) = paN F R kw y f g - fsN F R kw y f g) →
    Ok (fix (fun _ _ _ _ => none) k_Mo_pay_42 fuel y kw (g : Int) M) (fun _ M' => PY F R kw y M') := by
  have hy := hv.2.2.2.2.2
  have hP1 := hv.2.2.2.1.1
  obtain ⟨N, hN⟩ : ∃ N : Nat, R 111 5 = (N : Int) := ⟨(R 111 5).toNat, by omega⟩
  intro n; induction n with
  | zero =>
    intro fuel g M e hf hR hA hL
    have : g = 6 := by omega
    subst this
    obtain ⟨f, rfl⟩ : ∃ f, fuel = f + 1 := ⟨fuel - 1, by omega⟩; rw [fix_s]; unfold k_Mo_pay_42
    repeat (first | with_reducible refine ok_let ?_ | with_reducible refine ok_cs ?_ | with_reducible refine ok_clet ?_ | with_reducible refine ok_cc ?_ | (with_reducible refine ok_chk ?_ ?_; · (first | omega | ((try simp (disch := omega) only [w32_eq, w64_eq, ix_n, ix_e, sto_n, sto_e, sto_r, zf_r, Int.toNat_natCast, true_or, or_true, eq_self]) <;> (first | omega | decide)))) | (with_reducible refine ok_cchk ?_ ?_; · (first | omega | ((try simp (disch := omega) only [w32_eq, w64_eq, ix_n, ix_e, sto_n, sto_e, sto_r, zf_r, Int.toNat_natCast, true_or, or_true, eq_self]) <;> (first | omega | decide)))) | (with_reducible refine ok_t ?_ ?_; · (first | omega | ((try simp (disch := omega) only [w32_eq, w64_eq, ix_n, ix_e, sto_n, sto_e, sto_r, zf_r, Int.toNat_natCast, true_or, or_true, eq_self]) <;> (first | omega | decide)))) | (with_reducible refine ok_f ?_ ?_; · (first | omega | ((try simp (disch := omega) only [w32_eq, w64_eq, ix_n, ix_e, sto_n, sto_e, sto_r, zf_r, Int.toNat_natCast, true_or, or_true, eq_self]) <;> (first | omega | decide)))) | (with_reducible refine ok_ct ?_ ?_; · (first | omega | ((try simp (disch := omega) only [w32_eq, w64_eq, ix_n, ix_e, sto_n, sto_e, sto_r, zf_r, Int.toNat_natCast, true_or, or_true, eq_self]) <;> (first | omega | decide)))) | (with_reducible refine ok_cf ?_ ?_; · (first | omega | ((try simp (disch := omega) only [w32_eq, w64_eq, ix_n, ix_e, sto_n, sto_e, sto_r, zf_r, Int.toNat_natCast, true_or, or_true, eq_self]) <;> (first | omega | decide)))))
    exact l_pay208 hv hR hA hL 20 FU 0 0 M (by omega) (by unfold FU; omega) rfl (fun _ _ => rfl) (fun f hf => by omega)
  | succ n ih =>
    intro fuel g M e hf hR hA hL
    have hg : 0 ≤ (g : Int) ∧ (g : Int) ≤ 5 := by omega
    have hj : (g : Int) + 1 = ((g + 1 : Nat) : Int) := by omega
    have hk := kep_b (g := g) hv
    have hc := cam_b (g := g) hv
    have hbt := brgT_b hv g
    obtain ⟨f, rfl⟩ : ∃ f, fuel = f + 1 := ⟨fuel - 1, by omega⟩; rw [fix_s]; unfold k_Mo_pay_42
    repeat (first | with_reducible refine ok_let ?_ | with_reducible refine ok_cs ?_ | with_reducible refine ok_clet ?_ | with_reducible refine ok_cc ?_ | (with_reducible refine ok_chk ?_ ?_; · (first | omega | ((try simp (disch := omega) only [w32_eq, w64_eq, ix_n, ix_e, sto_n, sto_e, sto_r, zf_r, Int.toNat_natCast, true_or, or_true, eq_self]) <;> (first | omega | decide)))) | (with_reducible refine ok_cchk ?_ ?_; · (first | omega | ((try simp (disch := omega) only [w32_eq, w64_eq, ix_n, ix_e, sto_n, sto_e, sto_r, zf_r, Int.toNat_natCast, true_or, or_true, eq_self]) <;> (first | omega | decide)))) | (with_reducible refine ok_t ?_ ?_; · (first | omega | ((try simp (disch := omega) only [w32_eq, w64_eq, ix_n, ix_e, sto_n, sto_e, sto_r, zf_r, Int.toNat_natCast, true_or, or_true, eq_self]) <;> (first | omega | decide)))) | (with_reducible refine ok_f ?_ ?_; · (first | omega | ((try simp (disch := omega) only [w32_eq, w64_eq, ix_n, ix_e, sto_n, sto_e, sto_r, zf_r, Int.toNat_natCast, true_or, or_true, eq_self]) <;> (first | omega | decide)))) | (with_reducible refine ok_ct ?_ ?_; · (first | omega | ((try simp (disch := omega) only [w32_eq, w64_eq, ix_n, ix_e, sto_n, sto_e, sto_r, zf_r, Int.toNat_natCast, true_or, or_true, eq_self]) <;> (first | omega | decide)))) | (with_reducible refine ok_cf ?_ ?_; · (first | omega | ((try simp (disch := omega) only [w32_eq, w64_eq, ix_n, ix_e, sto_n, sto_e, sto_r, zf_r, Int.toNat_natCast, true_or, or_true, eq_self]) <;> (first | omega | decide)))))
    refine ok_call_eq (s_came hv hR hg) ?_
    refine ok_call (s_kept hv hR hA hg) (fun v1 M1 h => ?_)
    obtain ⟨b1, F1⟩ := h
    rw [b1]
    repeat (first | with_reducible refine ok_let ?_ | with_reducible refine ok_cs ?_ | with_reducible refine ok_clet ?_ | with_reducible refine ok_cc ?_ | (with_reducible refine ok_chk ?_ ?_; · (first | omega | ((try simp (disch := omega) only [w32_eq, w64_eq, ix_n, ix_e, sto_n, sto_e, sto_r, zf_r, Int.toNat_natCast, true_or, or_true, eq_self]) <;> (first | omega | decide)))) | (with_reducible refine ok_cchk ?_ ?_; · (first | omega | ((try simp (disch := omega) only [w32_eq, w64_eq, ix_n, ix_e, sto_n, sto_e, sto_r, zf_r, Int.toNat_natCast, true_or, or_true, eq_self]) <;> (first | omega | decide)))) | (with_reducible refine ok_t ?_ ?_; · (first | omega | ((try simp (disch := omega) only [w32_eq, w64_eq, ix_n, ix_e, sto_n, sto_e, sto_r, zf_r, Int.toNat_natCast, true_or, or_true, eq_self]) <;> (first | omega | decide)))) | (with_reducible refine ok_f ?_ ?_; · (first | omega | ((try simp (disch := omega) only [w32_eq, w64_eq, ix_n, ix_e, sto_n, sto_e, sto_r, zf_r, Int.toNat_natCast, true_or, or_true, eq_self]) <;> (first | omega | decide)))) | (with_reducible refine ok_ct ?_ ?_; · (first | omega | ((try simp (disch := omega) only [w32_eq, w64_eq, ix_n, ix_e, sto_n, sto_e, sto_r, zf_r, Int.toNat_natCast, true_or, or_true, eq_self]) <;> (first | omega | decide)))) | (with_reducible refine ok_cf ?_ ?_; · (first | omega | ((try simp (disch := omega) only [w32_eq, w64_eq, ix_n, ix_e, sto_n, sto_e, sto_r, zf_r, Int.toNat_natCast, true_or, or_true, eq_self]) <;> (first | omega | decide)))))
    refine ok_call_eq s_spl1 ?_
    refine ok_call (s_ofYear 1 (Or.inl rfl) rfl hv.1 (hA.trans (F1.ag (by decide) (by decide))) hy hg) (fun v2 M2 h => ?_)
    obtain ⟨b2, F2⟩ := h
    have F12 : Fr [155, 156, 157, 158, 159] [(111, 72), (111, 108)] M M2 := F1.trans F2
    refine ok_call (s_bring hv (hR.on F12 (by decide) (by decide) (by decide)) hg) (fun v3 M3 h => ?_)
    obtain ⟨⟨-, b3⟩, F3⟩ := h
    have F13 : Fr [155, 156, 157, 158, 159, 160] [(111, 72), (111, 108)] M M3 := Fr.trans (F12.mono (by decide) (by decide)) (F3.mono (by decide) (by decide))
    have hR3 : PR R kw M3 := hR.on F13 (by decide) (by decide) (by decide)
    refine l_pay98 (B := M3) (fun M4 h1 h2 => ?_) 20 FU 0 M3 (by omega) (by unfold FU; omega) (fun _ _ => rfl) (fun f hf => by omega)
    have F34 : Fr [143] [] M3 M4 := fun c hc j _ => by rw [h1 c (by intro h; subst h; exact hc (by decide))]
    have hR4 := hR3.on F34 (by decide) (by decide) (by decide)
    obtain ⟨D, hD⟩ : ∃ D : Nat, 20 = N + D := ⟨20 - N, by omega⟩
    have hbz : ∀ f, N ≤ f → f < N + D → brgS R kw y (g : Int) f = 0 := fun f h1 h2 => brg_z hv g (by omega)
    have hsm : sm (brgS R kw y (g : Int)) N = brgT R kw y g (knN R kw) := by
      rw [← brg_tot hv, hD, sm_split, sm_0 D (fun i hi => hbz (N + i) (by omega) (by omega))]; omega
    refine ok_call (s_parts (n := N) (by omega) (w := brgS R kw y (g : Int)) (by rw [hR4.1.f 111 5 (by decide)]; exact hN) (fun f hf => by rw [h2 f (by omega)]; exact b3 f (by omega)) (fun f => brg_nn hv g f) (by omega) (by rw [hsm]; omega) ?_ (by omega)) (fun v5 M5 h => ?_)
    · rw [hsm]
      have := mul_b (x := camS R kw y g - kepS F R kw y g) (y := brgT R kw y g (knN R kw)) (a := 12000000000) (b := 1200000) (by omega) hbt
      omega
    · obtain ⟨b5, F5⟩ := h
      have hR5 := hR4.on F5 (by decide) (by decide) (by decide)
      have F15 : Fr [143, 144, 145, 155, 156, 157, 158, 159, 160] [(111, 72), (111, 108)] M M5 := Fr.trans (F13.mono (by decide) (by decide)) (Fr.trans (F34.mono (by decide) (by decide)) (F5.mono (by decide) (by decide)))
      have e144 : ∀ f, f < N → M5 144 f = pgS F R kw y (g : Int) f := fun f hf => by
        rw [b5 f hf]; unfold pgS; rw [hD, prtS_ext (fun f => brg_nn hv g f) hbz]
      have e160 : ∀ f, f < 20 → M5 160 f = brgS R kw y (g : Int) f := fun f hf => by
        rw [F5.c 160 (by decide) (by decide), h1 160 (by decide)]; exact b3 f hf
      refine l_pay134 (N := N) (by omega) (B := M5) (by rw [hR5.1.f 111 5 (by decide)]; exact hN) (fun M6 z1 z2 z3 => ?_) N FU 0 M5 (by omega) (by unfold FU; omega) (fun _ _ _ => rfl) adP_0.symm adP_0.symm
      have F56 : Fr [161, 162] [] M5 M6 := fun c hc j _ => by rw [z1 c (by intro h; subst h; exact hc (by decide)) (by intro h; subst h; exact hc (by decide))]
      rw [hj]
      refine ih f (g + 1) M6 (by omega) (by omega) (hR5.on F56 (by decide) (by decide) (by decide)) (hA.trans ((Fr.trans (F15.mono (A' := [143, 144, 145, 155, 156, 157, 158, 159, 160, 161, 162]) (F' := [(111, 72), (111, 108)]) (by decide) (by decide)) (F56.mono (by decide) (by decide))).ag (by decide) (by decide))) (fun f hf => ?_)
      obtain ⟨q1, q2⟩ := hL f hf
      have r1 := fsN_r hv hf g
      have r2 := fsN_r hv hf (g + 1)
      have r3 := paN_r hv hf g
      have r4 := paN_r hv hf (g + 1)
      have s1 : fsN F R kw y f (g + 1) = fsN F R kw y f g + firS F y g * brgS R kw y g f := rfl
      have s2 : paN F R kw y f (g + 1) = paN F R kw y f g + pgS F R kw y g f := rfl
      rw [z2, z3, F15.c 161 (by decide) (by decide), F15.c 162 (by decide) (by decide)]
      unfold adP
      by_cases c : f < N
      · rw [if_pos (by omega), if_pos (by omega), show f - 0 = f by omega]
        show w64 (M 161 f + v2 * M5 160 f) = _ ∧ w64 (M 162 f + (M5 144 f - v2 * M5 160 f)) = _
        rw [e160 f hf, e144 f c]
        have hb := brg_le hv g hf
        have hb0 := brg_nn hv g f
        have hfb := fir_b hv g
        have hm := mul_b (x := firS F y g) (y := brgS R kw y g f) hfb ⟨hb0, hb⟩
        have ew : w64 (v2 * brgS R kw y g f) = firS F y g * brgS R kw y g f := by
          rw [w64_mul, b2, w64_eq (x := brgS R kw y g f) (by omega) (by omega)]
          exact w64_eq (x := firS F y g * brgS R kw y g f) (by omega) (by omega)
        have hpg := pg_b (g := (g : Int)) hv f
        have hpl := pg_le (g := (g : Int)) hv hf
        constructor
        · rw [w64_add, q1, ew, s1, w64_eq (by omega) (by omega)]
        · rw [w64_add, q2, w64_sub, ew, w64_eq (x := pgS F R kw y g f) (by omega) (by omega), w64_eq (x := pgS F R kw y g f - _) (by omega) (by omega), s1, s2, w64_eq (by omega) (by omega)]; omega
      · rw [if_neg (by omega), if_neg (by omega), q1, q2, s1, s2, brg_z hv g (by omega), pg_z hv g (brg_z hv g (by omega)), Int.mul_zero]; omega
theorem s_pay {F : Nat → Int → (Nat → Int) → Int} {R : Mem} {kw y : Int} (hv : Gv F R kw y) : Ok (d_Mo_pay y kw R) (fun _ M' => PY F R kw y M') := by
  unfold d_Mo_pay
  refine ok_call (s_play hv.1 hv.2.1 hv.2.2.1 hv.2.2.2.1 hv.2.2.2.2.1) (fun v M h => ?_)
  obtain ⟨rr, hF⟩ := h
  have hR : PR R kw M := ⟨hF.ag (by decide) (by decide), rr.2.2.2.2⟩
  have hA : Ag TxL TxK R M := hF.ag (by decide) (by decide)
  refine l_pay7 (B := M) (fun M1 h1 h2 => ?_) 20 FU 0 M (by omega) (by unfold FU; omega) (fun _ _ _ _ => rfl) (fun f hf => by omega)
  have F1 : Fr [161, 162, 163] [] M M1 := fun c hc j _ => by rw [h1 c (by intro h; subst h; exact hc (by decide)) (by intro h; subst h; exact hc (by decide)) (by intro h; subst h; exact hc (by decide))]
  refine l_pay42 hv 6 FU 0 M1 (by omega) (by unfold FU; omega) (hR.on F1 (by decide) (by decide) (by decide)) (hA.trans (F1.ag (by decide) (by decide))) (fun f hf => ?_)
  rw [(h2 f hf).1, (h2 f hf).2.1]; exact ⟨rfl, rfl⟩
