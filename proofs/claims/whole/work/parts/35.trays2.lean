/-! TRAYS: the two sides agree -/
def Simi (f g : Mem → Res) (M : Mem) (P : Mem → Prop) : Prop := ∃ v M1 w M2, f M = some (v, M1) ∧ g M1 = some (w, M2) ∧ w32 v = w32 w ∧ M2 0 0 = M2 111 0 ∧ P M2
def Siml (f g : Mem → Res) (M : Mem) (P : Mem → Prop) : Prop := ∃ v M1 w M2, f M = some (v, M1) ∧ g M1 = some (w, M2) ∧ w64 v = w64 w ∧ M2 0 0 = M2 111 0 ∧ P M2
/-- TRAYS: lengths (-1: MISSING), sorts, numbers -/
def IvT (M : Mem) : Prop := (∀ t : Nat, t < 4 → M 3 t = M 113 t ∧ M 2 t = M 112 t ∧ -1 ≤ M 3 t ∧ M 3 t ≤ 40 ∧ 0 ≤ M 2 t ∧ M 2 t ≤ 3) ∧ ∀ i : Nat, i < 160 → M 4 i = M 114 i
theorem IvT.cong {M M' : Mem} (h : IvT M) (e2 : M' 2 = M 2) (e3 : M' 3 = M 3) (e4 : M' 4 = M 4) (f2 : M' 112 = M 112) (f3 : M' 113 = M 113) (f4 : M' 114 = M 114) : IvT M' := by
  unfold IvT at h ⊢; rw [e2, e3, e4, f2, f3, f4]; exact h
theorem IvT.s0 {M : Mem} {v : Int} (h : IvT M) : IvT (sto M 0 0 v) := h.cong (sto_r (by decide)) (sto_r (by decide)) (sto_r (by decide)) (sto_r (by decide)) (sto_r (by decide)) (sto_r (by decide))
theorem IvT.s1 {M : Mem} {j : Nat} {v : Int} (h : IvT M) : IvT (sto M 111 j v) := h.cong (sto_r (by decide)) (sto_r (by decide)) (sto_r (by decide)) (sto_r (by decide)) (sto_r (by decide)) (sto_r (by decide))
/-- the loops that lay 0 -/
theorem l_Tr_make {a1 : Int} {k : Nat} (h1 : 0 ≤ a1 ∧ a1 ≤ 3) (hk : k ≤ 40) : ∀ (n fuel i : Nat) (M : Mem), i + n = k → n < fuel → fix (fun _ _ _ _ => none) k_Tr_make_17 fuel a1 (k : Int) (i : Int) M = some (0, zf M 4 (40 * a1.toNat + i) (40 * a1.toNat + k) 0) := by
  intro n
  induction n with
  | zero =>
    intro fuel i M e h
    obtain ⟨f, rfl⟩ : ∃ f, fuel = f + 1 := ⟨fuel - 1, by omega⟩
    rw [fix_s]; unfold k_Tr_make_17
    simp (disch := omega) only [w32_eq, if_neg]
    rw [show i = k by omega, zf_0]
  | succ n ih =>
    intro fuel i M e h
    obtain ⟨f, rfl⟩ : ∃ f, fuel = f + 1 := ⟨fuel - 1, by omega⟩
    rw [fix_s]; unfold k_Tr_make_17
    simp (disch := omega) only [w32_eq, if_pos, chk_t, blet_s, ix_e]
    rw [show (a1 * 40 + (i : Int)).toNat = 40 * a1.toNat + i by omega]
    have q := ih f (i + 1) (sto M 4 (40 * a1.toNat + i) 0) (by omega) (by omega)
    rw [show 40 * a1.toNat + (i + 1) = 40 * a1.toNat + i + 1 by omega, zf_s (by omega)] at q
    exact q
theorem l_Mo_tray {a1 : Int} {k : Nat} (h1 : 0 ≤ a1 ∧ a1 ≤ 3) (hk : k ≤ 40) : ∀ (n fuel i : Nat) (M : Mem), i + n = k → n < fuel → fix (fun _ _ _ _ => none) k_Mo_tray_74 fuel a1 (k : Int) (i : Int) M = some (1, zf M 114 (40 * a1.toNat + i) (40 * a1.toNat + k) 0) := by
  intro n
  induction n with
  | zero =>
    intro fuel i M e h
    obtain ⟨f, rfl⟩ : ∃ f, fuel = f + 1 := ⟨fuel - 1, by omega⟩
    rw [fix_s]; unfold k_Mo_tray_74
    simp (disch := omega) only [w32_eq, if_neg]
    rw [show i = k by omega, zf_0]
  | succ n ih =>
    intro fuel i M e h
    obtain ⟨f, rfl⟩ : ∃ f, fuel = f + 1 := ⟨fuel - 1, by omega⟩
    rw [fix_s]; unfold k_Mo_tray_74
    simp (disch := omega) only [w32_eq, if_pos, chk_t, blet_s, ix_e]
    rw [show (40 * a1 + (i : Int)).toNat = 40 * a1.toNat + i by omega]
    have q := ih f (i + 1) (sto M 114 (40 * a1.toNat + i) 0) (by omega) (by omega)
    rw [show 40 * a1.toNat + (i + 1) = 40 * a1.toNat + i + 1 by omega, zf_s (by omega)] at q
    exact q
theorem s_Tr_make {a1 a2 a3 : Int} {M : Mem} (h1 : 0 ≤ a1 ∧ a1 ≤ 3) (h3 : 0 ≤ a3 ∧ a3 ≤ 40) : d_Tr_make a1 a2 a3 M = some (0, zf (sto (sto M 2 a1.toNat a2) 3 a1.toNat a3) 4 (40 * a1.toNat) (40 * a1.toNat + a3.toNat) 0) := by
  unfold d_Tr_make
  simp (disch := omega) only [w32_eq, chk_t, blet_s, ix_e]
  have q := l_Tr_make h1 (k := a3.toNat) (by omega) a3.toNat FU 0 (sto (sto M 2 a1.toNat a2) 3 a1.toNat a3) (by omega) (by unfold FU; omega)
  rw [show ((a3.toNat : Nat) : Int) = a3 by omega] at q
  exact q
theorem sim_tray {M : Mem} {a1 a2 a3 : Int} (i1 : I32 a1) (i2 : I32 a2) (i3 : I32 a3) (hT : IvT M) : Simi (d_PP_tray a1 a2 a3) (d_Mo_tray a1 a2 a3) M IvT := by
  obtain ⟨i1, j1⟩ := i1; obtain ⟨i2, j2⟩ := i2; obtain ⟨i3, j3⟩ := i3
  by_cases h1 : 0 ≤ a1 ∧ a1 ≤ 3
  · by_cases h2 : 0 ≤ a2 ∧ a2 ≤ 3
    · by_cases h3 : 40 < a3
      · refine ⟨0, sto M 0 0 5, 0, sto (sto (sto (sto M 0 0 5) 111 1 0) 111 0 0) 111 0 5, ?_, ?_, rfl, rfl, hT.s0.s1.s1.s1⟩
        · unfold d_PP_tray k_PP_tray_23 k_PP_tray_55
          simp (disch := omega) only [s_PP_isIn, bcall_s, Bz_t, w32_eq, if_pos, if_neg, blet_s, sto_e, if_true, if_false]
        · unfold d_Mo_tray d_Mo_no
          simp (disch := omega) only [bcall_s, w32_eq, if_pos, if_neg, blet_s, chk_t, chk_T, true_or, or_true, if_true, if_false]
      · by_cases h4 : a3 < 0
        · refine ⟨0, sto M 0 0 6, 0, sto (sto (sto (sto M 0 0 6) 111 1 0) 111 0 0) 111 0 6, ?_, ?_, rfl, rfl, hT.s0.s1.s1.s1⟩
          · unfold d_PP_tray k_PP_tray_23 k_PP_tray_55
            simp (disch := omega) only [s_PP_isIn, bcall_s, Bz_t, w32_eq, if_pos, if_neg, blet_s, sto_e, if_true, if_false]
          · unfold d_Mo_tray d_Mo_no
            simp (disch := omega) only [bcall_s, w32_eq, if_pos, if_neg, blet_s, chk_t, chk_T, true_or, or_true, if_true, if_false]
        · refine ⟨1, zf (sto (sto (sto M 0 0 0) 2 a1.toNat a2) 3 a1.toNat a3) 4 (40 * a1.toNat) (40 * a1.toNat + a3.toNat) 0, 1, zf (sto (sto (sto (sto (zf (sto (sto (sto M 0 0 0) 2 a1.toNat a2) 3 a1.toNat a3) 4 (40 * a1.toNat) (40 * a1.toNat + a3.toNat) 0) 111 1 0) 111 0 0) 112 a1.toNat a2) 113 a1.toNat a3) 114 (40 * a1.toNat) (40 * a1.toNat + a3.toNat) 0, ?_, ?_, rfl, ?_, ?_⟩
          · unfold d_PP_tray k_PP_tray_23 k_PP_tray_55
            simp (disch := omega) only [s_PP_isIn, bcall_s, Bz_t, w32_eq, if_pos, if_neg, blet_s, sto_e, s_Tr_make, if_true, if_false]
          · unfold d_Mo_tray
            simp (disch := omega) only [bcall_s, w32_eq, if_pos, if_neg, blet_s, chk_t, ix_e]
            have q := l_Mo_tray h1 (k := a3.toNat) (by omega) a3.toNat FU 0 (sto (sto (sto (sto (zf (sto (sto (sto M 0 0 0) 2 a1.toNat a2) 3 a1.toNat a3) 4 (40 * a1.toNat) (40 * a1.toNat + a3.toNat) 0) 111 1 0) 111 0 0) 112 a1.toNat a2) 113 a1.toNat a3) (by omega) (by unfold FU; omega)
            rw [show ((a3.toNat : Nat) : Int) = a3 by omega] at q
            exact q
          · rfl
          · obtain ⟨hT1, hT2⟩ := hT
            refine ⟨fun t ht => ?_, fun i hi => ?_⟩
            · have := hT1 t ht
              simp only [zf, sto]
              by_cases e : t = a1.toNat
              · subst e; simp; omega
              · simp [e]; omega
            · have := hT2 i hi
              simp only [zf, sto]
              by_cases e : 40 * a1.toNat ≤ i ∧ i < 40 * a1.toNat + a3.toNat
              · simp [e]
              · simp [e]; exact this
    · refine ⟨0, sto M 0 0 1, 0, sto (sto (sto (sto M 0 0 1) 111 1 0) 111 0 0) 111 0 1, ?_, ?_, rfl, rfl, hT.s0.s1.s1.s1⟩
      · unfold d_PP_tray k_PP_tray_22 k_PP_tray_23 k_PP_tray_55
        simp (disch := omega) only [s_PP_isIn, bcall_s, Bz_t, Bz_f, w32_eq, if_pos, if_neg, blet_s, sto_e, if_true, if_false]
      · unfold d_Mo_tray k_Mo_tray_28 d_Mo_no
        by_cases h3 : a2 < 0
        · simp (disch := omega) only [bcall_s, w32_eq, if_pos, if_neg, blet_s, chk_t, chk_T, true_or, or_true, if_true, if_false]
        · simp (disch := omega) only [bcall_s, w32_eq, if_pos, if_neg, blet_s, chk_t, chk_T, true_or, or_true, if_true, if_false]
  · refine ⟨0, sto M 0 0 1, 0, sto (sto (sto (sto M 0 0 1) 111 1 0) 111 0 0) 111 0 1, ?_, ?_, rfl, rfl, hT.s0.s1.s1.s1⟩
    · unfold d_PP_tray k_PP_tray_22 k_PP_tray_23 k_PP_tray_55
      simp (disch := omega) only [s_PP_isIn, bcall_s, Bz_t, Bz_f, w32_eq, if_pos, if_neg, blet_s, sto_e, if_true, if_false]
    · unfold d_Mo_tray k_Mo_tray_28 d_Mo_no
      by_cases h3 : a1 < 0
      · simp (disch := omega) only [bcall_s, w32_eq, if_pos, if_neg, blet_s, chk_t, chk_T, true_or, or_true, if_true, if_false]
      · simp (disch := omega) only [bcall_s, w32_eq, if_pos, if_neg, blet_s, chk_t, chk_T, true_or, or_true, if_true, if_false]
