/-! TRAYS: the two sides agree -/
def Simi (f g : Mem → Res) (M : Mem) (P : Mem → Prop) : Prop := ∃ v M1 w M2, f M = some (v, M1) ∧ g M1 = some (w, M2) ∧ w32 v = w32 w ∧ M2 0 0 = M2 111 0 ∧ P M2
def Siml (f g : Mem → Res) (M : Mem) (P : Mem → Prop) : Prop := ∃ v M1 w M2, f M = some (v, M1) ∧ g M1 = some (w, M2) ∧ w64 v = w64 w ∧ M2 0 0 = M2 111 0 ∧ P M2
/-- TRAYS: lengths (-1: MISSING) and sorts -/
def TrR (L S : Nat → Int) : Prop := ∀ t : Nat, t < 4 → -1 ≤ L t ∧ L t ≤ 40 ∧ 0 ≤ S t ∧ S t ≤ 3
def IvT (M : Mem) : Prop := TrR (M 113) (M 112) ∧ (∀ t : Nat, t < 4 → M 3 t = M 113 t ∧ M 2 t = M 112 t) ∧ ∀ i : Nat, i < 160 → M 4 i = M 114 i
theorem IvT.c {M : Mem} (h : IvT M) : TrR (M 3) (M 2) := fun t ht => by
  have h1 := h.1 t ht; have h2 := h.2.1 t ht; omega
theorem IvT.cong {M M' : Mem} (h : IvT M) (e2 : M' 2 = M 2) (e3 : M' 3 = M 3) (e4 : M' 4 = M 4) (f2 : M' 112 = M 112) (f3 : M' 113 = M 113) (f4 : M' 114 = M 114) : IvT M' := by
  unfold IvT at h ⊢; rw [e2, e3, e4, f2, f3, f4]; exact h
theorem IvT.s0 {M : Mem} {v : Int} (h : IvT M) : IvT (sto M 0 0 v) := h.cong (sto_r (by decide)) (sto_r (by decide)) (sto_r (by decide)) (sto_r (by decide)) (sto_r (by decide)) (sto_r (by decide))
theorem IvT.s1 {M : Mem} {j : Nat} {v : Int} (h : IvT M) : IvT (sto M 111 j v) := h.cong (sto_r (by decide)) (sto_r (by decide)) (sto_r (by decide)) (sto_r (by decide)) (sto_r (by decide)) (sto_r (by decide))
/-- the loops that lay 0 -/
theorem l_Tr_make {a1 : Int} {k : Nat} (h1 : 0 ≤ a1 ∧ a1 ≤ 3) (hk : k ≤ 40) : ∀ (n fuel i : Nat) (M : Mem), i + n = k → n < fuel → fix (fun _ _ _ _ => none) k_Tr_make_17 fuel a1 (k : Int) (i : Int) M = some (0, zf M 4 (40 * a1.toNat + i) (40 * a1.toNat + k) 0) := by
  intro n
  induction n with
  | zero =>
    intro fuel i M e h
    obtain ⟨f, rfl⟩ : ∃ f, fuel = f + 1 := ⟨fuel - 1, by omega⟩
    rw [fix_s]; unfold k_Tr_make_17
    simp (disch := omega) only [w32_eq, if_neg]
    rw [show i = k by omega, zf_0]
  | succ n ih =>
    intro fuel i M e h
    obtain ⟨f, rfl⟩ : ∃ f, fuel = f + 1 := ⟨fuel - 1, by omega⟩
    rw [fix_s]; unfold k_Tr_make_17
    simp (disch := omega) only [w32_eq, if_pos, chk_t, blet_s, ix_e]
    rw [show (a1 * 40 + (i : Int)).toNat = 40 * a1.toNat + i by omega]
    have q := ih f (i + 1) (sto M 4 (40 * a1.toNat + i) 0) (by omega) (by omega)
    rw [show 40 * a1.toNat + (i + 1) = 40 * a1.toNat + i + 1 by omega, zf_s (by omega)] at q
    exact q
theorem l_Mo_tray {a1 : Int} {k : Nat} (h1 : 0 ≤ a1 ∧ a1 ≤ 3) (hk : k ≤ 40) : ∀ (n fuel i : Nat) (M : Mem), i + n = k → n < fuel → fix (fun _ _ _ _ => none) k_Mo_tray_74 fuel a1 (k : Int) (i : Int) M = some (1, zf M 114 (40 * a1.toNat + i) (40 * a1.toNat + k) 0) := by
  intro n
  induction n with
  | zero =>
    intro fuel i M e h
    obtain ⟨f, rfl⟩ : ∃ f, fuel = f + 1 := ⟨fuel - 1, by omega⟩
    rw [fix_s]; unfold k_Mo_tray_74
    simp (disch := omega) only [w32_eq, if_neg]
    rw [show i = k by omega, zf_0]
  | succ n ih =>
    intro fuel i M e h
    obtain ⟨f, rfl⟩ : ∃ f, fuel = f + 1 := ⟨fuel - 1, by omega⟩
    rw [fix_s]; unfold k_Mo_tray_74
    simp (disch := omega) only [w32_eq, if_pos, chk_t, blet_s, ix_e]
    rw [show (40 * a1 + (i : Int)).toNat = 40 * a1.toNat + i by omega]
    have q := ih f (i + 1) (sto M 114 (40 * a1.toNat + i) 0) (by omega) (by omega)
    rw [show 40 * a1.toNat + (i + 1) = 40 * a1.toNat + i + 1 by omega, zf_s (by omega)] at q
    exact q
theorem s_Tr_make {a1 a2 a3 : Int} {M : Mem} (h1 : 0 ≤ a1 ∧ a1 ≤ 3) (h3 : 0 ≤ a3 ∧ a3 ≤ 40) : d_Tr_make a1 a2 a3 M = some (0, zf (sto (sto M 2 a1.toNat a2) 3 a1.toNat a3) 4 (40 * a1.toNat) (40 * a1.toNat + a3.toNat) 0) := by
  unfold d_Tr_make
  simp (disch := omega) only [w32_eq, chk_t, blet_s, ix_e]
  have q := l_Tr_make h1 (k := a3.toNat) (by omega) a3.toNat FU 0 (sto (sto M 2 a1.toNat a2) 3 a1.toNat a3) (by omega) (by unfold FU; omega)
  rw [show ((a3.toNat : Nat) : Int) = a3 by omega] at q
  exact q
theorem sim_tray {M : Mem} {a1 a2 a3 : Int} (i1 : I32 a1) (i2 : I32 a2) (i3 : I32 a3) (hT : IvT M) : Simi (d_PP_tray a1 a2 a3) (d_Mo_tray a1 a2 a3) M IvT := by
  obtain ⟨i1, j1⟩ := i1; obtain ⟨i2, j2⟩ := i2; obtain ⟨i3, j3⟩ := i3
  by_cases h1 : 0 ≤ a1 ∧ a1 ≤ 3
  · by_cases h2 : 0 ≤ a2 ∧ a2 ≤ 3
    · by_cases h3 : 40 < a3
      · refine ⟨0, sto M 0 0 5, 0, sto (sto (sto (sto M 0 0 5) 111 1 0) 111 0 0) 111 0 5, ?_, ?_, rfl, rfl, hT.s0.s1.s1.s1⟩
        · unfold d_PP_tray k_PP_tray_23 k_PP_tray_55
          simp (disch := omega) only [s_PP_isIn, bcall_s, Bz_t, w32_eq, if_pos, if_neg, blet_s, sto_e, if_true, if_false]
        · unfold d_Mo_tray d_Mo_no
          simp (disch := omega) only [bcall_s, w32_eq, if_pos, if_neg, blet_s, chk_t, chk_T, true_or, or_true, if_true, if_false]
      · by_cases h4 : a3 < 0
        · refine ⟨0, sto M 0 0 6, 0, sto (sto (sto (sto M 0 0 6) 111 1 0) 111 0 0) 111 0 6, ?_, ?_, rfl, rfl, hT.s0.s1.s1.s1⟩
          · unfold d_PP_tray k_PP_tray_23 k_PP_tray_55
            simp (disch := omega) only [s_PP_isIn, bcall_s, Bz_t, w32_eq, if_pos, if_neg, blet_s, sto_e, if_true, if_false]
          · unfold d_Mo_tray d_Mo_no
            simp (disch := omega) only [bcall_s, w32_eq, if_pos, if_neg, blet_s, chk_t, chk_T, true_or, or_true, if_true, if_false]
        · refine ⟨1, zf (sto (sto (sto M 0 0 0) 2 a1.toNat a2) 3 a1.toNat a3) 4 (40 * a1.toNat) (40 * a1.toNat + a3.toNat) 0, 1, zf (sto (sto (sto (sto (zf (sto (sto (sto M 0 0 0) 2 a1.toNat a2) 3 a1.toNat a3) 4 (40 * a1.toNat) (40 * a1.toNat + a3.toNat) 0) 111 1 0) 111 0 0) 112 a1.toNat a2) 113 a1.toNat a3) 114 (40 * a1.toNat) (40 * a1.toNat + a3.toNat) 0, ?_, ?_, rfl, ?_, ?_⟩
          · unfold d_PP_tray k_PP_tray_23 k_PP_tray_55
            simp (disch := omega) only [s_PP_isIn, bcall_s, Bz_t, w32_eq, if_pos, if_neg, blet_s, sto_e, s_Tr_make, if_true, if_false]
          · unfold d_Mo_tray
            simp (disch := omega) only [bcall_s, w32_eq, if_pos, if_neg, blet_s, chk_t, ix_e]
            have q := l_Mo_tray h1 (k := a3.toNat) (by omega) a3.toNat FU 0 (sto (sto (sto (sto (zf (sto (sto (sto M 0 0 0) 2 a1.toNat a2) 3 a1.toNat a3) 4 (40 * a1.toNat) (40 * a1.toNat + a3.toNat) 0) 111 1 0) 111 0 0) 112 a1.toNat a2) 113 a1.toNat a3) (by omega) (by unfold FU; omega)
            rw [show ((a3.toNat : Nat) : Int) = a3 by omega] at q
            exact q
          · rfl
          · obtain ⟨hT0, hT1, hT2⟩ := hT
            refine ⟨fun t ht => ?_, fun t ht => ?_, fun i hi => ?_⟩
            · have := hT0 t ht
              simp only [zf, sto]
              by_cases e : t = a1.toNat
              · subst e; simp; omega
              · simp [e]; omega
            · have := hT1 t ht
              simp only [zf, sto]
              by_cases e : t = a1.toNat
              · subst e; simp
              · simp [e]; omega
            · have := hT2 i hi
              simp only [zf, sto]
              by_cases e : 40 * a1.toNat ≤ i ∧ i < 40 * a1.toNat + a3.toNat
              · simp [e]
              · simp [e]; exact this
    · refine ⟨0, sto M 0 0 1, 0, sto (sto (sto (sto M 0 0 1) 111 1 0) 111 0 0) 111 0 1, ?_, ?_, rfl, rfl, hT.s0.s1.s1.s1⟩
      · unfold d_PP_tray k_PP_tray_22 k_PP_tray_23 k_PP_tray_55
        simp (disch := omega) only [s_PP_isIn, bcall_s, Bz_t, Bz_f, w32_eq, if_pos, if_neg, blet_s, sto_e, if_true, if_false]
      · unfold d_Mo_tray k_Mo_tray_28 d_Mo_no
        by_cases h3 : a2 < 0
        · simp (disch := omega) only [bcall_s, w32_eq, if_pos, if_neg, blet_s, chk_t, chk_T, true_or, or_true, if_true, if_false]
        · simp (disch := omega) only [bcall_s, w32_eq, if_pos, if_neg, blet_s, chk_t, chk_T, true_or, or_true, if_true, if_false]
  · refine ⟨0, sto M 0 0 1, 0, sto (sto (sto (sto M 0 0 1) 111 1 0) 111 0 0) 111 0 1, ?_, ?_, rfl, rfl, hT.s0.s1.s1.s1⟩
    · unfold d_PP_tray k_PP_tray_22 k_PP_tray_23 k_PP_tray_55
      simp (disch := omega) only [s_PP_isIn, bcall_s, Bz_t, Bz_f, w32_eq, if_pos, if_neg, blet_s, sto_e, if_true, if_false]
    · unfold d_Mo_tray k_Mo_tray_28 d_Mo_no
      by_cases h3 : a1 < 0
      · simp (disch := omega) only [bcall_s, w32_eq, if_pos, if_neg, blet_s, chk_t, chk_T, true_or, or_true, if_true, if_false]
      · simp (disch := omega) only [bcall_s, w32_eq, if_pos, if_neg, blet_s, chk_t, chk_T, true_or, or_true, if_true, if_false]
/-- the STATUS of a place -/
def plS (L : Nat → Int) (a1 a2 : Int) : Int := if ¬ (0 ≤ a1 ∧ a1 ≤ 3) then 1 else if L a1.toNat < 0 then 3 else if ¬ (0 ≤ a2 ∧ a2 < L a1.toNat) then 4 else 0
theorem s_Tr_statusOfThree {M : Mem} {a1 a2 a3 : Int} (i1 : I32 a1) (i2 : I32 a2) (i3 : I32 a3) (hT : TrR (M 3) (M 2)) : d_Tr_statusOfThree a1 a2 a3 M = some (if ¬ ((0 ≤ a1 ∧ a1 ≤ 3) ∧ (0 ≤ a2 ∧ a2 ≤ 3) ∧ (0 ≤ a3 ∧ a3 ≤ 3)) then 1 else if M 3 a1.toNat < 0 ∨ M 3 a2.toNat < 0 ∨ M 3 a3.toNat < 0 then 3 else 0, M) := by
  obtain ⟨i1, j1⟩ := i1; obtain ⟨i2, j2⟩ := i2; obtain ⟨i3, j3⟩ := i3
  unfold d_Tr_statusOfThree k_Tr_statusOfThree_62 k_Tr_statusOfThree_67
  by_cases h1 : 0 ≤ a1 ∧ a1 ≤ 3
  · by_cases h2 : 0 ≤ a2 ∧ a2 ≤ 3
    · by_cases h3 : 0 ≤ a3 ∧ a3 ≤ 3
      · have t1 := hT a1.toNat (by omega)
        have t2 := hT a2.toNat (by omega)
        have t3 := hT a3.toNat (by omega)
        simp (disch := omega) only [s_PP_isIn, bcall_s, Bz_t, w32_eq, if_neg, blet_s, chk_t, ix_e, if_true]
        by_cases g1 : M 3 a1.toNat < 0
        · simp (disch := omega) only [if_pos, if_neg]
        · by_cases g2 : M 3 a2.toNat < 0
          · simp (disch := omega) only [if_pos, if_neg]
          · by_cases g3 : M 3 a3.toNat < 0
            · simp (disch := omega) only [if_pos, if_neg]
            · simp (disch := omega) only [if_pos, if_neg]
      · simp (disch := omega) only [s_PP_isIn, bcall_s, Bz_t, Bz_f, w32_eq, if_pos, if_neg, if_true]
    · simp (disch := omega) only [s_PP_isIn, bcall_s, Bz_t, Bz_f, w32_eq, if_pos, if_neg, if_true]
  · simp (disch := omega) only [s_PP_isIn, bcall_s, Bz_t, Bz_f, w32_eq, if_pos, if_neg, if_true]
theorem s_Tr_statusOfPlace {M : Mem} {a1 a2 : Int} (i1 : I32 a1) (i2 : I32 a2) (hT : TrR (M 3) (M 2)) : d_Tr_statusOfPlace a1 a2 M = some (plS (M 3) a1 a2, M) := by
  unfold d_Tr_statusOfPlace d_Tr_statusOfTwo plS
  rw [s_Tr_statusOfThree i1 i1 i1 hT]
  obtain ⟨i1, j1⟩ := i1; obtain ⟨i2, j2⟩ := i2
  by_cases h1 : 0 ≤ a1 ∧ a1 ≤ 3
  · have t1 := hT a1.toNat (by omega)
    by_cases g1 : M 3 a1.toNat < 0
    · simp (disch := omega) only [bcall_s, if_pos, if_neg, w32_eq]
    · by_cases h2 : 0 ≤ a2 ∧ a2 < M 3 a1.toNat
      · simp (disch := omega) only [bcall_s, if_pos, if_neg, w32_eq, chk_t, blet_s, ix_e, s_PP_isIn, Bz_t, if_true]
      · simp (disch := omega) only [bcall_s, if_pos, if_neg, w32_eq, chk_t, blet_s, ix_e, s_PP_isIn, Bz_f, if_true]
  · simp (disch := omega) only [bcall_s, if_pos, if_neg, w32_eq]
theorem s_Mo_placed {M : Mem} {a1 a2 : Int} (i1 : I32 a1) (i2 : I32 a2) (hT : TrR (M 113) (M 112)) : d_Mo_placed a1 a2 M = some (plS (M 113) a1 a2, M) := by
  unfold d_Mo_placed d_Mo_trayed k_Mo_trayed_9 k_Mo_placed_28 plS
  obtain ⟨i1, j1⟩ := i1; obtain ⟨i2, j2⟩ := i2
  by_cases h1 : 0 ≤ a1 ∧ a1 ≤ 3
  · have t1 := hT a1.toNat (by omega)
    by_cases g1 : M 113 a1.toNat < 0
    · simp (disch := omega) only [bcall_s, if_pos, if_neg, w32_eq, chk_t, blet_s, ix_e]
    · by_cases h2 : 0 ≤ a2 ∧ a2 < M 113 a1.toNat
      · simp (disch := omega) only [bcall_s, if_pos, if_neg, w32_eq, chk_t, blet_s, ix_e]
      · by_cases h3 : a2 < 0
        · simp (disch := omega) only [bcall_s, if_pos, if_neg, w32_eq, chk_t, blet_s, ix_e]
        · simp (disch := omega) only [bcall_s, if_pos, if_neg, w32_eq, chk_t, blet_s, ix_e]
  · by_cases h3 : a1 < 0
    · simp (disch := omega) only [bcall_s, if_pos, if_neg, w32_eq, chk_t, blet_s, ix_e]
    · simp (disch := omega) only [bcall_s, if_pos, if_neg, w32_eq, chk_t, blet_s, ix_e]
theorem plS_r {L : Nat → Int} {a1 a2 : Int} : 0 ≤ plS L a1 a2 ∧ plS L a1 a2 ≤ 4 := by
  unfold plS; split
  · omega
  · split
    · omega
    · split <;> omega
theorem plS_0 {L : Nat → Int} {a1 a2 : Int} (h : plS L a1 a2 = 0) : (0 ≤ a1 ∧ a1 ≤ 3) ∧ 0 ≤ a2 ∧ a2 < L a1.toNat := by
  unfold plS at h
  split at h
  · omega
  · split at h
    · omega
    · split at h
      · omega
      · omega
/-- what is written is cut -/
def cutS (s v : Int) : Int := if s = 0 then w32 (w8 v) else if s = 1 then w32 (w16 v) else if s = 2 then w32 v else v
theorem s_cuts {s v : Int} {M : Mem} (h : 0 ≤ s ∧ s ≤ 3) : d_Tr_cut v s M = some (cutS s v, M) ∧ d_Mo_cut0 s v M = some (cutS s v, M) := by
  unfold d_Tr_cut d_Mo_cut0 cutS
  rcases (show s = 0 ∨ s = 1 ∨ s = 2 ∨ s = 3 by omega) with rfl | rfl | rfl | rfl <;> exact ⟨rfl, rfl⟩
theorem plS_c {L L' : Nat → Int} (h : ∀ t : Nat, t < 4 → L t = L' t) {a1 a2 : Int} : plS L a1 a2 = plS L' a1 a2 := by
  unfold plS
  by_cases h1 : 0 ≤ a1 ∧ a1 ≤ 3
  · rw [h a1.toNat (by omega)]
  · rw [if_pos h1, if_pos h1]
theorem c_write {M : Mem} {a1 a2 a3 : Int} (i1 : I32 a1) (i2 : I32 a2) (hT : TrR (M 3) (M 2)) : d_PP_write a1 a2 a3 M = if plS (M 3) a1 a2 = 0 then some (1, sto (sto M 0 0 0) 4 (40 * a1.toNat + a2.toNat) (cutS (M 2 a1.toNat) a3)) else some (0, sto M 0 0 (plS (M 3) a1 a2)) := by
  have e1 := s_Tr_statusOfPlace i1 i2 hT
  have r1 := plS_r (L := M 3) (a1 := a1) (a2 := a2)
  unfold d_PP_write d_Tr_put
  rw [e1]
  by_cases h : plS (M 3) a1 a2 = 0
  · obtain ⟨p1, p2, p3⟩ := plS_0 h
    have t1 := hT a1.toNat (by omega)
    rw [h]
    simp (disch := omega) only [bcall_s, blet_s, sto_e, w32_eq, if_pos, chk_t, ix_e, sto_r, (s_cuts (by omega : 0 ≤ M 2 a1.toNat ∧ M 2 a1.toNat ≤ 3)).1, if_true]
    rw [show (a1 * 40 + a2).toNat = 40 * a1.toNat + a2.toNat by omega]
  · simp (disch := omega) only [bcall_s, blet_s, sto_e, w32_eq, if_neg]
theorem r_write {M : Mem} {a1 a2 a3 : Int} (i1 : I32 a1) (i2 : I32 a2) (hT : TrR (M 113) (M 112)) : d_Mo_write a1 a2 a3 M = if plS (M 113) a1 a2 = 0 then some (1, sto (sto (sto M 111 1 0) 111 0 0) 114 (40 * a1.toNat + a2.toNat) (cutS (M 112 a1.toNat) a3)) else some (0, sto (sto M 111 1 0) 111 0 (plS (M 113) a1 a2)) := by
  have e1 := s_Mo_placed (M := sto M 111 1 0) i1 i2 (by rw [sto_r (by decide), sto_r (by decide)]; exact hT)
  rw [sto_r (by decide)] at e1
  have r1 := plS_r (L := M 113) (a1 := a1) (a2 := a2)
  unfold d_Mo_write
  rw [blet_s, e1]
  by_cases h : plS (M 113) a1 a2 = 0
  · obtain ⟨p1, p2, p3⟩ := plS_0 h
    have t1 := hT a1.toNat (by omega)
    rw [h]
    simp (disch := omega) only [bcall_s, blet_s, sto_e, w32_eq, if_neg, chk_t, ix_e, sto_r, (s_cuts (by omega : 0 ≤ M 112 a1.toNat ∧ M 112 a1.toNat ≤ 3)).2, if_true]
    rw [show (40 * a1 + a2).toNat = 40 * a1.toNat + a2.toNat by omega]
  · simp (disch := omega) only [bcall_s, blet_s, sto_e, w32_eq, if_pos, if_neg]
theorem sim_write {M : Mem} {a1 a2 a3 : Int} (i1 : I32 a1) (i2 : I32 a2) (hT : IvT M) : Simi (d_PP_write a1 a2 a3) (d_Mo_write a1 a2 a3) M IvT := by
  have e1 := c_write (a3 := a3) i1 i2 hT.c
  have ep : plS (M 3) a1 a2 = plS (M 113) a1 a2 := plS_c (fun t ht => (hT.2.1 t ht).1)
  rw [ep] at e1
  by_cases h : plS (M 113) a1 a2 = 0
  · obtain ⟨p1, p2, p3⟩ := plS_0 h
    have t1 := hT.1 a1.toNat (by omega)
    have t2 := hT.2.1 a1.toNat (by omega)
    rw [if_pos h] at e1
    refine ⟨_, _, _, _, e1, (r_write i1 i2 (by simp (disch := decide) only [sto_r]; exact hT.1)).trans (if_pos (by simp (disch := decide) only [sto_r]; exact h)), rfl, rfl, ?_⟩
    obtain ⟨hT0, hT1, hT2⟩ := hT
    refine ⟨fun t ht => ?_, fun t ht => ?_, fun i hi => ?_⟩
    · simp (disch := decide) only [sto_r]; exact hT0 t ht
    · simp (disch := decide) only [sto_r]; exact hT1 t ht
    · have := hT2 i hi
      simp [sto_c, t2.2]
      split
      · rfl
      · exact this
  · rw [if_neg h] at e1
    refine ⟨_, _, _, _, e1, (r_write i1 i2 (by simp (disch := decide) only [sto_r]; exact hT.1)).trans (if_neg (by simp (disch := decide) only [sto_r]; exact h)), rfl, ?_, hT.s0.s1.s1⟩
    simp (disch := decide) only [sto_r, sto_e, sto_n]
theorem c_read {M : Mem} {a1 a2 : Int} (i1 : I32 a1) (i2 : I32 a2) (hT : TrR (M 3) (M 2)) : d_PP_read a1 a2 M = if plS (M 3) a1 a2 = 0 then some (M 4 (40 * a1.toNat + a2.toNat), sto M 0 0 0) else some (-1, sto M 0 0 (plS (M 3) a1 a2)) := by
  have e1 := s_Tr_statusOfPlace i1 i2 hT
  have r1 := plS_r (L := M 3) (a1 := a1) (a2 := a2)
  unfold d_PP_read d_Tr_get
  rw [e1]
  by_cases h : plS (M 3) a1 a2 = 0
  · obtain ⟨p1, p2, p3⟩ := plS_0 h
    have t1 := hT a1.toNat (by omega)
    rw [h]
    simp (disch := omega) only [bcall_s, blet_s, sto_e, w32_eq, if_pos, chk_t, ix_e, sto_r, if_true]
    rw [show (a1 * 40 + a2).toNat = 40 * a1.toNat + a2.toNat by omega]
  · simp (disch := omega) only [bcall_s, blet_s, sto_e, w32_eq, if_neg]
theorem r_read {M : Mem} {a1 a2 : Int} (i1 : I32 a1) (i2 : I32 a2) (hT : TrR (M 113) (M 112)) : d_Mo_read a1 a2 M = if plS (M 113) a1 a2 = 0 then some (M 114 (40 * a1.toNat + a2.toNat), sto (sto M 111 1 0) 111 0 0) else some (-1, sto (sto M 111 1 0) 111 0 (plS (M 113) a1 a2)) := by
  have e1 := s_Mo_placed (M := sto M 111 1 0) i1 i2 (by rw [sto_r (by decide), sto_r (by decide)]; exact hT)
  rw [sto_r (by decide)] at e1
  have r1 := plS_r (L := M 113) (a1 := a1) (a2 := a2)
  unfold d_Mo_read
  rw [blet_s, e1]
  by_cases h : plS (M 113) a1 a2 = 0
  · obtain ⟨p1, p2, p3⟩ := plS_0 h
    have t1 := hT a1.toNat (by omega)
    rw [h]
    simp (disch := omega) only [bcall_s, blet_s, sto_e, w32_eq, if_neg, chk_t, ix_e, sto_r, if_true]
    rw [show (40 * a1 + a2).toNat = 40 * a1.toNat + a2.toNat by omega]
  · simp (disch := omega) only [bcall_s, blet_s, sto_e, w32_eq, if_pos, if_neg]
theorem sim_read {M : Mem} {a1 a2 : Int} (i1 : I32 a1) (i2 : I32 a2) (hT : IvT M) : Siml (d_PP_read a1 a2) (d_Mo_read a1 a2) M IvT := by
  have e1 := c_read i1 i2 hT.c
  have ep : plS (M 3) a1 a2 = plS (M 113) a1 a2 := plS_c (fun t ht => (hT.2.1 t ht).1)
  rw [ep] at e1
  by_cases h : plS (M 113) a1 a2 = 0
  · obtain ⟨p1, p2, p3⟩ := plS_0 h
    have t1 := hT.1 a1.toNat (by omega)
    rw [if_pos h] at e1
    refine ⟨_, _, _, _, e1, (r_read i1 i2 (by simp (disch := decide) only [sto_r]; exact hT.1)).trans (if_pos (by simp (disch := decide) only [sto_r]; exact h)), ?_, rfl, hT.s0.s1.s1⟩
    simp (disch := decide) only [sto_r]
    rw [hT.2.2 (40 * a1.toNat + a2.toNat) (by omega)]
  · rw [if_neg h] at e1
    refine ⟨_, _, _, _, e1, (r_read i1 i2 (by simp (disch := decide) only [sto_r]; exact hT.1)).trans (if_neg (by simp (disch := decide) only [sto_r]; exact h)), rfl, ?_, hT.s0.s1.s1⟩
    simp (disch := decide) only [sto_r, sto_e, sto_n]
