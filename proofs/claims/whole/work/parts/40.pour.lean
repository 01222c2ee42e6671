/-! pour: the two sides agree -/
/-- places lo .. hi of a copy done -/
def pc (M : Mem) (c S D lo hi : Nat) : Mem := fun a => if a = c then (fun b => if D + lo ≤ b ∧ b < D + hi then M c (S + (b - D)) else M c b) else M a
theorem pc_0 {M : Mem} {c S D lo : Nat} : pc M c S D lo lo = M := by
  funext a; unfold pc; split
  · rename_i h; subst h; funext b; rw [if_neg (by omega)]
  · rfl
theorem pc_c {M : Mem} {c S D lo hi b : Nat} : pc M c S D lo hi c b = if D + lo ≤ b ∧ b < D + hi then M c (S + (b - D)) else M c b := by unfold pc; rw [if_pos rfl]
theorem pc_r {M : Mem} {c S D lo hi a : Nat} (h : a ≠ c) : pc M c S D lo hi a = M a := by unfold pc; rw [if_neg h]
theorem pc_cpy {M : Mem} {c S D n : Nat} : pc M c S D 0 n = cpy M c S c D n := by
  funext a; unfold pc cpy; rfl
theorem pc_up {M : Mem} {c S D k : Nat} (h : ¬ (D ≤ S + k ∧ S + k < D + k)) : sto (pc M c S D 0 k) c (D + k) (pc M c S D 0 k c (S + k)) = pc M c S D 0 (k + 1) := by
  rw [pc_c, if_neg (by omega)]
  funext a; by_cases e : a = c
  · subst e; funext b; rw [sto_c, if_pos rfl, pc_c, pc_c]
    by_cases h1 : b = D + k
    · rw [if_pos h1, if_pos (by omega), show S + (b - D) = S + k by omega]
    · rw [if_neg h1]
      by_cases h2 : D + 0 ≤ b ∧ b < D + k
      · rw [if_pos h2, if_pos (by omega)]
      · rw [if_neg h2, if_neg (by omega)]
  · rw [sto_r e, pc_r e, pc_r e]
theorem pc_dn {M : Mem} {c S D k n : Nat} (hk : k < n) (h : ¬ (D + (k + 1) ≤ S + k ∧ S + k < D + n)) : sto (pc M c S D (k + 1) n) c (D + k) (pc M c S D (k + 1) n c (S + k)) = pc M c S D k n := by
  rw [pc_c, if_neg h]
  funext a; by_cases e : a = c
  · subst e; funext b; rw [sto_c, if_pos rfl, pc_c, pc_c]
    by_cases h1 : b = D + k
    · rw [if_pos h1, if_pos (by omega), show S + (b - D) = S + k by omega]
    · rw [if_neg h1]
      by_cases h2 : D + (k + 1) ≤ b ∧ b < D + n
      · rw [if_pos h2, if_pos (by omega)]
      · rw [if_neg h2, if_neg (by omega)]
  · rw [sto_r e, pc_r e, pc_r e]
theorem l_pour_up {a1 a2 a3 a4 : Int} {N S D : Nat} (h1 : 0 ≤ a1 ∧ a1 ≤ 3) (h3 : 0 ≤ a3 ∧ a3 ≤ 3) (h2 : 0 ≤ a2 ∧ a2 + N ≤ 40) (h4 : 0 ≤ a4 ∧ a4 + N ≤ 40) (hS : (S : Int) = 40 * a1 + a2) (hD : (D : Int) = 40 * a3 + a4) (hc : D ≤ S ∨ S + N ≤ D) (M : Mem) :
    ∀ (n fuel k : Nat), k + n = N → n < fuel → fix (fun _ _ _ _ _ _ _ _ => none) k_Mo_pour_158 fuel a1 a2 a3 a4 (N : Int) 0 (k : Int) (pc M 114 S D 0 k) = some (1, pc M 114 S D 0 N) := by
  intro n; induction n with
  | zero =>
    intro fuel k e hf
    obtain ⟨f, rfl⟩ : ∃ f, fuel = f + 1 := ⟨fuel - 1, by omega⟩
    rw [fix_s]; unfold k_Mo_pour_158
    simp (disch := omega) only [w32_eq, if_neg]
    rw [show k = N by omega]
  | succ n ih =>
    intro fuel k e hf
    obtain ⟨f, rfl⟩ : ∃ f, fuel = f + 1 := ⟨fuel - 1, by omega⟩
    rw [fix_s]; unfold k_Mo_pour_158 k_Mo_pour_182
    have x1 : ix (40 * a1 + a2 + (k : Int)) = S + k := by rw [ix_e (by omega) (by omega)]; omega
    have x2 : ix (40 * a3 + a4 + (k : Int)) = D + k := by rw [ix_e (by omega) (by omega)]; omega
    simp (disch := omega) only [w32_eq, if_pos, blet_s, chk_t, x1, x2, if_true]
    rw [pc_up (by omega)]
    exact ih f (k + 1) (by omega) (by omega)
theorem l_pour_dn {a1 a2 a3 a4 : Int} {N S D : Nat} (h1 : 0 ≤ a1 ∧ a1 ≤ 3) (h3 : 0 ≤ a3 ∧ a3 ≤ 3) (h2 : 0 ≤ a2 ∧ a2 + N ≤ 40) (h4 : 0 ≤ a4 ∧ a4 + N ≤ 40) (hS : (S : Int) = 40 * a1 + a2) (hD : (D : Int) = 40 * a3 + a4) (hc : S < D ∨ D + N ≤ S) (M : Mem) :
    ∀ (n fuel k : Nat), k + n = N → n < fuel → fix (fun _ _ _ _ _ _ _ _ => none) k_Mo_pour_158 fuel a1 a2 a3 a4 (N : Int) 1 (k : Int) (pc M 114 S D n N) = some (1, pc M 114 S D 0 N) := by
  intro n; induction n with
  | zero =>
    intro fuel k e hf
    obtain ⟨f, rfl⟩ : ∃ f, fuel = f + 1 := ⟨fuel - 1, by omega⟩
    rw [fix_s]; unfold k_Mo_pour_158
    simp (disch := omega) only [w32_eq, if_neg]
  | succ n ih =>
    intro fuel k e hf
    obtain ⟨f, rfl⟩ : ∃ f, fuel = f + 1 := ⟨fuel - 1, by omega⟩
    rw [fix_s]; unfold k_Mo_pour_158 k_Mo_pour_182
    have x1 : ix (40 * a1 + a2 + ((N : Int) - 1 - (k : Int))) = S + n := by rw [ix_e (by omega) (by omega)]; omega
    have x2 : ix (40 * a3 + a4 + ((N : Int) - 1 - (k : Int))) = D + n := by rw [ix_e (by omega) (by omega)]; omega
    have y1 : ¬ w32 1 = 0 := by decide
    rw [if_pos (by rw [w32_eq (by omega) (by omega), w32_eq (by omega) (by omega)]; omega), if_neg y1]
    simp (disch := omega) only [w32_eq, blet_s, chk_t, x1, x2]
    rw [pc_dn (by omega) (by omega)]
    exact ih f (k + 1) (by omega) (by omega)
theorem r_pour_ok {a1 a2 a3 a4 a5 : Int} {M : Mem} (i2 : I32 a2) (i4 : I32 a4) (i5 : I32 a5) (hT : TrR (M 113) (M 112)) (h1 : 0 ≤ a1 ∧ a1 ≤ 3) (h3 : 0 ≤ a3 ∧ a3 ≤ 3) (m1 : 0 ≤ M 113 a1.toNat) (m3 : 0 ≤ M 113 a3.toNat) (hs : M 112 a1.toNat = M 112 a3.toNat) (h5 : 0 ≤ a5) (h2 : 0 ≤ a2 ∧ a2 + a5 ≤ M 113 a1.toNat) (h4 : 0 ≤ a4 ∧ a4 + a5 ≤ M 113 a3.toNat) : d_Mo_pour a1 a2 a3 a4 a5 M = some (1, cpy (sto (sto M 111 1 0) 111 0 0) 114 (40 * a1 + a2).toNat 114 (40 * a3 + a4).toNat a5.toNat) := by
  have t1 := hT a1.toNat (by omega)
  have t3 := hT a3.toNat (by omega)
  have z1 : ∀ c : Nat, c ≠ 111 → sto (sto M 111 1 0) 111 0 0 c = M c := fun c h => by rw [sto_r h, sto_r h]
  have u1 : w64 (a2 + a5) = a2 + a5 := w64_eq (by omega) (by omega)
  have u3 : w64 (a4 + a5) = a4 + a5 := w64_eq (by omega) (by omega)
  have v1 : w64 (M 113 a1.toNat) = M 113 a1.toNat := w64_eq (by omega) (by omega)
  have v3 : w64 (M 113 a3.toNat) = M 113 a3.toNat := w64_eq (by omega) (by omega)
  obtain ⟨N, rfl⟩ : ∃ N : Nat, a5 = (N : Int) := ⟨a5.toNat, by omega⟩
  unfold d_Mo_pour
  simp (disch := first | omega | decide) only [blet_s, w32_eq, if_neg, if_pos, chk_t, ix_e, z1, hs, if_true, u1, u3, v1, v3]
  rw [show ((N : Int)).toNat = N by omega, ← pc_cpy]
  unfold k_Mo_pour_153
  by_cases hr : a2 < a4
  · rw [if_pos hr]
    have q := l_pour_dn (a1 := a1) (a2 := a2) (a3 := a3) (a4 := a4) (N := N) (S := (40 * a1 + a2).toNat) (D := (40 * a3 + a4).toNat) h1 h3 (by omega) (by omega) (by omega) (by omega) (by omega) (sto (sto M 111 1 0) 111 0 0) N FU 0 (by omega) (by unfold FU; omega)
    rw [pc_0] at q; exact q
  · rw [if_neg hr]
    have q := l_pour_up (a1 := a1) (a2 := a2) (a3 := a3) (a4 := a4) (N := N) (S := (40 * a1 + a2).toNat) (D := (40 * a3 + a4).toNat) h1 h3 (by omega) (by omega) (by omega) (by omega) (by omega) (sto (sto M 111 1 0) 111 0 0) N FU 0 (by omega) (by unfold FU; omega)
    rw [pc_0] at q; exact q
/-- why a pour is refused -/
def poS (L S : Nat → Int) (a1 a2 a3 a4 a5 : Int) : Int := if ¬ ((0 ≤ a1 ∧ a1 ≤ 3) ∧ (0 ≤ a3 ∧ a3 ≤ 3)) then 1 else if L a1.toNat < 0 ∨ L a3.toNat < 0 then 3 else if S a1.toNat ≠ S a3.toNat then 11 else if a5 < 0 then 6 else if ¬ (0 ≤ a2 ∧ a2 + a5 ≤ L a1.toNat ∧ 0 ≤ a4 ∧ a4 + a5 ≤ L a3.toNat) then 4 else 0
theorem poS_0 {L S : Nat → Int} {a1 a2 a3 a4 a5 : Int} (h : poS L S a1 a2 a3 a4 a5 = 0) : (0 ≤ a1 ∧ a1 ≤ 3) ∧ (0 ≤ a3 ∧ a3 ≤ 3) ∧ 0 ≤ L a1.toNat ∧ 0 ≤ L a3.toNat ∧ S a1.toNat = S a3.toNat ∧ 0 ≤ a5 ∧ (0 ≤ a2 ∧ a2 + a5 ≤ L a1.toNat) ∧ 0 ≤ a4 ∧ a4 + a5 ≤ L a3.toNat := by
  unfold poS at h
  by_cases c1 : (0 ≤ a1 ∧ a1 ≤ 3) ∧ (0 ≤ a3 ∧ a3 ≤ 3)
  · rw [if_neg (by omega)] at h
    by_cases c2 : L a1.toNat < 0 ∨ L a3.toNat < 0
    · rw [if_pos c2] at h; omega
    · rw [if_neg c2] at h
      by_cases c3 : S a1.toNat = S a3.toNat
      · rw [if_neg (by omega)] at h
        by_cases c4 : a5 < 0
        · rw [if_pos c4] at h; omega
        · rw [if_neg c4] at h
          by_cases c5 : 0 ≤ a2 ∧ a2 + a5 ≤ L a1.toNat ∧ 0 ≤ a4 ∧ a4 + a5 ≤ L a3.toNat
          · omega
          · rw [if_pos c5] at h; omega
      · rw [if_pos c3] at h; omega
  · rw [if_pos c1] at h; omega
theorem s_Tr_statusOfTwo {M : Mem} {a1 a2 : Int} (i1 : I32 a1) (i2 : I32 a2) (hT : TrR (M 3) (M 2)) : d_Tr_statusOfTwo a1 a2 M = some (if ¬ ((0 ≤ a1 ∧ a1 ≤ 3) ∧ (0 ≤ a2 ∧ a2 ≤ 3) ∧ (0 ≤ a1 ∧ a1 ≤ 3)) then 1 else if M 3 a1.toNat < 0 ∨ M 3 a2.toNat < 0 ∨ M 3 a1.toNat < 0 then 3 else 0, M) := by
  unfold d_Tr_statusOfTwo; rw [s_Tr_statusOfThree i1 i2 i1 hT]; rfl
theorem c_pour {a1 a2 a3 a4 a5 : Int} {M : Mem} (i1 : I32 a1) (i2 : I32 a2) (i3 : I32 a3) (i4 : I32 a4) (i5 : I32 a5) (hT : TrR (M 3) (M 2)) : d_PP_pour a1 a2 a3 a4 a5 M = if poS (M 3) (M 2) a1 a2 a3 a4 a5 = 0 then some (1, cpy (sto M 0 0 0) 4 (40 * a1 + a2).toNat 4 (40 * a3 + a4).toNat a5.toNat) else some (0, sto M 0 0 (poS (M 3) (M 2) a1 a2 a3 a4 a5)) := by
  obtain ⟨g1, g1'⟩ := i1; obtain ⟨g2, g2'⟩ := i2; obtain ⟨g3, g3'⟩ := i3; obtain ⟨g4, g4'⟩ := i4; obtain ⟨g5, g5'⟩ := i5
  unfold d_PP_pour
  rw [s_Tr_statusOfTwo ⟨g1, g1'⟩ ⟨g3, g3'⟩ hT]
  by_cases c1 : (0 ≤ a1 ∧ a1 ≤ 3) ∧ (0 ≤ a3 ∧ a3 ≤ 3)
  rotate_left
  · rw [show poS (M 3) (M 2) a1 a2 a3 a4 a5 = 1 by unfold poS; rw [if_pos c1]]
    rw [if_pos (by omega)]; unfold k_PP_pour_38; simp (disch := first | omega | decide) only [bcall_s, blet_s, sto_e, sto_r, w32_eq, if_pos, if_neg, chk_t, ix_e, if_true, if_false, sto_sto]
  have t1 := hT a1.toNat (by omega)
  have t3 := hT a3.toNat (by omega)
  by_cases c2 : M 3 a1.toNat < 0 ∨ M 3 a3.toNat < 0
  · rw [show poS (M 3) (M 2) a1 a2 a3 a4 a5 = 3 by unfold poS; rw [if_neg (by omega), if_pos c2]]
    rw [if_neg (by omega), if_pos (by omega)]; unfold k_PP_pour_38; simp (disch := first | omega | decide) only [bcall_s, blet_s, sto_e, sto_r, w32_eq, if_pos, if_neg, chk_t, ix_e, if_true, if_false, sto_sto]
  by_cases c3 : M 2 a1.toNat = M 2 a3.toNat
  rotate_left
  · rw [show poS (M 3) (M 2) a1 a2 a3 a4 a5 = 11 by unfold poS; rw [if_neg (by omega), if_neg c2, if_pos c3]]
    rw [if_neg (by omega), if_neg (by omega)]; unfold d_Tr_statusOfPouring k_Tr_statusOfPouring_74 k_Tr_statusOfPouring_75 k_PP_pour_38; simp (disch := first | omega | decide) only [bcall_s, blet_s, sto_e, sto_r, w32_eq, if_pos, if_neg, chk_t, ix_e, if_true, if_false, sto_sto]
  by_cases c4 : a5 < 0
  · rw [show poS (M 3) (M 2) a1 a2 a3 a4 a5 = 6 by unfold poS; rw [if_neg (by omega), if_neg c2, if_neg (by omega), if_pos c4]]
    rw [if_neg (by omega), if_neg (by omega)]; unfold d_Tr_statusOfPouring k_Tr_statusOfPouring_74 k_Tr_statusOfPouring_75 k_PP_pour_38; simp (disch := first | omega | decide) only [bcall_s, blet_s, sto_e, sto_r, w32_eq, if_pos, if_neg, chk_t, ix_e, if_true, if_false, sto_sto, c3]
  have u1 : w64 (a2 + a5) = a2 + a5 := w64_eq (by omega) (by omega)
  have u3 : w64 (a4 + a5) = a4 + a5 := w64_eq (by omega) (by omega)
  have v1 : w64 (M 3 a1.toNat) = M 3 a1.toNat := w64_eq (by omega) (by omega)
  have v3 : w64 (M 3 a3.toNat) = M 3 a3.toNat := w64_eq (by omega) (by omega)
  by_cases c5 : 0 ≤ a2 ∧ a2 + a5 ≤ M 3 a1.toNat ∧ 0 ≤ a4 ∧ a4 + a5 ≤ M 3 a3.toNat
  rotate_left
  · rw [show poS (M 3) (M 2) a1 a2 a3 a4 a5 = 4 by unfold poS; rw [if_neg (by omega), if_neg c2, if_neg (by omega), if_neg c4, if_pos c5]]
    by_cases d1 : a2 < 0
    · rw [if_neg (by omega), if_neg (by omega)]; unfold d_Tr_statusOfPouring k_Tr_statusOfPouring_74 k_Tr_statusOfPouring_75 k_PP_pour_38; simp (disch := first | omega | decide) only [bcall_s, blet_s, sto_e, sto_r, w32_eq, if_pos, if_neg, chk_t, ix_e, if_true, if_false, sto_sto, c3, u1, u3, v1, v3]
    · by_cases d2 : M 3 a1.toNat < a2 + a5
      · rw [if_neg (by omega), if_neg (by omega)]; unfold d_Tr_statusOfPouring k_Tr_statusOfPouring_74 k_Tr_statusOfPouring_75 k_PP_pour_38; simp (disch := first | omega | decide) only [bcall_s, blet_s, sto_e, sto_r, w32_eq, if_pos, if_neg, chk_t, ix_e, if_true, if_false, sto_sto, c3, u1, u3, v1, v3]
      · by_cases d3 : a4 < 0
        · rw [if_neg (by omega), if_neg (by omega)]; unfold d_Tr_statusOfPouring k_Tr_statusOfPouring_74 k_Tr_statusOfPouring_75 k_PP_pour_38; simp (disch := first | omega | decide) only [bcall_s, blet_s, sto_e, sto_r, w32_eq, if_pos, if_neg, chk_t, ix_e, if_true, if_false, sto_sto, c3, u1, u3, v1, v3]
        · rw [if_neg (by omega), if_neg (by omega)]; unfold d_Tr_statusOfPouring k_Tr_statusOfPouring_74 k_Tr_statusOfPouring_75 k_PP_pour_38; simp (disch := first | omega | decide) only [bcall_s, blet_s, sto_e, sto_r, w32_eq, if_pos, if_neg, chk_t, ix_e, if_true, if_false, sto_sto, c3, u1, u3, v1, v3]
  rw [show poS (M 3) (M 2) a1 a2 a3 a4 a5 = 0 by unfold poS; rw [if_neg (by omega), if_neg c2, if_neg (by omega), if_neg c4, if_neg (by omega)]]
  rw [if_neg (by omega), if_neg (by omega), if_pos rfl]; unfold d_Tr_statusOfPouring k_Tr_statusOfPouring_74 k_Tr_statusOfPouring_75 k_PP_pour_38 d_Tr_move; simp (disch := first | omega | decide) only [bcall_s, blet_s, sto_e, sto_r, w32_eq, if_pos, if_neg, chk_t, ix_e, if_true, if_false, sto_sto, c3, u1, u3, v1, v3]
  rw [show a1 * 40 + a2 = 40 * a1 + a2 by omega, show a3 * 40 + a4 = 40 * a3 + a4 by omega]
theorem s_Mo_no {k : Int} {M : Mem} : d_Mo_no k M = some (0, sto M 111 0 k) := rfl
theorem s_po_28 {M : Mem} : k_Mo_pour_28 M = some (0, sto M 111 0 1) := rfl
theorem s_po_52 {M : Mem} : k_Mo_pour_52 M = some (0, sto M 111 0 3) := rfl
theorem s_po_136 {M : Mem} : k_Mo_pour_136 M = some (0, sto M 111 0 4) := rfl
theorem chk_z {M : Mem} : chk (w32 0 = 0 ∨ w32 0 = 1) (some (0, M)) = some (0, M) := rfl
theorem r_pour_no {a1 a2 a3 a4 a5 : Int} {M : Mem} (i1 : I32 a1) (i2 : I32 a2) (i3 : I32 a3) (i4 : I32 a4) (i5 : I32 a5) (hT : TrR (M 113) (M 112)) (hn : poS (M 113) (M 112) a1 a2 a3 a4 a5 ≠ 0) : d_Mo_pour a1 a2 a3 a4 a5 M = some (0, sto (sto M 111 1 0) 111 0 (poS (M 113) (M 112) a1 a2 a3 a4 a5)) := by
  obtain ⟨g1, g1'⟩ := i1; obtain ⟨g2, g2'⟩ := i2; obtain ⟨g3, g3'⟩ := i3; obtain ⟨g4, g4'⟩ := i4; obtain ⟨g5, g5'⟩ := i5
  have z1 : sto (sto M 111 1 0) 111 0 0 113 = M 113 := by rw [sto_r (by decide), sto_r (by decide)]
  have z2 : sto (sto M 111 1 0) 111 0 0 112 = M 112 := by rw [sto_r (by decide), sto_r (by decide)]
  have y1 : w32 a1 = a1 := w32_eq (by omega) (by omega)
  have y2 : w32 a2 = a2 := w32_eq (by omega) (by omega)
  have y3 : w32 a3 = a3 := w32_eq (by omega) (by omega)
  have y4 : w32 a4 = a4 := w32_eq (by omega) (by omega)
  have y5 : w32 a5 = a5 := w32_eq (by omega) (by omega)
  unfold d_Mo_pour
  simp only [blet_s, y1, y2, y3, y4, y5, z1, z2, s_po_28, s_po_52, s_po_136, s_Mo_no, bcall_s, chk_z, sto_sto]
  by_cases c1 : (0 ≤ a1 ∧ a1 ≤ 3) ∧ (0 ≤ a3 ∧ a3 ≤ 3)
  rotate_left
  · rw [show poS (M 113) (M 112) a1 a2 a3 a4 a5 = 1 by unfold poS; rw [if_pos c1]]
    by_cases d1 : a1 < 0
    · rw [if_pos (by omega)]
    · by_cases d2 : a1 < 4
      · by_cases d3 : a3 < 0
        · rw [if_neg (by omega), if_pos (by omega), if_pos (by omega)]
        · rw [if_neg (by omega), if_pos (by omega), if_neg (by omega), if_neg (by omega)]
      · rw [if_neg (by omega), if_neg (by omega)]
  have t1 := hT a1.toNat (by omega)
  have t3 := hT a3.toNat (by omega)
  have x1 : ix a1 = a1.toNat := ix_e (by omega) (by omega)
  have x3 : ix a3 = a3.toNat := ix_e (by omega) (by omega)
  have m1 : w32 (M 113 a1.toNat) = M 113 a1.toNat := w32_eq (by omega) (by omega)
  have m3 : w32 (M 113 a3.toNat) = M 113 a3.toNat := w32_eq (by omega) (by omega)
  have n1 : w32 (M 112 a1.toNat) = M 112 a1.toNat := w32_eq (by omega) (by omega)
  have n3 : w32 (M 112 a3.toNat) = M 112 a3.toNat := w32_eq (by omega) (by omega)
  simp only [x1, x3, m1, m3, n1, n3]
  by_cases c2 : M 113 a1.toNat < 0 ∨ M 113 a3.toNat < 0
  · rw [show poS (M 113) (M 112) a1 a2 a3 a4 a5 = 3 by unfold poS; rw [if_neg (by omega), if_pos c2]]
    by_cases d1 : M 113 a1.toNat < 0
    · rw [if_neg (by omega), if_pos (by omega), if_neg (by omega), if_pos (by omega), chk_t (by omega), if_pos (by omega)]
    · rw [if_neg (by omega), if_pos (by omega), if_neg (by omega), if_pos (by omega), chk_t (by omega), if_neg (by omega), chk_t (by omega), if_pos (by omega)]
  by_cases c3 : M 112 a1.toNat = M 112 a3.toNat
  rotate_left
  · rw [show poS (M 113) (M 112) a1 a2 a3 a4 a5 = 11 by unfold poS; rw [if_neg (by omega), if_neg c2, if_pos c3]]
    rw [if_neg (by omega), if_pos (by omega), if_neg (by omega), if_pos (by omega), chk_t (by omega), if_neg (by omega), chk_t (by omega), if_neg (by omega), chk_t (by omega), chk_t (by omega), if_neg (by omega)]
  by_cases c4 : a5 < 0
  · rw [show poS (M 113) (M 112) a1 a2 a3 a4 a5 = 6 by unfold poS; rw [if_neg (by omega), if_neg c2, if_neg (by omega), if_pos c4]]
    rw [if_neg (by omega), if_pos (by omega), if_neg (by omega), if_pos (by omega), chk_t (by omega), if_neg (by omega), chk_t (by omega), if_neg (by omega), chk_t (by omega), chk_t (by omega), if_pos (by omega), if_pos (by omega)]
  have u1 : w64 (a2 + a5) = a2 + a5 := w64_eq (by omega) (by omega)
  have u3 : w64 (a4 + a5) = a4 + a5 := w64_eq (by omega) (by omega)
  have v1 : w64 (M 113 a1.toNat) = M 113 a1.toNat := w64_eq (by omega) (by omega)
  have v3 : w64 (M 113 a3.toNat) = M 113 a3.toNat := w64_eq (by omega) (by omega)
  simp only [u1, u3, v1, v3]
  by_cases c5 : 0 ≤ a2 ∧ a2 + a5 ≤ M 113 a1.toNat ∧ 0 ≤ a4 ∧ a4 + a5 ≤ M 113 a3.toNat
  rotate_left
  · rw [show poS (M 113) (M 112) a1 a2 a3 a4 a5 = 4 by unfold poS; rw [if_neg (by omega), if_neg c2, if_neg (by omega), if_neg c4, if_pos c5]]
    by_cases d1 : a2 < 0
    · rw [if_neg (by omega), if_pos (by omega), if_neg (by omega), if_pos (by omega), chk_t (by omega), if_neg (by omega), chk_t (by omega), if_neg (by omega), chk_t (by omega), chk_t (by omega), if_pos (by omega), if_neg (by omega), if_pos (by omega)]
    · by_cases d3 : a4 < 0
      · rw [if_neg (by omega), if_pos (by omega), if_neg (by omega), if_pos (by omega), chk_t (by omega), if_neg (by omega), chk_t (by omega), if_neg (by omega), chk_t (by omega), chk_t (by omega), if_pos (by omega), if_neg (by omega), if_neg (by omega), if_pos (by omega)]
      · by_cases d2 : M 113 a1.toNat < a2 + a5
        · rw [if_neg (by omega), if_pos (by omega), if_neg (by omega), if_pos (by omega), chk_t (by omega), if_neg (by omega), chk_t (by omega), if_neg (by omega), chk_t (by omega), chk_t (by omega), if_pos (by omega), if_neg (by omega), if_neg (by omega), if_neg (by omega), chk_t (by omega), if_pos (by omega)]
        · rw [if_neg (by omega), if_pos (by omega), if_neg (by omega), if_pos (by omega), chk_t (by omega), if_neg (by omega), chk_t (by omega), if_neg (by omega), chk_t (by omega), chk_t (by omega), if_pos (by omega), if_neg (by omega), if_neg (by omega), if_neg (by omega), chk_t (by omega), if_neg (by omega), chk_t (by omega), if_pos (by omega)]
  exact absurd (show poS (M 113) (M 112) a1 a2 a3 a4 a5 = 0 by unfold poS; rw [if_neg (by omega), if_neg c2, if_neg (by omega), if_neg c4, if_neg (by omega)]) hn
theorem poS_c {L L' S S' : Nat → Int} (h : ∀ t : Nat, t < 4 → L t = L' t ∧ S t = S' t) {a1 a2 a3 a4 a5 : Int} : poS L S a1 a2 a3 a4 a5 = poS L' S' a1 a2 a3 a4 a5 := by
  unfold poS
  by_cases c1 : (0 ≤ a1 ∧ a1 ≤ 3) ∧ (0 ≤ a3 ∧ a3 ≤ 3)
  · have q1 := h a1.toNat (by omega); have q3 := h a3.toNat (by omega)
    rw [q1.1, q1.2, q3.1, q3.2]
  · rw [if_pos c1, if_pos c1]
theorem cpy_r {M : Mem} {ks sp kd dp n a : Nat} (h : a ≠ kd) : cpy M ks sp kd dp n a = M a := by unfold cpy; rw [if_neg h]
theorem cpy_c {M : Mem} {ks sp kd dp n b : Nat} : cpy M ks sp kd dp n kd b = if dp ≤ b ∧ b < dp + n then M ks (sp + (b - dp)) else M kd b := by unfold cpy; rw [if_pos rfl]
theorem sim_pour {M : Mem} {a1 a2 a3 a4 a5 : Int} (i1 : I32 a1) (i2 : I32 a2) (i3 : I32 a3) (i4 : I32 a4) (i5 : I32 a5) (hT : IvT M) : Simi (d_PP_pour a1 a2 a3 a4 a5) (d_Mo_pour a1 a2 a3 a4 a5) M IvT := by
  have e1 := c_pour i1 i2 i3 i4 i5 hT.c
  have ep : poS (M 3) (M 2) a1 a2 a3 a4 a5 = poS (M 113) (M 112) a1 a2 a3 a4 a5 := poS_c (fun t ht => hT.2.1 t ht)
  rw [ep] at e1
  by_cases h : poS (M 113) (M 112) a1 a2 a3 a4 a5 = 0
  · rw [if_pos h] at e1
    obtain ⟨q1, q2, q3, q4, q5, q6, q7, q8⟩ := poS_0 h
    have f : ∀ c : Nat, c ≠ 0 → c ≠ 4 → cpy (sto M 0 0 0) 4 (40 * a1 + a2).toNat 4 (40 * a3 + a4).toNat a5.toNat c = M c := fun c h1 h2 => by rw [cpy_r h2, sto_r h1]
    have e2 := r_pour_ok (a1 := a1) (a2 := a2) (a3 := a3) (a4 := a4) (a5 := a5) (M := cpy (sto M 0 0 0) 4 (40 * a1 + a2).toNat 4 (40 * a3 + a4).toNat a5.toNat) i2 i4 i5 (by rw [f 113 (by decide) (by decide), f 112 (by decide) (by decide)]; exact hT.1) q1 q2 (by rw [f 113 (by decide) (by decide)]; exact q3) (by rw [f 113 (by decide) (by decide)]; exact q4) (by rw [f 112 (by decide) (by decide)]; exact q5) q6 (by rw [f 113 (by decide) (by decide)]; exact q7) (by rw [f 113 (by decide) (by decide)]; exact q8)
    refine ⟨_, _, _, _, e1, e2, rfl, ?_, ?_⟩
    · simp (disch := decide) only [cpy_r, sto_r, sto_e]
    · have t1 := hT.1 a1.toNat (by omega)
      have t3 := hT.1 a3.toNat (by omega)
      obtain ⟨hT0, hT1, hT2⟩ := hT
      refine ⟨fun t ht => ?_, fun t ht => ?_, fun i hi => ?_⟩
      · simp (disch := decide) only [cpy_r, sto_r]; exact hT0 t ht
      · simp (disch := decide) only [cpy_r, sto_r]; exact hT1 t ht
      · simp (disch := decide) only [cpy_r, sto_r, cpy_c]
        by_cases g : (40 * a3 + a4).toNat ≤ i ∧ i < (40 * a3 + a4).toNat + a5.toNat
        · rw [if_pos g, if_pos g]; exact hT2 _ (by omega)
        · rw [if_neg g, if_neg g]; exact hT2 i hi
  · rw [if_neg h] at e1
    have e2 := r_pour_no (a1 := a1) (a2 := a2) (a3 := a3) (a4 := a4) (a5 := a5) (M := sto M 0 0 (poS (M 113) (M 112) a1 a2 a3 a4 a5)) i1 i2 i3 i4 i5 (by simp (disch := decide) only [sto_r]; exact hT.1) (by simp (disch := decide) only [sto_r]; exact h)
    simp (disch := decide) only [sto_r] at e2
    refine ⟨_, _, _, _, e1, e2, rfl, ?_, hT.s0.s1.s1⟩
    simp (disch := decide) only [sto_r, sto_e]
