/-! pour: the two sides agree -/
/-- places lo .. hi of a copy done -/
def pc (M : Mem) (c S D lo hi : Nat) : Mem := fun a => if a = c then (fun b => if D + lo ≤ b ∧ b < D + hi then M c (S + (b - D)) else M c b) else M a
theorem pc_0 {M : Mem} {c S D lo : Nat} : pc M c S D lo lo = M := by
  funext a; unfold pc; split
  · rename_i h; subst h; funext b; rw [if_neg (by omega)]
  · rfl
theorem pc_c {M : Mem} {c S D lo hi b : Nat} : pc M c S D lo hi c b = if D + lo ≤ b ∧ b < D + hi then M c (S + (b - D)) else M c b := by unfold pc; rw [if_pos rfl]
theorem pc_r {M : Mem} {c S D lo hi a : Nat} (h : a ≠ c) : pc M c S D lo hi a = M a := by unfold pc; rw [if_neg h]
theorem pc_cpy {M : Mem} {c S D n : Nat} : pc M c S D 0 n = cpy M c S c D n := by
  funext a; unfold pc cpy; rfl
theorem pc_up {M : Mem} {c S D k : Nat} (h : ¬ (D ≤ S + k ∧ S + k < D + k)) : sto (pc M c S D 0 k) c (D + k) (pc M c S D 0 k c (S + k)) = pc M c S D 0 (k + 1) := by
  rw [pc_c, if_neg (by omega)]
  funext a; by_cases e : a = c
  · subst e; funext b; rw [sto_c, if_pos rfl, pc_c, pc_c]
    by_cases h1 : b = D + k
    · rw [if_pos h1, if_pos (by omega), show S + (b - D) = S + k by omega]
    · rw [if_neg h1]
      by_cases h2 : D + 0 ≤ b ∧ b < D + k
      · rw [if_pos h2, if_pos (by omega)]
      · rw [if_neg h2, if_neg (by omega)]
  · rw [sto_r e, pc_r e, pc_r e]
theorem pc_dn {M : Mem} {c S D k n : Nat} (hk : k < n) (h : ¬ (D + (k + 1) ≤ S + k ∧ S + k < D + n)) : sto (pc M c S D (k + 1) n) c (D + k) (pc M c S D (k + 1) n c (S + k)) = pc M c S D k n := by
  rw [pc_c, if_neg h]
  funext a; by_cases e : a = c
  · subst e; funext b; rw [sto_c, if_pos rfl, pc_c, pc_c]
    by_cases h1 : b = D + k
    · rw [if_pos h1, if_pos (by omega), show S + (b - D) = S + k by omega]
    · rw [if_neg h1]
      by_cases h2 : D + (k + 1) ≤ b ∧ b < D + n
      · rw [if_pos h2, if_pos (by omega)]
      · rw [if_neg h2, if_neg (by omega)]
  · rw [sto_r e, pc_r e, pc_r e]
theorem l_pour_up {a1 a2 a3 a4 : Int} {N S D : Nat} (h1 : 0 ≤ a1 ∧ a1 ≤ 3) (h3 : 0 ≤ a3 ∧ a3 ≤ 3) (h2 : 0 ≤ a2 ∧ a2 + N ≤ 40) (h4 : 0 ≤ a4 ∧ a4 + N ≤ 40) (hS : (S : Int) = 40 * a1 + a2) (hD : (D : Int) = 40 * a3 + a4) (hc : D ≤ S ∨ S + N ≤ D) (M : Mem) :
    ∀ (n fuel k : Nat), k + n = N → n < fuel → fix (fun _ _ _ _ _ _ _ _ => none) k_Mo_pour_158 fuel a1 a2 a3 a4 (N : Int) 0 (k : Int) (pc M 114 S D 0 k) = some (1, pc M 114 S D 0 N) := by
  intro n; induction n with
  | zero =>
    intro fuel k e hf
    obtain ⟨f, rfl⟩ : ∃ f, fuel = f + 1 := ⟨fuel - 1, by omega⟩
    rw [fix_s]; unfold k_Mo_pour_158
    simp (disch := omega) only [w32_eq, if_neg]
    rw [show k = N by omega]
  | succ n ih =>
    intro fuel k e hf
    obtain ⟨f, rfl⟩ : ∃ f, fuel = f + 1 := ⟨fuel - 1, by omega⟩
    rw [fix_s]; unfold k_Mo_pour_158 k_Mo_pour_182
    have x1 : ix (40 * a1 + a2 + (k : Int)) = S + k := by rw [ix_e (by omega) (by omega)]; omega
    have x2 : ix (40 * a3 + a4 + (k : Int)) = D + k := by rw [ix_e (by omega) (by omega)]; omega
    simp (disch := omega) only [w32_eq, if_pos, blet_s, chk_t, x1, x2, if_true]
    rw [pc_up (by omega)]
    exact ih f (k + 1) (by omega) (by omega)
theorem l_pour_dn {a1 a2 a3 a4 : Int} {N S D : Nat} (h1 : 0 ≤ a1 ∧ a1 ≤ 3) (h3 : 0 ≤ a3 ∧ a3 ≤ 3) (h2 : 0 ≤ a2 ∧ a2 + N ≤ 40) (h4 : 0 ≤ a4 ∧ a4 + N ≤ 40) (hS : (S : Int) = 40 * a1 + a2) (hD : (D : Int) = 40 * a3 + a4) (hc : S < D ∨ D + N ≤ S) (M : Mem) :
    ∀ (n fuel k : Nat), k + n = N → n < fuel → fix (fun _ _ _ _ _ _ _ _ => none) k_Mo_pour_158 fuel a1 a2 a3 a4 (N : Int) 1 (k : Int) (pc M 114 S D n N) = some (1, pc M 114 S D 0 N) := by
  intro n; induction n with
  | zero =>
    intro fuel k e hf
    obtain ⟨f, rfl⟩ : ∃ f, fuel = f + 1 := ⟨fuel - 1, by omega⟩
    rw [fix_s]; unfold k_Mo_pour_158
    simp (disch := omega) only [w32_eq, if_neg]
  | succ n ih =>
    intro fuel k e hf
    obtain ⟨f, rfl⟩ : ∃ f, fuel = f + 1 := ⟨fuel - 1, by omega⟩
    rw [fix_s]; unfold k_Mo_pour_158 k_Mo_pour_182
    have x1 : ix (40 * a1 + a2 + ((N : Int) - 1 - (k : Int))) = S + n := by rw [ix_e (by omega) (by omega)]; omega
    have x2 : ix (40 * a3 + a4 + ((N : Int) - 1 - (k : Int))) = D + n := by rw [ix_e (by omega) (by omega)]; omega
    have y1 : ¬ w32 1 = 0 := by decide
    rw [if_pos (by rw [w32_eq (by omega) (by omega), w32_eq (by omega) (by omega)]; omega), if_neg y1]
    simp (disch := omega) only [w32_eq, blet_s, chk_t, x1, x2]
    rw [pc_dn (by omega) (by omega)]
    exact ih f (k + 1) (by omega) (by omega)
theorem r_pour_ok {a1 a2 a3 a4 a5 : Int} {M : Mem} (i2 : I32 a2) (i4 : I32 a4) (i5 : I32 a5) (hT : TrR (M 113) (M 112)) (h1 : 0 ≤ a1 ∧ a1 ≤ 3) (h3 : 0 ≤ a3 ∧ a3 ≤ 3) (m1 : 0 ≤ M 113 a1.toNat) (m3 : 0 ≤ M 113 a3.toNat) (hs : M 112 a1.toNat = M 112 a3.toNat) (h5 : 0 ≤ a5) (h2 : 0 ≤ a2 ∧ a2 + a5 ≤ M 113 a1.toNat) (h4 : 0 ≤ a4 ∧ a4 + a5 ≤ M 113 a3.toNat) : d_Mo_pour a1 a2 a3 a4 a5 M = some (1, cpy (sto (sto M 111 1 0) 111 0 0) 114 (40 * a1 + a2).toNat 114 (40 * a3 + a4).toNat a5.toNat) := by
  have t1 := hT a1.toNat (by omega)
  have t3 := hT a3.toNat (by omega)
  have z1 : ∀ c : Nat, c ≠ 111 → sto (sto M 111 1 0) 111 0 0 c = M c := fun c h => by rw [sto_r h, sto_r h]
  have u1 : w64 (a2 + a5) = a2 + a5 := w64_eq (by omega) (by omega)
  have u3 : w64 (a4 + a5) = a4 + a5 := w64_eq (by omega) (by omega)
  have v1 : w64 (M 113 a1.toNat) = M 113 a1.toNat := w64_eq (by omega) (by omega)
  have v3 : w64 (M 113 a3.toNat) = M 113 a3.toNat := w64_eq (by omega) (by omega)
  obtain ⟨N, rfl⟩ : ∃ N : Nat, a5 = (N : Int) := ⟨a5.toNat, by omega⟩
  unfold d_Mo_pour
  simp (disch := first | omega | decide) only [blet_s, w32_eq, if_neg, if_pos, chk_t, ix_e, z1, hs, if_true, u1, u3, v1, v3]
  rw [show ((N : Int)).toNat = N by omega, ← pc_cpy]
  unfold k_Mo_pour_153
  by_cases hr : a2 < a4
  · rw [if_pos hr]
    have q := l_pour_dn (a1 := a1) (a2 := a2) (a3 := a3) (a4 := a4) (N := N) (S := (40 * a1 + a2).toNat) (D := (40 * a3 + a4).toNat) h1 h3 (by omega) (by omega) (by omega) (by omega) (by omega) (sto (sto M 111 1 0) 111 0 0) N FU 0 (by omega) (by unfold FU; omega)
    rw [pc_0] at q; exact q
  · rw [if_neg hr]
    have q := l_pour_up (a1 := a1) (a2 := a2) (a3 := a3) (a4 := a4) (N := N) (S := (40 * a1 + a2).toNat) (D := (40 * a3 + a4).toNat) h1 h3 (by omega) (by omega) (by omega) (by omega) (by omega) (sto (sto M 111 1 0) 111 0 0) N FU 0 (by omega) (by unfold FU; omega)
    rw [pc_0] at q; exact q
/-- why a pour is refused -/
def poS (L S : Nat → Int) (a1 a2 a3 a4 a5 : Int) : Int := if ¬ ((0 ≤ a1 ∧ a1 ≤ 3) ∧ (0 ≤ a3 ∧ a3 ≤ 3)) then 1 else if L a1.toNat < 0 ∨ L a3.toNat < 0 then 3 else if S a1.toNat ≠ S a3.toNat then 11 else if a5 < 0 then 6 else if ¬ (0 ≤ a2 ∧ a2 + a5 ≤ L a1.toNat ∧ 0 ≤ a4 ∧ a4 + a5 ≤ L a3.toNat) then 4 else 0
theorem poS_0 {L S : Nat → Int} {a1 a2 a3 a4 a5 : Int} (h : poS L S a1 a2 a3 a4 a5 = 0) : (0 ≤ a1 ∧ a1 ≤ 3) ∧ (0 ≤ a3 ∧ a3 ≤ 3) ∧ 0 ≤ L a1.toNat ∧ 0 ≤ L a3.toNat ∧ S a1.toNat = S a3.toNat ∧ 0 ≤ a5 ∧ (0 ≤ a2 ∧ a2 + a5 ≤ L a1.toNat) ∧ 0 ≤ a4 ∧ a4 + a5 ≤ L a3.toNat := by
  unfold poS at h
  by_cases c1 : (0 ≤ a1 ∧ a1 ≤ 3) ∧ (0 ≤ a3 ∧ a3 ≤ 3)
  · rw [if_neg (by omega)] at h
    by_cases c2 : L a1.toNat < 0 ∨ L a3.toNat < 0
    · rw [if_pos c2] at h; omega
    · rw [if_neg c2] at h
      by_cases c3 : S a1.toNat = S a3.toNat
      · rw [if_neg (by omega)] at h
        by_cases c4 : a5 < 0
        · rw [if_pos c4] at h; omega
        · rw [if_neg c4] at h
          by_cases c5 : 0 ≤ a2 ∧ a2 + a5 ≤ L a1.toNat ∧ 0 ≤ a4 ∧ a4 + a5 ≤ L a3.toNat
          · omega
          · rw [if_pos c5] at h; omega
      · rw [if_pos c3] at h; omega
  · rw [if_pos c1] at h; omega
