/-! EVENTS: the two sides agree -/
/-- an event, as both sides hold it -/
def Ev (M : Mem) (k : Nat) : Prop := M 16 k = M 120 k ∧ M 21 k = M 125 k ∧ M 22 k = M 126 k ∧ M 25 k = M 128 k ∧ M 26 k = M 129 k ∧ (0 ≤ M 125 k ∧ M 125 k ≤ 9) ∧ (1 ≤ M 126 k ∧ M 126 k ≤ 100000) ∧ (0 ≤ M 128 k ∧ M 128 k ≤ 519) ∧ (0 ≤ M 129 k ∧ M 129 k ≤ 519) ∧
  ((M 120 k = 0 ∧ M 17 k = M 121 k ∧ M 18 k = M 122 k ∧ (0 ≤ M 121 k ∧ M 121 k < M 111 5) ∧ (0 ≤ M 122 k ∧ M 122 k < M 111 6) ∧ M 126 k ≤ 10000 ∧ (0 ≤ M 127 k ∧ M 127 k ≤ 1000) ∧ M 23 k = dv32 (M 126 k * M 127 k) 1000 ∧ M 125 k = dv32 (M 128 k) 52) ∨
   (M 120 k = 1 ∧ M 18 k = M 122 k ∧ M 19 k = M 123 k ∧ M 20 k = M 124 k ∧ (0 ≤ M 122 k ∧ M 122 k < M 111 6) ∧ (0 ≤ M 123 k ∧ M 123 k ≤ 1) ∧ (0 ≤ M 124 k ∧ M 124 k ≤ 5)) ∨
   (M 120 k = 2 ∧ M 19 k = M 122 k ∧ M 20 k = M 124 k ∧ M 24 k = M 127 k ∧ (0 ≤ M 122 k ∧ M 122 k ≤ 1) ∧ (0 ≤ M 124 k ∧ M 124 k ≤ 5) ∧ (0 ≤ M 127 k ∧ M 127 k ≤ 1000)) ∨
   (M 120 k = 3 ∧ M 18 k = M 122 k ∧ M 20 k = M 124 k ∧ (0 ≤ M 122 k ∧ M 122 k < M 111 6) ∧ (0 ≤ M 124 k ∧ M 124 k ≤ 5)))
def IvE (M : Mem) : Prop := (0 ≤ M 111 7 ∧ M 111 7 ≤ 120) ∧ M 15 0 = M 111 7 ∧ (0 ≤ M 111 9 ∧ M 111 9 ≤ 519) ∧ M 15 1 = M 111 9 ∧ (0 ≤ M 111 10 ∧ M 111 10 ≤ 519) ∧ (M 111 7 = 0 → M 111 10 = 0) ∧ (0 < M 111 7 → M 25 (M 111 7 - 1).toNat = M 111 10) ∧
  (∀ k : Nat, (k : Int) < M 111 7 → Ev M k) ∧ (∀ k : Nat, (k : Int) < M 111 7 → M 129 k ≤ M 111 9) ∧ ∀ i k : Nat, i ≤ k → (k : Int) < M 111 7 → M 129 i ≤ M 129 k
theorem IvE.s0 {M : Mem} {v : Int} (h : IvE M) : IvE (sto M 0 0 v) := by
  unfold IvE Ev at h ⊢; simp only [sto_c, Nat.reduceEqDiff, reduceIte, eq_self, if_true]; exact h
theorem IvE.s1 {M : Mem} {v : Int} (h : IvE M) : IvE (sto M 111 1 v) := by
  unfold IvE Ev at h ⊢; simp only [sto_c, Nat.reduceEqDiff, reduceIte, eq_self, if_true]; exact h
theorem IvE.s2 {M : Mem} {v : Int} (h : IvE M) : IvE (sto M 111 0 v) := by
  unfold IvE Ev at h ⊢; simp only [sto_c, Nat.reduceEqDiff, reduceIte, eq_self, if_true]; exact h
theorem wl_52 : w32 52 = 52 := rfl
theorem dv52 {x : Int} (h : 0 ≤ x ∧ x ≤ 519) : dv32 x 52 = x / 52 := by unfold dv32; rw [w32_eq (by omega) (by omega), wl_52, Int.tdiv_eq_ediv_of_nonneg h.1]
theorem sim_load {M : Mem} {a1 a2 a3 a4 a5 a6 : Int} (i1 : I32 a1) (i2 : I32 a2) (i3 : I32 a3) (i4 : I32 a4) (i5 : I32 a5) (i6 : I32 a6) (hp : IvP M) (h : IvE M) : Simi (d_PP_load a1 a2 a3 a4 a5 a6) (d_Mo_load a1 a2 a3 a4 a5 a6) M IvE := by
  obtain ⟨f1, f2, f3, f4, -⟩ := id hp
  obtain ⟨p1, p2, p3, p4, p5, p6, p7, p8, p9, p10⟩ := id h
  have e1 := c_load (M := M) i1 i2 i3 i4 i5 i6 (by omega) (by omega) (by omega) (by omega) (fun z => by rw [p2] at z ⊢; rw [p7 z]; exact p5)
  simp only [p2, p4, f3, f4] at e1
  by_cases b0 : (0 ≤ a1 ∧ a1 ≤ M 111 5 - 1) ∧ (0 ≤ a2 ∧ a2 ≤ M 111 6 - 1)
  rotate_left
  · rw [if_pos (by omega)] at e1
    have e2 := r_load (M := sto M 0 0 2) i1 i2 i3 i4 i5 i6 (by simp only [sto_c, Nat.reduceEqDiff, reduceIte, eq_self, if_true]; omega) (by simp only [sto_c, Nat.reduceEqDiff, reduceIte, eq_self, if_true]; omega) (by simp only [sto_c, Nat.reduceEqDiff, reduceIte, eq_self, if_true]; omega) (by simp only [sto_c, Nat.reduceEqDiff, reduceIte, eq_self, if_true]; omega) (by simp only [sto_c, Nat.reduceEqDiff, reduceIte, eq_self, if_true]; omega)
    simp only [sto_c, Nat.reduceEqDiff, reduceIte, eq_self, if_true] at e2
    rw [if_pos (by omega)] at e2
    exact ⟨_, _, _, _, e1, e2, rfl, by simp only [sto_c, Nat.reduceEqDiff, reduceIte, eq_self, if_true], h.s0.s1.s2⟩
  by_cases b1 : ((1 ≤ a3 ∧ a3 ≤ 10000) ∧ (0 ≤ a4 ∧ a4 ≤ 1000)) ∧ (0 ≤ a5 ∧ a5 ≤ 519) ∧ (0 ≤ a6 ∧ a6 ≤ 519) ∧ a5 ≤ a6
  rotate_left
  · rw [if_neg (by omega), if_pos (by omega)] at e1
    have e2 := r_load (M := sto M 0 0 5) i1 i2 i3 i4 i5 i6 (by simp only [sto_c, Nat.reduceEqDiff, reduceIte, eq_self, if_true]; omega) (by simp only [sto_c, Nat.reduceEqDiff, reduceIte, eq_self, if_true]; omega) (by simp only [sto_c, Nat.reduceEqDiff, reduceIte, eq_self, if_true]; omega) (by simp only [sto_c, Nat.reduceEqDiff, reduceIte, eq_self, if_true]; omega) (by simp only [sto_c, Nat.reduceEqDiff, reduceIte, eq_self, if_true]; omega)
    simp only [sto_c, Nat.reduceEqDiff, reduceIte, eq_self, if_true] at e2
    rw [if_neg (by omega), if_pos (by omega)] at e2
    exact ⟨_, _, _, _, e1, e2, rfl, by simp only [sto_c, Nat.reduceEqDiff, reduceIte, eq_self, if_true], h.s0.s1.s2⟩
  have g : ((0 < M 111 7 ∧ a5 < M 25 (M 111 7 - 1).toNat) ∨ a6 < M 111 9) ↔ (a5 < M 111 10 ∨ a6 < M 111 9) := by
    by_cases z : 0 < M 111 7
    · rw [p7 z]; omega
    · have y := p6 (by omega); omega
  by_cases b2 : M 111 7 < 120
  rotate_left
  · rw [if_neg (by omega), if_neg (by omega), if_pos (by omega)] at e1
    have e2 := r_load (M := sto M 0 0 7) i1 i2 i3 i4 i5 i6 (by simp only [sto_c, Nat.reduceEqDiff, reduceIte, eq_self, if_true]; omega) (by simp only [sto_c, Nat.reduceEqDiff, reduceIte, eq_self, if_true]; omega) (by simp only [sto_c, Nat.reduceEqDiff, reduceIte, eq_self, if_true]; omega) (by simp only [sto_c, Nat.reduceEqDiff, reduceIte, eq_self, if_true]; omega) (by simp only [sto_c, Nat.reduceEqDiff, reduceIte, eq_self, if_true]; omega)
    simp only [sto_c, Nat.reduceEqDiff, reduceIte, eq_self, if_true] at e2
    rw [if_neg (by omega), if_neg (by omega), if_pos (by omega)] at e2
    exact ⟨_, _, _, _, e1, e2, rfl, by simp only [sto_c, Nat.reduceEqDiff, reduceIte, eq_self, if_true], h.s0.s1.s2⟩
  rw [if_neg (by omega), if_neg (by omega), if_neg (by omega)] at e1
  simp only [g] at e1
  by_cases b3 : ¬ (a5 < M 111 10 ∨ a6 < M 111 9)
  rotate_left
  · rw [if_pos (by omega)] at e1
    have e2 := r_load (M := sto M 0 0 12) i1 i2 i3 i4 i5 i6 (by simp only [sto_c, Nat.reduceEqDiff, reduceIte, eq_self, if_true]; omega) (by simp only [sto_c, Nat.reduceEqDiff, reduceIte, eq_self, if_true]; omega) (by simp only [sto_c, Nat.reduceEqDiff, reduceIte, eq_self, if_true]; omega) (by simp only [sto_c, Nat.reduceEqDiff, reduceIte, eq_self, if_true]; omega) (by simp only [sto_c, Nat.reduceEqDiff, reduceIte, eq_self, if_true]; omega)
    simp only [sto_c, Nat.reduceEqDiff, reduceIte, eq_self, if_true] at e2
    rw [if_neg (by omega), if_neg (by omega), if_neg (by omega), if_pos (by omega)] at e2
    exact ⟨_, _, _, _, e1, e2, rfl, by simp only [sto_c, Nat.reduceEqDiff, reduceIte, eq_self, if_true], h.s0.s1.s2⟩
  rw [if_neg (by omega)] at e1
  have e2 := r_load (M := sto (sto (sto (sto (sto (sto (sto (sto (sto (sto (sto M 0 0 0) 16 (M 111 7).toNat (0)) 25 (M 111 7).toNat (a5)) 26 (M 111 7).toNat (a6)) 15 1 (a6)) 15 0 (M 111 7 + 1)) 17 (M 111 7).toNat (a1)) 18 (M 111 7).toNat (a2)) 21 (M 111 7).toNat (dv32 a5 52)) 22 (M 111 7).toNat (a3)) 23 (M 111 7).toNat (dv32 (a3 * a4) 1000)) i1 i2 i3 i4 i5 i6 (by simp only [sto_c, Nat.reduceEqDiff, reduceIte, eq_self, if_true]; omega) (by simp only [sto_c, Nat.reduceEqDiff, reduceIte, eq_self, if_true]; omega) (by simp only [sto_c, Nat.reduceEqDiff, reduceIte, eq_self, if_true]; omega) (by simp only [sto_c, Nat.reduceEqDiff, reduceIte, eq_self, if_true]; omega) (by simp only [sto_c, Nat.reduceEqDiff, reduceIte, eq_self, if_true]; omega)
  simp only [sto_c, Nat.reduceEqDiff, reduceIte, eq_self, if_true] at e2
  rw [if_neg (by omega), if_neg (by omega), if_neg (by omega), if_neg (by omega)] at e2
  refine ⟨_, _, _, _, e1, e2, rfl, by simp only [sto_c, Nat.reduceEqDiff, reduceIte, eq_self, if_true], ?_⟩
  refine ⟨by simp only [sto_c, Nat.reduceEqDiff, reduceIte, eq_self, if_true]; omega, by simp only [sto_c, Nat.reduceEqDiff, reduceIte, eq_self, if_true], by simp only [sto_c, Nat.reduceEqDiff, reduceIte, eq_self, if_true]; omega, by simp only [sto_c, Nat.reduceEqDiff, reduceIte, eq_self, if_true], by simp only [sto_c, Nat.reduceEqDiff, reduceIte, eq_self, if_true]; omega, ?_, ?_, fun k hk => ?_, fun k hk => ?_, fun i k hik hk => ?_⟩
  · simp only [sto_c, Nat.reduceEqDiff, reduceIte, eq_self, if_true]; omega
  · simp only [sto_c, Nat.reduceEqDiff, reduceIte, eq_self, if_true]; intro _; rw [if_pos (by omega)]
  · simp only [sto_c, Nat.reduceEqDiff, reduceIte, eq_self, if_true] at hk
    by_cases ek : k = (M 111 7).toNat
    · unfold Ev; simp only [sto_c, Nat.reduceEqDiff, reduceIte, eq_self, if_true, ek, true_and, and_true, Int.reduceEq, false_and, or_false, false_or]; have dd := dv52 (x := a5) (by omega); omega
    · have q := p8 k (by omega)
      unfold Ev at q ⊢; simp only [sto_c, Nat.reduceEqDiff, reduceIte, eq_self, if_true, ek, if_false]; exact q
  · simp only [sto_c, Nat.reduceEqDiff, reduceIte, eq_self, if_true] at hk ⊢
    by_cases ek : k = (M 111 7).toNat
    · rw [if_pos ek]; exact Int.le_refl _
    · have q := p9 k (by omega); rw [if_neg ek]; omega
  · simp only [sto_c, Nat.reduceEqDiff, reduceIte, eq_self, if_true] at hk ⊢
    by_cases ek : k = (M 111 7).toNat
    · by_cases ei : i = (M 111 7).toNat
      · rw [if_pos ei, if_pos ek]; exact Int.le_refl _
      · have q := p9 i (by omega)
        rw [if_neg ei, if_pos ek]; omega
    · rw [if_neg (by omega), if_neg ek]; exact p10 i k hik (by omega)
theorem sim_car {M : Mem} {a1 a2 a3 a4 a5 a6 a7 : Int} (i1 : I32 a1) (i2 : I32 a2) (i3 : I32 a3) (i4 : I32 a4) (i5 : I32 a5) (i6 : I32 a6) (i7 : I32 a7) (hp : IvP M) (h : IvE M) : Simi (d_PP_car a1 a2 a3 a4 a5 a6 a7) (d_Mo_car a1 a2 a3 a4 a5 a6 a7) M IvE := by
  obtain ⟨f1, f2, f3, f4, -⟩ := id hp
  obtain ⟨p1, p2, p3, p4, p5, p6, p7, p8, p9, p10⟩ := id h
  have e1 := c_car (M := M) i1 i2 i3 i4 i5 i6 i7 (by omega) (by omega) (by omega) (by omega) (fun z => by rw [p2] at z ⊢; rw [p7 z]; exact p5)
  simp only [p2, p4, f3, f4] at e1
  by_cases b0 : (0 ≤ a1 ∧ a1 ≤ M 111 6 - 1) ∧ (0 ≤ a2 ∧ a2 ≤ 1) ∧ (0 ≤ a3 ∧ a3 ≤ 5)
  rotate_left
  · rw [if_pos (by omega)] at e1
    have e2 := r_car (M := sto M 0 0 2) i1 i2 i3 i4 i5 i6 i7 (by simp only [sto_c, Nat.reduceEqDiff, reduceIte, eq_self, if_true]; omega) (by simp only [sto_c, Nat.reduceEqDiff, reduceIte, eq_self, if_true]; omega) (by simp only [sto_c, Nat.reduceEqDiff, reduceIte, eq_self, if_true]; omega) (by simp only [sto_c, Nat.reduceEqDiff, reduceIte, eq_self, if_true]; omega) (by simp only [sto_c, Nat.reduceEqDiff, reduceIte, eq_self, if_true]; omega)
    simp only [sto_c, Nat.reduceEqDiff, reduceIte, eq_self, if_true] at e2
    rw [if_pos (by omega)] at e2
    exact ⟨_, _, _, _, e1, e2, rfl, by simp only [sto_c, Nat.reduceEqDiff, reduceIte, eq_self, if_true], h.s0.s1.s2⟩
  by_cases b1 : ((0 ≤ a4 ∧ a4 ≤ 9) ∧ (1 ≤ a5 ∧ a5 ≤ 100000)) ∧ (0 ≤ a6 ∧ a6 ≤ 519) ∧ (0 ≤ a7 ∧ a7 ≤ 519) ∧ a6 ≤ a7
  rotate_left
  · rw [if_neg (by omega), if_pos (by omega)] at e1
    have e2 := r_car (M := sto M 0 0 5) i1 i2 i3 i4 i5 i6 i7 (by simp only [sto_c, Nat.reduceEqDiff, reduceIte, eq_self, if_true]; omega) (by simp only [sto_c, Nat.reduceEqDiff, reduceIte, eq_self, if_true]; omega) (by simp only [sto_c, Nat.reduceEqDiff, reduceIte, eq_self, if_true]; omega) (by simp only [sto_c, Nat.reduceEqDiff, reduceIte, eq_self, if_true]; omega) (by simp only [sto_c, Nat.reduceEqDiff, reduceIte, eq_self, if_true]; omega)
    simp only [sto_c, Nat.reduceEqDiff, reduceIte, eq_self, if_true] at e2
    rw [if_neg (by omega), if_pos (by omega)] at e2
    exact ⟨_, _, _, _, e1, e2, rfl, by simp only [sto_c, Nat.reduceEqDiff, reduceIte, eq_self, if_true], h.s0.s1.s2⟩
  have g : ((0 < M 111 7 ∧ a6 < M 25 (M 111 7 - 1).toNat) ∨ a7 < M 111 9) ↔ (a6 < M 111 10 ∨ a7 < M 111 9) := by
    by_cases z : 0 < M 111 7
    · rw [p7 z]; omega
    · have y := p6 (by omega); omega
  by_cases b2 : M 111 7 < 120
  rotate_left
  · rw [if_neg (by omega), if_neg (by omega), if_pos (by omega)] at e1
    have e2 := r_car (M := sto M 0 0 7) i1 i2 i3 i4 i5 i6 i7 (by simp only [sto_c, Nat.reduceEqDiff, reduceIte, eq_self, if_true]; omega) (by simp only [sto_c, Nat.reduceEqDiff, reduceIte, eq_self, if_true]; omega) (by simp only [sto_c, Nat.reduceEqDiff, reduceIte, eq_self, if_true]; omega) (by simp only [sto_c, Nat.reduceEqDiff, reduceIte, eq_self, if_true]; omega) (by simp only [sto_c, Nat.reduceEqDiff, reduceIte, eq_self, if_true]; omega)
    simp only [sto_c, Nat.reduceEqDiff, reduceIte, eq_self, if_true] at e2
    rw [if_neg (by omega), if_neg (by omega), if_pos (by omega)] at e2
    exact ⟨_, _, _, _, e1, e2, rfl, by simp only [sto_c, Nat.reduceEqDiff, reduceIte, eq_self, if_true], h.s0.s1.s2⟩
  rw [if_neg (by omega), if_neg (by omega), if_neg (by omega)] at e1
  simp only [g] at e1
  by_cases b3 : ¬ (a6 < M 111 10 ∨ a7 < M 111 9)
  rotate_left
  · rw [if_pos (by omega)] at e1
    have e2 := r_car (M := sto M 0 0 12) i1 i2 i3 i4 i5 i6 i7 (by simp only [sto_c, Nat.reduceEqDiff, reduceIte, eq_self, if_true]; omega) (by simp only [sto_c, Nat.reduceEqDiff, reduceIte, eq_self, if_true]; omega) (by simp only [sto_c, Nat.reduceEqDiff, reduceIte, eq_self, if_true]; omega) (by simp only [sto_c, Nat.reduceEqDiff, reduceIte, eq_self, if_true]; omega) (by simp only [sto_c, Nat.reduceEqDiff, reduceIte, eq_self, if_true]; omega)
    simp only [sto_c, Nat.reduceEqDiff, reduceIte, eq_self, if_true] at e2
    rw [if_neg (by omega), if_neg (by omega), if_neg (by omega), if_pos (by omega)] at e2
    exact ⟨_, _, _, _, e1, e2, rfl, by simp only [sto_c, Nat.reduceEqDiff, reduceIte, eq_self, if_true], h.s0.s1.s2⟩
  rw [if_neg (by omega)] at e1
  have e2 := r_car (M := sto (sto (sto (sto (sto (sto (sto (sto (sto (sto (sto M 0 0 0) 16 (M 111 7).toNat (1)) 25 (M 111 7).toNat (a6)) 26 (M 111 7).toNat (a7)) 15 1 (a7)) 15 0 (M 111 7 + 1)) 18 (M 111 7).toNat (a1)) 19 (M 111 7).toNat (a2)) 20 (M 111 7).toNat (a3)) 21 (M 111 7).toNat (a4)) 22 (M 111 7).toNat (a5)) i1 i2 i3 i4 i5 i6 i7 (by simp only [sto_c, Nat.reduceEqDiff, reduceIte, eq_self, if_true]; omega) (by simp only [sto_c, Nat.reduceEqDiff, reduceIte, eq_self, if_true]; omega) (by simp only [sto_c, Nat.reduceEqDiff, reduceIte, eq_self, if_true]; omega) (by simp only [sto_c, Nat.reduceEqDiff, reduceIte, eq_self, if_true]; omega) (by simp only [sto_c, Nat.reduceEqDiff, reduceIte, eq_self, if_true]; omega)
  simp only [sto_c, Nat.reduceEqDiff, reduceIte, eq_self, if_true] at e2
  rw [if_neg (by omega), if_neg (by omega), if_neg (by omega), if_neg (by omega)] at e2
  refine ⟨_, _, _, _, e1, e2, rfl, by simp only [sto_c, Nat.reduceEqDiff, reduceIte, eq_self, if_true], ?_⟩
  refine ⟨by simp only [sto_c, Nat.reduceEqDiff, reduceIte, eq_self, if_true]; omega, by simp only [sto_c, Nat.reduceEqDiff, reduceIte, eq_self, if_true], by simp only [sto_c, Nat.reduceEqDiff, reduceIte, eq_self, if_true]; omega, by simp only [sto_c, Nat.reduceEqDiff, reduceIte, eq_self, if_true], by simp only [sto_c, Nat.reduceEqDiff, reduceIte, eq_self, if_true]; omega, ?_, ?_, fun k hk => ?_, fun k hk => ?_, fun i k hik hk => ?_⟩
  · simp only [sto_c, Nat.reduceEqDiff, reduceIte, eq_self, if_true]; omega
  · simp only [sto_c, Nat.reduceEqDiff, reduceIte, eq_self, if_true]; intro _; rw [if_pos (by omega)]
  · simp only [sto_c, Nat.reduceEqDiff, reduceIte, eq_self, if_true] at hk
    by_cases ek : k = (M 111 7).toNat
    · unfold Ev; simp only [sto_c, Nat.reduceEqDiff, reduceIte, eq_self, if_true, ek, true_and, and_true, Int.reduceEq, false_and, or_false, false_or]; omega
    · have q := p8 k (by omega)
      unfold Ev at q ⊢; simp only [sto_c, Nat.reduceEqDiff, reduceIte, eq_self, if_true, ek, if_false]; exact q
  · simp only [sto_c, Nat.reduceEqDiff, reduceIte, eq_self, if_true] at hk ⊢
    by_cases ek : k = (M 111 7).toNat
    · rw [if_pos ek]; exact Int.le_refl _
    · have q := p9 k (by omega); rw [if_neg ek]; omega
  · simp only [sto_c, Nat.reduceEqDiff, reduceIte, eq_self, if_true] at hk ⊢
    by_cases ek : k = (M 111 7).toNat
    · by_cases ei : i = (M 111 7).toNat
      · rw [if_pos ei, if_pos ek]; exact Int.le_refl _
      · have q := p9 i (by omega)
        rw [if_neg ei, if_pos ek]; omega
    · rw [if_neg (by omega), if_neg ek]; exact p10 i k hik (by omega)
theorem sim_sale {M : Mem} {a1 a2 a3 a4 a5 a6 a7 : Int} (i1 : I32 a1) (i2 : I32 a2) (i3 : I32 a3) (i4 : I32 a4) (i5 : I32 a5) (i6 : I32 a6) (i7 : I32 a7) (hp : IvP M) (h : IvE M) : Simi (d_PP_sale a1 a2 a3 a4 a5 a6 a7) (d_Mo_sale a1 a2 a3 a4 a5 a6 a7) M IvE := by
  obtain ⟨f1, f2, f3, f4, -⟩ := id hp
  obtain ⟨p1, p2, p3, p4, p5, p6, p7, p8, p9, p10⟩ := id h
  have e1 := c_sale (M := M) i1 i2 i3 i4 i5 i6 i7 (by omega) (by omega) (by omega) (by omega) (fun z => by rw [p2] at z ⊢; rw [p7 z]; exact p5)
  simp only [p2, p4, f3, f4] at e1
  by_cases b0 : (0 ≤ a1 ∧ a1 ≤ 1) ∧ (0 ≤ a2 ∧ a2 ≤ 5)
  rotate_left
  · rw [if_pos (by omega)] at e1
    have e2 := r_sale (M := sto M 0 0 2) i1 i2 i3 i4 i5 i6 i7 (by simp only [sto_c, Nat.reduceEqDiff, reduceIte, eq_self, if_true]; omega) (by simp only [sto_c, Nat.reduceEqDiff, reduceIte, eq_self, if_true]; omega) (by simp only [sto_c, Nat.reduceEqDiff, reduceIte, eq_self, if_true]; omega) (by simp only [sto_c, Nat.reduceEqDiff, reduceIte, eq_self, if_true]; omega) (by simp only [sto_c, Nat.reduceEqDiff, reduceIte, eq_self, if_true]; omega)
    simp only [sto_c, Nat.reduceEqDiff, reduceIte, eq_self, if_true] at e2
    rw [if_pos (by omega)] at e2
    exact ⟨_, _, _, _, e1, e2, rfl, by simp only [sto_c, Nat.reduceEqDiff, reduceIte, eq_self, if_true], h.s0.s1.s2⟩
  by_cases b1 : ((0 ≤ a3 ∧ a3 ≤ 9) ∧ (1 ≤ a4 ∧ a4 ≤ 100000) ∧ (0 ≤ a5 ∧ a5 ≤ 1000)) ∧ (0 ≤ a6 ∧ a6 ≤ 519) ∧ (0 ≤ a7 ∧ a7 ≤ 519) ∧ a6 ≤ a7
  rotate_left
  · rw [if_neg (by omega), if_pos (by omega)] at e1
    have e2 := r_sale (M := sto M 0 0 5) i1 i2 i3 i4 i5 i6 i7 (by simp only [sto_c, Nat.reduceEqDiff, reduceIte, eq_self, if_true]; omega) (by simp only [sto_c, Nat.reduceEqDiff, reduceIte, eq_self, if_true]; omega) (by simp only [sto_c, Nat.reduceEqDiff, reduceIte, eq_self, if_true]; omega) (by simp only [sto_c, Nat.reduceEqDiff, reduceIte, eq_self, if_true]; omega) (by simp only [sto_c, Nat.reduceEqDiff, reduceIte, eq_self, if_true]; omega)
    simp only [sto_c, Nat.reduceEqDiff, reduceIte, eq_self, if_true] at e2
    rw [if_neg (by omega), if_pos (by omega)] at e2
    exact ⟨_, _, _, _, e1, e2, rfl, by simp only [sto_c, Nat.reduceEqDiff, reduceIte, eq_self, if_true], h.s0.s1.s2⟩
  have g : ((0 < M 111 7 ∧ a6 < M 25 (M 111 7 - 1).toNat) ∨ a7 < M 111 9) ↔ (a6 < M 111 10 ∨ a7 < M 111 9) := by
    by_cases z : 0 < M 111 7
    · rw [p7 z]; omega
    · have y := p6 (by omega); omega
  by_cases b2 : M 111 7 < 120
  rotate_left
  · rw [if_neg (by omega), if_neg (by omega), if_pos (by omega)] at e1
    have e2 := r_sale (M := sto M 0 0 7) i1 i2 i3 i4 i5 i6 i7 (by simp only [sto_c, Nat.reduceEqDiff, reduceIte, eq_self, if_true]; omega) (by simp only [sto_c, Nat.reduceEqDiff, reduceIte, eq_self, if_true]; omega) (by simp only [sto_c, Nat.reduceEqDiff, reduceIte, eq_self, if_true]; omega) (by simp only [sto_c, Nat.reduceEqDiff, reduceIte, eq_self, if_true]; omega) (by simp only [sto_c, Nat.reduceEqDiff, reduceIte, eq_self, if_true]; omega)
    simp only [sto_c, Nat.reduceEqDiff, reduceIte, eq_self, if_true] at e2
    rw [if_neg (by omega), if_neg (by omega), if_pos (by omega)] at e2
    exact ⟨_, _, _, _, e1, e2, rfl, by simp only [sto_c, Nat.reduceEqDiff, reduceIte, eq_self, if_true], h.s0.s1.s2⟩
  rw [if_neg (by omega), if_neg (by omega), if_neg (by omega)] at e1
  simp only [g] at e1
  by_cases b3 : ¬ (a6 < M 111 10 ∨ a7 < M 111 9)
  rotate_left
  · rw [if_pos (by omega)] at e1
    have e2 := r_sale (M := sto M 0 0 12) i1 i2 i3 i4 i5 i6 i7 (by simp only [sto_c, Nat.reduceEqDiff, reduceIte, eq_self, if_true]; omega) (by simp only [sto_c, Nat.reduceEqDiff, reduceIte, eq_self, if_true]; omega) (by simp only [sto_c, Nat.reduceEqDiff, reduceIte, eq_self, if_true]; omega) (by simp only [sto_c, Nat.reduceEqDiff, reduceIte, eq_self, if_true]; omega) (by simp only [sto_c, Nat.reduceEqDiff, reduceIte, eq_self, if_true]; omega)
    simp only [sto_c, Nat.reduceEqDiff, reduceIte, eq_self, if_true] at e2
    rw [if_neg (by omega), if_neg (by omega), if_neg (by omega), if_pos (by omega)] at e2
    exact ⟨_, _, _, _, e1, e2, rfl, by simp only [sto_c, Nat.reduceEqDiff, reduceIte, eq_self, if_true], h.s0.s1.s2⟩
  rw [if_neg (by omega)] at e1
  have e2 := r_sale (M := sto (sto (sto (sto (sto (sto (sto (sto (sto (sto (sto M 0 0 0) 16 (M 111 7).toNat (2)) 25 (M 111 7).toNat (a6)) 26 (M 111 7).toNat (a7)) 15 1 (a7)) 15 0 (M 111 7 + 1)) 19 (M 111 7).toNat (a1)) 24 (M 111 7).toNat (a5)) 20 (M 111 7).toNat (a2)) 21 (M 111 7).toNat (a3)) 22 (M 111 7).toNat (a4)) i1 i2 i3 i4 i5 i6 i7 (by simp only [sto_c, Nat.reduceEqDiff, reduceIte, eq_self, if_true]; omega) (by simp only [sto_c, Nat.reduceEqDiff, reduceIte, eq_self, if_true]; omega) (by simp only [sto_c, Nat.reduceEqDiff, reduceIte, eq_self, if_true]; omega) (by simp only [sto_c, Nat.reduceEqDiff, reduceIte, eq_self, if_true]; omega) (by simp only [sto_c, Nat.reduceEqDiff, reduceIte, eq_self, if_true]; omega)
  simp only [sto_c, Nat.reduceEqDiff, reduceIte, eq_self, if_true] at e2
  rw [if_neg (by omega), if_neg (by omega), if_neg (by omega), if_neg (by omega)] at e2
  refine ⟨_, _, _, _, e1, e2, rfl, by simp only [sto_c, Nat.reduceEqDiff, reduceIte, eq_self, if_true], ?_⟩
  refine ⟨by simp only [sto_c, Nat.reduceEqDiff, reduceIte, eq_self, if_true]; omega, by simp only [sto_c, Nat.reduceEqDiff, reduceIte, eq_self, if_true], by simp only [sto_c, Nat.reduceEqDiff, reduceIte, eq_self, if_true]; omega, by simp only [sto_c, Nat.reduceEqDiff, reduceIte, eq_self, if_true], by simp only [sto_c, Nat.reduceEqDiff, reduceIte, eq_self, if_true]; omega, ?_, ?_, fun k hk => ?_, fun k hk => ?_, fun i k hik hk => ?_⟩
  · simp only [sto_c, Nat.reduceEqDiff, reduceIte, eq_self, if_true]; omega
  · simp only [sto_c, Nat.reduceEqDiff, reduceIte, eq_self, if_true]; intro _; rw [if_pos (by omega)]
  · simp only [sto_c, Nat.reduceEqDiff, reduceIte, eq_self, if_true] at hk
    by_cases ek : k = (M 111 7).toNat
    · unfold Ev; simp only [sto_c, Nat.reduceEqDiff, reduceIte, eq_self, if_true, ek, true_and, and_true, Int.reduceEq, false_and, or_false, false_or]; omega
    · have q := p8 k (by omega)
      unfold Ev at q ⊢; simp only [sto_c, Nat.reduceEqDiff, reduceIte, eq_self, if_true, ek, if_false]; exact q
  · simp only [sto_c, Nat.reduceEqDiff, reduceIte, eq_self, if_true] at hk ⊢
    by_cases ek : k = (M 111 7).toNat
    · rw [if_pos ek]; exact Int.le_refl _
    · have q := p9 k (by omega); rw [if_neg ek]; omega
  · simp only [sto_c, Nat.reduceEqDiff, reduceIte, eq_self, if_true] at hk ⊢
    by_cases ek : k = (M 111 7).toNat
    · by_cases ei : i = (M 111 7).toNat
      · rw [if_pos ei, if_pos ek]; exact Int.le_refl _
      · have q := p9 i (by omega)
        rw [if_neg ei, if_pos ek]; omega
    · rw [if_neg (by omega), if_neg ek]; exact p10 i k hik (by omega)
theorem sim_spoil {M : Mem} {a1 a2 a3 a4 a5 a6 : Int} (i1 : I32 a1) (i2 : I32 a2) (i3 : I32 a3) (i4 : I32 a4) (i5 : I32 a5) (i6 : I32 a6) (hp : IvP M) (h : IvE M) : Simi (d_PP_spoil a1 a2 a3 a4 a5 a6) (d_Mo_spoil a1 a2 a3 a4 a5 a6) M IvE := by
  obtain ⟨f1, f2, f3, f4, -⟩ := id hp
  obtain ⟨p1, p2, p3, p4, p5, p6, p7, p8, p9, p10⟩ := id h
  have e1 := c_spoil (M := M) i1 i2 i3 i4 i5 i6 (by omega) (by omega) (by omega) (by omega) (fun z => by rw [p2] at z ⊢; rw [p7 z]; exact p5)
  simp only [p2, p4, f3, f4] at e1
  by_cases b0 : (0 ≤ a1 ∧ a1 ≤ M 111 6 - 1) ∧ (0 ≤ a2 ∧ a2 ≤ 5)
  rotate_left
  · rw [if_pos (by omega)] at e1
    have e2 := r_spoil (M := sto M 0 0 2) i1 i2 i3 i4 i5 i6 (by simp only [sto_c, Nat.reduceEqDiff, reduceIte, eq_self, if_true]; omega) (by simp only [sto_c, Nat.reduceEqDiff, reduceIte, eq_self, if_true]; omega) (by simp only [sto_c, Nat.reduceEqDiff, reduceIte, eq_self, if_true]; omega) (by simp only [sto_c, Nat.reduceEqDiff, reduceIte, eq_self, if_true]; omega) (by simp only [sto_c, Nat.reduceEqDiff, reduceIte, eq_self, if_true]; omega)
    simp only [sto_c, Nat.reduceEqDiff, reduceIte, eq_self, if_true] at e2
    rw [if_pos (by omega)] at e2
    exact ⟨_, _, _, _, e1, e2, rfl, by simp only [sto_c, Nat.reduceEqDiff, reduceIte, eq_self, if_true], h.s0.s1.s2⟩
  by_cases b1 : ((0 ≤ a3 ∧ a3 ≤ 9) ∧ (1 ≤ a4 ∧ a4 ≤ 100000)) ∧ (0 ≤ a5 ∧ a5 ≤ 519) ∧ (0 ≤ a6 ∧ a6 ≤ 519) ∧ a5 ≤ a6
  rotate_left
  · rw [if_neg (by omega), if_pos (by omega)] at e1
    have e2 := r_spoil (M := sto M 0 0 5) i1 i2 i3 i4 i5 i6 (by simp only [sto_c, Nat.reduceEqDiff, reduceIte, eq_self, if_true]; omega) (by simp only [sto_c, Nat.reduceEqDiff, reduceIte, eq_self, if_true]; omega) (by simp only [sto_c, Nat.reduceEqDiff, reduceIte, eq_self, if_true]; omega) (by simp only [sto_c, Nat.reduceEqDiff, reduceIte, eq_self, if_true]; omega) (by simp only [sto_c, Nat.reduceEqDiff, reduceIte, eq_self, if_true]; omega)
    simp only [sto_c, Nat.reduceEqDiff, reduceIte, eq_self, if_true] at e2
    rw [if_neg (by omega), if_pos (by omega)] at e2
    exact ⟨_, _, _, _, e1, e2, rfl, by simp only [sto_c, Nat.reduceEqDiff, reduceIte, eq_self, if_true], h.s0.s1.s2⟩
  have g : ((0 < M 111 7 ∧ a5 < M 25 (M 111 7 - 1).toNat) ∨ a6 < M 111 9) ↔ (a5 < M 111 10 ∨ a6 < M 111 9) := by
    by_cases z : 0 < M 111 7
    · rw [p7 z]; omega
    · have y := p6 (by omega); omega
  by_cases b2 : M 111 7 < 120
  rotate_left
  · rw [if_neg (by omega), if_neg (by omega), if_pos (by omega)] at e1
    have e2 := r_spoil (M := sto M 0 0 7) i1 i2 i3 i4 i5 i6 (by simp only [sto_c, Nat.reduceEqDiff, reduceIte, eq_self, if_true]; omega) (by simp only [sto_c, Nat.reduceEqDiff, reduceIte, eq_self, if_true]; omega) (by simp only [sto_c, Nat.reduceEqDiff, reduceIte, eq_self, if_true]; omega) (by simp only [sto_c, Nat.reduceEqDiff, reduceIte, eq_self, if_true]; omega) (by simp only [sto_c, Nat.reduceEqDiff, reduceIte, eq_self, if_true]; omega)
    simp only [sto_c, Nat.reduceEqDiff, reduceIte, eq_self, if_true] at e2
    rw [if_neg (by omega), if_neg (by omega), if_pos (by omega)] at e2
    exact ⟨_, _, _, _, e1, e2, rfl, by simp only [sto_c, Nat.reduceEqDiff, reduceIte, eq_self, if_true], h.s0.s1.s2⟩
  rw [if_neg (by omega), if_neg (by omega), if_neg (by omega)] at e1
  simp only [g] at e1
  by_cases b3 : ¬ (a5 < M 111 10 ∨ a6 < M 111 9)
  rotate_left
  · rw [if_pos (by omega)] at e1
    have e2 := r_spoil (M := sto M 0 0 12) i1 i2 i3 i4 i5 i6 (by simp only [sto_c, Nat.reduceEqDiff, reduceIte, eq_self, if_true]; omega) (by simp only [sto_c, Nat.reduceEqDiff, reduceIte, eq_self, if_true]; omega) (by simp only [sto_c, Nat.reduceEqDiff, reduceIte, eq_self, if_true]; omega) (by simp only [sto_c, Nat.reduceEqDiff, reduceIte, eq_self, if_true]; omega) (by simp only [sto_c, Nat.reduceEqDiff, reduceIte, eq_self, if_true]; omega)
    simp only [sto_c, Nat.reduceEqDiff, reduceIte, eq_self, if_true] at e2
    rw [if_neg (by omega), if_neg (by omega), if_neg (by omega), if_pos (by omega)] at e2
    exact ⟨_, _, _, _, e1, e2, rfl, by simp only [sto_c, Nat.reduceEqDiff, reduceIte, eq_self, if_true], h.s0.s1.s2⟩
  rw [if_neg (by omega)] at e1
  have e2 := r_spoil (M := sto (sto (sto (sto (sto (sto (sto (sto (sto (sto M 0 0 0) 16 (M 111 7).toNat (3)) 25 (M 111 7).toNat (a5)) 26 (M 111 7).toNat (a6)) 15 1 (a6)) 15 0 (M 111 7 + 1)) 18 (M 111 7).toNat (a1)) 20 (M 111 7).toNat (a2)) 21 (M 111 7).toNat (a3)) 22 (M 111 7).toNat (a4)) i1 i2 i3 i4 i5 i6 (by simp only [sto_c, Nat.reduceEqDiff, reduceIte, eq_self, if_true]; omega) (by simp only [sto_c, Nat.reduceEqDiff, reduceIte, eq_self, if_true]; omega) (by simp only [sto_c, Nat.reduceEqDiff, reduceIte, eq_self, if_true]; omega) (by simp only [sto_c, Nat.reduceEqDiff, reduceIte, eq_self, if_true]; omega) (by simp only [sto_c, Nat.reduceEqDiff, reduceIte, eq_self, if_true]; omega)
  simp only [sto_c, Nat.reduceEqDiff, reduceIte, eq_self, if_true] at e2
  rw [if_neg (by omega), if_neg (by omega), if_neg (by omega), if_neg (by omega)] at e2
  refine ⟨_, _, _, _, e1, e2, rfl, by simp only [sto_c, Nat.reduceEqDiff, reduceIte, eq_self, if_true], ?_⟩
  refine ⟨by simp only [sto_c, Nat.reduceEqDiff, reduceIte, eq_self, if_true]; omega, by simp only [sto_c, Nat.reduceEqDiff, reduceIte, eq_self, if_true], by simp only [sto_c, Nat.reduceEqDiff, reduceIte, eq_self, if_true]; omega, by simp only [sto_c, Nat.reduceEqDiff, reduceIte, eq_self, if_true], by simp only [sto_c, Nat.reduceEqDiff, reduceIte, eq_self, if_true]; omega, ?_, ?_, fun k hk => ?_, fun k hk => ?_, fun i k hik hk => ?_⟩
  · simp only [sto_c, Nat.reduceEqDiff, reduceIte, eq_self, if_true]; omega
  · simp only [sto_c, Nat.reduceEqDiff, reduceIte, eq_self, if_true]; intro _; rw [if_pos (by omega)]
  · simp only [sto_c, Nat.reduceEqDiff, reduceIte, eq_self, if_true] at hk
    by_cases ek : k = (M 111 7).toNat
    · unfold Ev; simp only [sto_c, Nat.reduceEqDiff, reduceIte, eq_self, if_true, ek, true_and, and_true, Int.reduceEq, false_and, or_false, false_or]; omega
    · have q := p8 k (by omega)
      unfold Ev at q ⊢; simp only [sto_c, Nat.reduceEqDiff, reduceIte, eq_self, if_true, ek, if_false]; exact q
  · simp only [sto_c, Nat.reduceEqDiff, reduceIte, eq_self, if_true] at hk ⊢
    by_cases ek : k = (M 111 7).toNat
    · rw [if_pos ek]; exact Int.le_refl _
    · have q := p9 k (by omega); rw [if_neg ek]; omega
  · simp only [sto_c, Nat.reduceEqDiff, reduceIte, eq_self, if_true] at hk ⊢
    by_cases ek : k = (M 111 7).toNat
    · by_cases ei : i = (M 111 7).toNat
      · rw [if_pos ei, if_pos ek]; exact Int.le_refl _
      · have q := p9 i (by omega)
        rw [if_neg ei, if_pos ek]; omega
    · rw [if_neg (by omega), if_neg ek]; exact p10 i k hik (by omega)
