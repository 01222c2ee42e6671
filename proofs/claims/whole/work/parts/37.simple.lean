/-! FARMS, ELEVATORS, CONTRACTS, votes: the two sides agree -/
def IvP (M : Mem) : Prop := (0 ≤ M 111 5 ∧ M 111 5 ≤ 20) ∧ (0 ≤ M 111 6 ∧ M 111 6 ≤ 8) ∧ M 5 0 = M 111 5 ∧ M 5 8 = M 111 6 ∧
  (∀ f : Nat, (f : Int) < M 111 5 → M 6 f = M 115 f ∧ M 7 f = M 116 f ∧ M 8 f = M 117 f ∧ M 12 f = M 166 f ∧ (0 ≤ M 115 f ∧ M 115 f ≤ 5) ∧ (1 ≤ M 116 f ∧ M 116 f ≤ 5000) ∧ (0 ≤ M 117 f ∧ M 117 f ≤ 100000) ∧ (-1 ≤ M 166 f ∧ M 166 f ≤ 1) ∧
    ((M 164 f = -1 ∧ M 9 f = 10 ∧ M 10 f = -1) ∨ (0 ≤ M 164 f ∧ M 164 f ≤ M 165 f ∧ M 165 f ≤ 9 ∧ M 9 f = M 164 f ∧ M 10 f = M 165 f))) ∧
  (∀ f : Nat, M 111 5 ≤ (f : Int) → f < 20 → M 164 f = -1 ∧ M 166 f = -1) ∧
  (∀ e : Nat, (e : Int) < M 111 6 → M 13 e = M 118 e ∧ M 14 e = M 119 e ∧ (0 ≤ M 118 e ∧ M 118 e ≤ 5) ∧ (1 ≤ M 119 e ∧ M 119 e ≤ 1000000)) ∧
  ∀ i : Nat, i < 200 → M 11 i % 2 = M 172 i % 2
def IvO (M : Mem) : Prop := (0 ≤ M 111 88 ∧ M 111 88 ≤ 60) ∧ M 98 0 = M 111 88 ∧ ∀ k : Nat, (k : Int) < M 111 88 → M 99 k = M 167 k ∧ M 100 k = M 168 k ∧ M 101 k = M 169 k ∧ M 102 k = M 170 k ∧ (0 ≤ M 167 k ∧ M 167 k < M 111 5) ∧ (0 ≤ M 168 k ∧ M 168 k ≤ 519) ∧ (1 ≤ M 169 k ∧ M 169 k ≤ 10000) ∧ (0 ≤ M 170 k ∧ M 170 k ≤ 1000)
def IvM (M : Mem) : Prop := (∀ k : Nat, k < 520 → M 89 k = M 171 k ∧ 0 ≤ M 171 k ∧ M 171 k ≤ 1000) ∧ (M 88 1 = M 111 89 ∧ 0 ≤ M 111 89 ∧ M 111 89 ≤ 100) ∧ (M 88 2 = M 111 90 ∧ 0 ≤ M 111 90 ∧ M 111 90 ≤ 20)
theorem IvP.s0 {M : Mem} {v : Int} (h : IvP M) : IvP (sto M 0 0 v) := by
  unfold IvP at h ⊢; simp only [sto_c, Nat.reduceEqDiff, reduceIte, eq_self, if_true]; exact h
theorem IvP.s1 {M : Mem} {v : Int} (h : IvP M) : IvP (sto M 111 1 v) := by
  unfold IvP at h ⊢; simp only [sto_c, Nat.reduceEqDiff, reduceIte, eq_self, if_true]; exact h
theorem IvP.s2 {M : Mem} {v : Int} (h : IvP M) : IvP (sto M 111 0 v) := by
  unfold IvP at h ⊢; simp only [sto_c, Nat.reduceEqDiff, reduceIte, eq_self, if_true]; exact h
theorem IvO.s0 {M : Mem} {v : Int} (h : IvO M) : IvO (sto M 0 0 v) := by
  unfold IvO at h ⊢; simp only [sto_c, Nat.reduceEqDiff, reduceIte, eq_self, if_true]; exact h
theorem IvO.s1 {M : Mem} {v : Int} (h : IvO M) : IvO (sto M 111 1 v) := by
  unfold IvO at h ⊢; simp only [sto_c, Nat.reduceEqDiff, reduceIte, eq_self, if_true]; exact h
theorem IvO.s2 {M : Mem} {v : Int} (h : IvO M) : IvO (sto M 111 0 v) := by
  unfold IvO at h ⊢; simp only [sto_c, Nat.reduceEqDiff, reduceIte, eq_self, if_true]; exact h
theorem IvM.s0 {M : Mem} {v : Int} (h : IvM M) : IvM (sto M 0 0 v) := by
  unfold IvM at h ⊢; simp only [sto_c, Nat.reduceEqDiff, reduceIte, eq_self, if_true]; exact h
theorem IvM.s1 {M : Mem} {v : Int} (h : IvM M) : IvM (sto M 111 1 v) := by
  unfold IvM at h ⊢; simp only [sto_c, Nat.reduceEqDiff, reduceIte, eq_self, if_true]; exact h
theorem IvM.s2 {M : Mem} {v : Int} (h : IvM M) : IvM (sto M 111 0 v) := by
  unfold IvM at h ⊢; simp only [sto_c, Nat.reduceEqDiff, reduceIte, eq_self, if_true]; exact h
theorem sim_farm {M : Mem} {a1 a2 a3 : Int} (i1 : I32 a1) (i2 : I32 a2) (i3 : I32 a3) (h : IvP M) : Simi (d_PP_farm a1 a2 a3) (d_Mo_farm a1 a2 a3) M IvP := by
  obtain ⟨p1, p2, p3, p4, p5, p6, p7, p8⟩ := id h
  have e1 := c_farm (M := M) i1 i2 i3 (by omega)
  by_cases b0 : 0 ≤ a1 ∧ a1 ≤ 5
  rotate_left
  · rw [if_pos (by omega)] at e1
    have e2 := r_farm (M := sto M 0 0 2) i1 i2 i3 (by simp only [sto_c, Nat.reduceEqDiff, reduceIte, eq_self, if_true]; omega)
    try simp only [sto_c, Nat.reduceEqDiff, reduceIte, eq_self, if_true] at e2
    rw [if_pos (by omega)] at e2
    exact ⟨_, _, _, _, e1, e2, rfl, by simp only [sto_c, Nat.reduceEqDiff, reduceIte, eq_self, if_true], h.s0.s1.s2⟩
  by_cases b1 : (1 ≤ a2 ∧ a2 ≤ 5000) ∧ 0 ≤ a3 ∧ a3 ≤ 100000
  rotate_left
  · rw [if_neg (by omega), if_pos (by omega)] at e1
    have e2 := r_farm (M := sto M 0 0 5) i1 i2 i3 (by simp only [sto_c, Nat.reduceEqDiff, reduceIte, eq_self, if_true]; omega)
    try simp only [sto_c, Nat.reduceEqDiff, reduceIte, eq_self, if_true] at e2
    rw [if_neg (by omega), if_pos (by omega)] at e2
    exact ⟨_, _, _, _, e1, e2, rfl, by simp only [sto_c, Nat.reduceEqDiff, reduceIte, eq_self, if_true], h.s0.s1.s2⟩
  by_cases b2 : M 111 5 < 20
  rotate_left
  · rw [if_neg (by omega), if_neg (by omega), if_pos (by omega)] at e1
    have e2 := r_farm (M := sto M 0 0 7) i1 i2 i3 (by simp only [sto_c, Nat.reduceEqDiff, reduceIte, eq_self, if_true]; omega)
    try simp only [sto_c, Nat.reduceEqDiff, reduceIte, eq_self, if_true] at e2
    rw [if_neg (by omega), if_neg (by omega), if_pos (by omega)] at e2
    exact ⟨_, _, _, _, e1, e2, rfl, by simp only [sto_c, Nat.reduceEqDiff, reduceIte, eq_self, if_true], h.s0.s1.s2⟩
  rw [if_neg (by omega), if_neg (by omega), if_neg (by omega)] at e1
  have e2 := r_farm (M := sto (sto (sto (sto (sto (sto (sto (sto M 0 0 0) 6 (M 5 0).toNat (a1)) 7 (M 5 0).toNat (a2)) 8 (M 5 0).toNat (a3)) 9 (M 5 0).toNat (10)) 10 (M 5 0).toNat (-1)) 12 (M 5 0).toNat (-1)) 5 0 (M 5 0 + 1)) i1 i2 i3 (by simp only [sto_c, Nat.reduceEqDiff, reduceIte, eq_self, if_true]; omega)
  try simp only [sto_c, Nat.reduceEqDiff, reduceIte, eq_self, if_true] at e2
  rw [if_neg (by omega), if_neg (by omega), if_neg (by omega)] at e2
  refine ⟨_, _, _, _, e1, e2, by rw [p3], by simp only [sto_c, Nat.reduceEqDiff, reduceIte, eq_self, if_true], ?_⟩
  refine ⟨by simp only [sto_c, Nat.reduceEqDiff, reduceIte, eq_self, if_true]; omega, by simp only [sto_c, Nat.reduceEqDiff, reduceIte, eq_self, if_true]; omega, by simp only [sto_c, Nat.reduceEqDiff, reduceIte, eq_self, if_true]; omega, by simp only [sto_c, Nat.reduceEqDiff, reduceIte, eq_self, if_true]; omega, fun f hf => ?_, fun f hf hf2 => ?_, fun e he => ?_, fun i hi => ?_⟩
  · simp only [sto_c, Nat.reduceEqDiff, reduceIte, eq_self, if_true] at hf ⊢
    rw [p3]
    by_cases ef : f = (M 111 5).toNat
    · have q := p6 f (by omega) (by omega)
      simp only [ef, eq_self, if_true, true_and, and_true] at q ⊢
      omega
    · have q := p5 f (by omega)
      simp only [ef, if_false]
      exact q
  · simp only [sto_c, Nat.reduceEqDiff, reduceIte, eq_self, if_true] at hf ⊢
    exact p6 f (by omega) hf2
  · simp only [sto_c, Nat.reduceEqDiff, reduceIte, eq_self, if_true] at he ⊢
    exact p7 e he
  · simp only [sto_c, Nat.reduceEqDiff, reduceIte, eq_self, if_true]
    exact p8 i hi
theorem sim_elevator {M : Mem} {a1 a2 : Int} (i1 : I32 a1) (i2 : I32 a2) (h : IvP M) : Simi (d_PP_elevator a1 a2) (d_Mo_elevator a1 a2) M IvP := by
  obtain ⟨p1, p2, p3, p4, p5, p6, p7, p8⟩ := id h
  have e1 := c_elevator (M := M) i1 i2 (by omega)
  by_cases b0 : 0 ≤ a1 ∧ a1 ≤ 5
  rotate_left
  · rw [if_pos (by omega)] at e1
    have e2 := r_elevator (M := sto M 0 0 2) i1 i2 (by simp only [sto_c, Nat.reduceEqDiff, reduceIte, eq_self, if_true]; omega)
    try simp only [sto_c, Nat.reduceEqDiff, reduceIte, eq_self, if_true] at e2
    rw [if_pos (by omega)] at e2
    exact ⟨_, _, _, _, e1, e2, rfl, by simp only [sto_c, Nat.reduceEqDiff, reduceIte, eq_self, if_true], h.s0.s1.s2⟩
  by_cases b1 : 1 ≤ a2 ∧ a2 ≤ 1000000
  rotate_left
  · rw [if_neg (by omega), if_pos (by omega)] at e1
    have e2 := r_elevator (M := sto M 0 0 5) i1 i2 (by simp only [sto_c, Nat.reduceEqDiff, reduceIte, eq_self, if_true]; omega)
    try simp only [sto_c, Nat.reduceEqDiff, reduceIte, eq_self, if_true] at e2
    rw [if_neg (by omega), if_pos (by omega)] at e2
    exact ⟨_, _, _, _, e1, e2, rfl, by simp only [sto_c, Nat.reduceEqDiff, reduceIte, eq_self, if_true], h.s0.s1.s2⟩
  by_cases b2 : M 111 6 < 8
  rotate_left
  · rw [if_neg (by omega), if_neg (by omega), if_pos (by omega)] at e1
    have e2 := r_elevator (M := sto M 0 0 7) i1 i2 (by simp only [sto_c, Nat.reduceEqDiff, reduceIte, eq_self, if_true]; omega)
    try simp only [sto_c, Nat.reduceEqDiff, reduceIte, eq_self, if_true] at e2
    rw [if_neg (by omega), if_neg (by omega), if_pos (by omega)] at e2
    exact ⟨_, _, _, _, e1, e2, rfl, by simp only [sto_c, Nat.reduceEqDiff, reduceIte, eq_self, if_true], h.s0.s1.s2⟩
  rw [if_neg (by omega), if_neg (by omega), if_neg (by omega)] at e1
  have e2 := r_elevator (M := sto (sto (sto (sto M 0 0 0) 13 (M 5 8).toNat (a1)) 14 (M 5 8).toNat (a2)) 5 8 (M 5 8 + 1)) i1 i2 (by simp only [sto_c, Nat.reduceEqDiff, reduceIte, eq_self, if_true]; omega)
  try simp only [sto_c, Nat.reduceEqDiff, reduceIte, eq_self, if_true] at e2
  rw [if_neg (by omega), if_neg (by omega), if_neg (by omega)] at e2
  refine ⟨_, _, _, _, e1, e2, by rw [p4], by simp only [sto_c, Nat.reduceEqDiff, reduceIte, eq_self, if_true], ?_⟩
  refine ⟨by simp only [sto_c, Nat.reduceEqDiff, reduceIte, eq_self, if_true]; omega, by simp only [sto_c, Nat.reduceEqDiff, reduceIte, eq_self, if_true]; omega, by simp only [sto_c, Nat.reduceEqDiff, reduceIte, eq_self, if_true]; omega, by simp only [sto_c, Nat.reduceEqDiff, reduceIte, eq_self, if_true]; omega, fun f hf => ?_, fun f hf hf2 => ?_, fun e he => ?_, fun i hi => ?_⟩
  · simp only [sto_c, Nat.reduceEqDiff, reduceIte, eq_self, if_true] at hf ⊢
    exact p5 f hf
  · simp only [sto_c, Nat.reduceEqDiff, reduceIte, eq_self, if_true] at hf ⊢
    exact p6 f hf hf2
  · simp only [sto_c, Nat.reduceEqDiff, reduceIte, eq_self, if_true] at he ⊢
    rw [p4]
    by_cases ef : e = (M 111 6).toNat
    · simp only [ef, eq_self, if_true, true_and, and_true]; omega
    · have q := p7 e (by omega)
      simp only [ef, if_false]
      exact q
  · simp only [sto_c, Nat.reduceEqDiff, reduceIte, eq_self, if_true]
    exact p8 i hi
theorem sim_vote {M : Mem} {a1 a2 : Int} (i1 : I32 a1) (i2 : I32 a2) (h : IvP M) : Simi (d_PP_vote a1 a2) (d_Mo_vote a1 a2) M IvP := by
  obtain ⟨p1, p2, p3, p4, p5, p6, p7, p8⟩ := id h
  have e1 := c_vote (M := M) i1 i2 (by omega)
  by_cases b0 : 0 ≤ a1 ∧ a1 ≤ M 111 5 - 1
  rotate_left
  · rw [if_pos (by omega)] at e1
    have e2 := r_vote (M := sto M 0 0 2) i1 i2 (by simp only [sto_c, Nat.reduceEqDiff, reduceIte, eq_self, if_true]; omega)
    try simp only [sto_c, Nat.reduceEqDiff, reduceIte, eq_self, if_true] at e2
    rw [if_pos (by omega)] at e2
    exact ⟨_, _, _, _, e1, e2, rfl, by simp only [sto_c, Nat.reduceEqDiff, reduceIte, eq_self, if_true], h.s0.s1.s2⟩
  by_cases b1 : -1 ≤ a2 ∧ a2 ≤ 1
  rotate_left
  · rw [if_neg (by omega), if_pos (by omega)] at e1
    have e2 := r_vote (M := sto M 0 0 5) i1 i2 (by simp only [sto_c, Nat.reduceEqDiff, reduceIte, eq_self, if_true]; omega)
    try simp only [sto_c, Nat.reduceEqDiff, reduceIte, eq_self, if_true] at e2
    rw [if_neg (by omega), if_pos (by omega)] at e2
    exact ⟨_, _, _, _, e1, e2, rfl, by simp only [sto_c, Nat.reduceEqDiff, reduceIte, eq_self, if_true], h.s0.s1.s2⟩
  rw [if_neg (by omega), if_neg (by omega)] at e1
  have e2 := r_vote (M := sto (sto M 0 0 0) 12 (ix a1) (a2)) i1 i2 (by simp only [sto_c, Nat.reduceEqDiff, reduceIte, eq_self, if_true]; omega)
  try simp only [sto_c, Nat.reduceEqDiff, reduceIte, eq_self, if_true] at e2
  rw [if_neg (by omega), if_neg (by omega)] at e2
  refine ⟨_, _, _, _, e1, e2, rfl, by simp only [sto_c, Nat.reduceEqDiff, reduceIte, eq_self, if_true], ?_⟩
  have ex : ix a1 = a1.toNat := ix_e (by omega) (by omega)
  refine ⟨by simp only [sto_c, Nat.reduceEqDiff, reduceIte, eq_self, if_true]; omega, by simp only [sto_c, Nat.reduceEqDiff, reduceIte, eq_self, if_true]; omega, by simp only [sto_c, Nat.reduceEqDiff, reduceIte, eq_self, if_true]; omega, by simp only [sto_c, Nat.reduceEqDiff, reduceIte, eq_self, if_true]; omega, fun f hf => ?_, fun f hf hf2 => ?_, fun e he => ?_, fun i hi => ?_⟩
  · simp only [sto_c, Nat.reduceEqDiff, reduceIte, eq_self, if_true] at hf ⊢
    have q := p5 f hf
    by_cases ef : f = ix a1
    · simp only [ef, eq_self, if_true, true_and, and_true] at q ⊢; omega
    · simp only [ef, if_false]; exact q
  · simp only [sto_c, Nat.reduceEqDiff, reduceIte, eq_self, if_true] at hf ⊢
    have q := p6 f hf hf2
    rw [if_neg (by omega)]; exact q
  · simp only [sto_c, Nat.reduceEqDiff, reduceIte, eq_self, if_true] at he ⊢
    exact p7 e he
  · simp only [sto_c, Nat.reduceEqDiff, reduceIte, eq_self, if_true]
    exact p8 i hi
theorem sim_sign {M : Mem} {a1 a2 a3 : Int} (i1 : I32 a1) (i2 : I32 a2) (i3 : I32 a3) (h : IvP M) : Simi (d_PP_sign a1 a2 a3) (d_Mo_sign a1 a2 a3) M IvP := by
  obtain ⟨p1, p2, p3, p4, p5, p6, p7, p8⟩ := id h
  have e1 := c_sign (M := M) i1 i2 i3 (by omega)
  by_cases b0 : 0 ≤ a1 ∧ a1 ≤ M 111 5 - 1
  rotate_left
  · rw [if_pos (by omega)] at e1
    have e2 := r_sign (M := sto M 0 0 2) i1 i2 i3 (by simp only [sto_c, Nat.reduceEqDiff, reduceIte, eq_self, if_true]; omega)
    try simp only [sto_c, Nat.reduceEqDiff, reduceIte, eq_self, if_true] at e2
    rw [if_pos (by omega)] at e2
    exact ⟨_, _, _, _, e1, e2, rfl, by simp only [sto_c, Nat.reduceEqDiff, reduceIte, eq_self, if_true], h.s0.s1.s2⟩
  by_cases b1 : (0 ≤ a2 ∧ a2 ≤ 9) ∧ (0 ≤ a3 ∧ a3 ≤ 9) ∧ a2 ≤ a3
  rotate_left
  · rw [if_neg (by omega), if_pos (by omega)] at e1
    have e2 := r_sign (M := sto M 0 0 5) i1 i2 i3 (by simp only [sto_c, Nat.reduceEqDiff, reduceIte, eq_self, if_true]; omega)
    try simp only [sto_c, Nat.reduceEqDiff, reduceIte, eq_self, if_true] at e2
    rw [if_neg (by omega), if_pos (by omega)] at e2
    exact ⟨_, _, _, _, e1, e2, rfl, by simp only [sto_c, Nat.reduceEqDiff, reduceIte, eq_self, if_true], h.s0.s1.s2⟩
  rw [if_neg (by omega), if_neg (by omega)] at e1
  have e2 := r_sign (M := sto (sto (sto M 0 0 0) 9 (ix a1) (a2)) 10 (ix a1) (a3)) i1 i2 i3 (by simp only [sto_c, Nat.reduceEqDiff, reduceIte, eq_self, if_true]; omega)
  try simp only [sto_c, Nat.reduceEqDiff, reduceIte, eq_self, if_true] at e2
  rw [if_neg (by omega), if_neg (by omega)] at e2
  refine ⟨_, _, _, _, e1, e2, rfl, by simp only [sto_c, Nat.reduceEqDiff, reduceIte, eq_self, if_true], ?_⟩
  have ex : ix a1 = a1.toNat := ix_e (by omega) (by omega)
  refine ⟨by simp only [sto_c, Nat.reduceEqDiff, reduceIte, eq_self, if_true]; omega, by simp only [sto_c, Nat.reduceEqDiff, reduceIte, eq_self, if_true]; omega, by simp only [sto_c, Nat.reduceEqDiff, reduceIte, eq_self, if_true]; omega, by simp only [sto_c, Nat.reduceEqDiff, reduceIte, eq_self, if_true]; omega, fun f hf => ?_, fun f hf hf2 => ?_, fun e he => ?_, fun i hi => ?_⟩
  · simp only [sto_c, Nat.reduceEqDiff, reduceIte, eq_self, if_true] at hf ⊢
    have q := p5 f hf
    by_cases ef : f = ix a1
    · simp only [ef, eq_self, if_true, true_and, and_true] at q ⊢; omega
    · simp only [ef, if_false]; exact q
  · simp only [sto_c, Nat.reduceEqDiff, reduceIte, eq_self, if_true] at hf ⊢
    have q := p6 f hf hf2
    rw [if_neg (by omega)]; exact q
  · simp only [sto_c, Nat.reduceEqDiff, reduceIte, eq_self, if_true] at he ⊢
    exact p7 e he
  · simp only [sto_c, Nat.reduceEqDiff, reduceIte, eq_self, if_true]
    exact p8 i hi
theorem sim_price {M : Mem} {a1 a2 : Int} (i1 : I32 a1) (i2 : I32 a2) (h : IvM M) : Simi (d_PP_price a1 a2) (d_Mo_price a1 a2) M IvM := by
  obtain ⟨p1, p2, p3⟩ := id h
  have e1 := c_price (M := M) i1 i2
  by_cases b0 : (0 ≤ a1 ∧ a1 ≤ 519) ∧ (0 ≤ a2 ∧ a2 ≤ 1000)
  rotate_left
  · rw [if_pos (by omega)] at e1
    have e2 := r_price (M := sto M 0 0 5) i1 i2
    try simp only [sto_c, Nat.reduceEqDiff, reduceIte, eq_self, if_true] at e2
    rw [if_pos (by omega)] at e2
    exact ⟨_, _, _, _, e1, e2, rfl, by simp only [sto_c, Nat.reduceEqDiff, reduceIte, eq_self, if_true], h.s0.s1.s2⟩
  rw [if_neg (by omega)] at e1
  have e2 := r_price (M := sto (sto M 0 0 0) 89 (ix a1) (a2)) i1 i2
  try simp only [sto_c, Nat.reduceEqDiff, reduceIte, eq_self, if_true] at e2
  rw [if_neg (by omega)] at e2
  refine ⟨_, _, _, _, e1, e2, rfl, by simp only [sto_c, Nat.reduceEqDiff, reduceIte, eq_self, if_true], ?_⟩
  refine ⟨fun k hk => ?_, ?_, ?_⟩
  · simp only [sto_c, Nat.reduceEqDiff, reduceIte, eq_self, if_true]
    have q := p1 k hk
    by_cases ef : k = ix a1
    · simp only [ef, eq_self, if_true, true_and, and_true]; omega
    · simp only [ef, if_false]; exact q
  · simp only [sto_c, Nat.reduceEqDiff, reduceIte, eq_self, if_true]; exact p2
  · simp only [sto_c, Nat.reduceEqDiff, reduceIte, eq_self, if_true]; exact p3
theorem sim_rules {M : Mem} {a1 a2 : Int} (i1 : I32 a1) (i2 : I32 a2) (h : IvM M) : Simi (d_PP_rules a1 a2) (d_Mo_rules a1 a2) M IvM := by
  obtain ⟨p1, p2, p3⟩ := id h
  have e1 := c_rules (M := M) i1 i2
  by_cases b0 : (0 ≤ a1 ∧ a1 ≤ 100) ∧ (0 ≤ a2 ∧ a2 ≤ 20)
  rotate_left
  · rw [if_pos (by omega)] at e1
    have e2 := r_rules (M := sto M 0 0 5) i1 i2
    try simp only [sto_c, Nat.reduceEqDiff, reduceIte, eq_self, if_true] at e2
    rw [if_pos (by omega)] at e2
    exact ⟨_, _, _, _, e1, e2, rfl, by simp only [sto_c, Nat.reduceEqDiff, reduceIte, eq_self, if_true], h.s0.s1.s2⟩
  rw [if_neg (by omega)] at e1
  have e2 := r_rules (M := sto (sto (sto M 0 0 0) 88 1 (a1)) 88 2 (a2)) i1 i2
  try simp only [sto_c, Nat.reduceEqDiff, reduceIte, eq_self, if_true] at e2
  rw [if_neg (by omega)] at e2
  refine ⟨_, _, _, _, e1, e2, rfl, by simp only [sto_c, Nat.reduceEqDiff, reduceIte, eq_self, if_true], ?_⟩
  refine ⟨fun k hk => ?_, ?_, ?_⟩
  · simp only [sto_c, Nat.reduceEqDiff, reduceIte, eq_self, if_true]; exact p1 k hk
  · simp only [sto_c, Nat.reduceEqDiff, reduceIte, eq_self, if_true, true_and]; omega
  · simp only [sto_c, Nat.reduceEqDiff, reduceIte, eq_self, if_true, true_and]; omega
theorem sim_outside {M : Mem} {a1 a2 a3 a4 : Int} (i1 : I32 a1) (i2 : I32 a2) (i3 : I32 a3) (i4 : I32 a4) (h : IvO M) (hp : IvP M) : Simi (d_PP_outside a1 a2 a3 a4) (d_Mo_outside a1 a2 a3 a4) M IvO := by
  obtain ⟨p1, p2, p3⟩ := id h
  obtain ⟨f1, -, f3, -⟩ := id hp
  have e1 := c_outside (M := M) i1 i2 i3 i4 (by omega) (by omega)
  by_cases b0 : 0 ≤ a1 ∧ a1 ≤ M 111 5 - 1
  rotate_left
  · rw [if_pos (by omega)] at e1
    have e2 := r_outside (M := sto M 0 0 2) i1 i2 i3 i4 (by simp only [sto_c, Nat.reduceEqDiff, reduceIte, eq_self, if_true]; omega) (by simp only [sto_c, Nat.reduceEqDiff, reduceIte, eq_self, if_true]; omega)
    try simp only [sto_c, Nat.reduceEqDiff, reduceIte, eq_self, if_true] at e2
    rw [if_pos (by omega)] at e2
    exact ⟨_, _, _, _, e1, e2, rfl, by simp only [sto_c, Nat.reduceEqDiff, reduceIte, eq_self, if_true], h.s0.s1.s2⟩
  by_cases b1 : (0 ≤ a2 ∧ a2 ≤ 519) ∧ (1 ≤ a3 ∧ a3 ≤ 10000) ∧ (0 ≤ a4 ∧ a4 ≤ 1000)
  rotate_left
  · rw [if_neg (by omega), if_pos (by omega)] at e1
    have e2 := r_outside (M := sto M 0 0 5) i1 i2 i3 i4 (by simp only [sto_c, Nat.reduceEqDiff, reduceIte, eq_self, if_true]; omega) (by simp only [sto_c, Nat.reduceEqDiff, reduceIte, eq_self, if_true]; omega)
    try simp only [sto_c, Nat.reduceEqDiff, reduceIte, eq_self, if_true] at e2
    rw [if_neg (by omega), if_pos (by omega)] at e2
    exact ⟨_, _, _, _, e1, e2, rfl, by simp only [sto_c, Nat.reduceEqDiff, reduceIte, eq_self, if_true], h.s0.s1.s2⟩
  by_cases b2 : M 111 88 < 60
  rotate_left
  · rw [if_neg (by omega), if_neg (by omega), if_pos (by omega)] at e1
    have e2 := r_outside (M := sto M 0 0 7) i1 i2 i3 i4 (by simp only [sto_c, Nat.reduceEqDiff, reduceIte, eq_self, if_true]; omega) (by simp only [sto_c, Nat.reduceEqDiff, reduceIte, eq_self, if_true]; omega)
    try simp only [sto_c, Nat.reduceEqDiff, reduceIte, eq_self, if_true] at e2
    rw [if_neg (by omega), if_neg (by omega), if_pos (by omega)] at e2
    exact ⟨_, _, _, _, e1, e2, rfl, by simp only [sto_c, Nat.reduceEqDiff, reduceIte, eq_self, if_true], h.s0.s1.s2⟩
  rw [if_neg (by omega), if_neg (by omega), if_neg (by omega)] at e1
  have e2 := r_outside (M := sto (sto (sto (sto (sto (sto M 0 0 0) 99 (M 98 0).toNat (a1)) 100 (M 98 0).toNat (a2)) 101 (M 98 0).toNat (a3)) 102 (M 98 0).toNat (a4)) 98 0 (M 98 0 + 1)) i1 i2 i3 i4 (by simp only [sto_c, Nat.reduceEqDiff, reduceIte, eq_self, if_true]; omega) (by simp only [sto_c, Nat.reduceEqDiff, reduceIte, eq_self, if_true]; omega)
  try simp only [sto_c, Nat.reduceEqDiff, reduceIte, eq_self, if_true] at e2
  rw [if_neg (by omega), if_neg (by omega), if_neg (by omega)] at e2
  refine ⟨_, _, _, _, e1, e2, by rw [p2], by simp only [sto_c, Nat.reduceEqDiff, reduceIte, eq_self, if_true], ?_⟩
  refine ⟨by simp only [sto_c, Nat.reduceEqDiff, reduceIte, eq_self, if_true]; omega, by simp only [sto_c, Nat.reduceEqDiff, reduceIte, eq_self, if_true]; omega, fun k hk => ?_⟩
  simp only [sto_c, Nat.reduceEqDiff, reduceIte, eq_self, if_true] at hk ⊢
  rw [p2]
  by_cases ef : k = (M 111 88).toNat
  · simp only [ef, eq_self, if_true, true_and, and_true]; omega
  · have q := p3 k (by omega)
    simp only [ef, if_false]; exact q
