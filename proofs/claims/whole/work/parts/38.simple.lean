/-! status, fault, turned, let, feed, pour: the two sides agree -/
def Ag (L : List Nat) (K : List (Nat × Nat)) (M M' : Mem) : Prop := (∀ c ∈ L, M' c = M c) ∧ ∀ q ∈ K, M' q.1 q.2 = M q.1 q.2
theorem Fr.ag {A : List Nat} {F : List (Nat × Nat)} {L : List Nat} {K : List (Nat × Nat)} {M M' : Mem} (h : Fr A F M M') (h1 : ∀ c ∈ L, c ∉ A ∧ ∀ q ∈ F, q.1 ≠ c) (h2 : ∀ q ∈ K, q.1 ∉ A ∧ q ∉ F) : Ag L K M M' :=
  ⟨fun c hc => funext fun j => h c (h1 c hc).1 j (fun z => (h1 c hc).2 _ z rfl), fun q hq => h q.1 (h2 q hq).1 q.2 (h2 q hq).2⟩
theorem Ag.c {L : List Nat} {K : List (Nat × Nat)} {M M' : Mem} (h : Ag L K M M') (c : Nat) (hc : c ∈ L) : M' c = M c := h.1 c hc
theorem Ag.f {L : List Nat} {K : List (Nat × Nat)} {M M' : Mem} (h : Ag L K M M') (c j : Nat) (hc : (c, j) ∈ K) : M' c j = M c j := h.2 (c, j) hc
def IvX (M : Mem) : Prop := (0 ≤ M 111 44 ∧ M 111 44 ≤ 500) ∧ M 55 1 = M 111 44 ∧ (∀ j : Nat, (j : Int) < M 111 44 → w8 (M 56 j) = w8 (M 146 j)) ∧ M 55 2 = M 111 46 ∧ M 55 3 = M 111 47
def IvW (M : Mem) : Prop := (M 62 2 = M 111 107 ∧ (M 111 107 = 0 ∨ M 111 107 = 1)) ∧ ∀ j : Nat, j < 20 → M 65 j = M 180 j
theorem IvX.s0 {M : Mem} {v : Int} (h : IvX M) : IvX (sto M 0 0 v) := by
  unfold IvX at h ⊢; simp only [sto_c, Nat.reduceEqDiff, reduceIte, eq_self, if_true]; exact h
theorem IvX.s1 {M : Mem} {v : Int} (h : IvX M) : IvX (sto M 111 1 v) := by
  unfold IvX at h ⊢; simp only [sto_c, Nat.reduceEqDiff, reduceIte, eq_self, if_true]; exact h
theorem IvX.s2 {M : Mem} {v : Int} (h : IvX M) : IvX (sto M 111 0 v) := by
  unfold IvX at h ⊢; simp only [sto_c, Nat.reduceEqDiff, reduceIte, eq_self, if_true]; exact h
theorem IvW.s0 {M : Mem} {v : Int} (h : IvW M) : IvW (sto M 0 0 v) := by
  unfold IvW at h ⊢; simp only [sto_c, Nat.reduceEqDiff, reduceIte, eq_self, if_true]; exact h
theorem IvW.s1 {M : Mem} {v : Int} (h : IvW M) : IvW (sto M 111 1 v) := by
  unfold IvW at h ⊢; simp only [sto_c, Nat.reduceEqDiff, reduceIte, eq_self, if_true]; exact h
theorem IvW.s2 {M : Mem} {v : Int} (h : IvW M) : IvW (sto M 111 0 v) := by
  unfold IvW at h ⊢; simp only [sto_c, Nat.reduceEqDiff, reduceIte, eq_self, if_true]; exact h
theorem sim_status {M : Mem} (h : M 0 0 = M 111 0) : Simi d_PP_status d_Mo_status M (fun M2 => M2 = sto M 111 1 0) := by
  refine ⟨_, _, _, _, rfl, rfl, ?_, ?_, rfl⟩
  · show w32 (M 0 0) = w32 (sto M 111 1 0 111 0); rw [sto_c]; simp only [Nat.reduceEqDiff, reduceIte]; rw [h]
  · simp only [sto_c, Nat.reduceEqDiff, reduceIte]; exact h
theorem sim_fault {M : Mem} {a1 : Int} (h : M 0 0 = M 111 0) (hX : IvX M) : Simi (d_PP_fault a1) (d_Mo_fault a1) M IvX := by
  obtain ⟨x1, x2, x3, x4, x5⟩ := id hX
  by_cases c0 : w32 a1 = 0
  · refine ⟨M 55 2, M, M 111 46, sto M 111 1 0, by unfold d_PP_fault; rw [if_pos c0]; rfl, by unfold d_Mo_fault; rw [blet_s, if_pos c0]; rfl, by rw [x4], by simp only [sto_c, Nat.reduceEqDiff, reduceIte]; exact h, hX.s1⟩
  · by_cases c1 : w32 a1 = 1
    · refine ⟨M 55 3, M, M 111 47, sto M 111 1 0, by unfold d_PP_fault; rw [if_neg c0, if_pos c1]; rfl, by unfold d_Mo_fault; rw [blet_s, if_neg c0, if_pos c1]; rfl, by rw [x5], by simp only [sto_c, Nat.reduceEqDiff, reduceIte]; exact h, hX.s1⟩
    · refine ⟨-1, M, -1, sto M 111 1 0, by unfold d_PP_fault; rw [if_neg c0, if_neg c1], by unfold d_Mo_fault; rw [blet_s, if_neg c0, if_neg c1], rfl, by simp only [sto_c, Nat.reduceEqDiff, reduceIte]; exact h, hX.s1⟩
theorem c_turned {M : Mem} {a1 : Int} (ha1 : I32 a1) (hw : M 62 2 = 0 ∨ M 62 2 = 1) : d_PP_turned a1 M = if M 62 2 = 0 ∨ ¬ (0 ≤ a1 ∧ a1 ≤ 19) then some (-1, sto M 0 0 8) else some (M 65 (ix a1), sto M 0 0 0) := by
  have w_a1 := ha1.w
  have u_a1 := ha1.u
  have q_a1 := ha1.1
  have p_a1 := ha1.2
  have v_0 : w32 (M 62 2) = M 62 2 := w32_eq (by omega) (by omega)
  have x_0 : ix (M 62 2) = (M 62 2).toNat := ix_e (by omega) (by omega)
  simp only [d_PP_turned, k_PP_turned_25, d_PP_isIn, k_PP_turned_27, bcall_i, bcall_s, blet_s, chk, sto_c, w_a1, u_a1, v_0, x_0, w64_w32, reduceIte, Nat.reduceEqDiff, Int.reduceEq, Int.reduceLT, Int.reduceLE, if_true, if_false, bcall_n, w64_w, wl_m1, wl_0, wl_1, wl_2, wl_3, wl_4, wl_5, wl_6, wl_7, wl_8, wl_9, wl_10, wl_11, wl_12, wl_13, wl_14, wl_15, wl_16, wl_17, wl_18, wl_19, wl_20, wl_59, wl_60, wl_99, wl_100, wl_119, wl_120, wl_519, wl_1000, wl_5000, wl_10000, wl_100000, wl_1000000, xl_0, xl_1, xl_2, xl_3, xl_4, xl_5, xl_6, xl_7, xl_8, xl_9, xl_19, xl_20, xl_59, xl_60, xl_99, xl_100, xl_119, xl_519, xl_1000, xl_5000, xl_10000, xl_100000, xl_1000000, xl_m1, sto_sto, or_true, true_or, or_false, false_or, or_self, not_true, not_false_eq_true, and_true, true_and]
  repeat' (first | refine ite_l (fun _ => ?_) (fun _ => ?_) | refine ite_r (fun _ => ?_) (fun _ => ?_))
  all_goals first | rfl | (exfalso; omega) | skip
theorem r_turned {M : Mem} {a1 : Int} (ha1 : I32 a1) (hw : M 111 107 = 0 ∨ M 111 107 = 1) : d_Mo_turned a1 M = if M 111 107 = 0 ∨ ¬ (0 ≤ a1 ∧ a1 ≤ 19) then some (-1, sto (sto M 111 1 0) 111 0 8) else some (M 180 (ix a1), sto (sto M 111 1 0) 111 0 0) := by
  have w_a1 := ha1.w
  have u_a1 := ha1.u
  have q_a1 := ha1.1
  have p_a1 := ha1.2
  have v_0 : w32 (M 111 107) = M 111 107 := w32_eq (by omega) (by omega)
  have x_0 : ix (M 111 107) = (M 111 107).toNat := ix_e (by omega) (by omega)
  simp only [d_Mo_turned, k_Mo_turned_38, d_Mo_isIn, d_Mo_refuse, bcall_i, bcall_s, blet_s, chk, sto_c, w_a1, u_a1, v_0, x_0, w64_w32, reduceIte, Nat.reduceEqDiff, Int.reduceEq, Int.reduceLT, Int.reduceLE, if_true, if_false, bcall_n, w64_w, wl_m1, wl_0, wl_1, wl_2, wl_3, wl_4, wl_5, wl_6, wl_7, wl_8, wl_9, wl_10, wl_11, wl_12, wl_13, wl_14, wl_15, wl_16, wl_17, wl_18, wl_19, wl_20, wl_59, wl_60, wl_99, wl_100, wl_119, wl_120, wl_519, wl_1000, wl_5000, wl_10000, wl_100000, wl_1000000, xl_0, xl_1, xl_2, xl_3, xl_4, xl_5, xl_6, xl_7, xl_8, xl_9, xl_19, xl_20, xl_59, xl_60, xl_99, xl_100, xl_119, xl_519, xl_1000, xl_5000, xl_10000, xl_100000, xl_1000000, xl_m1, sto_sto, or_true, true_or, or_false, false_or, or_self, not_true, not_false_eq_true, and_true, true_and]
  repeat' (first | refine ite_l (fun _ => ?_) (fun _ => ?_) | refine ite_r (fun _ => ?_) (fun _ => ?_))
  all_goals first | rfl | (exfalso; omega) | skip
theorem sim_turned {M : Mem} {a1 : Int} (i1 : I32 a1) (h : IvW M) : Simi (d_PP_turned a1) (d_Mo_turned a1) M IvW := by
  obtain ⟨⟨p1, p2⟩, p3⟩ := id h
  have e1 := c_turned (M := M) i1 (by omega)
  by_cases b : M 111 107 = 0 ∨ ¬ (0 ≤ a1 ∧ a1 ≤ 19)
  · rw [if_pos (by omega)] at e1
    have e2 := r_turned (M := sto M 0 0 8) i1 (by simp only [sto_c, Nat.reduceEqDiff, reduceIte, eq_self, if_true]; omega)
    simp only [sto_c, Nat.reduceEqDiff, reduceIte, eq_self, if_true] at e2
    rw [if_pos (by omega)] at e2
    exact ⟨_, _, _, _, e1, e2, rfl, by simp only [sto_c, Nat.reduceEqDiff, reduceIte, eq_self, if_true], h.s0.s1.s2⟩
  · rw [if_neg (by omega)] at e1
    have e2 := r_turned (M := sto M 0 0 0) i1 (by simp only [sto_c, Nat.reduceEqDiff, reduceIte, eq_self, if_true]; omega)
    simp only [sto_c, Nat.reduceEqDiff, reduceIte, eq_self, if_true] at e2
    rw [if_neg (by omega)] at e2
    have ex : ix a1 = a1.toNat := ix_e (by omega) (by omega)
    exact ⟨_, _, _, _, e1, e2, by rw [p3 (ix a1) (by omega)], by simp only [sto_c, Nat.reduceEqDiff, reduceIte, eq_self, if_true], h.s0.s1.s2⟩

theorem c_let {M : Mem} {a1 a2 a3 : Int} (ha1 : I32 a1) (ha2 : I32 a2) (hf : 0 ≤ M 5 0 ∧ M 5 0 ≤ 20) : d_PP_let a1 a2 a3 M = if ¬ (0 ≤ a1 ∧ a1 ≤ M 5 0 - 1) then some (0, sto M 0 0 2) else if ¬ ((0 ≤ a2 ∧ a2 ≤ 9)) then some (0, sto M 0 0 5) else some (1, sto (sto M 0 0 0) 11 (ix (a1 * 10 + a2)) (a3)) := by
  have w_a1 := ha1.w
  have u_a1 := ha1.u
  have q_a1 := ha1.1
  have p_a1 := ha1.2
  have w_a2 := ha2.w
  have u_a2 := ha2.u
  have q_a2 := ha2.1
  have p_a2 := ha2.2
  have v_0 : w32 (M 5 0) = M 5 0 := w32_eq (by omega) (by omega)
  have x_0 : ix (M 5 0) = (M 5 0).toNat := ix_e (by omega) (by omega)
  have e5 : w32 (M 5 0 - 1) = M 5 0 - 1 := w32_eq (by omega) (by omega)
  simp only [d_PP_let, d_Pr_hasFarm, d_PP_isYear, d_PP_passes, d_PP_isIn, k_PP_passes_18, bcall_i, bcall_s, blet_s, chk, sto_c, w_a1, u_a1, w_a2, u_a2, v_0, x_0, w64_w32, reduceIte, Nat.reduceEqDiff, Int.reduceEq, Int.reduceLT, Int.reduceLE, if_true, if_false, bcall_n, w64_w, wl_m1, wl_0, wl_1, wl_2, wl_3, wl_4, wl_5, wl_6, wl_7, wl_8, wl_9, wl_10, wl_11, wl_12, wl_13, wl_14, wl_15, wl_16, wl_17, wl_18, wl_19, wl_20, wl_59, wl_60, wl_99, wl_100, wl_119, wl_120, wl_519, wl_1000, wl_5000, wl_10000, wl_100000, wl_1000000, xl_0, xl_1, xl_2, xl_3, xl_4, xl_5, xl_6, xl_7, xl_8, xl_9, xl_19, xl_20, xl_59, xl_60, xl_99, xl_100, xl_119, xl_519, xl_1000, xl_5000, xl_10000, xl_100000, xl_1000000, xl_m1, sto_sto, or_true, true_or, or_false, false_or, or_self, not_true, not_false_eq_true, and_true, true_and, e5]
  repeat' (first | refine ite_l (fun _ => ?_) (fun _ => ?_) | refine ite_r (fun _ => ?_) (fun _ => ?_))
  all_goals first | rfl | (exfalso; omega) | skip
  all_goals (have z := w32_eq (x := a1 * 10 + a2) (by omega) (by omega); omega)
theorem r_let {M : Mem} {a1 a2 a3 : Int} (ha1 : I32 a1) (ha2 : I32 a2) (hf : 0 ≤ M 111 5 ∧ M 111 5 ≤ 20) : d_Mo_let a1 a2 a3 M = if ¬ (0 ≤ a1 ∧ a1 ≤ M 111 5 - 1) then some (0, sto (sto M 111 1 0) 111 0 2) else if ¬ ((0 ≤ a2 ∧ a2 ≤ 9)) then some (0, sto (sto M 111 1 0) 111 0 5) else some (1, sto (sto (sto M 111 1 0) 111 0 0) 172 (ix (10 * a1 + a2)) (a3)) := by
  have w_a1 := ha1.w
  have u_a1 := ha1.u
  have q_a1 := ha1.1
  have p_a1 := ha1.2
  have w_a2 := ha2.w
  have u_a2 := ha2.u
  have q_a2 := ha2.1
  have p_a2 := ha2.2
  have v_0 : w32 (M 111 5) = M 111 5 := w32_eq (by omega) (by omega)
  have x_0 : ix (M 111 5) = (M 111 5).toNat := ix_e (by omega) (by omega)
  have e6 : w64 (M 111 5 - 1) = M 111 5 - 1 := w64_eq (by omega) (by omega)
  have e5 : w32 (M 111 5 - 1) = M 111 5 - 1 := w32_eq (by omega) (by omega)
  simp only [d_Mo_let, d_Mo_isFarm, d_Mo_no, d_Mo_isYear, d_Mo_isIn, bcall_i, bcall_s, blet_s, chk, sto_c, w_a1, u_a1, w_a2, u_a2, v_0, x_0, w64_w32, reduceIte, Nat.reduceEqDiff, Int.reduceEq, Int.reduceLT, Int.reduceLE, if_true, if_false, bcall_n, w64_w, wl_m1, wl_0, wl_1, wl_2, wl_3, wl_4, wl_5, wl_6, wl_7, wl_8, wl_9, wl_10, wl_11, wl_12, wl_13, wl_14, wl_15, wl_16, wl_17, wl_18, wl_19, wl_20, wl_59, wl_60, wl_99, wl_100, wl_119, wl_120, wl_519, wl_1000, wl_5000, wl_10000, wl_100000, wl_1000000, xl_0, xl_1, xl_2, xl_3, xl_4, xl_5, xl_6, xl_7, xl_8, xl_9, xl_19, xl_20, xl_59, xl_60, xl_99, xl_100, xl_119, xl_519, xl_1000, xl_5000, xl_10000, xl_100000, xl_1000000, xl_m1, sto_sto, or_true, true_or, or_false, false_or, or_self, not_true, not_false_eq_true, and_true, true_and, e5, e6]
  repeat' (first | refine ite_l (fun _ => ?_) (fun _ => ?_) | refine ite_r (fun _ => ?_) (fun _ => ?_))
  all_goals first | rfl | (exfalso; omega) | skip
  all_goals (have z := w32_eq (x := 10 * a1 + a2) (by omega) (by omega); omega)
theorem sim_let {M : Mem} {a1 a2 a3 : Int} (i1 : I32 a1) (i2 : I32 a2) (h : IvP M) : Simi (d_PP_let a1 a2 a3) (d_Mo_let a1 a2 a3) M IvP := by
  obtain ⟨p1, p2, p3, p4, p5, p6, p7, p8⟩ := id h
  have e1 := c_let (M := M) (a3 := a3) i1 i2 (by omega)
  by_cases b0 : 0 ≤ a1 ∧ a1 ≤ M 111 5 - 1
  rotate_left
  · rw [if_pos (by omega)] at e1
    have e2 := r_let (M := sto M 0 0 2) (a3 := a3) i1 i2 (by simp only [sto_c, Nat.reduceEqDiff, reduceIte, eq_self, if_true]; omega)
    simp only [sto_c, Nat.reduceEqDiff, reduceIte, eq_self, if_true] at e2
    rw [if_pos (by omega)] at e2
    exact ⟨_, _, _, _, e1, e2, rfl, by simp only [sto_c, Nat.reduceEqDiff, reduceIte, eq_self, if_true], h.s0.s1.s2⟩
  by_cases b1 : 0 ≤ a2 ∧ a2 ≤ 9
  rotate_left
  · rw [if_neg (by omega), if_pos (by omega)] at e1
    have e2 := r_let (M := sto M 0 0 5) (a3 := a3) i1 i2 (by simp only [sto_c, Nat.reduceEqDiff, reduceIte, eq_self, if_true]; omega)
    simp only [sto_c, Nat.reduceEqDiff, reduceIte, eq_self, if_true] at e2
    rw [if_neg (by omega), if_pos (by omega)] at e2
    exact ⟨_, _, _, _, e1, e2, rfl, by simp only [sto_c, Nat.reduceEqDiff, reduceIte, eq_self, if_true], h.s0.s1.s2⟩
  rw [if_neg (by omega), if_neg (by omega)] at e1
  have e2 := r_let (M := sto (sto M 0 0 0) 11 (ix (a1 * 10 + a2)) a3) (a3 := a3) i1 i2 (by simp only [sto_c, Nat.reduceEqDiff, reduceIte, eq_self, if_true]; omega)
  simp only [sto_c, Nat.reduceEqDiff, reduceIte, eq_self, if_true] at e2
  rw [if_neg (by omega), if_neg (by omega)] at e2
  refine ⟨_, _, _, _, e1, e2, rfl, by simp only [sto_c, Nat.reduceEqDiff, reduceIte, eq_self, if_true], ?_⟩
  have ex : ix (a1 * 10 + a2) = ix (10 * a1 + a2) := by rw [show a1 * 10 + a2 = 10 * a1 + a2 by omega]
  refine ⟨by simp only [sto_c, Nat.reduceEqDiff, reduceIte, eq_self, if_true]; omega, by simp only [sto_c, Nat.reduceEqDiff, reduceIte, eq_self, if_true]; omega, by simp only [sto_c, Nat.reduceEqDiff, reduceIte, eq_self, if_true]; omega, by simp only [sto_c, Nat.reduceEqDiff, reduceIte, eq_self, if_true]; omega, fun f hf => ?_, fun f hf hf2 => ?_, fun e he => ?_, fun i hi => ?_⟩
  · simp only [sto_c, Nat.reduceEqDiff, reduceIte, eq_self, if_true] at hf ⊢; exact p5 f hf
  · simp only [sto_c, Nat.reduceEqDiff, reduceIte, eq_self, if_true] at hf ⊢; exact p6 f hf hf2
  · simp only [sto_c, Nat.reduceEqDiff, reduceIte, eq_self, if_true] at he ⊢; exact p7 e he
  · simp only [sto_c, Nat.reduceEqDiff, reduceIte, eq_self, if_true, ex]
    by_cases ei : i = ix (10 * a1 + a2)
    · simp only [ei, eq_self, if_true]
    · simp only [ei, if_false]; exact p8 i hi
/-- bytes laid one behind the other on a tape -/
def lay1 (c f g : Nat) (M : Mem) (b : Int) : Mem := sto (sto M c (M f g).toNat b) f g (M f g + 1)
def layL (c f g : Nat) : List Int → Mem → Mem
  | [], M => M
  | b :: r, M => layL c f g r (lay1 c f g M b)
def by4 (a : Int) : List Int := [w8 (sr32 a 24), w8 (sr32 a 16), w8 (sr32 a 8), w8 (sr32 a 0)]
theorem layL_app {c f g : Nat} : ∀ (l r : List Int) (M : Mem), layL c f g (l ++ r) M = layL c f g r (layL c f g l M) := by
  intro l; induction l with
  | nil => intro r M; rfl
  | cons b l ih => intro r M; exact ih r _
theorem layL_n {c f g : Nat} (hc : c ≠ f) : ∀ (l : List Int) (M : Mem), layL c f g l M f g = M f g + l.length := by
  intro l; induction l with
  | nil => intro M; simp [layL]
  | cons b l ih =>
    intro M; show layL c f g l (lay1 c f g M b) f g = _
    rw [ih]; unfold lay1; rw [sto_e]; simp only [List.length_cons]; omega
theorem layL_f {c f g a b : Nat} (ha : a ≠ c) (hb : a ≠ f ∨ b ≠ g) : ∀ (l : List Int) (M : Mem), layL c f g l M a b = M a b := by
  intro l; induction l with
  | nil => intro M; rfl
  | cons x l ih =>
    intro M; show layL c f g l (lay1 c f g M x) a b = _
    rw [ih]; unfold lay1; rw [sto_c]
    by_cases e : a = f
    · subst e; rw [if_pos rfl, if_neg (by omega), sto_r ha]
    · rw [if_neg e, sto_r ha]
theorem layL_c {c f g : Nat} (hc : c ≠ f) : ∀ (l : List Int) (M : Mem) (j : Nat), 0 ≤ M f g → layL c f g l M c j = if j < (M f g).toNat then M c j else (l[j - (M f g).toNat]?).getD (M c j) := by
  intro l; induction l with
  | nil => intro M j h; simp [layL]
  | cons x l ih =>
    intro M j h; show layL c f g l (lay1 c f g M x) c j = _
    have e : lay1 c f g M x f g = M f g + 1 := by unfold lay1; rw [sto_e]
    rw [ih _ _ (by omega), e]
    have e2 : ∀ i, lay1 c f g M x c i = if i = (M f g).toNat then x else M c i := by
      intro i; unfold lay1; rw [sto_r hc, sto_c, if_pos rfl]
    simp only [e2]
    by_cases h1 : j < (M f g).toNat
    · rw [if_pos (by omega), if_neg (by omega), if_pos h1]
    · rw [if_neg h1]
      by_cases h2 : j = (M f g).toNat
      · rw [if_pos (by omega), if_pos h2, show j - (M f g).toNat = 0 by omega]; rfl
      · rw [if_neg (by omega), if_neg h2, show j - (M f g).toNat = (j - (M f g + 1).toNat) + 1 by omega, List.getElem?_cons_succ]
theorem st_take {a k : Int} {n : Nat} {M : Mem} (h : 0 ≤ M 55 1 ∧ M 55 1 < 500) (hk : 0 ≤ k ∧ k ≤ 24) : fix (fun _ _ _ => none) k_Pa_take_3 (n + 1) a k M = fix (fun _ _ _ => none) k_Pa_take_3 n a (k + (-8)) (lay1 56 55 1 M (w8 (sr32 a k))) := by
  rw [fix_s]; unfold k_Pa_take_3 k_Pa_take_40
  simp (disch := omega) only [w32_eq, if_neg, if_pos, blet_s, chk_t, ix_e]
  rfl
theorem s_take {a : Int} {M : Mem} (h : 0 ≤ M 55 1 ∧ M 55 1 ≤ 496) : d_Pa_take a M = some (0, layL 56 55 1 (by4 a) M) := by
  unfold d_Pa_take
  rw [show FU = (FU - 5) + 1 + 1 + 1 + 1 + 1 by decide]
  have q : ∀ (l : List Int), l.length ≤ 3 → 0 ≤ layL 56 55 1 l M 55 1 ∧ layL 56 55 1 l M 55 1 < 500 := fun l hl => by
    rw [layL_n (by decide)]; omega
  rw [st_take (by omega) (by omega), st_take (M := (lay1 56 55 1 M (w8 (sr32 a 24)))) (q [w8 (sr32 a 24)] (show (1 : Nat) ≤ 3 by decide)) (by decide), st_take (M := (lay1 56 55 1 (lay1 56 55 1 M (w8 (sr32 a 24))) (w8 (sr32 a (24 + -8))))) (q [w8 (sr32 a 24), w8 (sr32 a (24 + -8))] (show (2 : Nat) ≤ 3 by decide)) (by decide), st_take (M := (lay1 56 55 1 (lay1 56 55 1 (lay1 56 55 1 M (w8 (sr32 a 24))) (w8 (sr32 a (24 + -8)))) (w8 (sr32 a (24 + -8 + -8))))) (q [w8 (sr32 a 24), w8 (sr32 a (24 + -8)), w8 (sr32 a (24 + -8 + -8))] (show (3 : Nat) ≤ 3 by decide)) (by decide), fix_s]
  unfold k_Pa_take_3
  rw [if_pos (by decide)]; rfl
theorem st_lay {a k : Int} {n : Nat} {M : Mem} (h : 0 ≤ M 111 44 ∧ M 111 44 < 500) (hk : 0 ≤ k ∧ k ≤ 3) : fix (fun _ _ _ => none) k_Mo_lay_2 (n + 1) a k M = fix (fun _ _ _ => none) k_Mo_lay_2 n a (k + (-1)) (lay1 146 111 44 M (w8 (sr32 a (8 * k)))) := by
  rw [fix_s]; unfold k_Mo_lay_2
  simp (disch := omega) only [w32_eq, if_neg, if_pos, blet_s, chk_t, ix_e]
  rfl
theorem s_lay {a : Int} {M : Mem} (h : 0 ≤ M 111 44 ∧ M 111 44 ≤ 496) : d_Mo_lay a M = some (0, layL 146 111 44 (by4 a) M) := by
  unfold d_Mo_lay
  rw [show FU = (FU - 5) + 1 + 1 + 1 + 1 + 1 by decide]
  have q : ∀ (l : List Int), l.length ≤ 3 → 0 ≤ layL 146 111 44 l M 111 44 ∧ layL 146 111 44 l M 111 44 < 500 := fun l hl => by
    rw [layL_n (by decide)]; omega
  rw [st_lay (by omega) (by omega), st_lay (M := (lay1 146 111 44 M (w8 (sr32 a (8 * 3))))) (q [w8 (sr32 a (8 * 3))] (show (1 : Nat) ≤ 3 by decide)) (by decide), st_lay (M := (lay1 146 111 44 (lay1 146 111 44 M (w8 (sr32 a (8 * 3)))) (w8 (sr32 a (8 * (3 + -1)))))) (q [w8 (sr32 a (8 * 3)), w8 (sr32 a (8 * (3 + -1)))] (show (2 : Nat) ≤ 3 by decide)) (by decide), st_lay (M := (lay1 146 111 44 (lay1 146 111 44 (lay1 146 111 44 M (w8 (sr32 a (8 * 3)))) (w8 (sr32 a (8 * (3 + -1))))) (w8 (sr32 a (8 * (3 + -1 + -1)))))) (q [w8 (sr32 a (8 * 3)), w8 (sr32 a (8 * (3 + -1))), w8 (sr32 a (8 * (3 + -1 + -1)))] (show (3 : Nat) ≤ 3 by decide)) (by decide), fix_s]
  unfold k_Mo_lay_2
  rw [if_pos (by decide)]; rfl
def by20 (a b c d e : Int) : List Int := by4 a ++ by4 b ++ by4 c ++ by4 d ++ by4 e
theorem c_feed {M : Mem} {a b c d e : Int} (h : 0 ≤ M 55 1 ∧ M 55 1 ≤ 500) : d_PP_feed a b c d e M = if 480 < M 55 1 then some (-1, M) else some (M 55 1 + 20, layL 56 55 1 (by20 a b c d e) M) := by
  unfold d_PP_feed d_Pa_hasRoomToFeed
  by_cases g : 480 < M 55 1
  · rw [if_pos g]; simp (disch := omega) only [blet_s, w32_eq, if_pos, bcall_s, if_true]
  · rw [if_neg g]
    have q : ∀ (l : List Int), l.length ≤ 16 → 0 ≤ layL 56 55 1 l M 55 1 ∧ layL 56 55 1 l M 55 1 ≤ 496 := fun l hl => by
      rw [layL_n (by decide)]; omega
    simp (disch := omega) only [blet_s, w32_eq, if_neg, bcall_s, if_true]
    rw [s_take (by omega), bcall_s, s_take (q (by4 a) (show (4 : Nat) ≤ 16 by decide)), ← layL_app, bcall_s, s_take (q (by4 a ++ by4 b) (show (8 : Nat) ≤ 16 by decide)), ← layL_app, bcall_s, s_take (q (by4 a ++ by4 b ++ by4 c) (show (12 : Nat) ≤ 16 by decide)), ← layL_app, bcall_s, s_take (q (by4 a ++ by4 b ++ by4 c ++ by4 d) (show (16 : Nat) ≤ 16 by decide)), ← layL_app, bcall_s, layL_n (by decide)]
    rfl
theorem r_feed {M : Mem} {a b c d e : Int} (h : 0 ≤ M 111 44 ∧ M 111 44 ≤ 500) : d_Mo_feed a b c d e M = if 480 < M 111 44 then some (-1, sto M 111 1 0) else some (M 111 44 + 20, layL 146 111 44 (by20 a b c d e) (sto M 111 1 0)) := by
  unfold d_Mo_feed
  have e0 : sto M 111 1 0 111 44 = M 111 44 := by rw [sto_n (by decide)]
  by_cases g : 480 < M 111 44
  · rw [if_pos g]; simp only [blet_s, e0]; simp (disch := omega) only [w32_eq, if_pos]
  · rw [if_neg g]
    have q : ∀ (l : List Int), l.length ≤ 16 → 0 ≤ layL 146 111 44 l (sto M 111 1 0) 111 44 ∧ layL 146 111 44 l (sto M 111 1 0) 111 44 ≤ 496 := fun l hl => by
      rw [layL_n (by decide), e0]; omega
    simp only [blet_s, e0]
    simp (disch := omega) only [w32_eq, if_neg]
    rw [s_lay (by rw [e0]; omega), bcall_s, s_lay (q (by4 a) (show (4 : Nat) ≤ 16 by decide)), ← layL_app, bcall_s, s_lay (q (by4 a ++ by4 b) (show (8 : Nat) ≤ 16 by decide)), ← layL_app, bcall_s, s_lay (q (by4 a ++ by4 b ++ by4 c) (show (12 : Nat) ≤ 16 by decide)), ← layL_app, bcall_s, s_lay (q (by4 a ++ by4 b ++ by4 c ++ by4 d) (show (16 : Nat) ≤ 16 by decide)), ← layL_app, bcall_s, layL_n (by decide), e0]
    rfl
theorem sim_feed {M : Mem} {a b c d e : Int} (hs : M 0 0 = M 111 0) (h : IvX M) : Simi (d_PP_feed a b c d e) (d_Mo_feed a b c d e) M IvX := by
  obtain ⟨x1, x2, x3, x4, x5⟩ := id h
  by_cases g : 480 < M 111 44
  · refine ⟨-1, M, -1, sto M 111 1 0, ?_, ?_, rfl, ?_, h.s1⟩
    · rw [c_feed (by omega), if_pos (by omega)]
    · rw [r_feed x1, if_pos g]
    · simp only [sto_c, Nat.reduceEqDiff, reduceIte, eq_self, if_true]; exact hs
  · have f1 : ∀ p q : Nat, p ≠ 56 → (p ≠ 55 ∨ q ≠ 1) → layL 56 55 1 (by20 a b c d e) M p q = M p q := fun _ _ h1 h2 => layL_f h1 h2 _ _
    refine ⟨M 55 1 + 20, layL 56 55 1 (by20 a b c d e) M, M 111 44 + 20, layL 146 111 44 (by20 a b c d e) (sto (layL 56 55 1 (by20 a b c d e) M) 111 1 0), ?_, ?_, by rw [x2], ?_, ?_⟩
    · rw [c_feed (by omega), if_neg (by omega)]
    · have q := f1 111 44 (by decide) (by decide)
      rw [r_feed (by rw [q]; exact x1), q, if_neg g]
    · rw [layL_f (by decide) (by decide), layL_f (by decide) (by decide), sto_r (by decide), sto_n (by decide), f1 0 0 (by decide) (by decide), f1 111 0 (by decide) (by decide)]; exact hs
    · have n1 : layL 56 55 1 (by20 a b c d e) M 55 1 = M 111 44 + 20 := by rw [layL_n (by decide), x2]; rfl
      have n2 : layL 146 111 44 (by20 a b c d e) (sto (layL 56 55 1 (by20 a b c d e) M) 111 1 0) 111 44 = M 111 44 + 20 := by
        rw [layL_n (by decide), sto_n (by decide), f1 111 44 (by decide) (by decide)]; rfl
      refine ⟨by rw [n2]; omega, ?_, fun j hj => ?_, ?_, ?_⟩
      · rw [n2, layL_f (by decide) (by decide), sto_r (by decide), n1]
      · rw [n2] at hj
        rw [layL_f (by decide) (Or.inl (by decide)), sto_r (by decide), layL_c (by decide) _ _ _ (by omega), layL_c (by decide) _ _ _ (by rw [sto_n (by decide), f1 111 44 (by decide) (by decide)]; omega), sto_n (by decide), f1 111 44 (by decide) (by decide), sto_r (by decide), f1 146 j (by decide) (Or.inl (by decide)), x2]
        by_cases g2 : j < (M 111 44).toNat
        · rw [if_pos g2, if_pos g2]; exact x3 j (by omega)
        · rw [if_neg g2, if_neg g2]
          have g3 : j - (M 111 44).toNat < (by20 a b c d e).length := by show _ < 20; omega
          rw [List.getElem?_eq_getElem g3]; rfl
      · rw [layL_f (by decide) (by decide), layL_f (by decide) (by decide), sto_r (by decide), sto_n (by decide), f1 55 2 (by decide) (by decide), f1 111 46 (by decide) (by decide)]; exact x4
      · rw [layL_f (by decide) (by decide), layL_f (by decide) (by decide), sto_r (by decide), sto_n (by decide), f1 55 3 (by decide) (by decide), f1 111 47 (by decide) (by decide)]; exact x5
