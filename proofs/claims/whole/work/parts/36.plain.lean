/-! FARMS, ELEVATORS and the plain columns: closed forms of both sides -/
theorem wl_m1 : w32 (-1) = -1 := rfl
theorem wl_0 : w32 0 = 0 := rfl
theorem wl_1 : w32 1 = 1 := rfl
theorem wl_2 : w32 2 = 2 := rfl
theorem wl_3 : w32 3 = 3 := rfl
theorem wl_4 : w32 4 = 4 := rfl
theorem wl_5 : w32 5 = 5 := rfl
theorem wl_6 : w32 6 = 6 := rfl
theorem wl_7 : w32 7 = 7 := rfl
theorem wl_8 : w32 8 = 8 := rfl
theorem wl_9 : w32 9 = 9 := rfl
theorem wl_10 : w32 10 = 10 := rfl
theorem wl_11 : w32 11 = 11 := rfl
theorem wl_12 : w32 12 = 12 := rfl
theorem wl_13 : w32 13 = 13 := rfl
theorem wl_14 : w32 14 = 14 := rfl
theorem wl_15 : w32 15 = 15 := rfl
theorem wl_16 : w32 16 = 16 := rfl
theorem wl_17 : w32 17 = 17 := rfl
theorem wl_18 : w32 18 = 18 := rfl
theorem wl_19 : w32 19 = 19 := rfl
theorem wl_20 : w32 20 = 20 := rfl
theorem wl_59 : w32 59 = 59 := rfl
theorem wl_60 : w32 60 = 60 := rfl
theorem wl_99 : w32 99 = 99 := rfl
theorem wl_100 : w32 100 = 100 := rfl
theorem wl_119 : w32 119 = 119 := rfl
theorem wl_120 : w32 120 = 120 := rfl
theorem wl_519 : w32 519 = 519 := rfl
theorem wl_1000 : w32 1000 = 1000 := rfl
theorem wl_5000 : w32 5000 = 5000 := rfl
theorem wl_10000 : w32 10000 = 10000 := rfl
theorem wl_100000 : w32 100000 = 100000 := rfl
theorem wl_1000000 : w32 1000000 = 1000000 := rfl
theorem xl_0 : w64 0 = 0 := rfl
theorem xl_1 : w64 1 = 1 := rfl
theorem xl_2 : w64 2 = 2 := rfl
theorem xl_3 : w64 3 = 3 := rfl
theorem xl_4 : w64 4 = 4 := rfl
theorem xl_5 : w64 5 = 5 := rfl
theorem xl_6 : w64 6 = 6 := rfl
theorem xl_7 : w64 7 = 7 := rfl
theorem xl_8 : w64 8 = 8 := rfl
theorem xl_9 : w64 9 = 9 := rfl
theorem xl_19 : w64 19 = 19 := rfl
theorem xl_20 : w64 20 = 20 := rfl
theorem xl_59 : w64 59 = 59 := rfl
theorem xl_60 : w64 60 = 60 := rfl
theorem xl_99 : w64 99 = 99 := rfl
theorem xl_100 : w64 100 = 100 := rfl
theorem xl_119 : w64 119 = 119 := rfl
theorem xl_519 : w64 519 = 519 := rfl
theorem xl_1000 : w64 1000 = 1000 := rfl
theorem xl_5000 : w64 5000 = 5000 := rfl
theorem xl_10000 : w64 10000 = 10000 := rfl
theorem xl_100000 : w64 100000 = 100000 := rfl
theorem xl_1000000 : w64 1000000 = 1000000 := rfl
theorem xl_m1 : w64 (-1) = -1 := rfl
theorem I32.u {x : Int} (h : I32 x) : w64 x = x := w64_eq (by have := h.1; omega) (by have := h.2; omega)
theorem ite_l {c : Prop} [Decidable c] {a b x : Res} (h1 : c → a = x) (h2 : ¬ c → b = x) : (if c then a else b) = x := by
  split
  · exact h1 (by assumption)
  · exact h2 (by assumption)
theorem ite_r {c : Prop} [Decidable c] {a b x : Res} (h1 : c → x = a) (h2 : ¬ c → x = b) : x = (if c then a else b) := by
  split
  · exact h1 (by assumption)
  · exact h2 (by assumption)
theorem bcall_n {k : Int → Mem → Res} : bcall none k = none := rfl
theorem sto_sto {M : Mem} {k j : Nat} {u v : Int} : sto (sto M k j u) k j v = sto M k j v := by
  funext a; unfold sto
  by_cases h : a = k
  · rw [if_pos h, if_pos h]; funext b; simp only [if_true]; split <;> rfl
  · rw [if_neg h, if_neg h, if_neg h]
theorem c_farm {M : Mem} {a1 a2 a3 : Int} (ha1 : I32 a1) (ha2 : I32 a2) (ha3 : I32 a3) (hf : 0 ≤ M 5 0 ∧ M 5 0 ≤ 20) : d_PP_farm a1 a2 a3 M = if ¬ (0 ≤ a1 ∧ a1 ≤ 5) then some (-1, sto M 0 0 2) else if ¬ ((1 ≤ a2 ∧ a2 ≤ 5000) ∧ 0 ≤ a3 ∧ a3 ≤ 100000) then some (-1, sto M 0 0 5) else if ¬ M 5 0 < 20 then some (-1, sto M 0 0 7) else some (M 5 0, sto (sto (sto (sto (sto (sto (sto (sto M 0 0 0) 6 (M 5 0).toNat a1) 7 (M 5 0).toNat a2) 8 (M 5 0).toNat a3) 9 (M 5 0).toNat 10) 10 (M 5 0).toNat (-1)) 12 (M 5 0).toNat (-1)) 5 0 (M 5 0 + 1)) := by
  have w_a1 := ha1.w
  have u_a1 := ha1.u
  have q_a1 := ha1.1
  have p_a1 := ha1.2
  have w_a2 := ha2.w
  have u_a2 := ha2.u
  have q_a2 := ha2.1
  have p_a2 := ha2.2
  have w_a3 := ha3.w
  have u_a3 := ha3.u
  have q_a3 := ha3.1
  have p_a3 := ha3.2
  have v_0 : w32 (M 5 0) = M 5 0 := w32_eq (by omega) (by omega)
  have x_0 : ix (M 5 0) = (M 5 0).toNat := ix_e (by omega) (by omega)
  simp only [d_PP_farm, d_PP_isIn, k_PP_farm_25, k_PP_farm_26, d_PP_isDistrict, k_PP_farm_52, d_PP_passesWithRoom, d_Pr_addFarm, d_PP_passes, k_PP_passesWithRoom_19, k_PP_passes_18, bcall_i, bcall_s, blet_s, chk, sto_c, w_a1, u_a1, w_a2, u_a2, w_a3, u_a3, v_0, x_0, w64_w32, reduceIte, Nat.reduceEqDiff, Int.reduceEq, Int.reduceLT, Int.reduceLE, if_true, if_false, bcall_n, w64_w, wl_m1, wl_0, wl_1, wl_2, wl_3, wl_4, wl_5, wl_6, wl_7, wl_8, wl_9, wl_10, wl_11, wl_12, wl_13, wl_14, wl_15, wl_16, wl_17, wl_18, wl_19, wl_20, wl_59, wl_60, wl_99, wl_100, wl_119, wl_120, wl_519, wl_1000, wl_5000, wl_10000, wl_100000, wl_1000000, xl_0, xl_1, xl_2, xl_3, xl_4, xl_5, xl_6, xl_7, xl_8, xl_9, xl_19, xl_20, xl_59, xl_60, xl_99, xl_100, xl_119, xl_519, xl_1000, xl_5000, xl_10000, xl_100000, xl_1000000, xl_m1, sto_sto, or_true, true_or, or_false, false_or, or_self, not_true, not_false_eq_true, and_true, true_and]
  repeat' (first | refine ite_l (fun _ => ?_) (fun _ => ?_) | refine ite_r (fun _ => ?_) (fun _ => ?_))
  all_goals first | rfl | (exfalso; omega) | skip
theorem r_farm {M : Mem} {a1 a2 a3 : Int} (ha1 : I32 a1) (ha2 : I32 a2) (ha3 : I32 a3) (hf : 0 ≤ M 111 5 ∧ M 111 5 ≤ 20) : d_Mo_farm a1 a2 a3 M = if ¬ (0 ≤ a1 ∧ a1 ≤ 5) then some (-1, sto (sto M 111 1 0) 111 0 2) else if ¬ ((1 ≤ a2 ∧ a2 ≤ 5000) ∧ 0 ≤ a3 ∧ a3 ≤ 100000) then some (-1, sto (sto M 111 1 0) 111 0 5) else if ¬ M 111 5 < 20 then some (-1, sto (sto M 111 1 0) 111 0 7) else some (M 111 5, sto (sto (sto (sto (sto (sto M 111 1 0) 111 0 0) 115 (M 111 5).toNat a1) 116 (M 111 5).toNat a2) 117 (M 111 5).toNat a3) 111 5 (M 111 5 + 1)) := by
  have w_a1 := ha1.w
  have u_a1 := ha1.u
  have q_a1 := ha1.1
  have p_a1 := ha1.2
  have w_a2 := ha2.w
  have u_a2 := ha2.u
  have q_a2 := ha2.1
  have p_a2 := ha2.2
  have w_a3 := ha3.w
  have u_a3 := ha3.u
  have q_a3 := ha3.1
  have p_a3 := ha3.2
  have v_0 : w32 (M 111 5) = M 111 5 := w32_eq (by omega) (by omega)
  have x_0 : ix (M 111 5) = (M 111 5).toNat := ix_e (by omega) (by omega)
  simp only [d_Mo_farm, d_Mo_isIn, d_Mo_refuse, k_Mo_farm_52, bcall_i, bcall_s, blet_s, chk, sto_c, w_a1, u_a1, w_a2, u_a2, w_a3, u_a3, v_0, x_0, w64_w32, reduceIte, Nat.reduceEqDiff, Int.reduceEq, Int.reduceLT, Int.reduceLE, if_true, if_false, bcall_n, w64_w, wl_m1, wl_0, wl_1, wl_2, wl_3, wl_4, wl_5, wl_6, wl_7, wl_8, wl_9, wl_10, wl_11, wl_12, wl_13, wl_14, wl_15, wl_16, wl_17, wl_18, wl_19, wl_20, wl_59, wl_60, wl_99, wl_100, wl_119, wl_120, wl_519, wl_1000, wl_5000, wl_10000, wl_100000, wl_1000000, xl_0, xl_1, xl_2, xl_3, xl_4, xl_5, xl_6, xl_7, xl_8, xl_9, xl_19, xl_20, xl_59, xl_60, xl_99, xl_100, xl_119, xl_519, xl_1000, xl_5000, xl_10000, xl_100000, xl_1000000, xl_m1, sto_sto, or_true, true_or, or_false, false_or, or_self, not_true, not_false_eq_true, and_true, true_and, Int.add_sub_cancel]
  repeat' (first | refine ite_l (fun _ => ?_) (fun _ => ?_) | refine ite_r (fun _ => ?_) (fun _ => ?_))
  all_goals first | rfl | (exfalso; omega) | skip
theorem c_elevator {M : Mem} {a1 a2 : Int} (ha1 : I32 a1) (ha2 : I32 a2) (hf : 0 ≤ M 5 8 ∧ M 5 8 ≤ 8) : d_PP_elevator a1 a2 M = if ¬ (0 ≤ a1 ∧ a1 ≤ 5) then some (-1, sto M 0 0 2) else if ¬ (1 ≤ a2 ∧ a2 ≤ 1000000) then some (-1, sto M 0 0 5) else if ¬ M 5 8 < 8 then some (-1, sto M 0 0 7) else some (M 5 8, sto (sto (sto (sto M 0 0 0) 13 (M 5 8).toNat a1) 14 (M 5 8).toNat a2) 5 8 (M 5 8 + 1)) := by
  have w_a1 := ha1.w
  have u_a1 := ha1.u
  have q_a1 := ha1.1
  have p_a1 := ha1.2
  have w_a2 := ha2.w
  have u_a2 := ha2.u
  have q_a2 := ha2.1
  have p_a2 := ha2.2
  have v_0 : w32 (M 5 8) = M 5 8 := w32_eq (by omega) (by omega)
  have x_0 : ix (M 5 8) = (M 5 8).toNat := ix_e (by omega) (by omega)
  simp only [d_PP_elevator, d_PP_isIn, d_PP_isDistrict, k_PP_elevator_31, d_PP_passesWithRoom, d_Pr_addElevator, d_PP_passes, k_PP_passesWithRoom_19, k_PP_passes_18, bcall_i, bcall_s, blet_s, chk, sto_c, w_a1, u_a1, w_a2, u_a2, v_0, x_0, w64_w32, reduceIte, Nat.reduceEqDiff, Int.reduceEq, Int.reduceLT, Int.reduceLE, if_true, if_false, bcall_n, w64_w, wl_m1, wl_0, wl_1, wl_2, wl_3, wl_4, wl_5, wl_6, wl_7, wl_8, wl_9, wl_10, wl_11, wl_12, wl_13, wl_14, wl_15, wl_16, wl_17, wl_18, wl_19, wl_20, wl_59, wl_60, wl_99, wl_100, wl_119, wl_120, wl_519, wl_1000, wl_5000, wl_10000, wl_100000, wl_1000000, xl_0, xl_1, xl_2, xl_3, xl_4, xl_5, xl_6, xl_7, xl_8, xl_9, xl_19, xl_20, xl_59, xl_60, xl_99, xl_100, xl_119, xl_519, xl_1000, xl_5000, xl_10000, xl_100000, xl_1000000, xl_m1, sto_sto, or_true, true_or, or_false, false_or, or_self, not_true, not_false_eq_true, and_true, true_and]
  repeat' (first | refine ite_l (fun _ => ?_) (fun _ => ?_) | refine ite_r (fun _ => ?_) (fun _ => ?_))
  all_goals first | rfl | (exfalso; omega) | skip
theorem r_elevator {M : Mem} {a1 a2 : Int} (ha1 : I32 a1) (ha2 : I32 a2) (hf : 0 ≤ M 111 6 ∧ M 111 6 ≤ 8) : d_Mo_elevator a1 a2 M = if ¬ (0 ≤ a1 ∧ a1 ≤ 5) then some (-1, sto (sto M 111 1 0) 111 0 2) else if ¬ (1 ≤ a2 ∧ a2 ≤ 1000000) then some (-1, sto (sto M 111 1 0) 111 0 5) else if ¬ M 111 6 < 8 then some (-1, sto (sto M 111 1 0) 111 0 7) else some (M 111 6, sto (sto (sto (sto (sto M 111 1 0) 111 0 0) 118 (M 111 6).toNat a1) 119 (M 111 6).toNat a2) 111 6 (M 111 6 + 1)) := by
  have w_a1 := ha1.w
  have u_a1 := ha1.u
  have q_a1 := ha1.1
  have p_a1 := ha1.2
  have w_a2 := ha2.w
  have u_a2 := ha2.u
  have q_a2 := ha2.1
  have p_a2 := ha2.2
  have v_0 : w32 (M 111 6) = M 111 6 := w32_eq (by omega) (by omega)
  have x_0 : ix (M 111 6) = (M 111 6).toNat := ix_e (by omega) (by omega)
  simp only [d_Mo_elevator, d_Mo_isIn, d_Mo_refuse, bcall_i, bcall_s, blet_s, chk, sto_c, w_a1, u_a1, w_a2, u_a2, v_0, x_0, w64_w32, reduceIte, Nat.reduceEqDiff, Int.reduceEq, Int.reduceLT, Int.reduceLE, if_true, if_false, bcall_n, w64_w, wl_m1, wl_0, wl_1, wl_2, wl_3, wl_4, wl_5, wl_6, wl_7, wl_8, wl_9, wl_10, wl_11, wl_12, wl_13, wl_14, wl_15, wl_16, wl_17, wl_18, wl_19, wl_20, wl_59, wl_60, wl_99, wl_100, wl_119, wl_120, wl_519, wl_1000, wl_5000, wl_10000, wl_100000, wl_1000000, xl_0, xl_1, xl_2, xl_3, xl_4, xl_5, xl_6, xl_7, xl_8, xl_9, xl_19, xl_20, xl_59, xl_60, xl_99, xl_100, xl_119, xl_519, xl_1000, xl_5000, xl_10000, xl_100000, xl_1000000, xl_m1, sto_sto, or_true, true_or, or_false, false_or, or_self, not_true, not_false_eq_true, and_true, true_and, Int.add_sub_cancel]
  repeat' (first | refine ite_l (fun _ => ?_) (fun _ => ?_) | refine ite_r (fun _ => ?_) (fun _ => ?_))
  all_goals first | rfl | (exfalso; omega) | skip
theorem s_may_00 {M : Mem} {a1 a2 a3 a4 : Int} (ha3 : I32 a3) (ha4 : I32 a4) (ea1 : a1 = 0) (ea2 : a2 = 0) (hj : 0 ≤ M 15 0 ∧ M 15 0 ≤ 120) (hl : 0 ≤ M 15 1 ∧ M 15 1 ≤ 519) (hw : 0 < M 15 0 → 0 ≤ M 25 (M 15 0 - 1).toNat ∧ M 25 (M 15 0 - 1).toNat ≤ 519) : d_PP_mayCome a1 a2 a3 a4 M = some (0, sto M 0 0 2) := by
  have w_a3 := ha3.w
  have u_a3 := ha3.u
  have q_a3 := ha3.1
  have p_a3 := ha3.2
  have w_a4 := ha4.w
  have u_a4 := ha4.u
  have q_a4 := ha4.1
  have p_a4 := ha4.2
  have v_0 : w32 (M 15 0) = M 15 0 := w32_eq (by omega) (by omega)
  have x_0 : ix (M 15 0) = (M 15 0).toNat := ix_e (by omega) (by omega)
  have v_1 : w32 (M 15 1) = M 15 1 := w32_eq (by omega) (by omega)
  have x_1 : ix (M 15 1) = (M 15 1).toNat := ix_e (by omega) (by omega)
  subst ea1; subst ea2
  by_cases hpos : 0 < M 15 0
  · have e1 : w32 (M 15 0 - 1) = M 15 0 - 1 := w32_eq (by omega) (by omega)
    have e2 : ix (M 15 0 - 1) = (M 15 0 - 1).toNat := ix_e (by omega) (by omega)
    have e3 := hw hpos
    have e4 : w32 (M 25 (M 15 0 - 1).toNat) = M 25 (M 15 0 - 1).toNat := w32_eq (by omega) (by omega)
    simp only [e1, e2, e4, d_PP_mayCome, d_PP_isWeek, k_PP_mayCome_25, k_PP_mayCome_26, d_PP_isIn, k_PP_mayCome_45, k_PP_mayCome_62, k_PP_mayCome_63, d_PP_passesWithRoom, k_PP_mayCome_90, d_Jo_isGone, d_PP_passes, k_PP_passesWithRoom_19, k_Jo_isGone_27, k_Jo_isGone_26, k_PP_passes_18, k_Jo_isGone_40, bcall_i, bcall_s, blet_s, chk, sto_c, w_a3, u_a3, w_a4, u_a4, v_0, x_0, v_1, x_1, w64_w32, reduceIte, Nat.reduceEqDiff, Int.reduceEq, Int.reduceLT, Int.reduceLE, if_true, if_false, bcall_n, w64_w, wl_m1, wl_0, wl_1, wl_2, wl_3, wl_4, wl_5, wl_6, wl_7, wl_8, wl_9, wl_10, wl_11, wl_12, wl_13, wl_14, wl_15, wl_16, wl_17, wl_18, wl_19, wl_20, wl_59, wl_60, wl_99, wl_100, wl_119, wl_120, wl_519, wl_1000, wl_5000, wl_10000, wl_100000, wl_1000000, xl_0, xl_1, xl_2, xl_3, xl_4, xl_5, xl_6, xl_7, xl_8, xl_9, xl_19, xl_20, xl_59, xl_60, xl_99, xl_100, xl_119, xl_519, xl_1000, xl_5000, xl_10000, xl_100000, xl_1000000, xl_m1, sto_sto, or_true, true_or, or_false, false_or, or_self, not_true, not_false_eq_true, and_true, true_and]
    repeat' (first | refine ite_l (fun _ => ?_) (fun _ => ?_) | refine ite_r (fun _ => ?_) (fun _ => ?_))
    all_goals first | rfl | (exfalso; omega) | skip
  · simp only [d_PP_mayCome, d_PP_isWeek, k_PP_mayCome_25, k_PP_mayCome_26, d_PP_isIn, k_PP_mayCome_45, k_PP_mayCome_62, k_PP_mayCome_63, d_PP_passesWithRoom, k_PP_mayCome_90, d_Jo_isGone, d_PP_passes, k_PP_passesWithRoom_19, k_Jo_isGone_27, k_Jo_isGone_26, k_PP_passes_18, k_Jo_isGone_40, bcall_i, bcall_s, blet_s, chk, sto_c, w_a3, u_a3, w_a4, u_a4, v_0, x_0, v_1, x_1, w64_w32, reduceIte, Nat.reduceEqDiff, Int.reduceEq, Int.reduceLT, Int.reduceLE, if_true, if_false, bcall_n, w64_w, wl_m1, wl_0, wl_1, wl_2, wl_3, wl_4, wl_5, wl_6, wl_7, wl_8, wl_9, wl_10, wl_11, wl_12, wl_13, wl_14, wl_15, wl_16, wl_17, wl_18, wl_19, wl_20, wl_59, wl_60, wl_99, wl_100, wl_119, wl_120, wl_519, wl_1000, wl_5000, wl_10000, wl_100000, wl_1000000, xl_0, xl_1, xl_2, xl_3, xl_4, xl_5, xl_6, xl_7, xl_8, xl_9, xl_19, xl_20, xl_59, xl_60, xl_99, xl_100, xl_119, xl_519, xl_1000, xl_5000, xl_10000, xl_100000, xl_1000000, xl_m1, sto_sto, or_true, true_or, or_false, false_or, or_self, not_true, not_false_eq_true, and_true, true_and]
    repeat' (first | refine ite_l (fun _ => ?_) (fun _ => ?_) | refine ite_r (fun _ => ?_) (fun _ => ?_))
    all_goals first | rfl | (exfalso; omega) | skip
theorem s_may_01 {M : Mem} {a1 a2 a3 a4 : Int} (ha3 : I32 a3) (ha4 : I32 a4) (ea1 : a1 = 0) (ea2 : a2 = 1) (hj : 0 ≤ M 15 0 ∧ M 15 0 ≤ 120) (hl : 0 ≤ M 15 1 ∧ M 15 1 ≤ 519) (hw : 0 < M 15 0 → 0 ≤ M 25 (M 15 0 - 1).toNat ∧ M 25 (M 15 0 - 1).toNat ≤ 519) : d_PP_mayCome a1 a2 a3 a4 M = some (0, sto M 0 0 2) := by
  have w_a3 := ha3.w
  have u_a3 := ha3.u
  have q_a3 := ha3.1
  have p_a3 := ha3.2
  have w_a4 := ha4.w
  have u_a4 := ha4.u
  have q_a4 := ha4.1
  have p_a4 := ha4.2
  have v_0 : w32 (M 15 0) = M 15 0 := w32_eq (by omega) (by omega)
  have x_0 : ix (M 15 0) = (M 15 0).toNat := ix_e (by omega) (by omega)
  have v_1 : w32 (M 15 1) = M 15 1 := w32_eq (by omega) (by omega)
  have x_1 : ix (M 15 1) = (M 15 1).toNat := ix_e (by omega) (by omega)
  subst ea1; subst ea2
  by_cases hpos : 0 < M 15 0
  · have e1 : w32 (M 15 0 - 1) = M 15 0 - 1 := w32_eq (by omega) (by omega)
    have e2 : ix (M 15 0 - 1) = (M 15 0 - 1).toNat := ix_e (by omega) (by omega)
    have e3 := hw hpos
    have e4 : w32 (M 25 (M 15 0 - 1).toNat) = M 25 (M 15 0 - 1).toNat := w32_eq (by omega) (by omega)
    simp only [e1, e2, e4, d_PP_mayCome, d_PP_isWeek, k_PP_mayCome_25, k_PP_mayCome_26, d_PP_isIn, k_PP_mayCome_45, k_PP_mayCome_62, k_PP_mayCome_63, d_PP_passesWithRoom, k_PP_mayCome_90, d_Jo_isGone, d_PP_passes, k_PP_passesWithRoom_19, k_Jo_isGone_27, k_Jo_isGone_26, k_PP_passes_18, k_Jo_isGone_40, bcall_i, bcall_s, blet_s, chk, sto_c, w_a3, u_a3, w_a4, u_a4, v_0, x_0, v_1, x_1, w64_w32, reduceIte, Nat.reduceEqDiff, Int.reduceEq, Int.reduceLT, Int.reduceLE, if_true, if_false, bcall_n, w64_w, wl_m1, wl_0, wl_1, wl_2, wl_3, wl_4, wl_5, wl_6, wl_7, wl_8, wl_9, wl_10, wl_11, wl_12, wl_13, wl_14, wl_15, wl_16, wl_17, wl_18, wl_19, wl_20, wl_59, wl_60, wl_99, wl_100, wl_119, wl_120, wl_519, wl_1000, wl_5000, wl_10000, wl_100000, wl_1000000, xl_0, xl_1, xl_2, xl_3, xl_4, xl_5, xl_6, xl_7, xl_8, xl_9, xl_19, xl_20, xl_59, xl_60, xl_99, xl_100, xl_119, xl_519, xl_1000, xl_5000, xl_10000, xl_100000, xl_1000000, xl_m1, sto_sto, or_true, true_or, or_false, false_or, or_self, not_true, not_false_eq_true, and_true, true_and]
    repeat' (first | refine ite_l (fun _ => ?_) (fun _ => ?_) | refine ite_r (fun _ => ?_) (fun _ => ?_))
    all_goals first | rfl | (exfalso; omega) | skip
  · simp only [d_PP_mayCome, d_PP_isWeek, k_PP_mayCome_25, k_PP_mayCome_26, d_PP_isIn, k_PP_mayCome_45, k_PP_mayCome_62, k_PP_mayCome_63, d_PP_passesWithRoom, k_PP_mayCome_90, d_Jo_isGone, d_PP_passes, k_PP_passesWithRoom_19, k_Jo_isGone_27, k_Jo_isGone_26, k_PP_passes_18, k_Jo_isGone_40, bcall_i, bcall_s, blet_s, chk, sto_c, w_a3, u_a3, w_a4, u_a4, v_0, x_0, v_1, x_1, w64_w32, reduceIte, Nat.reduceEqDiff, Int.reduceEq, Int.reduceLT, Int.reduceLE, if_true, if_false, bcall_n, w64_w, wl_m1, wl_0, wl_1, wl_2, wl_3, wl_4, wl_5, wl_6, wl_7, wl_8, wl_9, wl_10, wl_11, wl_12, wl_13, wl_14, wl_15, wl_16, wl_17, wl_18, wl_19, wl_20, wl_59, wl_60, wl_99, wl_100, wl_119, wl_120, wl_519, wl_1000, wl_5000, wl_10000, wl_100000, wl_1000000, xl_0, xl_1, xl_2, xl_3, xl_4, xl_5, xl_6, xl_7, xl_8, xl_9, xl_19, xl_20, xl_59, xl_60, xl_99, xl_100, xl_119, xl_519, xl_1000, xl_5000, xl_10000, xl_100000, xl_1000000, xl_m1, sto_sto, or_true, true_or, or_false, false_or, or_self, not_true, not_false_eq_true, and_true, true_and]
    repeat' (first | refine ite_l (fun _ => ?_) (fun _ => ?_) | refine ite_r (fun _ => ?_) (fun _ => ?_))
    all_goals first | rfl | (exfalso; omega) | skip
theorem s_may_10 {M : Mem} {a1 a2 a3 a4 : Int} (ha3 : I32 a3) (ha4 : I32 a4) (ea1 : a1 = 1) (ea2 : a2 = 0) (hj : 0 ≤ M 15 0 ∧ M 15 0 ≤ 120) (hl : 0 ≤ M 15 1 ∧ M 15 1 ≤ 519) (hw : 0 < M 15 0 → 0 ≤ M 25 (M 15 0 - 1).toNat ∧ M 25 (M 15 0 - 1).toNat ≤ 519) : d_PP_mayCome a1 a2 a3 a4 M = some (0, sto M 0 0 5) := by
  have w_a3 := ha3.w
  have u_a3 := ha3.u
  have q_a3 := ha3.1
  have p_a3 := ha3.2
  have w_a4 := ha4.w
  have u_a4 := ha4.u
  have q_a4 := ha4.1
  have p_a4 := ha4.2
  have v_0 : w32 (M 15 0) = M 15 0 := w32_eq (by omega) (by omega)
  have x_0 : ix (M 15 0) = (M 15 0).toNat := ix_e (by omega) (by omega)
  have v_1 : w32 (M 15 1) = M 15 1 := w32_eq (by omega) (by omega)
  have x_1 : ix (M 15 1) = (M 15 1).toNat := ix_e (by omega) (by omega)
  subst ea1; subst ea2
  by_cases hpos : 0 < M 15 0
  · have e1 : w32 (M 15 0 - 1) = M 15 0 - 1 := w32_eq (by omega) (by omega)
    have e2 : ix (M 15 0 - 1) = (M 15 0 - 1).toNat := ix_e (by omega) (by omega)
    have e3 := hw hpos
    have e4 : w32 (M 25 (M 15 0 - 1).toNat) = M 25 (M 15 0 - 1).toNat := w32_eq (by omega) (by omega)
    simp only [e1, e2, e4, d_PP_mayCome, d_PP_isWeek, k_PP_mayCome_25, k_PP_mayCome_26, d_PP_isIn, k_PP_mayCome_45, k_PP_mayCome_62, k_PP_mayCome_63, d_PP_passesWithRoom, k_PP_mayCome_90, d_Jo_isGone, d_PP_passes, k_PP_passesWithRoom_19, k_Jo_isGone_27, k_Jo_isGone_26, k_PP_passes_18, k_Jo_isGone_40, bcall_i, bcall_s, blet_s, chk, sto_c, w_a3, u_a3, w_a4, u_a4, v_0, x_0, v_1, x_1, w64_w32, reduceIte, Nat.reduceEqDiff, Int.reduceEq, Int.reduceLT, Int.reduceLE, if_true, if_false, bcall_n, w64_w, wl_m1, wl_0, wl_1, wl_2, wl_3, wl_4, wl_5, wl_6, wl_7, wl_8, wl_9, wl_10, wl_11, wl_12, wl_13, wl_14, wl_15, wl_16, wl_17, wl_18, wl_19, wl_20, wl_59, wl_60, wl_99, wl_100, wl_119, wl_120, wl_519, wl_1000, wl_5000, wl_10000, wl_100000, wl_1000000, xl_0, xl_1, xl_2, xl_3, xl_4, xl_5, xl_6, xl_7, xl_8, xl_9, xl_19, xl_20, xl_59, xl_60, xl_99, xl_100, xl_119, xl_519, xl_1000, xl_5000, xl_10000, xl_100000, xl_1000000, xl_m1, sto_sto, or_true, true_or, or_false, false_or, or_self, not_true, not_false_eq_true, and_true, true_and]
    repeat' (first | refine ite_l (fun _ => ?_) (fun _ => ?_) | refine ite_r (fun _ => ?_) (fun _ => ?_))
    all_goals first | rfl | (exfalso; omega) | skip
  · simp only [d_PP_mayCome, d_PP_isWeek, k_PP_mayCome_25, k_PP_mayCome_26, d_PP_isIn, k_PP_mayCome_45, k_PP_mayCome_62, k_PP_mayCome_63, d_PP_passesWithRoom, k_PP_mayCome_90, d_Jo_isGone, d_PP_passes, k_PP_passesWithRoom_19, k_Jo_isGone_27, k_Jo_isGone_26, k_PP_passes_18, k_Jo_isGone_40, bcall_i, bcall_s, blet_s, chk, sto_c, w_a3, u_a3, w_a4, u_a4, v_0, x_0, v_1, x_1, w64_w32, reduceIte, Nat.reduceEqDiff, Int.reduceEq, Int.reduceLT, Int.reduceLE, if_true, if_false, bcall_n, w64_w, wl_m1, wl_0, wl_1, wl_2, wl_3, wl_4, wl_5, wl_6, wl_7, wl_8, wl_9, wl_10, wl_11, wl_12, wl_13, wl_14, wl_15, wl_16, wl_17, wl_18, wl_19, wl_20, wl_59, wl_60, wl_99, wl_100, wl_119, wl_120, wl_519, wl_1000, wl_5000, wl_10000, wl_100000, wl_1000000, xl_0, xl_1, xl_2, xl_3, xl_4, xl_5, xl_6, xl_7, xl_8, xl_9, xl_19, xl_20, xl_59, xl_60, xl_99, xl_100, xl_119, xl_519, xl_1000, xl_5000, xl_10000, xl_100000, xl_1000000, xl_m1, sto_sto, or_true, true_or, or_false, false_or, or_self, not_true, not_false_eq_true, and_true, true_and]
    repeat' (first | refine ite_l (fun _ => ?_) (fun _ => ?_) | refine ite_r (fun _ => ?_) (fun _ => ?_))
    all_goals first | rfl | (exfalso; omega) | skip
theorem s_may_11 {M : Mem} {a1 a2 a3 a4 : Int} (ha3 : I32 a3) (ha4 : I32 a4) (ea1 : a1 = 1) (ea2 : a2 = 1) (hj : 0 ≤ M 15 0 ∧ M 15 0 ≤ 120) (hl : 0 ≤ M 15 1 ∧ M 15 1 ≤ 519) (hw : 0 < M 15 0 → 0 ≤ M 25 (M 15 0 - 1).toNat ∧ M 25 (M 15 0 - 1).toNat ≤ 519) : d_PP_mayCome a1 a2 a3 a4 M = if ¬ ((0 ≤ a3 ∧ a3 ≤ 519) ∧ (0 ≤ a4 ∧ a4 ≤ 519) ∧ a3 ≤ a4) then some (0, sto M 0 0 5) else if ¬ M 15 0 < 120 then some (0, sto M 0 0 7) else if (0 < M 15 0 ∧ a3 < M 25 (M 15 0 - 1).toNat) ∨ a4 < M 15 1 then some (0, sto M 0 0 12) else some (1, sto M 0 0 0) := by
  have w_a3 := ha3.w
  have u_a3 := ha3.u
  have q_a3 := ha3.1
  have p_a3 := ha3.2
  have w_a4 := ha4.w
  have u_a4 := ha4.u
  have q_a4 := ha4.1
  have p_a4 := ha4.2
  have v_0 : w32 (M 15 0) = M 15 0 := w32_eq (by omega) (by omega)
  have x_0 : ix (M 15 0) = (M 15 0).toNat := ix_e (by omega) (by omega)
  have v_1 : w32 (M 15 1) = M 15 1 := w32_eq (by omega) (by omega)
  have x_1 : ix (M 15 1) = (M 15 1).toNat := ix_e (by omega) (by omega)
  subst ea1; subst ea2
  by_cases hpos : 0 < M 15 0
  · have e1 : w32 (M 15 0 - 1) = M 15 0 - 1 := w32_eq (by omega) (by omega)
    have e2 : ix (M 15 0 - 1) = (M 15 0 - 1).toNat := ix_e (by omega) (by omega)
    have e3 := hw hpos
    have e4 : w32 (M 25 (M 15 0 - 1).toNat) = M 25 (M 15 0 - 1).toNat := w32_eq (by omega) (by omega)
    simp only [e1, e2, e4, d_PP_mayCome, d_PP_isWeek, k_PP_mayCome_25, k_PP_mayCome_26, d_PP_isIn, k_PP_mayCome_45, k_PP_mayCome_62, k_PP_mayCome_63, d_PP_passesWithRoom, k_PP_mayCome_90, d_Jo_isGone, d_PP_passes, k_PP_passesWithRoom_19, k_Jo_isGone_27, k_Jo_isGone_26, k_PP_passes_18, k_Jo_isGone_40, bcall_i, bcall_s, blet_s, chk, sto_c, w_a3, u_a3, w_a4, u_a4, v_0, x_0, v_1, x_1, w64_w32, reduceIte, Nat.reduceEqDiff, Int.reduceEq, Int.reduceLT, Int.reduceLE, if_true, if_false, bcall_n, w64_w, wl_m1, wl_0, wl_1, wl_2, wl_3, wl_4, wl_5, wl_6, wl_7, wl_8, wl_9, wl_10, wl_11, wl_12, wl_13, wl_14, wl_15, wl_16, wl_17, wl_18, wl_19, wl_20, wl_59, wl_60, wl_99, wl_100, wl_119, wl_120, wl_519, wl_1000, wl_5000, wl_10000, wl_100000, wl_1000000, xl_0, xl_1, xl_2, xl_3, xl_4, xl_5, xl_6, xl_7, xl_8, xl_9, xl_19, xl_20, xl_59, xl_60, xl_99, xl_100, xl_119, xl_519, xl_1000, xl_5000, xl_10000, xl_100000, xl_1000000, xl_m1, sto_sto, or_true, true_or, or_false, false_or, or_self, not_true, not_false_eq_true, and_true, true_and]
    repeat' (first | refine ite_l (fun _ => ?_) (fun _ => ?_) | refine ite_r (fun _ => ?_) (fun _ => ?_))
    all_goals first | rfl | (exfalso; omega) | skip
  · simp only [d_PP_mayCome, d_PP_isWeek, k_PP_mayCome_25, k_PP_mayCome_26, d_PP_isIn, k_PP_mayCome_45, k_PP_mayCome_62, k_PP_mayCome_63, d_PP_passesWithRoom, k_PP_mayCome_90, d_Jo_isGone, d_PP_passes, k_PP_passesWithRoom_19, k_Jo_isGone_27, k_Jo_isGone_26, k_PP_passes_18, k_Jo_isGone_40, bcall_i, bcall_s, blet_s, chk, sto_c, w_a3, u_a3, w_a4, u_a4, v_0, x_0, v_1, x_1, w64_w32, reduceIte, Nat.reduceEqDiff, Int.reduceEq, Int.reduceLT, Int.reduceLE, if_true, if_false, bcall_n, w64_w, wl_m1, wl_0, wl_1, wl_2, wl_3, wl_4, wl_5, wl_6, wl_7, wl_8, wl_9, wl_10, wl_11, wl_12, wl_13, wl_14, wl_15, wl_16, wl_17, wl_18, wl_19, wl_20, wl_59, wl_60, wl_99, wl_100, wl_119, wl_120, wl_519, wl_1000, wl_5000, wl_10000, wl_100000, wl_1000000, xl_0, xl_1, xl_2, xl_3, xl_4, xl_5, xl_6, xl_7, xl_8, xl_9, xl_19, xl_20, xl_59, xl_60, xl_99, xl_100, xl_119, xl_519, xl_1000, xl_5000, xl_10000, xl_100000, xl_1000000, xl_m1, sto_sto, or_true, true_or, or_false, false_or, or_self, not_true, not_false_eq_true, and_true, true_and]
    repeat' (first | refine ite_l (fun _ => ?_) (fun _ => ?_) | refine ite_r (fun _ => ?_) (fun _ => ?_))
    all_goals first | rfl | (exfalso; omega) | skip
theorem c_load {M : Mem} {a1 a2 a3 a4 a5 a6 : Int} (ha1 : I32 a1) (ha2 : I32 a2) (ha3 : I32 a3) (ha4 : I32 a4) (ha5 : I32 a5) (ha6 : I32 a6) (hf : 0 ≤ M 5 0 ∧ M 5 0 ≤ 20) (he : 0 ≤ M 5 8 ∧ M 5 8 ≤ 8) (hj : 0 ≤ M 15 0 ∧ M 15 0 ≤ 120) (hl : 0 ≤ M 15 1 ∧ M 15 1 ≤ 519) (hw : 0 < M 15 0 → 0 ≤ M 25 (M 15 0 - 1).toNat ∧ M 25 (M 15 0 - 1).toNat ≤ 519) : d_PP_load a1 a2 a3 a4 a5 a6 M = if ¬ ((0 ≤ a1 ∧ a1 ≤ M 5 0 - 1) ∧ (0 ≤ a2 ∧ a2 ≤ M 5 8 - 1)) then some (-1, sto M 0 0 2) else if ¬ (((1 ≤ a3 ∧ a3 ≤ 10000) ∧ (0 ≤ a4 ∧ a4 ≤ 1000)) ∧ (0 ≤ a5 ∧ a5 ≤ 519) ∧ (0 ≤ a6 ∧ a6 ≤ 519) ∧ a5 ≤ a6) then some (-1, sto M 0 0 5) else if ¬ M 15 0 < 120 then some (-1, sto M 0 0 7) else if (0 < M 15 0 ∧ a5 < M 25 (M 15 0 - 1).toNat) ∨ a6 < M 15 1 then some (-1, sto M 0 0 12) else some (M 15 0, sto (sto (sto (sto (sto (sto (sto (sto (sto (sto (sto M 0 0 0) 16 (M 15 0).toNat (0)) 25 (M 15 0).toNat (a5)) 26 (M 15 0).toNat (a6)) 15 1 (a6)) 15 0 (M 15 0 + 1)) 17 (M 15 0).toNat (a1)) 18 (M 15 0).toNat (a2)) 21 (M 15 0).toNat (dv32 a5 52)) 22 (M 15 0).toNat (a3)) 23 (M 15 0).toNat (dv32 (a3 * a4) 1000)) := by
  have w_a1 := ha1.w
  have u_a1 := ha1.u
  have q_a1 := ha1.1
  have p_a1 := ha1.2
  have w_a2 := ha2.w
  have u_a2 := ha2.u
  have q_a2 := ha2.1
  have p_a2 := ha2.2
  have w_a3 := ha3.w
  have u_a3 := ha3.u
  have q_a3 := ha3.1
  have p_a3 := ha3.2
  have w_a4 := ha4.w
  have u_a4 := ha4.u
  have q_a4 := ha4.1
  have p_a4 := ha4.2
  have w_a5 := ha5.w
  have u_a5 := ha5.u
  have q_a5 := ha5.1
  have p_a5 := ha5.2
  have w_a6 := ha6.w
  have u_a6 := ha6.u
  have q_a6 := ha6.1
  have p_a6 := ha6.2
  have v_0 : w32 (M 15 0) = M 15 0 := w32_eq (by omega) (by omega)
  have x_0 : ix (M 15 0) = (M 15 0).toNat := ix_e (by omega) (by omega)
  have v_1 : w32 (M 5 0) = M 5 0 := w32_eq (by omega) (by omega)
  have x_1 : ix (M 5 0) = (M 5 0).toNat := ix_e (by omega) (by omega)
  have v_2 : w32 (M 5 8) = M 5 8 := w32_eq (by omega) (by omega)
  have x_2 : ix (M 5 8) = (M 5 8).toNat := ix_e (by omega) (by omega)
  have e5 : w32 (M 5 0 - 1) = M 5 0 - 1 := w32_eq (by omega) (by omega)
  have e8 : w32 (M 5 8 - 1) = M 5 8 - 1 := w32_eq (by omega) (by omega)
  simp only [d_PP_load, d_Pr_hasFarm, k_PP_load_26, d_Pr_hasElevator, k_PP_load_27, d_PP_isIn, k_PP_load_56, k_PP_load_57, d_Jo_enter, bcall_i, bcall_s, blet_s, chk, sto_c, w_a1, u_a1, w_a2, u_a2, w_a3, u_a3, w_a4, u_a4, w_a5, u_a5, w_a6, u_a6, v_0, x_0, v_1, x_1, v_2, x_2, w64_w32, reduceIte, Nat.reduceEqDiff, Int.reduceEq, Int.reduceLT, Int.reduceLE, if_true, if_false, bcall_n, w64_w, wl_m1, wl_0, wl_1, wl_2, wl_3, wl_4, wl_5, wl_6, wl_7, wl_8, wl_9, wl_10, wl_11, wl_12, wl_13, wl_14, wl_15, wl_16, wl_17, wl_18, wl_19, wl_20, wl_59, wl_60, wl_99, wl_100, wl_119, wl_120, wl_519, wl_1000, wl_5000, wl_10000, wl_100000, wl_1000000, xl_0, xl_1, xl_2, xl_3, xl_4, xl_5, xl_6, xl_7, xl_8, xl_9, xl_19, xl_20, xl_59, xl_60, xl_99, xl_100, xl_119, xl_519, xl_1000, xl_5000, xl_10000, xl_100000, xl_1000000, xl_m1, sto_sto, or_true, true_or, or_false, false_or, or_self, not_true, not_false_eq_true, and_true, true_and, s_may_00 (M := M) ha5 ha6 rfl rfl hj hl hw, s_may_01 (M := M) ha5 ha6 rfl rfl hj hl hw, s_may_10 (M := M) ha5 ha6 rfl rfl hj hl hw, s_may_11 (M := M) ha5 ha6 rfl rfl hj hl hw, e5, e8]
  repeat' (first | refine ite_l (fun _ => ?_) (fun _ => ?_) | refine ite_r (fun _ => ?_) (fun _ => ?_))
  all_goals first | rfl | (exfalso; omega) | skip
theorem c_car {M : Mem} {a1 a2 a3 a4 a5 a6 a7 : Int} (ha1 : I32 a1) (ha2 : I32 a2) (ha3 : I32 a3) (ha4 : I32 a4) (ha5 : I32 a5) (ha6 : I32 a6) (ha7 : I32 a7) (hf : 0 ≤ M 5 0 ∧ M 5 0 ≤ 20) (he : 0 ≤ M 5 8 ∧ M 5 8 ≤ 8) (hj : 0 ≤ M 15 0 ∧ M 15 0 ≤ 120) (hl : 0 ≤ M 15 1 ∧ M 15 1 ≤ 519) (hw : 0 < M 15 0 → 0 ≤ M 25 (M 15 0 - 1).toNat ∧ M 25 (M 15 0 - 1).toNat ≤ 519) : d_PP_car a1 a2 a3 a4 a5 a6 a7 M = if ¬ ((0 ≤ a1 ∧ a1 ≤ M 5 8 - 1) ∧ (0 ≤ a2 ∧ a2 ≤ 1) ∧ (0 ≤ a3 ∧ a3 ≤ 5)) then some (-1, sto M 0 0 2) else if ¬ (((0 ≤ a4 ∧ a4 ≤ 9) ∧ (1 ≤ a5 ∧ a5 ≤ 100000)) ∧ (0 ≤ a6 ∧ a6 ≤ 519) ∧ (0 ≤ a7 ∧ a7 ≤ 519) ∧ a6 ≤ a7) then some (-1, sto M 0 0 5) else if ¬ M 15 0 < 120 then some (-1, sto M 0 0 7) else if (0 < M 15 0 ∧ a6 < M 25 (M 15 0 - 1).toNat) ∨ a7 < M 15 1 then some (-1, sto M 0 0 12) else some (M 15 0, sto (sto (sto (sto (sto (sto (sto (sto (sto (sto (sto M 0 0 0) 16 (M 15 0).toNat (1)) 25 (M 15 0).toNat (a6)) 26 (M 15 0).toNat (a7)) 15 1 (a7)) 15 0 (M 15 0 + 1)) 18 (M 15 0).toNat (a1)) 19 (M 15 0).toNat (a2)) 20 (M 15 0).toNat (a3)) 21 (M 15 0).toNat (a4)) 22 (M 15 0).toNat (a5)) := by
  have w_a1 := ha1.w
  have u_a1 := ha1.u
  have q_a1 := ha1.1
  have p_a1 := ha1.2
  have w_a2 := ha2.w
  have u_a2 := ha2.u
  have q_a2 := ha2.1
  have p_a2 := ha2.2
  have w_a3 := ha3.w
  have u_a3 := ha3.u
  have q_a3 := ha3.1
  have p_a3 := ha3.2
  have w_a4 := ha4.w
  have u_a4 := ha4.u
  have q_a4 := ha4.1
  have p_a4 := ha4.2
  have w_a5 := ha5.w
  have u_a5 := ha5.u
  have q_a5 := ha5.1
  have p_a5 := ha5.2
  have w_a6 := ha6.w
  have u_a6 := ha6.u
  have q_a6 := ha6.1
  have p_a6 := ha6.2
  have w_a7 := ha7.w
  have u_a7 := ha7.u
  have q_a7 := ha7.1
  have p_a7 := ha7.2
  have v_0 : w32 (M 15 0) = M 15 0 := w32_eq (by omega) (by omega)
  have x_0 : ix (M 15 0) = (M 15 0).toNat := ix_e (by omega) (by omega)
  have v_1 : w32 (M 5 0) = M 5 0 := w32_eq (by omega) (by omega)
  have x_1 : ix (M 5 0) = (M 5 0).toNat := ix_e (by omega) (by omega)
  have v_2 : w32 (M 5 8) = M 5 8 := w32_eq (by omega) (by omega)
  have x_2 : ix (M 5 8) = (M 5 8).toNat := ix_e (by omega) (by omega)
  have e5 : w32 (M 5 0 - 1) = M 5 0 - 1 := w32_eq (by omega) (by omega)
  have e8 : w32 (M 5 8 - 1) = M 5 8 - 1 := w32_eq (by omega) (by omega)
  simp only [d_PP_car, d_Pr_hasElevator, k_PP_car_29, d_PP_isPort, d_PP_isGrade, k_PP_car_30, d_PP_isIn, d_PP_isYear, k_PP_car_58, k_PP_car_59, d_Jo_enter, d_Jo_tellWhat, bcall_i, bcall_s, blet_s, chk, sto_c, w_a1, u_a1, w_a2, u_a2, w_a3, u_a3, w_a4, u_a4, w_a5, u_a5, w_a6, u_a6, w_a7, u_a7, v_0, x_0, v_1, x_1, v_2, x_2, w64_w32, reduceIte, Nat.reduceEqDiff, Int.reduceEq, Int.reduceLT, Int.reduceLE, if_true, if_false, bcall_n, w64_w, wl_m1, wl_0, wl_1, wl_2, wl_3, wl_4, wl_5, wl_6, wl_7, wl_8, wl_9, wl_10, wl_11, wl_12, wl_13, wl_14, wl_15, wl_16, wl_17, wl_18, wl_19, wl_20, wl_59, wl_60, wl_99, wl_100, wl_119, wl_120, wl_519, wl_1000, wl_5000, wl_10000, wl_100000, wl_1000000, xl_0, xl_1, xl_2, xl_3, xl_4, xl_5, xl_6, xl_7, xl_8, xl_9, xl_19, xl_20, xl_59, xl_60, xl_99, xl_100, xl_119, xl_519, xl_1000, xl_5000, xl_10000, xl_100000, xl_1000000, xl_m1, sto_sto, or_true, true_or, or_false, false_or, or_self, not_true, not_false_eq_true, and_true, true_and, s_may_00 (M := M) ha6 ha7 rfl rfl hj hl hw, s_may_01 (M := M) ha6 ha7 rfl rfl hj hl hw, s_may_10 (M := M) ha6 ha7 rfl rfl hj hl hw, s_may_11 (M := M) ha6 ha7 rfl rfl hj hl hw, e5, e8]
  repeat' (first | refine ite_l (fun _ => ?_) (fun _ => ?_) | refine ite_r (fun _ => ?_) (fun _ => ?_))
  all_goals first | rfl | (exfalso; omega) | skip
theorem c_sale {M : Mem} {a1 a2 a3 a4 a5 a6 a7 : Int} (ha1 : I32 a1) (ha2 : I32 a2) (ha3 : I32 a3) (ha4 : I32 a4) (ha5 : I32 a5) (ha6 : I32 a6) (ha7 : I32 a7) (hf : 0 ≤ M 5 0 ∧ M 5 0 ≤ 20) (he : 0 ≤ M 5 8 ∧ M 5 8 ≤ 8) (hj : 0 ≤ M 15 0 ∧ M 15 0 ≤ 120) (hl : 0 ≤ M 15 1 ∧ M 15 1 ≤ 519) (hw : 0 < M 15 0 → 0 ≤ M 25 (M 15 0 - 1).toNat ∧ M 25 (M 15 0 - 1).toNat ≤ 519) : d_PP_sale a1 a2 a3 a4 a5 a6 a7 M = if ¬ ((0 ≤ a1 ∧ a1 ≤ 1) ∧ (0 ≤ a2 ∧ a2 ≤ 5)) then some (-1, sto M 0 0 2) else if ¬ (((0 ≤ a3 ∧ a3 ≤ 9) ∧ (1 ≤ a4 ∧ a4 ≤ 100000) ∧ (0 ≤ a5 ∧ a5 ≤ 1000)) ∧ (0 ≤ a6 ∧ a6 ≤ 519) ∧ (0 ≤ a7 ∧ a7 ≤ 519) ∧ a6 ≤ a7) then some (-1, sto M 0 0 5) else if ¬ M 15 0 < 120 then some (-1, sto M 0 0 7) else if (0 < M 15 0 ∧ a6 < M 25 (M 15 0 - 1).toNat) ∨ a7 < M 15 1 then some (-1, sto M 0 0 12) else some (M 15 0, sto (sto (sto (sto (sto (sto (sto (sto (sto (sto (sto M 0 0 0) 16 (M 15 0).toNat (2)) 25 (M 15 0).toNat (a6)) 26 (M 15 0).toNat (a7)) 15 1 (a7)) 15 0 (M 15 0 + 1)) 19 (M 15 0).toNat (a1)) 24 (M 15 0).toNat (a5)) 20 (M 15 0).toNat (a2)) 21 (M 15 0).toNat (a3)) 22 (M 15 0).toNat (a4)) := by
  have w_a1 := ha1.w
  have u_a1 := ha1.u
  have q_a1 := ha1.1
  have p_a1 := ha1.2
  have w_a2 := ha2.w
  have u_a2 := ha2.u
  have q_a2 := ha2.1
  have p_a2 := ha2.2
  have w_a3 := ha3.w
  have u_a3 := ha3.u
  have q_a3 := ha3.1
  have p_a3 := ha3.2
  have w_a4 := ha4.w
  have u_a4 := ha4.u
  have q_a4 := ha4.1
  have p_a4 := ha4.2
  have w_a5 := ha5.w
  have u_a5 := ha5.u
  have q_a5 := ha5.1
  have p_a5 := ha5.2
  have w_a6 := ha6.w
  have u_a6 := ha6.u
  have q_a6 := ha6.1
  have p_a6 := ha6.2
  have w_a7 := ha7.w
  have u_a7 := ha7.u
  have q_a7 := ha7.1
  have p_a7 := ha7.2
  have v_0 : w32 (M 15 0) = M 15 0 := w32_eq (by omega) (by omega)
  have x_0 : ix (M 15 0) = (M 15 0).toNat := ix_e (by omega) (by omega)
  have v_1 : w32 (M 5 0) = M 5 0 := w32_eq (by omega) (by omega)
  have x_1 : ix (M 5 0) = (M 5 0).toNat := ix_e (by omega) (by omega)
  have v_2 : w32 (M 5 8) = M 5 8 := w32_eq (by omega) (by omega)
  have x_2 : ix (M 5 8) = (M 5 8).toNat := ix_e (by omega) (by omega)
  have e5 : w32 (M 5 0 - 1) = M 5 0 - 1 := w32_eq (by omega) (by omega)
  have e8 : w32 (M 5 8 - 1) = M 5 8 - 1 := w32_eq (by omega) (by omega)
  simp only [d_PP_sale, d_PP_isYear, k_PP_sale_30, d_PP_isIn, d_PP_isPence, k_PP_sale_31, d_PP_isPort, k_PP_sale_52, d_PP_isGrade, k_PP_sale_53, d_Jo_enter, d_Jo_tellWhat, bcall_i, bcall_s, blet_s, chk, sto_c, w_a1, u_a1, w_a2, u_a2, w_a3, u_a3, w_a4, u_a4, w_a5, u_a5, w_a6, u_a6, w_a7, u_a7, v_0, x_0, v_1, x_1, v_2, x_2, w64_w32, reduceIte, Nat.reduceEqDiff, Int.reduceEq, Int.reduceLT, Int.reduceLE, if_true, if_false, bcall_n, w64_w, wl_m1, wl_0, wl_1, wl_2, wl_3, wl_4, wl_5, wl_6, wl_7, wl_8, wl_9, wl_10, wl_11, wl_12, wl_13, wl_14, wl_15, wl_16, wl_17, wl_18, wl_19, wl_20, wl_59, wl_60, wl_99, wl_100, wl_119, wl_120, wl_519, wl_1000, wl_5000, wl_10000, wl_100000, wl_1000000, xl_0, xl_1, xl_2, xl_3, xl_4, xl_5, xl_6, xl_7, xl_8, xl_9, xl_19, xl_20, xl_59, xl_60, xl_99, xl_100, xl_119, xl_519, xl_1000, xl_5000, xl_10000, xl_100000, xl_1000000, xl_m1, sto_sto, or_true, true_or, or_false, false_or, or_self, not_true, not_false_eq_true, and_true, true_and, s_may_00 (M := M) ha6 ha7 rfl rfl hj hl hw, s_may_01 (M := M) ha6 ha7 rfl rfl hj hl hw, s_may_10 (M := M) ha6 ha7 rfl rfl hj hl hw, s_may_11 (M := M) ha6 ha7 rfl rfl hj hl hw, e5, e8]
  repeat' (first | refine ite_l (fun _ => ?_) (fun _ => ?_) | refine ite_r (fun _ => ?_) (fun _ => ?_))
  all_goals first | rfl | (exfalso; omega) | skip
theorem c_spoil {M : Mem} {a1 a2 a3 a4 a5 a6 : Int} (ha1 : I32 a1) (ha2 : I32 a2) (ha3 : I32 a3) (ha4 : I32 a4) (ha5 : I32 a5) (ha6 : I32 a6) (hf : 0 ≤ M 5 0 ∧ M 5 0 ≤ 20) (he : 0 ≤ M 5 8 ∧ M 5 8 ≤ 8) (hj : 0 ≤ M 15 0 ∧ M 15 0 ≤ 120) (hl : 0 ≤ M 15 1 ∧ M 15 1 ≤ 519) (hw : 0 < M 15 0 → 0 ≤ M 25 (M 15 0 - 1).toNat ∧ M 25 (M 15 0 - 1).toNat ≤ 519) : d_PP_spoil a1 a2 a3 a4 a5 a6 M = if ¬ ((0 ≤ a1 ∧ a1 ≤ M 5 8 - 1) ∧ (0 ≤ a2 ∧ a2 ≤ 5)) then some (-1, sto M 0 0 2) else if ¬ (((0 ≤ a3 ∧ a3 ≤ 9) ∧ (1 ≤ a4 ∧ a4 ≤ 100000)) ∧ (0 ≤ a5 ∧ a5 ≤ 519) ∧ (0 ≤ a6 ∧ a6 ≤ 519) ∧ a5 ≤ a6) then some (-1, sto M 0 0 5) else if ¬ M 15 0 < 120 then some (-1, sto M 0 0 7) else if (0 < M 15 0 ∧ a5 < M 25 (M 15 0 - 1).toNat) ∨ a6 < M 15 1 then some (-1, sto M 0 0 12) else some (M 15 0, sto (sto (sto (sto (sto (sto (sto (sto (sto (sto M 0 0 0) 16 (M 15 0).toNat (3)) 25 (M 15 0).toNat (a5)) 26 (M 15 0).toNat (a6)) 15 1 (a6)) 15 0 (M 15 0 + 1)) 18 (M 15 0).toNat (a1)) 20 (M 15 0).toNat (a2)) 21 (M 15 0).toNat (a3)) 22 (M 15 0).toNat (a4)) := by
  have w_a1 := ha1.w
  have u_a1 := ha1.u
  have q_a1 := ha1.1
  have p_a1 := ha1.2
  have w_a2 := ha2.w
  have u_a2 := ha2.u
  have q_a2 := ha2.1
  have p_a2 := ha2.2
  have w_a3 := ha3.w
  have u_a3 := ha3.u
  have q_a3 := ha3.1
  have p_a3 := ha3.2
  have w_a4 := ha4.w
  have u_a4 := ha4.u
  have q_a4 := ha4.1
  have p_a4 := ha4.2
  have w_a5 := ha5.w
  have u_a5 := ha5.u
  have q_a5 := ha5.1
  have p_a5 := ha5.2
  have w_a6 := ha6.w
  have u_a6 := ha6.u
  have q_a6 := ha6.1
  have p_a6 := ha6.2
  have v_0 : w32 (M 15 0) = M 15 0 := w32_eq (by omega) (by omega)
  have x_0 : ix (M 15 0) = (M 15 0).toNat := ix_e (by omega) (by omega)
  have v_1 : w32 (M 5 0) = M 5 0 := w32_eq (by omega) (by omega)
  have x_1 : ix (M 5 0) = (M 5 0).toNat := ix_e (by omega) (by omega)
  have v_2 : w32 (M 5 8) = M 5 8 := w32_eq (by omega) (by omega)
  have x_2 : ix (M 5 8) = (M 5 8).toNat := ix_e (by omega) (by omega)
  have e5 : w32 (M 5 0 - 1) = M 5 0 - 1 := w32_eq (by omega) (by omega)
  have e8 : w32 (M 5 8 - 1) = M 5 8 - 1 := w32_eq (by omega) (by omega)
  simp only [d_PP_spoil, d_Pr_hasElevator, k_PP_spoil_22, d_PP_isGrade, k_PP_spoil_23, d_PP_isIn, d_PP_isYear, k_PP_spoil_50, k_PP_spoil_51, d_Jo_enter, d_Jo_tellWhat, bcall_i, bcall_s, blet_s, chk, sto_c, w_a1, u_a1, w_a2, u_a2, w_a3, u_a3, w_a4, u_a4, w_a5, u_a5, w_a6, u_a6, v_0, x_0, v_1, x_1, v_2, x_2, w64_w32, reduceIte, Nat.reduceEqDiff, Int.reduceEq, Int.reduceLT, Int.reduceLE, if_true, if_false, bcall_n, w64_w, wl_m1, wl_0, wl_1, wl_2, wl_3, wl_4, wl_5, wl_6, wl_7, wl_8, wl_9, wl_10, wl_11, wl_12, wl_13, wl_14, wl_15, wl_16, wl_17, wl_18, wl_19, wl_20, wl_59, wl_60, wl_99, wl_100, wl_119, wl_120, wl_519, wl_1000, wl_5000, wl_10000, wl_100000, wl_1000000, xl_0, xl_1, xl_2, xl_3, xl_4, xl_5, xl_6, xl_7, xl_8, xl_9, xl_19, xl_20, xl_59, xl_60, xl_99, xl_100, xl_119, xl_519, xl_1000, xl_5000, xl_10000, xl_100000, xl_1000000, xl_m1, sto_sto, or_true, true_or, or_false, false_or, or_self, not_true, not_false_eq_true, and_true, true_and, s_may_00 (M := M) ha5 ha6 rfl rfl hj hl hw, s_may_01 (M := M) ha5 ha6 rfl rfl hj hl hw, s_may_10 (M := M) ha5 ha6 rfl rfl hj hl hw, s_may_11 (M := M) ha5 ha6 rfl rfl hj hl hw, e5, e8]
  repeat' (first | refine ite_l (fun _ => ?_) (fun _ => ?_) | refine ite_r (fun _ => ?_) (fun _ => ?_))
  all_goals first | rfl | (exfalso; omega) | skip
theorem r_load {M : Mem} {a1 a2 a3 a4 a5 a6 : Int} (ha1 : I32 a1) (ha2 : I32 a2) (ha3 : I32 a3) (ha4 : I32 a4) (ha5 : I32 a5) (ha6 : I32 a6) (hf : 0 ≤ M 111 5 ∧ M 111 5 ≤ 20) (he : 0 ≤ M 111 6 ∧ M 111 6 ≤ 8) (hj : 0 ≤ M 111 7 ∧ M 111 7 ≤ 120) (hl : 0 ≤ M 111 9 ∧ M 111 9 ≤ 519) (hw : 0 ≤ M 111 10 ∧ M 111 10 ≤ 519) : d_Mo_load a1 a2 a3 a4 a5 a6 M = if ¬ ((0 ≤ a1 ∧ a1 ≤ M 111 5 - 1) ∧ (0 ≤ a2 ∧ a2 ≤ M 111 6 - 1)) then some (-1, sto (sto M 111 1 0) 111 0 2) else if ¬ (((1 ≤ a3 ∧ a3 ≤ 10000) ∧ (0 ≤ a4 ∧ a4 ≤ 1000)) ∧ (0 ≤ a5 ∧ a5 ≤ 519) ∧ (0 ≤ a6 ∧ a6 ≤ 519) ∧ a5 ≤ a6) then some (-1, sto (sto M 111 1 0) 111 0 5) else if ¬ M 111 7 < 120 then some (-1, sto (sto M 111 1 0) 111 0 7) else if a5 < M 111 10 ∨ a6 < M 111 9 then some (-1, sto (sto M 111 1 0) 111 0 12) else some (M 111 7, sto (sto (sto (sto (sto (sto (sto (sto (sto (sto (sto (sto (sto (sto (sto M 111 1 0) 111 0 0) 120 (M 111 7).toNat (0)) 121 (M 111 7).toNat (a1)) 122 (M 111 7).toNat (a2)) 123 (M 111 7).toNat (-1)) 124 (M 111 7).toNat (-1)) 125 (M 111 7).toNat (dv32 a5 52)) 126 (M 111 7).toNat (a3)) 127 (M 111 7).toNat (a4)) 128 (M 111 7).toNat (a5)) 129 (M 111 7).toNat (a6)) 111 7 (M 111 7 + 1)) 111 10 (a5)) 111 9 (a6)) := by
  have w_a1 := ha1.w
  have u_a1 := ha1.u
  have q_a1 := ha1.1
  have p_a1 := ha1.2
  have w_a2 := ha2.w
  have u_a2 := ha2.u
  have q_a2 := ha2.1
  have p_a2 := ha2.2
  have w_a3 := ha3.w
  have u_a3 := ha3.u
  have q_a3 := ha3.1
  have p_a3 := ha3.2
  have w_a4 := ha4.w
  have u_a4 := ha4.u
  have q_a4 := ha4.1
  have p_a4 := ha4.2
  have w_a5 := ha5.w
  have u_a5 := ha5.u
  have q_a5 := ha5.1
  have p_a5 := ha5.2
  have w_a6 := ha6.w
  have u_a6 := ha6.u
  have q_a6 := ha6.1
  have p_a6 := ha6.2
  have v_0 : w32 (M 111 7) = M 111 7 := w32_eq (by omega) (by omega)
  have x_0 : ix (M 111 7) = (M 111 7).toNat := ix_e (by omega) (by omega)
  have v_1 : w32 (M 111 5) = M 111 5 := w32_eq (by omega) (by omega)
  have x_1 : ix (M 111 5) = (M 111 5).toNat := ix_e (by omega) (by omega)
  have v_2 : w32 (M 111 6) = M 111 6 := w32_eq (by omega) (by omega)
  have x_2 : ix (M 111 6) = (M 111 6).toNat := ix_e (by omega) (by omega)
  have v_3 : w32 (M 111 9) = M 111 9 := w32_eq (by omega) (by omega)
  have x_3 : ix (M 111 9) = (M 111 9).toNat := ix_e (by omega) (by omega)
  have v_4 : w32 (M 111 10) = M 111 10 := w32_eq (by omega) (by omega)
  have x_4 : ix (M 111 10) = (M 111 10).toNat := ix_e (by omega) (by omega)
  have e5 : w32 (M 111 5 - 1) = M 111 5 - 1 := w32_eq (by omega) (by omega)
  have e8 : w32 (M 111 6 - 1) = M 111 6 - 1 := w32_eq (by omega) (by omega)
  have e6 : w64 (M 111 5 - 1) = M 111 5 - 1 := w64_eq (by omega) (by omega)
  have e9 : w64 (M 111 6 - 1) = M 111 6 - 1 := w64_eq (by omega) (by omega)
  simp only [e6, e9, d_Mo_load, d_Mo_isFarm, k_Mo_load_26, d_Mo_isElevator, d_Mo_isIn, k_Mo_load_57, d_Mo_event, d_Mo_refuse, d_Mo_isDay, k_Mo_event_23, k_Mo_event_63, bcall_i, bcall_s, blet_s, chk, sto_c, w_a1, u_a1, w_a2, u_a2, w_a3, u_a3, w_a4, u_a4, w_a5, u_a5, w_a6, u_a6, v_0, x_0, v_1, x_1, v_2, x_2, v_3, x_3, v_4, x_4, w64_w32, reduceIte, Nat.reduceEqDiff, Int.reduceEq, Int.reduceLT, Int.reduceLE, if_true, if_false, bcall_n, w64_w, wl_m1, wl_0, wl_1, wl_2, wl_3, wl_4, wl_5, wl_6, wl_7, wl_8, wl_9, wl_10, wl_11, wl_12, wl_13, wl_14, wl_15, wl_16, wl_17, wl_18, wl_19, wl_20, wl_59, wl_60, wl_99, wl_100, wl_119, wl_120, wl_519, wl_1000, wl_5000, wl_10000, wl_100000, wl_1000000, xl_0, xl_1, xl_2, xl_3, xl_4, xl_5, xl_6, xl_7, xl_8, xl_9, xl_19, xl_20, xl_59, xl_60, xl_99, xl_100, xl_119, xl_519, xl_1000, xl_5000, xl_10000, xl_100000, xl_1000000, xl_m1, sto_sto, or_true, true_or, or_false, false_or, or_self, not_true, not_false_eq_true, and_true, true_and, e5, e8, Int.add_sub_cancel]
  repeat' (first | refine ite_l (fun _ => ?_) (fun _ => ?_) | refine ite_r (fun _ => ?_) (fun _ => ?_))
  all_goals first | rfl | (exfalso; omega) | skip
theorem r_car {M : Mem} {a1 a2 a3 a4 a5 a6 a7 : Int} (ha1 : I32 a1) (ha2 : I32 a2) (ha3 : I32 a3) (ha4 : I32 a4) (ha5 : I32 a5) (ha6 : I32 a6) (ha7 : I32 a7) (hf : 0 ≤ M 111 5 ∧ M 111 5 ≤ 20) (he : 0 ≤ M 111 6 ∧ M 111 6 ≤ 8) (hj : 0 ≤ M 111 7 ∧ M 111 7 ≤ 120) (hl : 0 ≤ M 111 9 ∧ M 111 9 ≤ 519) (hw : 0 ≤ M 111 10 ∧ M 111 10 ≤ 519) : d_Mo_car a1 a2 a3 a4 a5 a6 a7 M = if ¬ ((0 ≤ a1 ∧ a1 ≤ M 111 6 - 1) ∧ (0 ≤ a2 ∧ a2 ≤ 1) ∧ (0 ≤ a3 ∧ a3 ≤ 5)) then some (-1, sto (sto M 111 1 0) 111 0 2) else if ¬ (((0 ≤ a4 ∧ a4 ≤ 9) ∧ (1 ≤ a5 ∧ a5 ≤ 100000)) ∧ (0 ≤ a6 ∧ a6 ≤ 519) ∧ (0 ≤ a7 ∧ a7 ≤ 519) ∧ a6 ≤ a7) then some (-1, sto (sto M 111 1 0) 111 0 5) else if ¬ M 111 7 < 120 then some (-1, sto (sto M 111 1 0) 111 0 7) else if a6 < M 111 10 ∨ a7 < M 111 9 then some (-1, sto (sto M 111 1 0) 111 0 12) else some (M 111 7, sto (sto (sto (sto (sto (sto (sto (sto (sto (sto (sto (sto (sto (sto (sto M 111 1 0) 111 0 0) 120 (M 111 7).toNat (1)) 121 (M 111 7).toNat (-1)) 122 (M 111 7).toNat (a1)) 123 (M 111 7).toNat (a2)) 124 (M 111 7).toNat (a3)) 125 (M 111 7).toNat (a4)) 126 (M 111 7).toNat (a5)) 127 (M 111 7).toNat (0)) 128 (M 111 7).toNat (a6)) 129 (M 111 7).toNat (a7)) 111 7 (M 111 7 + 1)) 111 10 (a6)) 111 9 (a7)) := by
  have w_a1 := ha1.w
  have u_a1 := ha1.u
  have q_a1 := ha1.1
  have p_a1 := ha1.2
  have w_a2 := ha2.w
  have u_a2 := ha2.u
  have q_a2 := ha2.1
  have p_a2 := ha2.2
  have w_a3 := ha3.w
  have u_a3 := ha3.u
  have q_a3 := ha3.1
  have p_a3 := ha3.2
  have w_a4 := ha4.w
  have u_a4 := ha4.u
  have q_a4 := ha4.1
  have p_a4 := ha4.2
  have w_a5 := ha5.w
  have u_a5 := ha5.u
  have q_a5 := ha5.1
  have p_a5 := ha5.2
  have w_a6 := ha6.w
  have u_a6 := ha6.u
  have q_a6 := ha6.1
  have p_a6 := ha6.2
  have w_a7 := ha7.w
  have u_a7 := ha7.u
  have q_a7 := ha7.1
  have p_a7 := ha7.2
  have v_0 : w32 (M 111 7) = M 111 7 := w32_eq (by omega) (by omega)
  have x_0 : ix (M 111 7) = (M 111 7).toNat := ix_e (by omega) (by omega)
  have v_1 : w32 (M 111 5) = M 111 5 := w32_eq (by omega) (by omega)
  have x_1 : ix (M 111 5) = (M 111 5).toNat := ix_e (by omega) (by omega)
  have v_2 : w32 (M 111 6) = M 111 6 := w32_eq (by omega) (by omega)
  have x_2 : ix (M 111 6) = (M 111 6).toNat := ix_e (by omega) (by omega)
  have v_3 : w32 (M 111 9) = M 111 9 := w32_eq (by omega) (by omega)
  have x_3 : ix (M 111 9) = (M 111 9).toNat := ix_e (by omega) (by omega)
  have v_4 : w32 (M 111 10) = M 111 10 := w32_eq (by omega) (by omega)
  have x_4 : ix (M 111 10) = (M 111 10).toNat := ix_e (by omega) (by omega)
  have e5 : w32 (M 111 5 - 1) = M 111 5 - 1 := w32_eq (by omega) (by omega)
  have e8 : w32 (M 111 6 - 1) = M 111 6 - 1 := w32_eq (by omega) (by omega)
  have e6 : w64 (M 111 5 - 1) = M 111 5 - 1 := w64_eq (by omega) (by omega)
  have e9 : w64 (M 111 6 - 1) = M 111 6 - 1 := w64_eq (by omega) (by omega)
  simp only [e6, e9, d_Mo_car, d_Mo_isElevator, k_Mo_car_35, d_Mo_isIn, d_Mo_isGrade, d_Mo_isYear, k_Mo_car_62, d_Mo_event, d_Mo_refuse, d_Mo_isDay, k_Mo_event_23, k_Mo_event_63, bcall_i, bcall_s, blet_s, chk, sto_c, w_a1, u_a1, w_a2, u_a2, w_a3, u_a3, w_a4, u_a4, w_a5, u_a5, w_a6, u_a6, w_a7, u_a7, v_0, x_0, v_1, x_1, v_2, x_2, v_3, x_3, v_4, x_4, w64_w32, reduceIte, Nat.reduceEqDiff, Int.reduceEq, Int.reduceLT, Int.reduceLE, if_true, if_false, bcall_n, w64_w, wl_m1, wl_0, wl_1, wl_2, wl_3, wl_4, wl_5, wl_6, wl_7, wl_8, wl_9, wl_10, wl_11, wl_12, wl_13, wl_14, wl_15, wl_16, wl_17, wl_18, wl_19, wl_20, wl_59, wl_60, wl_99, wl_100, wl_119, wl_120, wl_519, wl_1000, wl_5000, wl_10000, wl_100000, wl_1000000, xl_0, xl_1, xl_2, xl_3, xl_4, xl_5, xl_6, xl_7, xl_8, xl_9, xl_19, xl_20, xl_59, xl_60, xl_99, xl_100, xl_119, xl_519, xl_1000, xl_5000, xl_10000, xl_100000, xl_1000000, xl_m1, sto_sto, or_true, true_or, or_false, false_or, or_self, not_true, not_false_eq_true, and_true, true_and, e5, e8, Int.add_sub_cancel]
  repeat' (first | refine ite_l (fun _ => ?_) (fun _ => ?_) | refine ite_r (fun _ => ?_) (fun _ => ?_))
  all_goals first | rfl | (exfalso; omega) | skip
theorem r_sale {M : Mem} {a1 a2 a3 a4 a5 a6 a7 : Int} (ha1 : I32 a1) (ha2 : I32 a2) (ha3 : I32 a3) (ha4 : I32 a4) (ha5 : I32 a5) (ha6 : I32 a6) (ha7 : I32 a7) (hf : 0 ≤ M 111 5 ∧ M 111 5 ≤ 20) (he : 0 ≤ M 111 6 ∧ M 111 6 ≤ 8) (hj : 0 ≤ M 111 7 ∧ M 111 7 ≤ 120) (hl : 0 ≤ M 111 9 ∧ M 111 9 ≤ 519) (hw : 0 ≤ M 111 10 ∧ M 111 10 ≤ 519) : d_Mo_sale a1 a2 a3 a4 a5 a6 a7 M = if ¬ ((0 ≤ a1 ∧ a1 ≤ 1) ∧ (0 ≤ a2 ∧ a2 ≤ 5)) then some (-1, sto (sto M 111 1 0) 111 0 2) else if ¬ (((0 ≤ a3 ∧ a3 ≤ 9) ∧ (1 ≤ a4 ∧ a4 ≤ 100000) ∧ (0 ≤ a5 ∧ a5 ≤ 1000)) ∧ (0 ≤ a6 ∧ a6 ≤ 519) ∧ (0 ≤ a7 ∧ a7 ≤ 519) ∧ a6 ≤ a7) then some (-1, sto (sto M 111 1 0) 111 0 5) else if ¬ M 111 7 < 120 then some (-1, sto (sto M 111 1 0) 111 0 7) else if a6 < M 111 10 ∨ a7 < M 111 9 then some (-1, sto (sto M 111 1 0) 111 0 12) else some (M 111 7, sto (sto (sto (sto (sto (sto (sto (sto (sto (sto (sto (sto (sto (sto (sto M 111 1 0) 111 0 0) 120 (M 111 7).toNat (2)) 121 (M 111 7).toNat (-1)) 122 (M 111 7).toNat (a1)) 123 (M 111 7).toNat (-1)) 124 (M 111 7).toNat (a2)) 125 (M 111 7).toNat (a3)) 126 (M 111 7).toNat (a4)) 127 (M 111 7).toNat (a5)) 128 (M 111 7).toNat (a6)) 129 (M 111 7).toNat (a7)) 111 7 (M 111 7 + 1)) 111 10 (a6)) 111 9 (a7)) := by
  have w_a1 := ha1.w
  have u_a1 := ha1.u
  have q_a1 := ha1.1
  have p_a1 := ha1.2
  have w_a2 := ha2.w
  have u_a2 := ha2.u
  have q_a2 := ha2.1
  have p_a2 := ha2.2
  have w_a3 := ha3.w
  have u_a3 := ha3.u
  have q_a3 := ha3.1
  have p_a3 := ha3.2
  have w_a4 := ha4.w
  have u_a4 := ha4.u
  have q_a4 := ha4.1
  have p_a4 := ha4.2
  have w_a5 := ha5.w
  have u_a5 := ha5.u
  have q_a5 := ha5.1
  have p_a5 := ha5.2
  have w_a6 := ha6.w
  have u_a6 := ha6.u
  have q_a6 := ha6.1
  have p_a6 := ha6.2
  have w_a7 := ha7.w
  have u_a7 := ha7.u
  have q_a7 := ha7.1
  have p_a7 := ha7.2
  have v_0 : w32 (M 111 7) = M 111 7 := w32_eq (by omega) (by omega)
  have x_0 : ix (M 111 7) = (M 111 7).toNat := ix_e (by omega) (by omega)
  have v_1 : w32 (M 111 5) = M 111 5 := w32_eq (by omega) (by omega)
  have x_1 : ix (M 111 5) = (M 111 5).toNat := ix_e (by omega) (by omega)
  have v_2 : w32 (M 111 6) = M 111 6 := w32_eq (by omega) (by omega)
  have x_2 : ix (M 111 6) = (M 111 6).toNat := ix_e (by omega) (by omega)
  have v_3 : w32 (M 111 9) = M 111 9 := w32_eq (by omega) (by omega)
  have x_3 : ix (M 111 9) = (M 111 9).toNat := ix_e (by omega) (by omega)
  have v_4 : w32 (M 111 10) = M 111 10 := w32_eq (by omega) (by omega)
  have x_4 : ix (M 111 10) = (M 111 10).toNat := ix_e (by omega) (by omega)
  have e5 : w32 (M 111 5 - 1) = M 111 5 - 1 := w32_eq (by omega) (by omega)
  have e8 : w32 (M 111 6 - 1) = M 111 6 - 1 := w32_eq (by omega) (by omega)
  have e6 : w64 (M 111 5 - 1) = M 111 5 - 1 := w64_eq (by omega) (by omega)
  have e9 : w64 (M 111 6 - 1) = M 111 6 - 1 := w64_eq (by omega) (by omega)
  simp only [e6, e9, d_Mo_sale, d_Mo_isIn, k_Mo_sale_27, d_Mo_isGrade, d_Mo_isYear, k_Mo_sale_66, d_Mo_event, d_Mo_refuse, d_Mo_isDay, k_Mo_event_23, k_Mo_event_63, bcall_i, bcall_s, blet_s, chk, sto_c, w_a1, u_a1, w_a2, u_a2, w_a3, u_a3, w_a4, u_a4, w_a5, u_a5, w_a6, u_a6, w_a7, u_a7, v_0, x_0, v_1, x_1, v_2, x_2, v_3, x_3, v_4, x_4, w64_w32, reduceIte, Nat.reduceEqDiff, Int.reduceEq, Int.reduceLT, Int.reduceLE, if_true, if_false, bcall_n, w64_w, wl_m1, wl_0, wl_1, wl_2, wl_3, wl_4, wl_5, wl_6, wl_7, wl_8, wl_9, wl_10, wl_11, wl_12, wl_13, wl_14, wl_15, wl_16, wl_17, wl_18, wl_19, wl_20, wl_59, wl_60, wl_99, wl_100, wl_119, wl_120, wl_519, wl_1000, wl_5000, wl_10000, wl_100000, wl_1000000, xl_0, xl_1, xl_2, xl_3, xl_4, xl_5, xl_6, xl_7, xl_8, xl_9, xl_19, xl_20, xl_59, xl_60, xl_99, xl_100, xl_119, xl_519, xl_1000, xl_5000, xl_10000, xl_100000, xl_1000000, xl_m1, sto_sto, or_true, true_or, or_false, false_or, or_self, not_true, not_false_eq_true, and_true, true_and, e5, e8, Int.add_sub_cancel]
  repeat' (first | refine ite_l (fun _ => ?_) (fun _ => ?_) | refine ite_r (fun _ => ?_) (fun _ => ?_))
  all_goals first | rfl | (exfalso; omega) | skip
theorem r_spoil {M : Mem} {a1 a2 a3 a4 a5 a6 : Int} (ha1 : I32 a1) (ha2 : I32 a2) (ha3 : I32 a3) (ha4 : I32 a4) (ha5 : I32 a5) (ha6 : I32 a6) (hf : 0 ≤ M 111 5 ∧ M 111 5 ≤ 20) (he : 0 ≤ M 111 6 ∧ M 111 6 ≤ 8) (hj : 0 ≤ M 111 7 ∧ M 111 7 ≤ 120) (hl : 0 ≤ M 111 9 ∧ M 111 9 ≤ 519) (hw : 0 ≤ M 111 10 ∧ M 111 10 ≤ 519) : d_Mo_spoil a1 a2 a3 a4 a5 a6 M = if ¬ ((0 ≤ a1 ∧ a1 ≤ M 111 6 - 1) ∧ (0 ≤ a2 ∧ a2 ≤ 5)) then some (-1, sto (sto M 111 1 0) 111 0 2) else if ¬ (((0 ≤ a3 ∧ a3 ≤ 9) ∧ (1 ≤ a4 ∧ a4 ≤ 100000)) ∧ (0 ≤ a5 ∧ a5 ≤ 519) ∧ (0 ≤ a6 ∧ a6 ≤ 519) ∧ a5 ≤ a6) then some (-1, sto (sto M 111 1 0) 111 0 5) else if ¬ M 111 7 < 120 then some (-1, sto (sto M 111 1 0) 111 0 7) else if a5 < M 111 10 ∨ a6 < M 111 9 then some (-1, sto (sto M 111 1 0) 111 0 12) else some (M 111 7, sto (sto (sto (sto (sto (sto (sto (sto (sto (sto (sto (sto (sto (sto (sto M 111 1 0) 111 0 0) 120 (M 111 7).toNat (3)) 121 (M 111 7).toNat (-1)) 122 (M 111 7).toNat (a1)) 123 (M 111 7).toNat (-1)) 124 (M 111 7).toNat (a2)) 125 (M 111 7).toNat (a3)) 126 (M 111 7).toNat (a4)) 127 (M 111 7).toNat (0)) 128 (M 111 7).toNat (a5)) 129 (M 111 7).toNat (a6)) 111 7 (M 111 7 + 1)) 111 10 (a5)) 111 9 (a6)) := by
  have w_a1 := ha1.w
  have u_a1 := ha1.u
  have q_a1 := ha1.1
  have p_a1 := ha1.2
  have w_a2 := ha2.w
  have u_a2 := ha2.u
  have q_a2 := ha2.1
  have p_a2 := ha2.2
  have w_a3 := ha3.w
  have u_a3 := ha3.u
  have q_a3 := ha3.1
  have p_a3 := ha3.2
  have w_a4 := ha4.w
  have u_a4 := ha4.u
  have q_a4 := ha4.1
  have p_a4 := ha4.2
  have w_a5 := ha5.w
  have u_a5 := ha5.u
  have q_a5 := ha5.1
  have p_a5 := ha5.2
  have w_a6 := ha6.w
  have u_a6 := ha6.u
  have q_a6 := ha6.1
  have p_a6 := ha6.2
  have v_0 : w32 (M 111 7) = M 111 7 := w32_eq (by omega) (by omega)
  have x_0 : ix (M 111 7) = (M 111 7).toNat := ix_e (by omega) (by omega)
  have v_1 : w32 (M 111 5) = M 111 5 := w32_eq (by omega) (by omega)
  have x_1 : ix (M 111 5) = (M 111 5).toNat := ix_e (by omega) (by omega)
  have v_2 : w32 (M 111 6) = M 111 6 := w32_eq (by omega) (by omega)
  have x_2 : ix (M 111 6) = (M 111 6).toNat := ix_e (by omega) (by omega)
  have v_3 : w32 (M 111 9) = M 111 9 := w32_eq (by omega) (by omega)
  have x_3 : ix (M 111 9) = (M 111 9).toNat := ix_e (by omega) (by omega)
  have v_4 : w32 (M 111 10) = M 111 10 := w32_eq (by omega) (by omega)
  have x_4 : ix (M 111 10) = (M 111 10).toNat := ix_e (by omega) (by omega)
  have e5 : w32 (M 111 5 - 1) = M 111 5 - 1 := w32_eq (by omega) (by omega)
  have e8 : w32 (M 111 6 - 1) = M 111 6 - 1 := w32_eq (by omega) (by omega)
  have e6 : w64 (M 111 5 - 1) = M 111 5 - 1 := w64_eq (by omega) (by omega)
  have e9 : w64 (M 111 6 - 1) = M 111 6 - 1 := w64_eq (by omega) (by omega)
  simp only [e6, e9, d_Mo_spoil, d_Mo_isElevator, k_Mo_spoil_25, d_Mo_isGrade, d_Mo_isYear, k_Mo_spoil_51, d_Mo_isIn, d_Mo_event, d_Mo_refuse, d_Mo_isDay, k_Mo_event_23, k_Mo_event_63, bcall_i, bcall_s, blet_s, chk, sto_c, w_a1, u_a1, w_a2, u_a2, w_a3, u_a3, w_a4, u_a4, w_a5, u_a5, w_a6, u_a6, v_0, x_0, v_1, x_1, v_2, x_2, v_3, x_3, v_4, x_4, w64_w32, reduceIte, Nat.reduceEqDiff, Int.reduceEq, Int.reduceLT, Int.reduceLE, if_true, if_false, bcall_n, w64_w, wl_m1, wl_0, wl_1, wl_2, wl_3, wl_4, wl_5, wl_6, wl_7, wl_8, wl_9, wl_10, wl_11, wl_12, wl_13, wl_14, wl_15, wl_16, wl_17, wl_18, wl_19, wl_20, wl_59, wl_60, wl_99, wl_100, wl_119, wl_120, wl_519, wl_1000, wl_5000, wl_10000, wl_100000, wl_1000000, xl_0, xl_1, xl_2, xl_3, xl_4, xl_5, xl_6, xl_7, xl_8, xl_9, xl_19, xl_20, xl_59, xl_60, xl_99, xl_100, xl_119, xl_519, xl_1000, xl_5000, xl_10000, xl_100000, xl_1000000, xl_m1, sto_sto, or_true, true_or, or_false, false_or, or_self, not_true, not_false_eq_true, and_true, true_and, e5, e8, Int.add_sub_cancel]
  repeat' (first | refine ite_l (fun _ => ?_) (fun _ => ?_) | refine ite_r (fun _ => ?_) (fun _ => ?_))
  all_goals first | rfl | (exfalso; omega) | skip
theorem c_price {M : Mem} {a1 a2 : Int} (ha1 : I32 a1) (ha2 : I32 a2) : d_PP_price a1 a2 M = if ¬ ((0 ≤ a1 ∧ a1 ≤ 519) ∧ (0 ≤ a2 ∧ a2 ≤ 1000)) then some (0, sto M 0 0 5) else some (1, sto (sto M 0 0 0) 89 (ix a1) (a2)) := by
  have w_a1 := ha1.w
  have u_a1 := ha1.u
  have q_a1 := ha1.1
  have p_a1 := ha1.2
  have w_a2 := ha2.w
  have u_a2 := ha2.u
  have q_a2 := ha2.1
  have p_a2 := ha2.2
  simp only [d_PP_price, d_PP_isWeek, k_PP_price_20, d_PP_isPence, k_PP_price_21, d_PP_isIn, d_PP_passes, k_PP_passes_18, bcall_i, bcall_s, blet_s, chk, sto_c, w_a1, u_a1, w_a2, u_a2, w64_w32, reduceIte, Nat.reduceEqDiff, Int.reduceEq, Int.reduceLT, Int.reduceLE, if_true, if_false, bcall_n, w64_w, wl_m1, wl_0, wl_1, wl_2, wl_3, wl_4, wl_5, wl_6, wl_7, wl_8, wl_9, wl_10, wl_11, wl_12, wl_13, wl_14, wl_15, wl_16, wl_17, wl_18, wl_19, wl_20, wl_59, wl_60, wl_99, wl_100, wl_119, wl_120, wl_519, wl_1000, wl_5000, wl_10000, wl_100000, wl_1000000, xl_0, xl_1, xl_2, xl_3, xl_4, xl_5, xl_6, xl_7, xl_8, xl_9, xl_19, xl_20, xl_59, xl_60, xl_99, xl_100, xl_119, xl_519, xl_1000, xl_5000, xl_10000, xl_100000, xl_1000000, xl_m1, sto_sto, or_true, true_or, or_false, false_or, or_self, not_true, not_false_eq_true, and_true, true_and]
  repeat' (first | refine ite_l (fun _ => ?_) (fun _ => ?_) | refine ite_r (fun _ => ?_) (fun _ => ?_))
  all_goals first | rfl | (exfalso; omega) | skip
theorem r_price {M : Mem} {a1 a2 : Int} (ha1 : I32 a1) (ha2 : I32 a2) : d_Mo_price a1 a2 M = if ¬ ((0 ≤ a1 ∧ a1 ≤ 519) ∧ (0 ≤ a2 ∧ a2 ≤ 1000)) then some (0, sto (sto M 111 1 0) 111 0 5) else some (1, sto (sto (sto M 111 1 0) 111 0 0) 171 (ix a1) (a2)) := by
  have w_a1 := ha1.w
  have u_a1 := ha1.u
  have q_a1 := ha1.1
  have p_a1 := ha1.2
  have w_a2 := ha2.w
  have u_a2 := ha2.u
  have q_a2 := ha2.1
  have p_a2 := ha2.2
  simp only [d_Mo_price, d_Mo_isDay, k_Mo_price_29, d_Mo_isIn, d_Mo_no, bcall_i, bcall_s, blet_s, chk, sto_c, w_a1, u_a1, w_a2, u_a2, w64_w32, reduceIte, Nat.reduceEqDiff, Int.reduceEq, Int.reduceLT, Int.reduceLE, if_true, if_false, bcall_n, w64_w, wl_m1, wl_0, wl_1, wl_2, wl_3, wl_4, wl_5, wl_6, wl_7, wl_8, wl_9, wl_10, wl_11, wl_12, wl_13, wl_14, wl_15, wl_16, wl_17, wl_18, wl_19, wl_20, wl_59, wl_60, wl_99, wl_100, wl_119, wl_120, wl_519, wl_1000, wl_5000, wl_10000, wl_100000, wl_1000000, xl_0, xl_1, xl_2, xl_3, xl_4, xl_5, xl_6, xl_7, xl_8, xl_9, xl_19, xl_20, xl_59, xl_60, xl_99, xl_100, xl_119, xl_519, xl_1000, xl_5000, xl_10000, xl_100000, xl_1000000, xl_m1, sto_sto, or_true, true_or, or_false, false_or, or_self, not_true, not_false_eq_true, and_true, true_and]
  repeat' (first | refine ite_l (fun _ => ?_) (fun _ => ?_) | refine ite_r (fun _ => ?_) (fun _ => ?_))
  all_goals first | rfl | (exfalso; omega) | skip
theorem c_rules {M : Mem} {a1 a2 : Int} (ha1 : I32 a1) (ha2 : I32 a2) : d_PP_rules a1 a2 M = if ¬ ((0 ≤ a1 ∧ a1 ≤ 100) ∧ (0 ≤ a2 ∧ a2 ≤ 20)) then some (0, sto M 0 0 5) else some (1, sto (sto (sto M 0 0 0) 88 1 (a1)) 88 2 (a2)) := by
  have w_a1 := ha1.w
  have u_a1 := ha1.u
  have q_a1 := ha1.1
  have p_a1 := ha1.2
  have w_a2 := ha2.w
  have u_a2 := ha2.u
  have q_a2 := ha2.1
  have p_a2 := ha2.2
  simp only [d_PP_rules, d_PP_isIn, k_PP_rules_26, k_PP_rules_27, d_PP_passes, k_PP_passes_18, bcall_i, bcall_s, blet_s, chk, sto_c, w_a1, u_a1, w_a2, u_a2, w64_w32, reduceIte, Nat.reduceEqDiff, Int.reduceEq, Int.reduceLT, Int.reduceLE, if_true, if_false, bcall_n, w64_w, wl_m1, wl_0, wl_1, wl_2, wl_3, wl_4, wl_5, wl_6, wl_7, wl_8, wl_9, wl_10, wl_11, wl_12, wl_13, wl_14, wl_15, wl_16, wl_17, wl_18, wl_19, wl_20, wl_59, wl_60, wl_99, wl_100, wl_119, wl_120, wl_519, wl_1000, wl_5000, wl_10000, wl_100000, wl_1000000, xl_0, xl_1, xl_2, xl_3, xl_4, xl_5, xl_6, xl_7, xl_8, xl_9, xl_19, xl_20, xl_59, xl_60, xl_99, xl_100, xl_119, xl_519, xl_1000, xl_5000, xl_10000, xl_100000, xl_1000000, xl_m1, sto_sto, or_true, true_or, or_false, false_or, or_self, not_true, not_false_eq_true, and_true, true_and]
  repeat' (first | refine ite_l (fun _ => ?_) (fun _ => ?_) | refine ite_r (fun _ => ?_) (fun _ => ?_))
  all_goals first | rfl | (exfalso; omega) | skip
theorem r_rules {M : Mem} {a1 a2 : Int} (ha1 : I32 a1) (ha2 : I32 a2) : d_Mo_rules a1 a2 M = if ¬ ((0 ≤ a1 ∧ a1 ≤ 100) ∧ (0 ≤ a2 ∧ a2 ≤ 20)) then some (0, sto (sto M 111 1 0) 111 0 5) else some (1, sto (sto (sto (sto M 111 1 0) 111 0 0) 111 89 (a1)) 111 90 (a2)) := by
  have w_a1 := ha1.w
  have u_a1 := ha1.u
  have q_a1 := ha1.1
  have p_a1 := ha1.2
  have w_a2 := ha2.w
  have u_a2 := ha2.u
  have q_a2 := ha2.1
  have p_a2 := ha2.2
  simp only [d_Mo_rules, d_Mo_isIn, k_Mo_rules_34, d_Mo_no, bcall_i, bcall_s, blet_s, chk, sto_c, w_a1, u_a1, w_a2, u_a2, w64_w32, reduceIte, Nat.reduceEqDiff, Int.reduceEq, Int.reduceLT, Int.reduceLE, if_true, if_false, bcall_n, w64_w, wl_m1, wl_0, wl_1, wl_2, wl_3, wl_4, wl_5, wl_6, wl_7, wl_8, wl_9, wl_10, wl_11, wl_12, wl_13, wl_14, wl_15, wl_16, wl_17, wl_18, wl_19, wl_20, wl_59, wl_60, wl_99, wl_100, wl_119, wl_120, wl_519, wl_1000, wl_5000, wl_10000, wl_100000, wl_1000000, xl_0, xl_1, xl_2, xl_3, xl_4, xl_5, xl_6, xl_7, xl_8, xl_9, xl_19, xl_20, xl_59, xl_60, xl_99, xl_100, xl_119, xl_519, xl_1000, xl_5000, xl_10000, xl_100000, xl_1000000, xl_m1, sto_sto, or_true, true_or, or_false, false_or, or_self, not_true, not_false_eq_true, and_true, true_and]
  repeat' (first | refine ite_l (fun _ => ?_) (fun _ => ?_) | refine ite_r (fun _ => ?_) (fun _ => ?_))
  all_goals first | rfl | (exfalso; omega) | skip
theorem c_vote {M : Mem} {a1 a2 : Int} (ha1 : I32 a1) (ha2 : I32 a2) (hf : 0 ≤ M 5 0 ∧ M 5 0 ≤ 20) : d_PP_vote a1 a2 M = if ¬ (0 ≤ a1 ∧ a1 ≤ M 5 0 - 1) then some (0, sto M 0 0 2) else if ¬ ((-1 ≤ a2 ∧ a2 ≤ 1)) then some (0, sto M 0 0 5) else some (1, sto (sto M 0 0 0) 12 (ix a1) (a2)) := by
  have w_a1 := ha1.w
  have u_a1 := ha1.u
  have q_a1 := ha1.1
  have p_a1 := ha1.2
  have w_a2 := ha2.w
  have u_a2 := ha2.u
  have q_a2 := ha2.1
  have p_a2 := ha2.2
  have v_0 : w32 (M 5 0) = M 5 0 := w32_eq (by omega) (by omega)
  have x_0 : ix (M 5 0) = (M 5 0).toNat := ix_e (by omega) (by omega)
  have e5 : w32 (M 5 0 - 1) = M 5 0 - 1 := w32_eq (by omega) (by omega)
  simp only [d_PP_vote, d_Pr_hasFarm, d_PP_isIn, d_PP_passes, k_PP_passes_18, bcall_i, bcall_s, blet_s, chk, sto_c, w_a1, u_a1, w_a2, u_a2, v_0, x_0, w64_w32, reduceIte, Nat.reduceEqDiff, Int.reduceEq, Int.reduceLT, Int.reduceLE, if_true, if_false, bcall_n, w64_w, wl_m1, wl_0, wl_1, wl_2, wl_3, wl_4, wl_5, wl_6, wl_7, wl_8, wl_9, wl_10, wl_11, wl_12, wl_13, wl_14, wl_15, wl_16, wl_17, wl_18, wl_19, wl_20, wl_59, wl_60, wl_99, wl_100, wl_119, wl_120, wl_519, wl_1000, wl_5000, wl_10000, wl_100000, wl_1000000, xl_0, xl_1, xl_2, xl_3, xl_4, xl_5, xl_6, xl_7, xl_8, xl_9, xl_19, xl_20, xl_59, xl_60, xl_99, xl_100, xl_119, xl_519, xl_1000, xl_5000, xl_10000, xl_100000, xl_1000000, xl_m1, sto_sto, or_true, true_or, or_false, false_or, or_self, not_true, not_false_eq_true, and_true, true_and, e5]
  repeat' (first | refine ite_l (fun _ => ?_) (fun _ => ?_) | refine ite_r (fun _ => ?_) (fun _ => ?_))
  all_goals first | rfl | (exfalso; omega) | skip
theorem r_vote {M : Mem} {a1 a2 : Int} (ha1 : I32 a1) (ha2 : I32 a2) (hf : 0 ≤ M 111 5 ∧ M 111 5 ≤ 20) : d_Mo_vote a1 a2 M = if ¬ (0 ≤ a1 ∧ a1 ≤ M 111 5 - 1) then some (0, sto (sto M 111 1 0) 111 0 2) else if ¬ ((-1 ≤ a2 ∧ a2 ≤ 1)) then some (0, sto (sto M 111 1 0) 111 0 5) else some (1, sto (sto (sto M 111 1 0) 111 0 0) 166 (ix a1) (a2)) := by
  have w_a1 := ha1.w
  have u_a1 := ha1.u
  have q_a1 := ha1.1
  have p_a1 := ha1.2
  have w_a2 := ha2.w
  have u_a2 := ha2.u
  have q_a2 := ha2.1
  have p_a2 := ha2.2
  have v_0 : w32 (M 111 5) = M 111 5 := w32_eq (by omega) (by omega)
  have x_0 : ix (M 111 5) = (M 111 5).toNat := ix_e (by omega) (by omega)
  have e6 : w64 (M 111 5 - 1) = M 111 5 - 1 := w64_eq (by omega) (by omega)
  have e5 : w32 (M 111 5 - 1) = M 111 5 - 1 := w32_eq (by omega) (by omega)
  simp only [d_Mo_vote, d_Mo_isFarm, d_Mo_no, d_Mo_isIn, bcall_i, bcall_s, blet_s, chk, sto_c, w_a1, u_a1, w_a2, u_a2, v_0, x_0, w64_w32, reduceIte, Nat.reduceEqDiff, Int.reduceEq, Int.reduceLT, Int.reduceLE, if_true, if_false, bcall_n, w64_w, wl_m1, wl_0, wl_1, wl_2, wl_3, wl_4, wl_5, wl_6, wl_7, wl_8, wl_9, wl_10, wl_11, wl_12, wl_13, wl_14, wl_15, wl_16, wl_17, wl_18, wl_19, wl_20, wl_59, wl_60, wl_99, wl_100, wl_119, wl_120, wl_519, wl_1000, wl_5000, wl_10000, wl_100000, wl_1000000, xl_0, xl_1, xl_2, xl_3, xl_4, xl_5, xl_6, xl_7, xl_8, xl_9, xl_19, xl_20, xl_59, xl_60, xl_99, xl_100, xl_119, xl_519, xl_1000, xl_5000, xl_10000, xl_100000, xl_1000000, xl_m1, sto_sto, or_true, true_or, or_false, false_or, or_self, not_true, not_false_eq_true, and_true, true_and, e5, e6]
  repeat' (first | refine ite_l (fun _ => ?_) (fun _ => ?_) | refine ite_r (fun _ => ?_) (fun _ => ?_))
  all_goals first | rfl | (exfalso; omega) | skip
theorem c_sign {M : Mem} {a1 a2 a3 : Int} (ha1 : I32 a1) (ha2 : I32 a2) (ha3 : I32 a3) (hf : 0 ≤ M 5 0 ∧ M 5 0 ≤ 20) : d_PP_sign a1 a2 a3 M = if ¬ (0 ≤ a1 ∧ a1 ≤ M 5 0 - 1) then some (0, sto M 0 0 2) else if ¬ ((0 ≤ a2 ∧ a2 ≤ 9) ∧ (0 ≤ a3 ∧ a3 ≤ 9) ∧ a2 ≤ a3) then some (0, sto M 0 0 5) else some (1, sto (sto (sto M 0 0 0) 9 (ix a1) (a2)) 10 (ix a1) (a3)) := by
  have w_a1 := ha1.w
  have u_a1 := ha1.u
  have q_a1 := ha1.1
  have p_a1 := ha1.2
  have w_a2 := ha2.w
  have u_a2 := ha2.u
  have q_a2 := ha2.1
  have p_a2 := ha2.2
  have w_a3 := ha3.w
  have u_a3 := ha3.u
  have q_a3 := ha3.1
  have p_a3 := ha3.2
  have v_0 : w32 (M 5 0) = M 5 0 := w32_eq (by omega) (by omega)
  have x_0 : ix (M 5 0) = (M 5 0).toNat := ix_e (by omega) (by omega)
  have e5 : w32 (M 5 0 - 1) = M 5 0 - 1 := w32_eq (by omega) (by omega)
  simp only [d_PP_sign, d_Pr_hasFarm, d_PP_isYear, k_PP_sign_32, k_PP_sign_33, d_PP_isIn, d_PP_passes, k_PP_passes_18, bcall_i, bcall_s, blet_s, chk, sto_c, w_a1, u_a1, w_a2, u_a2, w_a3, u_a3, v_0, x_0, w64_w32, reduceIte, Nat.reduceEqDiff, Int.reduceEq, Int.reduceLT, Int.reduceLE, if_true, if_false, bcall_n, w64_w, wl_m1, wl_0, wl_1, wl_2, wl_3, wl_4, wl_5, wl_6, wl_7, wl_8, wl_9, wl_10, wl_11, wl_12, wl_13, wl_14, wl_15, wl_16, wl_17, wl_18, wl_19, wl_20, wl_59, wl_60, wl_99, wl_100, wl_119, wl_120, wl_519, wl_1000, wl_5000, wl_10000, wl_100000, wl_1000000, xl_0, xl_1, xl_2, xl_3, xl_4, xl_5, xl_6, xl_7, xl_8, xl_9, xl_19, xl_20, xl_59, xl_60, xl_99, xl_100, xl_119, xl_519, xl_1000, xl_5000, xl_10000, xl_100000, xl_1000000, xl_m1, sto_sto, or_true, true_or, or_false, false_or, or_self, not_true, not_false_eq_true, and_true, true_and, e5]
  repeat' (first | refine ite_l (fun _ => ?_) (fun _ => ?_) | refine ite_r (fun _ => ?_) (fun _ => ?_))
  all_goals first | rfl | (exfalso; omega) | skip
theorem r_sign {M : Mem} {a1 a2 a3 : Int} (ha1 : I32 a1) (ha2 : I32 a2) (ha3 : I32 a3) (hf : 0 ≤ M 111 5 ∧ M 111 5 ≤ 20) : d_Mo_sign a1 a2 a3 M = if ¬ (0 ≤ a1 ∧ a1 ≤ M 111 5 - 1) then some (0, sto (sto M 111 1 0) 111 0 2) else if ¬ ((0 ≤ a2 ∧ a2 ≤ 9) ∧ (0 ≤ a3 ∧ a3 ≤ 9) ∧ a2 ≤ a3) then some (0, sto (sto M 111 1 0) 111 0 5) else some (1, sto (sto (sto (sto M 111 1 0) 111 0 0) 164 (ix a1) (a2)) 165 (ix a1) (a3)) := by
  have w_a1 := ha1.w
  have u_a1 := ha1.u
  have q_a1 := ha1.1
  have p_a1 := ha1.2
  have w_a2 := ha2.w
  have u_a2 := ha2.u
  have q_a2 := ha2.1
  have p_a2 := ha2.2
  have w_a3 := ha3.w
  have u_a3 := ha3.u
  have q_a3 := ha3.1
  have p_a3 := ha3.2
  have v_0 : w32 (M 111 5) = M 111 5 := w32_eq (by omega) (by omega)
  have x_0 : ix (M 111 5) = (M 111 5).toNat := ix_e (by omega) (by omega)
  have e6 : w64 (M 111 5 - 1) = M 111 5 - 1 := w64_eq (by omega) (by omega)
  have e5 : w32 (M 111 5 - 1) = M 111 5 - 1 := w32_eq (by omega) (by omega)
  simp only [d_Mo_sign, d_Mo_isFarm, d_Mo_no, d_Mo_isYear, k_Mo_sign_44, d_Mo_isIn, bcall_i, bcall_s, blet_s, chk, sto_c, w_a1, u_a1, w_a2, u_a2, w_a3, u_a3, v_0, x_0, w64_w32, reduceIte, Nat.reduceEqDiff, Int.reduceEq, Int.reduceLT, Int.reduceLE, if_true, if_false, bcall_n, w64_w, wl_m1, wl_0, wl_1, wl_2, wl_3, wl_4, wl_5, wl_6, wl_7, wl_8, wl_9, wl_10, wl_11, wl_12, wl_13, wl_14, wl_15, wl_16, wl_17, wl_18, wl_19, wl_20, wl_59, wl_60, wl_99, wl_100, wl_119, wl_120, wl_519, wl_1000, wl_5000, wl_10000, wl_100000, wl_1000000, xl_0, xl_1, xl_2, xl_3, xl_4, xl_5, xl_6, xl_7, xl_8, xl_9, xl_19, xl_20, xl_59, xl_60, xl_99, xl_100, xl_119, xl_519, xl_1000, xl_5000, xl_10000, xl_100000, xl_1000000, xl_m1, sto_sto, or_true, true_or, or_false, false_or, or_self, not_true, not_false_eq_true, and_true, true_and, e5, e6]
  repeat' (first | refine ite_l (fun _ => ?_) (fun _ => ?_) | refine ite_r (fun _ => ?_) (fun _ => ?_))
  all_goals first | rfl | (exfalso; omega) | skip
theorem c_outside {M : Mem} {a1 a2 a3 a4 : Int} (ha1 : I32 a1) (ha2 : I32 a2) (ha3 : I32 a3) (ha4 : I32 a4) (hf : 0 ≤ M 5 0 ∧ M 5 0 ≤ 20) (ho : 0 ≤ M 98 0 ∧ M 98 0 ≤ 60) : d_PP_outside a1 a2 a3 a4 M = if ¬ (0 ≤ a1 ∧ a1 ≤ M 5 0 - 1) then some (-1, sto M 0 0 2) else if ¬ ((0 ≤ a2 ∧ a2 ≤ 519) ∧ (1 ≤ a3 ∧ a3 ≤ 10000) ∧ (0 ≤ a4 ∧ a4 ≤ 1000)) then some (-1, sto M 0 0 5) else if ¬ (M 98 0 < 60) then some (-1, sto M 0 0 7) else some (M 98 0, sto (sto (sto (sto (sto (sto M 0 0 0) 99 (M 98 0).toNat (a1)) 100 (M 98 0).toNat (a2)) 101 (M 98 0).toNat (a3)) 102 (M 98 0).toNat (a4)) 98 0 (M 98 0 + 1)) := by
  have w_a1 := ha1.w
  have u_a1 := ha1.u
  have q_a1 := ha1.1
  have p_a1 := ha1.2
  have w_a2 := ha2.w
  have u_a2 := ha2.u
  have q_a2 := ha2.1
  have p_a2 := ha2.2
  have w_a3 := ha3.w
  have u_a3 := ha3.u
  have q_a3 := ha3.1
  have p_a3 := ha3.2
  have w_a4 := ha4.w
  have u_a4 := ha4.u
  have q_a4 := ha4.1
  have p_a4 := ha4.2
  have v_0 : w32 (M 5 0) = M 5 0 := w32_eq (by omega) (by omega)
  have x_0 : ix (M 5 0) = (M 5 0).toNat := ix_e (by omega) (by omega)
  have v_1 : w32 (M 98 0) = M 98 0 := w32_eq (by omega) (by omega)
  have x_1 : ix (M 98 0) = (M 98 0).toNat := ix_e (by omega) (by omega)
  have e5 : w32 (M 5 0 - 1) = M 5 0 - 1 := w32_eq (by omega) (by omega)
  simp only [d_PP_outside, d_PP_isWeek, k_PP_outside_30, d_PP_isIn, d_PP_isPence, k_PP_outside_31, k_PP_outside_50, d_Pr_hasFarm, d_PP_passesWithRoom, d_Ou_add, d_PP_passes, k_PP_passesWithRoom_19, k_PP_passes_18, bcall_i, bcall_s, blet_s, chk, sto_c, w_a1, u_a1, w_a2, u_a2, w_a3, u_a3, w_a4, u_a4, v_0, x_0, v_1, x_1, w64_w32, reduceIte, Nat.reduceEqDiff, Int.reduceEq, Int.reduceLT, Int.reduceLE, if_true, if_false, bcall_n, w64_w, wl_m1, wl_0, wl_1, wl_2, wl_3, wl_4, wl_5, wl_6, wl_7, wl_8, wl_9, wl_10, wl_11, wl_12, wl_13, wl_14, wl_15, wl_16, wl_17, wl_18, wl_19, wl_20, wl_59, wl_60, wl_99, wl_100, wl_119, wl_120, wl_519, wl_1000, wl_5000, wl_10000, wl_100000, wl_1000000, xl_0, xl_1, xl_2, xl_3, xl_4, xl_5, xl_6, xl_7, xl_8, xl_9, xl_19, xl_20, xl_59, xl_60, xl_99, xl_100, xl_119, xl_519, xl_1000, xl_5000, xl_10000, xl_100000, xl_1000000, xl_m1, sto_sto, or_true, true_or, or_false, false_or, or_self, not_true, not_false_eq_true, and_true, true_and, e5]
  repeat' (first | refine ite_l (fun _ => ?_) (fun _ => ?_) | refine ite_r (fun _ => ?_) (fun _ => ?_))
  all_goals first | rfl | (exfalso; omega) | skip
theorem r_outside {M : Mem} {a1 a2 a3 a4 : Int} (ha1 : I32 a1) (ha2 : I32 a2) (ha3 : I32 a3) (ha4 : I32 a4) (hf : 0 ≤ M 111 5 ∧ M 111 5 ≤ 20) (ho : 0 ≤ M 111 88 ∧ M 111 88 ≤ 60) : d_Mo_outside a1 a2 a3 a4 M = if ¬ (0 ≤ a1 ∧ a1 ≤ M 111 5 - 1) then some (-1, sto (sto M 111 1 0) 111 0 2) else if ¬ ((0 ≤ a2 ∧ a2 ≤ 519) ∧ (1 ≤ a3 ∧ a3 ≤ 10000) ∧ (0 ≤ a4 ∧ a4 ≤ 1000)) then some (-1, sto (sto M 111 1 0) 111 0 5) else if ¬ (M 111 88 < 60) then some (-1, sto (sto M 111 1 0) 111 0 7) else some (M 111 88, sto (sto (sto (sto (sto (sto (sto M 111 1 0) 111 0 0) 167 (M 111 88).toNat (a1)) 168 (M 111 88).toNat (a2)) 169 (M 111 88).toNat (a3)) 170 (M 111 88).toNat (a4)) 111 88 (M 111 88 + 1)) := by
  have w_a1 := ha1.w
  have u_a1 := ha1.u
  have q_a1 := ha1.1
  have p_a1 := ha1.2
  have w_a2 := ha2.w
  have u_a2 := ha2.u
  have q_a2 := ha2.1
  have p_a2 := ha2.2
  have w_a3 := ha3.w
  have u_a3 := ha3.u
  have q_a3 := ha3.1
  have p_a3 := ha3.2
  have w_a4 := ha4.w
  have u_a4 := ha4.u
  have q_a4 := ha4.1
  have p_a4 := ha4.2
  have v_0 : w32 (M 111 5) = M 111 5 := w32_eq (by omega) (by omega)
  have x_0 : ix (M 111 5) = (M 111 5).toNat := ix_e (by omega) (by omega)
  have v_1 : w32 (M 111 88) = M 111 88 := w32_eq (by omega) (by omega)
  have x_1 : ix (M 111 88) = (M 111 88).toNat := ix_e (by omega) (by omega)
  have e6 : w64 (M 111 5 - 1) = M 111 5 - 1 := w64_eq (by omega) (by omega)
  have e5 : w32 (M 111 5 - 1) = M 111 5 - 1 := w32_eq (by omega) (by omega)
  simp only [d_Mo_outside, d_Mo_isFarm, d_Mo_refuse, d_Mo_isDay, k_Mo_outside_56, d_Mo_isIn, bcall_i, bcall_s, blet_s, chk, sto_c, w_a1, u_a1, w_a2, u_a2, w_a3, u_a3, w_a4, u_a4, v_0, x_0, v_1, x_1, w64_w32, reduceIte, Nat.reduceEqDiff, Int.reduceEq, Int.reduceLT, Int.reduceLE, if_true, if_false, bcall_n, w64_w, wl_m1, wl_0, wl_1, wl_2, wl_3, wl_4, wl_5, wl_6, wl_7, wl_8, wl_9, wl_10, wl_11, wl_12, wl_13, wl_14, wl_15, wl_16, wl_17, wl_18, wl_19, wl_20, wl_59, wl_60, wl_99, wl_100, wl_119, wl_120, wl_519, wl_1000, wl_5000, wl_10000, wl_100000, wl_1000000, xl_0, xl_1, xl_2, xl_3, xl_4, xl_5, xl_6, xl_7, xl_8, xl_9, xl_19, xl_20, xl_59, xl_60, xl_99, xl_100, xl_119, xl_519, xl_1000, xl_5000, xl_10000, xl_100000, xl_1000000, xl_m1, sto_sto, or_true, true_or, or_false, false_or, or_self, not_true, not_false_eq_true, and_true, true_and, e5, e6, Int.add_sub_cancel]
  repeat' (first | refine ite_l (fun _ => ?_) (fun _ => ?_) | refine ite_r (fun _ => ?_) (fun _ => ?_))
  all_goals first | rfl | (exfalso; omega) | skip
