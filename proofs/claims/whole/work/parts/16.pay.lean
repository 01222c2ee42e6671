section
variable {p : Program} {l : Launch} {e : Env} {lev : Nat} {s : State} {m : MethodId} {args : Array Value} {below : List Frame} {meth : Method} {c : Code} {G : GX}
theorem x_Py_gather_0 : DC b_Py_gather 0 (.aload_n 0) 1 1 := ⟨by decide +kernel, rfl⟩
theorem x_Py_gather_1 : DC b_Py_gather 1 (.getfield 47) 3 4 := ⟨by decide +kernel, rfl⟩
theorem x_Py_gather_4 : DC b_Py_gather 4 (.getfield 70) 3 7 := ⟨by decide +kernel, rfl⟩
theorem x_Py_gather_7 : DC b_Py_gather 7 (.astore_n 2) 1 8 := ⟨by decide +kernel, rfl⟩
theorem x_Py_gather_8 : DC b_Py_gather 8 (.aload_n 0) 1 9 := ⟨by decide +kernel, rfl⟩
theorem x_Py_gather_9 : DC b_Py_gather 9 (.getfield 47) 3 12 := ⟨by decide +kernel, rfl⟩
theorem x_Py_gather_12 : DC b_Py_gather 12 (.getfield 86) 3 15 := ⟨by decide +kernel, rfl⟩
theorem x_Py_gather_15 : DC b_Py_gather 15 (.iload_n 1) 1 16 := ⟨by decide +kernel, rfl⟩
theorem x_Py_gather_16 : DC b_Py_gather 16 (.iaload) 1 17 := ⟨by decide +kernel, rfl⟩
theorem x_Py_gather_17 : DC b_Py_gather 17 (.istore_n 3) 1 18 := ⟨by decide +kernel, rfl⟩
theorem x_Py_gather_18 : DC b_Py_gather 18 (.aload_n 2) 1 19 := ⟨by decide +kernel, rfl⟩
theorem x_Py_gather_19 : DC b_Py_gather 19 (.getfield 89) 3 22 := ⟨by decide +kernel, rfl⟩
theorem x_Py_gather_22 : DC b_Py_gather 22 (.iload_n 1) 1 23 := ⟨by decide +kernel, rfl⟩
theorem x_Py_gather_23 : DC b_Py_gather 23 (.iaload) 1 24 := ⟨by decide +kernel, rfl⟩
theorem x_Py_gather_24 : DC b_Py_gather 24 (.ifCond .ne 35) 3 27 := ⟨by decide +kernel, rfl⟩
theorem x_Py_gather_27 : DC b_Py_gather 27 (.aload_n 0) 1 28 := ⟨by decide +kernel, rfl⟩
theorem x_Py_gather_28 : DC b_Py_gather 28 (.getfield 35) 3 31 := ⟨by decide +kernel, rfl⟩
theorem x_Py_gather_31 : DC b_Py_gather 31 (.aload_n 0) 1 32 := ⟨by decide +kernel, rfl⟩
theorem x_Py_gather_32 : DC b_Py_gather 32 (.getfield 47) 3 35 := ⟨by decide +kernel, rfl⟩
theorem x_Py_gather_35 : DC b_Py_gather 35 (.getfield 92) 3 38 := ⟨by decide +kernel, rfl⟩
theorem x_Py_gather_38 : DC b_Py_gather 38 (.iload_n 1) 1 39 := ⟨by decide +kernel, rfl⟩
theorem x_Py_gather_39 : DC b_Py_gather 39 (.iaload) 1 40 := ⟨by decide +kernel, rfl⟩
theorem x_Py_gather_40 : DC b_Py_gather 40 (.bipush 20) 2 42 := ⟨by decide +kernel, rfl⟩
theorem x_Py_gather_42 : DC b_Py_gather 42 (.imul) 1 43 := ⟨by decide +kernel, rfl⟩
theorem x_Py_gather_43 : DC b_Py_gather 43 (.aload_n 2) 1 44 := ⟨by decide +kernel, rfl⟩
theorem x_Py_gather_44 : DC b_Py_gather 44 (.getfield 95) 3 47 := ⟨by decide +kernel, rfl⟩
theorem x_Py_gather_47 : DC b_Py_gather 47 (.iload_n 1) 1 48 := ⟨by decide +kernel, rfl⟩
theorem x_Py_gather_48 : DC b_Py_gather 48 (.iaload) 1 49 := ⟨by decide +kernel, rfl⟩
theorem x_Py_gather_49 : DC b_Py_gather 49 (.iadd) 1 50 := ⟨by decide +kernel, rfl⟩
theorem x_Py_gather_50 : DC b_Py_gather 50 (.dup2) 1 51 := ⟨by decide +kernel, rfl⟩
theorem x_Py_gather_51 : DC b_Py_gather 51 (.laload) 1 52 := ⟨by decide +kernel, rfl⟩
theorem x_Py_gather_52 : DC b_Py_gather 52 (.iload_n 3) 1 53 := ⟨by decide +kernel, rfl⟩
theorem x_Py_gather_53 : DC b_Py_gather 53 (.i2l) 1 54 := ⟨by decide +kernel, rfl⟩
theorem x_Py_gather_54 : DC b_Py_gather 54 (.ladd) 1 55 := ⟨by decide +kernel, rfl⟩
theorem x_Py_gather_55 : DC b_Py_gather 55 (.lastore) 1 56 := ⟨by decide +kernel, rfl⟩
theorem x_Py_gather_56 : DC b_Py_gather 56 (.goto 37) 3 59 := ⟨by decide +kernel, rfl⟩
theorem x_Py_gather_59 : DC b_Py_gather 59 (.aload_n 2) 1 60 := ⟨by decide +kernel, rfl⟩
theorem x_Py_gather_60 : DC b_Py_gather 60 (.getfield 89) 3 63 := ⟨by decide +kernel, rfl⟩
theorem x_Py_gather_63 : DC b_Py_gather 63 (.iload_n 1) 1 64 := ⟨by decide +kernel, rfl⟩
theorem x_Py_gather_64 : DC b_Py_gather 64 (.iaload) 1 65 := ⟨by decide +kernel, rfl⟩
theorem x_Py_gather_65 : DC b_Py_gather 65 (.iconst 2) 1 66 := ⟨by decide +kernel, rfl⟩
theorem x_Py_gather_66 : DC b_Py_gather 66 (.if_icmp .ne 27) 3 69 := ⟨by decide +kernel, rfl⟩
theorem x_Py_gather_69 : DC b_Py_gather 69 (.aload_n 0) 1 70 := ⟨by decide +kernel, rfl⟩
theorem x_Py_gather_70 : DC b_Py_gather 70 (.getfield 29) 3 73 := ⟨by decide +kernel, rfl⟩
theorem x_Py_gather_73 : DC b_Py_gather 73 (.aload_n 2) 1 74 := ⟨by decide +kernel, rfl⟩
theorem x_Py_gather_74 : DC b_Py_gather 74 (.getfield 98) 3 77 := ⟨by decide +kernel, rfl⟩
theorem x_Py_gather_77 : DC b_Py_gather 77 (.iload_n 1) 1 78 := ⟨by decide +kernel, rfl⟩
theorem x_Py_gather_78 : DC b_Py_gather 78 (.iaload) 1 79 := ⟨by decide +kernel, rfl⟩
theorem x_Py_gather_79 : DC b_Py_gather 79 (.dup2) 1 80 := ⟨by decide +kernel, rfl⟩
theorem x_Py_gather_80 : DC b_Py_gather 80 (.laload) 1 81 := ⟨by decide +kernel, rfl⟩
theorem x_Py_gather_81 : DC b_Py_gather 81 (.iload_n 3) 1 82 := ⟨by decide +kernel, rfl⟩
theorem x_Py_gather_82 : DC b_Py_gather 82 (.i2l) 1 83 := ⟨by decide +kernel, rfl⟩
theorem x_Py_gather_83 : DC b_Py_gather 83 (.aload_n 2) 1 84 := ⟨by decide +kernel, rfl⟩
theorem x_Py_gather_84 : DC b_Py_gather 84 (.getfield 101) 3 87 := ⟨by decide +kernel, rfl⟩
theorem x_Py_gather_87 : DC b_Py_gather 87 (.iload_n 1) 1 88 := ⟨by decide +kernel, rfl⟩
theorem x_Py_gather_88 : DC b_Py_gather 88 (.iaload) 1 89 := ⟨by decide +kernel, rfl⟩
theorem x_Py_gather_89 : DC b_Py_gather 89 (.i2l) 1 90 := ⟨by decide +kernel, rfl⟩
theorem x_Py_gather_90 : DC b_Py_gather 90 (.lmul) 1 91 := ⟨by decide +kernel, rfl⟩
theorem x_Py_gather_91 : DC b_Py_gather 91 (.ladd) 1 92 := ⟨by decide +kernel, rfl⟩
theorem x_Py_gather_92 : DC b_Py_gather 92 (.lastore) 1 93 := ⟨by decide +kernel, rfl⟩
theorem x_Py_gather_93 : DC b_Py_gather 93 (.return_) 1 94 := ⟨by decide +kernel, rfl⟩
def d_Py_gather (a1 : Int) (M : Mem) : Res := chk (0 ≤ w32 a1 ∧ w32 a1 < 120) <| blet (M 76 (ix a1)) fun v2 => chk (0 ≤ w32 a1 ∧ w32 a1 < 120) <| blet (M 16 (ix a1)) fun v4 => if w32 v4 = 0 then (chk (0 ≤ w32 a1 ∧ w32 a1 < 120) <| blet (M 77 (ix a1)) fun v7 => chk (0 ≤ w32 a1 ∧ w32 a1 < 120) <| blet (M 17 (ix a1)) fun v9 => chk (0 ≤ w32 ((v7 * 20) + v9) ∧ w32 ((v7 * 20) + v9) < 120) <| blet (M 94 (ix ((v7 * 20) + v9))) fun v11 => chk (0 ≤ w32 ((v7 * 20) + v9) ∧ w32 ((v7 * 20) + v9) < 120) <| blet (sto M 94 (ix ((v7 * 20) + v9)) (v11 + (w32 v2))) fun M13 => some (0, M13)) else (chk (0 ≤ w32 a1 ∧ w32 a1 < 120) <| blet (M 16 (ix a1)) fun v15 => if w32 v15 = 2 then (chk (0 ≤ w32 a1 ∧ w32 a1 < 120) <| blet (M 20 (ix a1)) fun v18 => chk (0 ≤ w32 v18 ∧ w32 v18 < 6) <| blet (M 92 (ix v18)) fun v20 => chk (0 ≤ w32 a1 ∧ w32 a1 < 120) <| blet (M 24 (ix a1)) fun v22 => chk (0 ≤ w32 v18 ∧ w32 v18 < 6) <| blet (sto M 92 (ix v18) (v20 + ((w32 v2) * (w32 v22)))) fun M24 => some (0, M24)) else (some (0, M)))
theorem t_Py_gather (l : Launch) (G : GX) {lev : Nat} (hlev : 0 ≤ lev) {a1 : Int} {M : Mem} {r : Int × Mem} (h : d_Py_gather a1 M = some r) : Mt l G y_Py_gather b_Py_gather 4 none lev 0 [.ref (G.1 + 88), vi a1] M r := by
  refine Mt.of (by decide) (i_le rfl) ?_
  intro p e s m args below meth c C
  have C : Cx p s m args meth c G b_Py_gather 4 "PrairiePool$Payments" none := C
  unfold d_Py_gather at h
  refine z_sub (lv' := [(0, .ref (G.1 + 88)), (1, vi a1)]) [0, 1] rfl ?_
  refine z_aload_n C 0 x_Py_gather_0 rfl ?_
  refine z_getR (j := 7) C x_Py_gather_1 nk_88 ck_88 cw_5 (i_lt rfl) rfl rf_88_7 rfl fl_Py_47 ?_
  refine z_getR (j := 1) C x_Py_gather_4 nk_75 ck_75 cw_6 (i_lt rfl) rfl rf_75_1 rfl fl_Py_70 ?_
  refine z_astore_n (lv' := [(2, .ref (G.1 + 15)), (0, .ref (G.1 + 88)), (1, vi a1)]) C rfl x_Py_gather_7 (i_lt rfl) rfl ?_
  refine z_aload_n C 1 x_Py_gather_8 rfl ?_
  refine z_getR (j := 7) C x_Py_gather_9 nk_88 ck_88 cw_5 (i_lt rfl) rfl rf_88_7 rfl fl_Py_47 ?_
  refine z_getR (j := 4) C x_Py_gather_12 nk_75 ck_75 cw_6 (i_lt rfl) rfl rf_75_4 rfl fl_Py_86 ?_
  refine z_iload_n C 2 x_Py_gather_15 rfl ?_
  obtain ⟨c1, h⟩ := chk_e h
  obtain ⟨v2, ev2, h⟩ := blet_e h
  refine z_iald C x_Py_gather_16 nk_76 ck_76 c1 ev2 ?_
  refine z_istore_n (lv' := [(3, vi v2), (2, .ref (G.1 + 15)), (0, .ref (G.1 + 88)), (1, vi a1)]) C rfl x_Py_gather_17 (i_lt rfl) rfl ?_
  refine z_aload_n C 1 x_Py_gather_18 rfl ?_
  refine z_getR (j := 2) C x_Py_gather_19 nk_15 ck_15 cw_2 (i_lt rfl) rfl rf_15_2 rfl fl_Py_89 ?_
  refine z_iload_n C 3 x_Py_gather_22 rfl ?_
  obtain ⟨c3, h⟩ := chk_e h
  obtain ⟨v4, ev4, h⟩ := blet_e h
  refine z_iald C x_Py_gather_23 nk_16 ck_16 c3 ev4 ?_
  rcases ite_e h with ⟨c5, h⟩ | ⟨c5, h⟩
  · refine z_if_ne_f (tgt := 59) C x_Py_gather_24 rfl c5 ?_
    refine z_aload_n C 2 x_Py_gather_27 rfl ?_
    refine z_getR (j := 11) C x_Py_gather_28 nk_88 ck_88 cw_5 (i_lt rfl) rfl rf_88_11 rfl fl_Py_35 ?_
    refine z_aload_n C 2 x_Py_gather_31 rfl ?_
    refine z_getR (j := 7) C x_Py_gather_32 nk_88 ck_88 cw_5 (i_lt rfl) rfl rf_88_7 rfl fl_Py_47 ?_
    refine z_getR (j := 5) C x_Py_gather_35 nk_75 ck_75 cw_6 (i_lt rfl) rfl rf_75_5 rfl fl_Py_92 ?_
    refine z_iload_n C 3 x_Py_gather_38 rfl ?_
    obtain ⟨c6, h⟩ := chk_e h
    obtain ⟨v7, ev7, h⟩ := blet_e h
    refine z_iald C x_Py_gather_39 nk_77 ck_77 c6 ev7 ?_
    refine z_bipush C rfl x_Py_gather_40 ?_
    refine z_imul C x_Py_gather_42 ?_
    refine z_aload_n C 1 x_Py_gather_43 rfl ?_
    refine z_getR (j := 3) C x_Py_gather_44 nk_15 ck_15 cw_2 (i_lt rfl) rfl rf_15_3 rfl fl_Py_95 ?_
    refine z_iload_n C 3 x_Py_gather_47 rfl ?_
    obtain ⟨c8, h⟩ := chk_e h
    obtain ⟨v9, ev9, h⟩ := blet_e h
    refine z_iald C x_Py_gather_48 nk_17 ck_17 c8 ev9 ?_
    refine z_iadd C x_Py_gather_49 ?_
    refine z_dup2 C x_Py_gather_50 rfl rfl ?_
    obtain ⟨c10, h⟩ := chk_e h
    obtain ⟨v11, ev11, h⟩ := blet_e h
    refine z_lald C x_Py_gather_51 nk_94 ck_94 c10 ev11 ?_
    refine z_iload_n C 0 x_Py_gather_52 rfl ?_
    refine z_i2l C x_Py_gather_53 ?_
    refine z_ladd C x_Py_gather_54 ?_
    obtain ⟨c12, h⟩ := chk_e h
    obtain ⟨M13, eM13, h⟩ := blet_e h
    refine z_last C x_Py_gather_55 nk_94 ck_94 c12 eM13 ?_
    refine z_goto (tgt := 93) C x_Py_gather_56 rfl ?_
    exact z_vret C x_Py_gather_93 h
  · refine z_if_ne_t (tgt := 59) C x_Py_gather_24 rfl c5 ?_
    refine z_aload_n C 1 x_Py_gather_59 rfl ?_
    refine z_getR (j := 2) C x_Py_gather_60 nk_15 ck_15 cw_2 (i_lt rfl) rfl rf_15_2 rfl fl_Py_89 ?_
    refine z_iload_n C 3 x_Py_gather_63 rfl ?_
    obtain ⟨c14, h⟩ := chk_e h
    obtain ⟨v15, ev15, h⟩ := blet_e h
    refine z_iald C x_Py_gather_64 nk_16 ck_16 c14 ev15 ?_
    refine z_iconst C x_Py_gather_65 ?_
    rcases ite_e h with ⟨c16, h⟩ | ⟨c16, h⟩
    · refine z_icmp_ne_f (tgt := 93) C x_Py_gather_66 rfl c16 ?_
      refine z_aload_n C 2 x_Py_gather_69 rfl ?_
      refine z_getR (j := 9) C x_Py_gather_70 nk_88 ck_88 cw_5 (i_lt rfl) rfl rf_88_9 rfl fl_Py_29 ?_
      refine z_aload_n C 1 x_Py_gather_73 rfl ?_
      refine z_getR (j := 6) C x_Py_gather_74 nk_15 ck_15 cw_2 (i_lt rfl) rfl rf_15_6 rfl fl_Py_98 ?_
      refine z_iload_n C 3 x_Py_gather_77 rfl ?_
      obtain ⟨c17, h⟩ := chk_e h
      obtain ⟨v18, ev18, h⟩ := blet_e h
      refine z_iald C x_Py_gather_78 nk_20 ck_20 c17 ev18 ?_
      refine z_dup2 C x_Py_gather_79 rfl rfl ?_
      obtain ⟨c19, h⟩ := chk_e h
      obtain ⟨v20, ev20, h⟩ := blet_e h
      refine z_lald C x_Py_gather_80 nk_92 ck_92 c19 ev20 ?_
      refine z_iload_n C 0 x_Py_gather_81 rfl ?_
      refine z_i2l C x_Py_gather_82 ?_
      refine z_aload_n C 1 x_Py_gather_83 rfl ?_
      refine z_getR (j := 10) C x_Py_gather_84 nk_15 ck_15 cw_2 (i_lt rfl) rfl rf_15_10 rfl fl_Py_101 ?_
      refine z_iload_n C 3 x_Py_gather_87 rfl ?_
      obtain ⟨c21, h⟩ := chk_e h
      obtain ⟨v22, ev22, h⟩ := blet_e h
      refine z_iald C x_Py_gather_88 nk_24 ck_24 c21 ev22 ?_
      refine z_i2l C x_Py_gather_89 ?_
      refine z_lmul C x_Py_gather_90 ?_
      refine z_ladd C x_Py_gather_91 ?_
      obtain ⟨c23, h⟩ := chk_e h
      obtain ⟨M24, eM24, h⟩ := blet_e h
      refine z_last C x_Py_gather_92 nk_92 ck_92 c23 eM24 ?_
      exact z_vret C x_Py_gather_93 h
    · refine z_icmp_ne_t (tgt := 93) C x_Py_gather_66 rfl c16 ?_
      exact z_vret C x_Py_gather_93 h
theorem x_Py_beginLastWeekOf_0 : DC b_Py_beginLastWeekOf 0 (.aload_n 0) 1 1 := ⟨by decide +kernel, rfl⟩
theorem x_Py_beginLastWeekOf_1 : DC b_Py_beginLastWeekOf 1 (.getfield 51) 3 4 := ⟨by decide +kernel, rfl⟩
theorem x_Py_beginLastWeekOf_4 : DC b_Py_beginLastWeekOf 4 (.iload_n 1) 1 5 := ⟨by decide +kernel, rfl⟩
theorem x_Py_beginLastWeekOf_5 : DC b_Py_beginLastWeekOf 5 (.bipush 52) 2 7 := ⟨by decide +kernel, rfl⟩
theorem x_Py_beginLastWeekOf_7 : DC b_Py_beginLastWeekOf 7 (.imul) 1 8 := ⟨by decide +kernel, rfl⟩
theorem x_Py_beginLastWeekOf_8 : DC b_Py_beginLastWeekOf 8 (.bipush 52) 2 10 := ⟨by decide +kernel, rfl⟩
theorem x_Py_beginLastWeekOf_10 : DC b_Py_beginLastWeekOf 10 (.iadd) 1 11 := ⟨by decide +kernel, rfl⟩
theorem x_Py_beginLastWeekOf_11 : DC b_Py_beginLastWeekOf 11 (.iconst 1) 1 12 := ⟨by decide +kernel, rfl⟩
theorem x_Py_beginLastWeekOf_12 : DC b_Py_beginLastWeekOf 12 (.isub) 1 13 := ⟨by decide +kernel, rfl⟩
theorem x_Py_beginLastWeekOf_13 : DC b_Py_beginLastWeekOf 13 (.invokevirtual 104) 3 16 := ⟨by decide +kernel, rfl⟩
theorem x_Py_beginLastWeekOf_16 : DC b_Py_beginLastWeekOf 16 (.aload_n 0) 1 17 := ⟨by decide +kernel, rfl⟩
theorem x_Py_beginLastWeekOf_17 : DC b_Py_beginLastWeekOf 17 (.getfield 51) 3 20 := ⟨by decide +kernel, rfl⟩
theorem x_Py_beginLastWeekOf_20 : DC b_Py_beginLastWeekOf 20 (.iconst 3) 1 21 := ⟨by decide +kernel, rfl⟩
theorem x_Py_beginLastWeekOf_21 : DC b_Py_beginLastWeekOf 21 (.iload_n 1) 1 22 := ⟨by decide +kernel, rfl⟩
theorem x_Py_beginLastWeekOf_22 : DC b_Py_beginLastWeekOf 22 (.i2l) 1 23 := ⟨by decide +kernel, rfl⟩
theorem x_Py_beginLastWeekOf_23 : DC b_Py_beginLastWeekOf 23 (.invokevirtual 109) 3 26 := ⟨by decide +kernel, rfl⟩
theorem x_Py_beginLastWeekOf_26 : DC b_Py_beginLastWeekOf 26 (.return_) 1 27 := ⟨by decide +kernel, rfl⟩
def d_Py_beginLastWeekOf (a1 : Int) (M : Mem) : Res := bcall (d_As_begin (((a1 * 52) + 52) - 1) M) fun v1 M2 => bcall (d_As_tell 3 (w32 a1) M2) fun v3 M4 => some (0, M4)
theorem t_Py_beginLastWeekOf (l : Launch) (G : GX) {lev : Nat} (hlev : 2 ≤ lev) {a1 : Int} {M : Mem} {r : Int × Mem} (h : d_Py_beginLastWeekOf a1 M = some r) : Mt l G y_Py_beginLastWeekOf b_Py_beginLastWeekOf 2 none lev 0 [.ref (G.1 + 88), vi a1] M r := by
  refine Mt.of (by decide) (i_le rfl) ?_
  intro p e s m args below meth c C
  have C : Cx p s m args meth c G b_Py_beginLastWeekOf 2 "PrairiePool$Payments" none := C
  unfold d_Py_beginLastWeekOf at h
  refine z_sub (lv' := [(0, .ref (G.1 + 88)), (1, vi a1)]) [0, 1] rfl ?_
  refine z_aload_n C 0 x_Py_beginLastWeekOf_0 rfl ?_
  refine z_getR (j := 8) C x_Py_beginLastWeekOf_1 nk_88 ck_88 cw_5 (i_lt rfl) rfl rf_88_8 rfl fl_Py_51 ?_
  refine z_iload_n C 1 x_Py_beginLastWeekOf_4 rfl ?_
  refine z_bipush C rfl x_Py_beginLastWeekOf_5 ?_
  refine z_imul C x_Py_beginLastWeekOf_7 ?_
  refine z_bipush C rfl x_Py_beginLastWeekOf_8 ?_
  refine z_iadd C x_Py_beginLastWeekOf_10 ?_
  refine z_iconst C x_Py_beginLastWeekOf_11 ?_
  refine z_isub C x_Py_beginLastWeekOf_12 ?_
  obtain ⟨v1, M2, fv1, h⟩ := bcall_e h
  refine z_callVv (k := 32) C x_Py_beginLastWeekOf_13 cv_Py_104 (t_As_begin (lev := lev - 1) l G (by omega) fv1) nk_32 ck_32 rfl (by omega) rfl (i_le rfl) rfl ?_
  refine z_aload_n C 0 x_Py_beginLastWeekOf_16 rfl ?_
  refine z_getR (j := 8) C x_Py_beginLastWeekOf_17 nk_88 ck_88 cw_5 (i_lt rfl) rfl rf_88_8 rfl fl_Py_51 ?_
  refine z_iconst C x_Py_beginLastWeekOf_20 ?_
  refine z_iload_n C 1 x_Py_beginLastWeekOf_21 rfl ?_
  refine z_i2l C x_Py_beginLastWeekOf_22 ?_
  obtain ⟨v3, M4, fv3, h⟩ := bcall_e h
  refine z_callVv (k := 32) C x_Py_beginLastWeekOf_23 cv_Py_109 (t_As_tell (lev := lev - 1) l G (by omega) fv3) nk_32 ck_32 rfl (by omega) rfl (i_le rfl) rfl ?_
  exact z_vret C x_Py_beginLastWeekOf_26 h
theorem x_Py_payFor_0 : DC b_Py_payFor 0 (.aload_n 0) 1 1 := ⟨by decide +kernel, rfl⟩
theorem x_Py_payFor_1 : DC b_Py_payFor 1 (.iload_n 2) 1 2 := ⟨by decide +kernel, rfl⟩
theorem x_Py_payFor_2 : DC b_Py_payFor 2 (.invokevirtual 113) 3 5 := ⟨by decide +kernel, rfl⟩
theorem x_Py_payFor_5 : DC b_Py_payFor 5 (.aload_n 0) 1 6 := ⟨by decide +kernel, rfl⟩
theorem x_Py_payFor_6 : DC b_Py_payFor 6 (.getfield 51) 3 9 := ⟨by decide +kernel, rfl⟩
theorem x_Py_payFor_9 : DC b_Py_payFor 9 (.iconst 0) 1 10 := ⟨by decide +kernel, rfl⟩
theorem x_Py_payFor_10 : DC b_Py_payFor 10 (.iload_n 1) 1 11 := ⟨by decide +kernel, rfl⟩
theorem x_Py_payFor_11 : DC b_Py_payFor 11 (.i2l) 1 12 := ⟨by decide +kernel, rfl⟩
theorem x_Py_payFor_12 : DC b_Py_payFor 12 (.invokevirtual 109) 3 15 := ⟨by decide +kernel, rfl⟩
theorem x_Py_payFor_15 : DC b_Py_payFor 15 (.aload_n 0) 1 16 := ⟨by decide +kernel, rfl⟩
theorem x_Py_payFor_16 : DC b_Py_payFor 16 (.getfield 51) 3 19 := ⟨by decide +kernel, rfl⟩
theorem x_Py_payFor_19 : DC b_Py_payFor 19 (.iconst 1) 1 20 := ⟨by decide +kernel, rfl⟩
theorem x_Py_payFor_20 : DC b_Py_payFor 20 (.invokevirtual 116) 3 23 := ⟨by decide +kernel, rfl⟩
theorem x_Py_payFor_23 : DC b_Py_payFor 23 (.i2l) 1 24 := ⟨by decide +kernel, rfl⟩
theorem x_Py_payFor_24 : DC b_Py_payFor 24 (.lstore_n 3) 1 25 := ⟨by decide +kernel, rfl⟩
theorem x_Py_payFor_25 : DC b_Py_payFor 25 (.aload_n 0) 1 26 := ⟨by decide +kernel, rfl⟩
theorem x_Py_payFor_26 : DC b_Py_payFor 26 (.getfield 32) 3 29 := ⟨by decide +kernel, rfl⟩
theorem x_Py_payFor_29 : DC b_Py_payFor 29 (.iload_n 1) 1 30 := ⟨by decide +kernel, rfl⟩
theorem x_Py_payFor_30 : DC b_Py_payFor 30 (.aload_n 0) 1 31 := ⟨by decide +kernel, rfl⟩
theorem x_Py_payFor_31 : DC b_Py_payFor 31 (.getfield 29) 3 34 := ⟨by decide +kernel, rfl⟩
theorem x_Py_payFor_34 : DC b_Py_payFor 34 (.iload_n 1) 1 35 := ⟨by decide +kernel, rfl⟩
theorem x_Py_payFor_35 : DC b_Py_payFor 35 (.laload) 1 36 := ⟨by decide +kernel, rfl⟩
theorem x_Py_payFor_36 : DC b_Py_payFor 36 (.aload_n 0) 1 37 := ⟨by decide +kernel, rfl⟩
theorem x_Py_payFor_37 : DC b_Py_payFor 37 (.getfield 51) 3 40 := ⟨by decide +kernel, rfl⟩
theorem x_Py_payFor_40 : DC b_Py_payFor 40 (.iconst 2) 1 41 := ⟨by decide +kernel, rfl⟩
theorem x_Py_payFor_41 : DC b_Py_payFor 41 (.invokevirtual 116) 3 44 := ⟨by decide +kernel, rfl⟩
theorem x_Py_payFor_44 : DC b_Py_payFor 44 (.i2l) 1 45 := ⟨by decide +kernel, rfl⟩
theorem x_Py_payFor_45 : DC b_Py_payFor 45 (.lmul) 1 46 := ⟨by decide +kernel, rfl⟩
theorem x_Py_payFor_46 : DC b_Py_payFor 46 (.ldc2_w 120) 3 49 := ⟨by decide +kernel, rfl⟩
theorem x_Py_payFor_49 : DC b_Py_payFor 49 (.ldiv) 1 50 := ⟨by decide +kernel, rfl⟩
theorem x_Py_payFor_50 : DC b_Py_payFor 50 (.lastore) 1 51 := ⟨by decide +kernel, rfl⟩
theorem x_Py_payFor_51 : DC b_Py_payFor 51 (.aload_n 0) 1 52 := ⟨by decide +kernel, rfl⟩
theorem x_Py_payFor_52 : DC b_Py_payFor 52 (.getfield 35) 3 55 := ⟨by decide +kernel, rfl⟩
theorem x_Py_payFor_55 : DC b_Py_payFor 55 (.iload_n 1) 1 56 := ⟨by decide +kernel, rfl⟩
theorem x_Py_payFor_56 : DC b_Py_payFor 56 (.bipush 20) 2 58 := ⟨by decide +kernel, rfl⟩
theorem x_Py_payFor_58 : DC b_Py_payFor 58 (.imul) 1 59 := ⟨by decide +kernel, rfl⟩
theorem x_Py_payFor_59 : DC b_Py_payFor 59 (.aload_n 0) 1 60 := ⟨by decide +kernel, rfl⟩
theorem x_Py_payFor_60 : DC b_Py_payFor 60 (.getfield 41) 3 63 := ⟨by decide +kernel, rfl⟩
theorem x_Py_payFor_63 : DC b_Py_payFor 63 (.iconst 0) 1 64 := ⟨by decide +kernel, rfl⟩
theorem x_Py_payFor_64 : DC b_Py_payFor 64 (.bipush 20) 2 66 := ⟨by decide +kernel, rfl⟩
theorem x_Py_payFor_66 : DC b_Py_payFor 66 (.invokestatic 122) 3 69 := ⟨by decide +kernel, rfl⟩
theorem x_Py_payFor_69 : DC b_Py_payFor 69 (.aload_n 0) 1 70 := ⟨by decide +kernel, rfl⟩
theorem x_Py_payFor_70 : DC b_Py_payFor 70 (.getfield 47) 3 73 := ⟨by decide +kernel, rfl⟩
theorem x_Py_payFor_73 : DC b_Py_payFor 73 (.aload_n 0) 1 74 := ⟨by decide +kernel, rfl⟩
theorem x_Py_payFor_74 : DC b_Py_payFor 74 (.getfield 29) 3 77 := ⟨by decide +kernel, rfl⟩
theorem x_Py_payFor_77 : DC b_Py_payFor 77 (.iload_n 1) 1 78 := ⟨by decide +kernel, rfl⟩
theorem x_Py_payFor_78 : DC b_Py_payFor 78 (.laload) 1 79 := ⟨by decide +kernel, rfl⟩
theorem x_Py_payFor_79 : DC b_Py_payFor 79 (.aload_n 0) 1 80 := ⟨by decide +kernel, rfl⟩
theorem x_Py_payFor_80 : DC b_Py_payFor 80 (.getfield 32) 3 83 := ⟨by decide +kernel, rfl⟩
theorem x_Py_payFor_83 : DC b_Py_payFor 83 (.iload_n 1) 1 84 := ⟨by decide +kernel, rfl⟩
theorem x_Py_payFor_84 : DC b_Py_payFor 84 (.laload) 1 85 := ⟨by decide +kernel, rfl⟩
theorem x_Py_payFor_85 : DC b_Py_payFor 85 (.lsub) 1 86 := ⟨by decide +kernel, rfl⟩
theorem x_Py_payFor_86 : DC b_Py_payFor 86 (.aload_n 0) 1 87 := ⟨by decide +kernel, rfl⟩
theorem x_Py_payFor_87 : DC b_Py_payFor 87 (.getfield 41) 3 90 := ⟨by decide +kernel, rfl⟩
theorem x_Py_payFor_90 : DC b_Py_payFor 90 (.aload_n 0) 1 91 := ⟨by decide +kernel, rfl⟩
theorem x_Py_payFor_91 : DC b_Py_payFor 91 (.getfield 44) 3 94 := ⟨by decide +kernel, rfl⟩
theorem x_Py_payFor_94 : DC b_Py_payFor 94 (.invokevirtual 128) 3 97 := ⟨by decide +kernel, rfl⟩
theorem x_Py_payFor_97 : DC b_Py_payFor 97 (.iconst 0) 1 98 := ⟨by decide +kernel, rfl⟩
theorem x_Py_payFor_98 : DC b_Py_payFor 98 (.istore 5) 2 100 := ⟨by decide +kernel, rfl⟩
theorem x_Py_payFor_100 : DC b_Py_payFor 100 (.iload 5) 2 102 := ⟨by decide +kernel, rfl⟩
theorem x_Py_payFor_102 : DC b_Py_payFor 102 (.bipush 20) 2 104 := ⟨by decide +kernel, rfl⟩
theorem x_Py_payFor_104 : DC b_Py_payFor 104 (.if_icmp .ge 45) 3 107 := ⟨by decide +kernel, rfl⟩
theorem x_Py_payFor_107 : DC b_Py_payFor 107 (.aload_n 0) 1 108 := ⟨by decide +kernel, rfl⟩
theorem x_Py_payFor_108 : DC b_Py_payFor 108 (.getfield 22) 3 111 := ⟨by decide +kernel, rfl⟩
theorem x_Py_payFor_111 : DC b_Py_payFor 111 (.iload 5) 2 113 := ⟨by decide +kernel, rfl⟩
theorem x_Py_payFor_113 : DC b_Py_payFor 113 (.dup2) 1 114 := ⟨by decide +kernel, rfl⟩
theorem x_Py_payFor_114 : DC b_Py_payFor 114 (.laload) 1 115 := ⟨by decide +kernel, rfl⟩
theorem x_Py_payFor_115 : DC b_Py_payFor 115 (.lload_n 3) 1 116 := ⟨by decide +kernel, rfl⟩
theorem x_Py_payFor_116 : DC b_Py_payFor 116 (.aload_n 0) 1 117 := ⟨by decide +kernel, rfl⟩
theorem x_Py_payFor_117 : DC b_Py_payFor 117 (.getfield 41) 3 120 := ⟨by decide +kernel, rfl⟩
theorem x_Py_payFor_120 : DC b_Py_payFor 120 (.iload 5) 2 122 := ⟨by decide +kernel, rfl⟩
theorem x_Py_payFor_122 : DC b_Py_payFor 122 (.laload) 1 123 := ⟨by decide +kernel, rfl⟩
theorem x_Py_payFor_123 : DC b_Py_payFor 123 (.lmul) 1 124 := ⟨by decide +kernel, rfl⟩
theorem x_Py_payFor_124 : DC b_Py_payFor 124 (.ladd) 1 125 := ⟨by decide +kernel, rfl⟩
theorem x_Py_payFor_125 : DC b_Py_payFor 125 (.lastore) 1 126 := ⟨by decide +kernel, rfl⟩
theorem x_Py_payFor_126 : DC b_Py_payFor 126 (.aload_n 0) 1 127 := ⟨by decide +kernel, rfl⟩
theorem x_Py_payFor_127 : DC b_Py_payFor 127 (.getfield 38) 3 130 := ⟨by decide +kernel, rfl⟩
theorem x_Py_payFor_130 : DC b_Py_payFor 130 (.iload 5) 2 132 := ⟨by decide +kernel, rfl⟩
theorem x_Py_payFor_132 : DC b_Py_payFor 132 (.dup2) 1 133 := ⟨by decide +kernel, rfl⟩
theorem x_Py_payFor_133 : DC b_Py_payFor 133 (.laload) 1 134 := ⟨by decide +kernel, rfl⟩
theorem x_Py_payFor_134 : DC b_Py_payFor 134 (.aload_n 0) 1 135 := ⟨by decide +kernel, rfl⟩
theorem x_Py_payFor_135 : DC b_Py_payFor 135 (.getfield 44) 3 138 := ⟨by decide +kernel, rfl⟩
theorem x_Py_payFor_138 : DC b_Py_payFor 138 (.iload 5) 2 140 := ⟨by decide +kernel, rfl⟩
theorem x_Py_payFor_140 : DC b_Py_payFor 140 (.laload) 1 141 := ⟨by decide +kernel, rfl⟩
theorem x_Py_payFor_141 : DC b_Py_payFor 141 (.ladd) 1 142 := ⟨by decide +kernel, rfl⟩
theorem x_Py_payFor_142 : DC b_Py_payFor 142 (.lastore) 1 143 := ⟨by decide +kernel, rfl⟩
theorem x_Py_payFor_143 : DC b_Py_payFor 143 (.iinc 5 1) 3 146 := ⟨by decide +kernel, rfl⟩
theorem x_Py_payFor_146 : DC b_Py_payFor 146 (.goto (-46)) 3 149 := ⟨by decide +kernel, rfl⟩
theorem x_Py_payFor_149 : DC b_Py_payFor 149 (.return_) 1 150 := ⟨by decide +kernel, rfl⟩
def k_Py_payFor_100 (R100 : Int → Int → Mem → Res) (a3 a5 : Int) (M : Mem) : Res := if w32 a5 < 20 then (chk (0 ≤ w32 a5 ∧ w32 a5 < 20) <| blet (M 90 (ix a5)) fun v3 => chk (0 ≤ w32 a5 ∧ w32 a5 < 20) <| blet (M 96 (ix a5)) fun v5 => chk (0 ≤ w32 a5 ∧ w32 a5 < 20) <| blet (sto M 90 (ix a5) (v3 + (a3 * v5))) fun M7 => chk (0 ≤ w32 a5 ∧ w32 a5 < 20) <| blet (M7 95 (ix a5)) fun v9 => chk (0 ≤ w32 a5 ∧ w32 a5 < 20) <| blet (M7 97 (ix a5)) fun v11 => chk (0 ≤ w32 a5 ∧ w32 a5 < 20) <| blet (sto M7 95 (ix a5) (v9 + v11)) fun M13 => blet (a5 + 1) fun v14 => R100 a3 v14 M13) else (some (0, M))
theorem z_Py_payFor_100 (C : Cx p s m args meth c G b_Py_payFor 6 "PrairiePool$Payments" none) (hlev : 5 ≤ lev) {r : Int × Mem} {R100 : Int → Int → Mem → Res} (hR100 : ∀ (a3 a5 : Int) (M : Mem), R100 a3 a5 M = some r → Z p l e lev s m args below meth c G 6 (MQ below (Qm G 0 r) args s 0 0 (Ab G)) M 100 [(0, .ref (G.1 + 88)), (3, vl a3), (5, vi a5)] []) {a3 a5 : Int} {M : Mem} (h : k_Py_payFor_100 R100 a3 a5 M = some r) : Z p l e lev s m args below meth c G 6 (MQ below (Qm G 0 r) args s 0 0 (Ab G)) M 100 [(0, .ref (G.1 + 88)), (3, vl a3), (5, vi a5)] [] := by
  unfold k_Py_payFor_100 at h
  refine z_iload C 2 x_Py_payFor_100 rfl ?_
  refine z_bipush C rfl x_Py_payFor_102 ?_
  rcases ite_e h with ⟨c1, h⟩ | ⟨c1, h⟩
  · refine z_icmp_ge_f (tgt := 149) C x_Py_payFor_104 rfl c1 ?_
    refine z_aload_n C 0 x_Py_payFor_107 rfl ?_
    refine z_getR (j := 3) C x_Py_payFor_108 nk_88 ck_88 cw_5 (i_lt rfl) rfl rf_88_3 rfl fl_Py_22 ?_
    refine z_iload C 2 x_Py_payFor_111 rfl ?_
    refine z_dup2 C x_Py_payFor_113 rfl rfl ?_
    obtain ⟨c2, h⟩ := chk_e h
    obtain ⟨v3, ev3, h⟩ := blet_e h
    refine z_lald C x_Py_payFor_114 nk_90 ck_90 c2 ev3 ?_
    refine z_lload_n C 1 x_Py_payFor_115 rfl ?_
    refine z_aload_n C 0 x_Py_payFor_116 rfl ?_
    refine z_getR (j := 13) C x_Py_payFor_117 nk_88 ck_88 cw_5 (i_lt rfl) rfl rf_88_13 rfl fl_Py_41 ?_
    refine z_iload C 2 x_Py_payFor_120 rfl ?_
    obtain ⟨c4, h⟩ := chk_e h
    obtain ⟨v5, ev5, h⟩ := blet_e h
    refine z_lald C x_Py_payFor_122 nk_96 ck_96 c4 ev5 ?_
    refine z_lmul C x_Py_payFor_123 ?_
    refine z_ladd C x_Py_payFor_124 ?_
    obtain ⟨c6, h⟩ := chk_e h
    obtain ⟨M7, eM7, h⟩ := blet_e h
    refine z_last C x_Py_payFor_125 nk_90 ck_90 c6 eM7 ?_
    refine z_aload_n C 0 x_Py_payFor_126 rfl ?_
    refine z_getR (j := 12) C x_Py_payFor_127 nk_88 ck_88 cw_5 (i_lt rfl) rfl rf_88_12 rfl fl_Py_38 ?_
    refine z_iload C 2 x_Py_payFor_130 rfl ?_
    refine z_dup2 C x_Py_payFor_132 rfl rfl ?_
    obtain ⟨c8, h⟩ := chk_e h
    obtain ⟨v9, ev9, h⟩ := blet_e h
    refine z_lald C x_Py_payFor_133 nk_95 ck_95 c8 ev9 ?_
    refine z_aload_n C 0 x_Py_payFor_134 rfl ?_
    refine z_getR (j := 14) C x_Py_payFor_135 nk_88 ck_88 cw_5 (i_lt rfl) rfl rf_88_14 rfl fl_Py_44 ?_
    refine z_iload C 2 x_Py_payFor_138 rfl ?_
    obtain ⟨c10, h⟩ := chk_e h
    obtain ⟨v11, ev11, h⟩ := blet_e h
    refine z_lald C x_Py_payFor_140 nk_97 ck_97 c10 ev11 ?_
    refine z_ladd C x_Py_payFor_141 ?_
    obtain ⟨c12, h⟩ := chk_e h
    obtain ⟨M13, eM13, h⟩ := blet_e h
    refine z_last C x_Py_payFor_142 nk_95 ck_95 c12 eM13 ?_
    obtain ⟨v14, ev14, h⟩ := blet_e h
    refine z_iinc (lv' := [(5, vi v14), (0, .ref (G.1 + 88)), (3, vl a3)]) C 2 ev14 x_Py_payFor_143 rfl (i_lt rfl) rfl ?_
    refine z_goto (tgt := 100) C x_Py_payFor_146 rfl ?_
    exact z_sub [1, 2, 0] rfl (hR100 a3 v14 M13 h)
  · refine z_icmp_ge_t (tgt := 149) C x_Py_payFor_104 rfl c1 ?_
    exact z_vret C x_Py_payFor_149 h
theorem zl_Py_payFor_100 (C : Cx p s m args meth c G b_Py_payFor 6 "PrairiePool$Payments" none) (hlev : 5 ≤ lev) {r : Int × Mem}  : ∀ (n : Nat) (a3 a5 : Int) (M : Mem), fix (fun _ _ _ => none) (k_Py_payFor_100) n a3 a5 M = some r → Z p l e lev s m args below meth c G 6 (MQ below (Qm G 0 r) args s 0 0 (Ab G)) M 100 [(0, .ref (G.1 + 88)), (3, vl a3), (5, vi a5)] [] := by
  intro n
  induction n with
  | zero => intro a3 a5 M h; exact nomatch (show (none : Res) = some r from h)
  | succ n ih => intro a3 a5 M h; exact z_Py_payFor_100 C hlev ih h
def d_Py_payFor (a1 a2 : Int) (M : Mem) : Res := bcall (d_Py_beginLastWeekOf a2 M) fun v1 M2 => bcall (d_As_tell 0 (w32 a1) M2) fun v3 M4 => bcall (d_As_ask 1 M4) fun v5 M6 => blet (w32 v5) fun v7 => chk (0 ≤ w32 a1 ∧ w32 a1 < 6) <| blet (M6 92 (ix a1)) fun v9 => bcall (d_As_ask 2 M6) fun v10 M11 => chk (0 ≤ w32 a1 ∧ w32 a1 < 6) <| blet (sto M11 93 (ix a1) (dv64 (v9 * (w32 v10)) 1000)) fun M13 => chk ((0 : Int) ≤ w32 (a1 * 20) ∧ (0 : Int) ≤ 0 ∧ (0 : Int) ≤ 20 ∧ w32 (a1 * 20) + 20 ≤ (120 : Int) ∧ 0 + 20 ≤ (20 : Int)) <| blet (cpy M13 94 (ix (a1 * 20)) 96 0 20) fun M15 => chk (0 ≤ w32 a1 ∧ w32 a1 < 6) <| blet (M15 92 (ix a1)) fun v17 => chk (0 ≤ w32 a1 ∧ w32 a1 < 6) <| blet (M15 93 (ix a1)) fun v19 => bcall (d_Pl_part 96 97 (v17 - v19) M15) fun v20 M21 => fix (fun _ _ _ => none) (k_Py_payFor_100) FU v7 0 M21
theorem t_Py_payFor (l : Launch) (G : GX) {lev : Nat} (hlev : 5 ≤ lev) {a1 a2 : Int} {M : Mem} {r : Int × Mem} (h : d_Py_payFor a1 a2 M = some r) : Mt l G y_Py_payFor b_Py_payFor 6 none lev 0 [.ref (G.1 + 88), vi a1, vi a2] M r := by
  refine Mt.of (by decide) (i_le rfl) ?_
  intro p e s m args below meth c C
  have C : Cx p s m args meth c G b_Py_payFor 6 "PrairiePool$Payments" none := C
  unfold d_Py_payFor at h
  refine z_sub (lv' := [(0, .ref (G.1 + 88)), (1, vi a1), (2, vi a2)]) [0, 1, 2] rfl ?_
  refine z_aload_n C 0 x_Py_payFor_0 rfl ?_
  refine z_iload_n C 2 x_Py_payFor_1 rfl ?_
  obtain ⟨v1, M2, fv1, h⟩ := bcall_e h
  refine z_callVv (k := 88) C x_Py_payFor_2 cv_Py_113 (t_Py_beginLastWeekOf (lev := lev - 1) l G (by omega) fv1) nk_88 ck_88 rfl (by omega) rfl (i_le rfl) rfl ?_
  refine z_aload_n C 0 x_Py_payFor_5 rfl ?_
  refine z_getR (j := 8) C x_Py_payFor_6 nk_88 ck_88 cw_5 (i_lt rfl) rfl rf_88_8 rfl fl_Py_51 ?_
  refine z_iconst C x_Py_payFor_9 ?_
  refine z_iload_n C 1 x_Py_payFor_10 rfl ?_
  refine z_i2l C x_Py_payFor_11 ?_
  obtain ⟨v3, M4, fv3, h⟩ := bcall_e h
  refine z_callVv (k := 32) C x_Py_payFor_12 cv_Py_109 (t_As_tell (lev := lev - 1) l G (by omega) fv3) nk_32 ck_32 rfl (by omega) rfl (i_le rfl) rfl ?_
  refine z_aload_n C 0 x_Py_payFor_15 rfl ?_
  refine z_getR (j := 8) C x_Py_payFor_16 nk_88 ck_88 cw_5 (i_lt rfl) rfl rf_88_8 rfl fl_Py_51 ?_
  refine z_iconst C x_Py_payFor_19 ?_
  obtain ⟨v5, M6, fv5, h⟩ := bcall_e h
  refine z_callVi (k := 32) C x_Py_payFor_20 cv_Py_116 (t_As_ask (lev := lev - 1) l G (by omega) fv5) nk_32 ck_32 rfl (by omega) rfl (i_le rfl) rfl ?_
  refine z_i2l C x_Py_payFor_23 ?_
  obtain ⟨v7, ev7, h⟩ := blet_e h
  refine z_lstore_n (lv' := [(3, vl v7), (0, .ref (G.1 + 88)), (1, vi a1), (2, vi a2)]) C ev7 x_Py_payFor_24 (i_lt rfl) rfl ?_
  refine z_aload_n C 1 x_Py_payFor_25 rfl ?_
  refine z_getR (j := 10) C x_Py_payFor_26 nk_88 ck_88 cw_5 (i_lt rfl) rfl rf_88_10 rfl fl_Py_32 ?_
  refine z_iload_n C 2 x_Py_payFor_29 rfl ?_
  refine z_aload_n C 1 x_Py_payFor_30 rfl ?_
  refine z_getR (j := 9) C x_Py_payFor_31 nk_88 ck_88 cw_5 (i_lt rfl) rfl rf_88_9 rfl fl_Py_29 ?_
  refine z_iload_n C 2 x_Py_payFor_34 rfl ?_
  obtain ⟨c8, h⟩ := chk_e h
  obtain ⟨v9, ev9, h⟩ := blet_e h
  refine z_lald C x_Py_payFor_35 nk_92 ck_92 c8 ev9 ?_
  refine z_aload_n C 1 x_Py_payFor_36 rfl ?_
  refine z_getR (j := 8) C x_Py_payFor_37 nk_88 ck_88 cw_5 (i_lt rfl) rfl rf_88_8 rfl fl_Py_51 ?_
  refine z_iconst C x_Py_payFor_40 ?_
  obtain ⟨v10, M11, fv10, h⟩ := bcall_e h
  refine z_callVi (k := 32) C x_Py_payFor_41 cv_Py_116 (t_As_ask (lev := lev - 1) l G (by omega) fv10) nk_32 ck_32 rfl (by omega) rfl (i_le rfl) rfl ?_
  refine z_i2l C x_Py_payFor_44 ?_
  refine z_lmul C x_Py_payFor_45 ?_
  refine z_ldc2 C kl_Py_120 x_Py_payFor_46 ?_
  refine z_ldiv C (by decide) x_Py_payFor_49 ?_
  obtain ⟨c12, h⟩ := chk_e h
  obtain ⟨M13, eM13, h⟩ := blet_e h
  refine z_last C x_Py_payFor_50 nk_93 ck_93 c12 eM13 ?_
  refine z_aload_n C 1 x_Py_payFor_51 rfl ?_
  refine z_getR (j := 11) C x_Py_payFor_52 nk_88 ck_88 cw_5 (i_lt rfl) rfl rf_88_11 rfl fl_Py_35 ?_
  refine z_iload_n C 2 x_Py_payFor_55 rfl ?_
  refine z_bipush C rfl x_Py_payFor_56 ?_
  refine z_imul C x_Py_payFor_58 ?_
  refine z_aload_n C 1 x_Py_payFor_59 rfl ?_
  refine z_getR (j := 13) C x_Py_payFor_60 nk_88 ck_88 cw_5 (i_lt rfl) rfl rf_88_13 rfl fl_Py_41 ?_
  refine z_iconst C x_Py_payFor_63 ?_
  refine z_bipush C rfl x_Py_payFor_64 ?_
  obtain ⟨c14, h⟩ := chk_e h
  obtain ⟨M15, eM15, h⟩ := blet_e h
  refine z_copyL C x_Py_payFor_66 ca_Py_122 nk_94 ck_94 nk_96 ck_96 c14 (by omega) (i_le rfl) eM15 ?_
  refine z_aload_n C 1 x_Py_payFor_69 rfl ?_
  refine z_getR (j := 7) C x_Py_payFor_70 nk_88 ck_88 cw_5 (i_lt rfl) rfl rf_88_7 rfl fl_Py_47 ?_
  refine z_aload_n C 1 x_Py_payFor_73 rfl ?_
  refine z_getR (j := 9) C x_Py_payFor_74 nk_88 ck_88 cw_5 (i_lt rfl) rfl rf_88_9 rfl fl_Py_29 ?_
  refine z_iload_n C 2 x_Py_payFor_77 rfl ?_
  obtain ⟨c16, h⟩ := chk_e h
  obtain ⟨v17, ev17, h⟩ := blet_e h
  refine z_lald C x_Py_payFor_78 nk_92 ck_92 c16 ev17 ?_
  refine z_aload_n C 1 x_Py_payFor_79 rfl ?_
  refine z_getR (j := 10) C x_Py_payFor_80 nk_88 ck_88 cw_5 (i_lt rfl) rfl rf_88_10 rfl fl_Py_32 ?_
  refine z_iload_n C 2 x_Py_payFor_83 rfl ?_
  obtain ⟨c18, h⟩ := chk_e h
  obtain ⟨v19, ev19, h⟩ := blet_e h
  refine z_lald C x_Py_payFor_84 nk_93 ck_93 c18 ev19 ?_
  refine z_lsub C x_Py_payFor_85 ?_
  refine z_aload_n C 1 x_Py_payFor_86 rfl ?_
  refine z_getR (j := 13) C x_Py_payFor_87 nk_88 ck_88 cw_5 (i_lt rfl) rfl rf_88_13 rfl fl_Py_41 ?_
  refine z_aload_n C 1 x_Py_payFor_90 rfl ?_
  refine z_getR (j := 14) C x_Py_payFor_91 nk_88 ck_88 cw_5 (i_lt rfl) rfl rf_88_14 rfl fl_Py_44 ?_
  obtain ⟨v20, M21, fv20, h⟩ := bcall_e h
  refine z_callVv (k := 75) C x_Py_payFor_94 cv_Py_128 (t_Pl_part (lev := lev - 1) l G (by omega) nk_96 ck_96 nk_97 ck_97 fv20) nk_75 ck_75 rfl (by omega) rfl (i_le rfl) rfl ?_
  refine z_iconst C x_Py_payFor_97 ?_
  refine z_istore (lv' := [(5, vi 0), (3, vl v7), (0, .ref (G.1 + 88)), (1, vi a1), (2, vi a2)]) C rfl x_Py_payFor_98 (i_lt rfl) rfl ?_
  exact z_sub [2, 1, 0] rfl (zl_Py_payFor_100 C hlev FU v7 0 M21 h)
theorem x_Py_reckon_0 : DC b_Py_reckon 0 (.aload_n 0) 1 1 := ⟨by decide +kernel, rfl⟩
theorem x_Py_reckon_1 : DC b_Py_reckon 1 (.getfield 47) 3 4 := ⟨by decide +kernel, rfl⟩
theorem x_Py_reckon_4 : DC b_Py_reckon 4 (.iload_n 2) 1 5 := ⟨by decide +kernel, rfl⟩
theorem x_Py_reckon_5 : DC b_Py_reckon 5 (.invokevirtual 55) 3 8 := ⟨by decide +kernel, rfl⟩
theorem x_Py_reckon_8 : DC b_Py_reckon 8 (.aload_n 0) 1 9 := ⟨by decide +kernel, rfl⟩
theorem x_Py_reckon_9 : DC b_Py_reckon 9 (.getfield 29) 3 12 := ⟨by decide +kernel, rfl⟩
theorem x_Py_reckon_12 : DC b_Py_reckon 12 (.lconst 0) 1 13 := ⟨by decide +kernel, rfl⟩
theorem x_Py_reckon_13 : DC b_Py_reckon 13 (.invokestatic 61) 3 16 := ⟨by decide +kernel, rfl⟩
theorem x_Py_reckon_16 : DC b_Py_reckon 16 (.aload_n 0) 1 17 := ⟨by decide +kernel, rfl⟩
theorem x_Py_reckon_17 : DC b_Py_reckon 17 (.getfield 35) 3 20 := ⟨by decide +kernel, rfl⟩
theorem x_Py_reckon_20 : DC b_Py_reckon 20 (.lconst 0) 1 21 := ⟨by decide +kernel, rfl⟩
theorem x_Py_reckon_21 : DC b_Py_reckon 21 (.invokestatic 61) 3 24 := ⟨by decide +kernel, rfl⟩
theorem x_Py_reckon_24 : DC b_Py_reckon 24 (.iconst 0) 1 25 := ⟨by decide +kernel, rfl⟩
theorem x_Py_reckon_25 : DC b_Py_reckon 25 (.istore_n 3) 1 26 := ⟨by decide +kernel, rfl⟩
theorem x_Py_reckon_26 : DC b_Py_reckon 26 (.iload_n 3) 1 27 := ⟨by decide +kernel, rfl⟩
theorem x_Py_reckon_27 : DC b_Py_reckon 27 (.aload_n 0) 1 28 := ⟨by decide +kernel, rfl⟩
theorem x_Py_reckon_28 : DC b_Py_reckon 28 (.getfield 47) 3 31 := ⟨by decide +kernel, rfl⟩
theorem x_Py_reckon_31 : DC b_Py_reckon 31 (.getfield 67) 3 34 := ⟨by decide +kernel, rfl⟩
theorem x_Py_reckon_34 : DC b_Py_reckon 34 (.if_icmp .ge 30) 3 37 := ⟨by decide +kernel, rfl⟩
theorem x_Py_reckon_37 : DC b_Py_reckon 37 (.aload_n 0) 1 38 := ⟨by decide +kernel, rfl⟩
theorem x_Py_reckon_38 : DC b_Py_reckon 38 (.getfield 47) 3 41 := ⟨by decide +kernel, rfl⟩
theorem x_Py_reckon_41 : DC b_Py_reckon 41 (.getfield 70) 3 44 := ⟨by decide +kernel, rfl⟩
theorem x_Py_reckon_44 : DC b_Py_reckon 44 (.getfield 74) 3 47 := ⟨by decide +kernel, rfl⟩
theorem x_Py_reckon_47 : DC b_Py_reckon 47 (.iload_n 3) 1 48 := ⟨by decide +kernel, rfl⟩
theorem x_Py_reckon_48 : DC b_Py_reckon 48 (.iaload) 1 49 := ⟨by decide +kernel, rfl⟩
theorem x_Py_reckon_49 : DC b_Py_reckon 49 (.iload_n 1) 1 50 := ⟨by decide +kernel, rfl⟩
theorem x_Py_reckon_50 : DC b_Py_reckon 50 (.if_icmp .ne 8) 3 53 := ⟨by decide +kernel, rfl⟩
theorem x_Py_reckon_53 : DC b_Py_reckon 53 (.aload_n 0) 1 54 := ⟨by decide +kernel, rfl⟩
theorem x_Py_reckon_54 : DC b_Py_reckon 54 (.iload_n 3) 1 55 := ⟨by decide +kernel, rfl⟩
theorem x_Py_reckon_55 : DC b_Py_reckon 55 (.invokevirtual 79) 3 58 := ⟨by decide +kernel, rfl⟩
theorem x_Py_reckon_58 : DC b_Py_reckon 58 (.iinc 3 1) 3 61 := ⟨by decide +kernel, rfl⟩
theorem x_Py_reckon_61 : DC b_Py_reckon 61 (.goto (-35)) 3 64 := ⟨by decide +kernel, rfl⟩
theorem x_Py_reckon_64 : DC b_Py_reckon 64 (.aload_n 0) 1 65 := ⟨by decide +kernel, rfl⟩
theorem x_Py_reckon_65 : DC b_Py_reckon 65 (.getfield 22) 3 68 := ⟨by decide +kernel, rfl⟩
theorem x_Py_reckon_68 : DC b_Py_reckon 68 (.lconst 0) 1 69 := ⟨by decide +kernel, rfl⟩
theorem x_Py_reckon_69 : DC b_Py_reckon 69 (.invokestatic 61) 3 72 := ⟨by decide +kernel, rfl⟩
theorem x_Py_reckon_72 : DC b_Py_reckon 72 (.aload_n 0) 1 73 := ⟨by decide +kernel, rfl⟩
theorem x_Py_reckon_73 : DC b_Py_reckon 73 (.getfield 38) 3 76 := ⟨by decide +kernel, rfl⟩
theorem x_Py_reckon_76 : DC b_Py_reckon 76 (.lconst 0) 1 77 := ⟨by decide +kernel, rfl⟩
theorem x_Py_reckon_77 : DC b_Py_reckon 77 (.invokestatic 61) 3 80 := ⟨by decide +kernel, rfl⟩
theorem x_Py_reckon_80 : DC b_Py_reckon 80 (.iconst 0) 1 81 := ⟨by decide +kernel, rfl⟩
theorem x_Py_reckon_81 : DC b_Py_reckon 81 (.istore_n 3) 1 82 := ⟨by decide +kernel, rfl⟩
theorem x_Py_reckon_82 : DC b_Py_reckon 82 (.iload_n 3) 1 83 := ⟨by decide +kernel, rfl⟩
theorem x_Py_reckon_83 : DC b_Py_reckon 83 (.bipush 6) 2 85 := ⟨by decide +kernel, rfl⟩
theorem x_Py_reckon_85 : DC b_Py_reckon 85 (.if_icmp .ge 15) 3 88 := ⟨by decide +kernel, rfl⟩
theorem x_Py_reckon_88 : DC b_Py_reckon 88 (.aload_n 0) 1 89 := ⟨by decide +kernel, rfl⟩
theorem x_Py_reckon_89 : DC b_Py_reckon 89 (.iload_n 3) 1 90 := ⟨by decide +kernel, rfl⟩
theorem x_Py_reckon_90 : DC b_Py_reckon 90 (.iload_n 1) 1 91 := ⟨by decide +kernel, rfl⟩
theorem x_Py_reckon_91 : DC b_Py_reckon 91 (.invokevirtual 82) 3 94 := ⟨by decide +kernel, rfl⟩
theorem x_Py_reckon_94 : DC b_Py_reckon 94 (.iinc 3 1) 3 97 := ⟨by decide +kernel, rfl⟩
theorem x_Py_reckon_97 : DC b_Py_reckon 97 (.goto (-15)) 3 100 := ⟨by decide +kernel, rfl⟩
theorem x_Py_reckon_100 : DC b_Py_reckon 100 (.return_) 1 101 := ⟨by decide +kernel, rfl⟩
def k_Py_reckon_82 (R82 : Int → Int → Mem → Res) (a1 a3 : Int) (M : Mem) : Res := if w32 a3 < 6 then (bcall (d_Py_payFor a3 a1 M) fun v2 M3 => blet (a3 + 1) fun v4 => R82 a1 v4 M3) else (some (0, M))
theorem z_Py_reckon_82 (C : Cx p s m args meth c G b_Py_reckon 4 "PrairiePool$Payments" none) (hlev : 6 ≤ lev) {r : Int × Mem} {R82 : Int → Int → Mem → Res} (hR82 : ∀ (a1 a3 : Int) (M : Mem), R82 a1 a3 M = some r → Z p l e lev s m args below meth c G 4 (MQ below (Qm G 0 r) args s 0 0 (Ab G)) M 82 [(0, .ref (G.1 + 88)), (1, vi a1), (3, vi a3)] []) {a1 a3 : Int} {M : Mem} (h : k_Py_reckon_82 R82 a1 a3 M = some r) : Z p l e lev s m args below meth c G 4 (MQ below (Qm G 0 r) args s 0 0 (Ab G)) M 82 [(0, .ref (G.1 + 88)), (1, vi a1), (3, vi a3)] [] := by
  unfold k_Py_reckon_82 at h
  refine z_iload_n C 2 x_Py_reckon_82 rfl ?_
  refine z_bipush C rfl x_Py_reckon_83 ?_
  rcases ite_e h with ⟨c1, h⟩ | ⟨c1, h⟩
  · refine z_icmp_ge_f (tgt := 100) C x_Py_reckon_85 rfl c1 ?_
    refine z_aload_n C 0 x_Py_reckon_88 rfl ?_
    refine z_iload_n C 2 x_Py_reckon_89 rfl ?_
    refine z_iload_n C 1 x_Py_reckon_90 rfl ?_
    obtain ⟨v2, M3, fv2, h⟩ := bcall_e h
    refine z_callVv (k := 88) C x_Py_reckon_91 cv_Py_82 (t_Py_payFor (lev := lev - 1) l G (by omega) fv2) nk_88 ck_88 rfl (by omega) rfl (i_le rfl) rfl ?_
    obtain ⟨v4, ev4, h⟩ := blet_e h
    refine z_iinc (lv' := [(3, vi v4), (0, .ref (G.1 + 88)), (1, vi a1)]) C 2 ev4 x_Py_reckon_94 rfl (i_lt rfl) rfl ?_
    refine z_goto (tgt := 82) C x_Py_reckon_97 rfl ?_
    exact z_sub [1, 2, 0] rfl (hR82 a1 v4 M3 h)
  · refine z_icmp_ge_t (tgt := 100) C x_Py_reckon_85 rfl c1 ?_
    exact z_vret C x_Py_reckon_100 h
theorem zl_Py_reckon_82 (C : Cx p s m args meth c G b_Py_reckon 4 "PrairiePool$Payments" none) (hlev : 6 ≤ lev) {r : Int × Mem}  : ∀ (n : Nat) (a1 a3 : Int) (M : Mem), fix (fun _ _ _ => none) (k_Py_reckon_82) n a1 a3 M = some r → Z p l e lev s m args below meth c G 4 (MQ below (Qm G 0 r) args s 0 0 (Ab G)) M 82 [(0, .ref (G.1 + 88)), (1, vi a1), (3, vi a3)] [] := by
  intro n
  induction n with
  | zero => intro a1 a3 M h; exact nomatch (show (none : Res) = some r from h)
  | succ n ih => intro a1 a3 M h; exact z_Py_reckon_82 C hlev ih h
def k_Py_reckon_58 (R26 : Int → Int → Mem → Res) (a1 a3 : Int) (M : Mem) : Res := blet (a3 + 1) fun v1 => R26 a1 v1 M
theorem z_Py_reckon_58 (C : Cx p s m args meth c G b_Py_reckon 4 "PrairiePool$Payments" none) (hlev : 6 ≤ lev) {r : Int × Mem} {R26 : Int → Int → Mem → Res} (hR26 : ∀ (a1 a3 : Int) (M : Mem), R26 a1 a3 M = some r → Z p l e lev s m args below meth c G 4 (MQ below (Qm G 0 r) args s 0 0 (Ab G)) M 26 [(0, .ref (G.1 + 88)), (1, vi a1), (3, vi a3)] []) {a1 a3 : Int} {M : Mem} (h : k_Py_reckon_58 R26 a1 a3 M = some r) : Z p l e lev s m args below meth c G 4 (MQ below (Qm G 0 r) args s 0 0 (Ab G)) M 58 [(0, .ref (G.1 + 88)), (1, vi a1), (3, vi a3)] [] := by
  unfold k_Py_reckon_58 at h
  obtain ⟨v1, ev1, h⟩ := blet_e h
  refine z_iinc (lv' := [(3, vi v1), (0, .ref (G.1 + 88)), (1, vi a1)]) C 2 ev1 x_Py_reckon_58 rfl (i_lt rfl) rfl ?_
  refine z_goto (tgt := 26) C x_Py_reckon_61 rfl ?_
  exact z_sub [1, 2, 0] rfl (hR26 a1 v1 M h)
def k_Py_reckon_26 (R26 : Int → Int → Mem → Res) (a1 a3 : Int) (M : Mem) : Res := blet (M 75 3) fun v1 => if w32 a3 < w32 v1 then (chk (0 ≤ w32 a3 ∧ w32 a3 < 120) <| blet (M 21 (ix a3)) fun v4 => if w32 v4 = w32 a1 then (bcall (d_Py_gather a3 M) fun v6 M7 => k_Py_reckon_58 R26 a1 a3 M7) else (k_Py_reckon_58 R26 a1 a3 M)) else (bcall (d_Ar_fill0 90 20 0 M) fun v8 M9 => bcall (d_Ar_fill0 95 20 0 M9) fun v10 M11 => fix (fun _ _ _ => none) (k_Py_reckon_82) FU a1 0 M11)
theorem z_Py_reckon_26 (C : Cx p s m args meth c G b_Py_reckon 4 "PrairiePool$Payments" none) (hlev : 6 ≤ lev) {r : Int × Mem} {R26 : Int → Int → Mem → Res} (hR26 : ∀ (a1 a3 : Int) (M : Mem), R26 a1 a3 M = some r → Z p l e lev s m args below meth c G 4 (MQ below (Qm G 0 r) args s 0 0 (Ab G)) M 26 [(0, .ref (G.1 + 88)), (1, vi a1), (3, vi a3)] []) {a1 a3 : Int} {M : Mem} (h : k_Py_reckon_26 R26 a1 a3 M = some r) : Z p l e lev s m args below meth c G 4 (MQ below (Qm G 0 r) args s 0 0 (Ab G)) M 26 [(0, .ref (G.1 + 88)), (1, vi a1), (3, vi a3)] [] := by
  unfold k_Py_reckon_26 at h
  refine z_iload_n C 2 x_Py_reckon_26 rfl ?_
  refine z_aload_n C 0 x_Py_reckon_27 rfl ?_
  refine z_getR (j := 7) C x_Py_reckon_28 nk_88 ck_88 cw_5 (i_lt rfl) rfl rf_88_7 rfl fl_Py_47 ?_
  obtain ⟨v1, ev1, h⟩ := blet_e h
  refine z_getI (j := 3) C x_Py_reckon_31 nk_75 ck_75 cw_6 (i_lt rfl) rfl rfl fl_Py_67 ev1 ?_
  rcases ite_e h with ⟨c2, h⟩ | ⟨c2, h⟩
  · refine z_icmp_ge_f (tgt := 64) C x_Py_reckon_34 rfl c2 ?_
    refine z_aload_n C 0 x_Py_reckon_37 rfl ?_
    refine z_getR (j := 7) C x_Py_reckon_38 nk_88 ck_88 cw_5 (i_lt rfl) rfl rf_88_7 rfl fl_Py_47 ?_
    refine z_getR (j := 1) C x_Py_reckon_41 nk_75 ck_75 cw_6 (i_lt rfl) rfl rf_75_1 rfl fl_Py_70 ?_
    refine z_getR (j := 7) C x_Py_reckon_44 nk_15 ck_15 cw_2 (i_lt rfl) rfl rf_15_7 rfl fl_Py_74 ?_
    refine z_iload_n C 2 x_Py_reckon_47 rfl ?_
    obtain ⟨c3, h⟩ := chk_e h
    obtain ⟨v4, ev4, h⟩ := blet_e h
    refine z_iald C x_Py_reckon_48 nk_21 ck_21 c3 ev4 ?_
    refine z_iload_n C 1 x_Py_reckon_49 rfl ?_
    rcases ite_e h with ⟨c5, h⟩ | ⟨c5, h⟩
    · refine z_icmp_ne_f (tgt := 58) C x_Py_reckon_50 rfl c5 ?_
      refine z_aload_n C 0 x_Py_reckon_53 rfl ?_
      refine z_iload_n C 2 x_Py_reckon_54 rfl ?_
      obtain ⟨v6, M7, fv6, h⟩ := bcall_e h
      refine z_callVv (k := 88) C x_Py_reckon_55 cv_Py_79 (t_Py_gather (lev := lev - 1) l G (by omega) fv6) nk_88 ck_88 rfl (by omega) rfl (i_le rfl) rfl ?_
      exact z_sub [0, 1, 2] rfl (z_Py_reckon_58 C hlev hR26 h)
    · refine z_icmp_ne_t (tgt := 58) C x_Py_reckon_50 rfl c5 ?_
      exact z_sub [0, 1, 2] rfl (z_Py_reckon_58 C hlev hR26 h)
  · refine z_icmp_ge_t (tgt := 64) C x_Py_reckon_34 rfl c2 ?_
    refine z_aload_n C 0 x_Py_reckon_64 rfl ?_
    refine z_getR (j := 3) C x_Py_reckon_65 nk_88 ck_88 cw_5 (i_lt rfl) rfl rf_88_3 rfl fl_Py_22 ?_
    refine z_lconst0 C x_Py_reckon_68 ?_
    obtain ⟨v8, M9, fv8, h⟩ := bcall_e h
    refine z_callSv C x_Py_reckon_69 cs_Py_61 (t_Ar_fill0 (lev := lev - 1) l G (by omega) nk_90 ck_90 fv8) (by omega) rfl (i_le rfl) rfl ?_
    refine z_aload_n C 0 x_Py_reckon_72 rfl ?_
    refine z_getR (j := 12) C x_Py_reckon_73 nk_88 ck_88 cw_5 (i_lt rfl) rfl rf_88_12 rfl fl_Py_38 ?_
    refine z_lconst0 C x_Py_reckon_76 ?_
    obtain ⟨v10, M11, fv10, h⟩ := bcall_e h
    refine z_callSv C x_Py_reckon_77 cs_Py_61 (t_Ar_fill0 (lev := lev - 1) l G (by omega) nk_95 ck_95 fv10) (by omega) rfl (i_le rfl) rfl ?_
    refine z_iconst C x_Py_reckon_80 ?_
    refine z_istore_n (lv' := [(3, vi 0), (0, .ref (G.1 + 88)), (1, vi a1)]) C rfl x_Py_reckon_81 (i_lt rfl) rfl ?_
    exact z_sub [1, 2, 0] rfl (zl_Py_reckon_82 C hlev FU a1 0 M11 h)
theorem zl_Py_reckon_26 (C : Cx p s m args meth c G b_Py_reckon 4 "PrairiePool$Payments" none) (hlev : 6 ≤ lev) {r : Int × Mem}  : ∀ (n : Nat) (a1 a3 : Int) (M : Mem), fix (fun _ _ _ => none) (k_Py_reckon_26) n a1 a3 M = some r → Z p l e lev s m args below meth c G 4 (MQ below (Qm G 0 r) args s 0 0 (Ab G)) M 26 [(0, .ref (G.1 + 88)), (1, vi a1), (3, vi a3)] [] := by
  intro n
  induction n with
  | zero => intro a1 a3 M h; exact nomatch (show (none : Res) = some r from h)
  | succ n ih => intro a1 a3 M h; exact z_Py_reckon_26 C hlev ih h
def d_Py_reckon (a1 a2 : Int) (M : Mem) : Res := bcall (d_Pl_replay a2 M) fun v1 M2 => bcall (d_Ar_fill0 92 6 0 M2) fun v3 M4 => bcall (d_Ar_fill0 94 120 0 M4) fun v5 M6 => fix (fun _ _ _ => none) (k_Py_reckon_26) FU a1 0 M6
theorem t_Py_reckon (l : Launch) (G : GX) {lev : Nat} (hlev : 6 ≤ lev) {a1 a2 : Int} {M : Mem} {r : Int × Mem} (h : d_Py_reckon a1 a2 M = some r) : Mt l G y_Py_reckon b_Py_reckon 4 none lev 0 [.ref (G.1 + 88), vi a1, vi a2] M r := by
  refine Mt.of (by decide) (i_le rfl) ?_
  intro p e s m args below meth c C
  have C : Cx p s m args meth c G b_Py_reckon 4 "PrairiePool$Payments" none := C
  unfold d_Py_reckon at h
  refine z_sub (lv' := [(0, .ref (G.1 + 88)), (1, vi a1), (2, vi a2)]) [0, 1, 2] rfl ?_
  refine z_aload_n C 0 x_Py_reckon_0 rfl ?_
  refine z_getR (j := 7) C x_Py_reckon_1 nk_88 ck_88 cw_5 (i_lt rfl) rfl rf_88_7 rfl fl_Py_47 ?_
  refine z_iload_n C 2 x_Py_reckon_4 rfl ?_
  obtain ⟨v1, M2, fv1, h⟩ := bcall_e h
  refine z_callVv (k := 75) C x_Py_reckon_5 cv_Py_55 (t_Pl_replay (lev := lev - 1) l G (by omega) fv1) nk_75 ck_75 rfl (by omega) rfl (i_le rfl) rfl ?_
  refine z_aload_n C 0 x_Py_reckon_8 rfl ?_
  refine z_getR (j := 9) C x_Py_reckon_9 nk_88 ck_88 cw_5 (i_lt rfl) rfl rf_88_9 rfl fl_Py_29 ?_
  refine z_lconst0 C x_Py_reckon_12 ?_
  obtain ⟨v3, M4, fv3, h⟩ := bcall_e h
  refine z_callSv C x_Py_reckon_13 cs_Py_61 (t_Ar_fill0 (lev := lev - 1) l G (by omega) nk_92 ck_92 fv3) (by omega) rfl (i_le rfl) rfl ?_
  refine z_aload_n C 0 x_Py_reckon_16 rfl ?_
  refine z_getR (j := 11) C x_Py_reckon_17 nk_88 ck_88 cw_5 (i_lt rfl) rfl rf_88_11 rfl fl_Py_35 ?_
  refine z_lconst0 C x_Py_reckon_20 ?_
  obtain ⟨v5, M6, fv5, h⟩ := bcall_e h
  refine z_callSv C x_Py_reckon_21 cs_Py_61 (t_Ar_fill0 (lev := lev - 1) l G (by omega) nk_94 ck_94 fv5) (by omega) rfl (i_le rfl) rfl ?_
  refine z_iconst C x_Py_reckon_24 ?_
  refine z_istore_n (lv' := [(3, vi 0), (0, .ref (G.1 + 88)), (1, vi a1), (2, vi a2)]) C rfl x_Py_reckon_25 (i_lt rfl) rfl ?_
  exact z_sub [1, 2, 0] rfl (zl_Py_reckon_26 C hlev FU a1 0 M6 h)
theorem x_Py_broughtOfGrade_0 : DC b_Py_broughtOfGrade 0 (.lconst 0) 1 1 := ⟨by decide +kernel, rfl⟩
theorem x_Py_broughtOfGrade_1 : DC b_Py_broughtOfGrade 1 (.lstore_n 2) 1 2 := ⟨by decide +kernel, rfl⟩
theorem x_Py_broughtOfGrade_2 : DC b_Py_broughtOfGrade 2 (.iconst 0) 1 3 := ⟨by decide +kernel, rfl⟩
theorem x_Py_broughtOfGrade_3 : DC b_Py_broughtOfGrade 3 (.istore 4) 2 5 := ⟨by decide +kernel, rfl⟩
theorem x_Py_broughtOfGrade_5 : DC b_Py_broughtOfGrade 5 (.iload 4) 2 7 := ⟨by decide +kernel, rfl⟩
theorem x_Py_broughtOfGrade_7 : DC b_Py_broughtOfGrade 7 (.bipush 20) 2 9 := ⟨by decide +kernel, rfl⟩
theorem x_Py_broughtOfGrade_9 : DC b_Py_broughtOfGrade 9 (.if_icmp .ge 24) 3 12 := ⟨by decide +kernel, rfl⟩
theorem x_Py_broughtOfGrade_12 : DC b_Py_broughtOfGrade 12 (.lload_n 2) 1 13 := ⟨by decide +kernel, rfl⟩
theorem x_Py_broughtOfGrade_13 : DC b_Py_broughtOfGrade 13 (.aload_n 0) 1 14 := ⟨by decide +kernel, rfl⟩
theorem x_Py_broughtOfGrade_14 : DC b_Py_broughtOfGrade 14 (.getfield 35) 3 17 := ⟨by decide +kernel, rfl⟩
theorem x_Py_broughtOfGrade_17 : DC b_Py_broughtOfGrade 17 (.iload_n 1) 1 18 := ⟨by decide +kernel, rfl⟩
theorem x_Py_broughtOfGrade_18 : DC b_Py_broughtOfGrade 18 (.bipush 20) 2 20 := ⟨by decide +kernel, rfl⟩
theorem x_Py_broughtOfGrade_20 : DC b_Py_broughtOfGrade 20 (.imul) 1 21 := ⟨by decide +kernel, rfl⟩
theorem x_Py_broughtOfGrade_21 : DC b_Py_broughtOfGrade 21 (.iload 4) 2 23 := ⟨by decide +kernel, rfl⟩
theorem x_Py_broughtOfGrade_23 : DC b_Py_broughtOfGrade 23 (.iadd) 1 24 := ⟨by decide +kernel, rfl⟩
theorem x_Py_broughtOfGrade_24 : DC b_Py_broughtOfGrade 24 (.laload) 1 25 := ⟨by decide +kernel, rfl⟩
theorem x_Py_broughtOfGrade_25 : DC b_Py_broughtOfGrade 25 (.ladd) 1 26 := ⟨by decide +kernel, rfl⟩
theorem x_Py_broughtOfGrade_26 : DC b_Py_broughtOfGrade 26 (.lstore_n 2) 1 27 := ⟨by decide +kernel, rfl⟩
theorem x_Py_broughtOfGrade_27 : DC b_Py_broughtOfGrade 27 (.iinc 4 1) 3 30 := ⟨by decide +kernel, rfl⟩
theorem x_Py_broughtOfGrade_30 : DC b_Py_broughtOfGrade 30 (.goto (-25)) 3 33 := ⟨by decide +kernel, rfl⟩
theorem x_Py_broughtOfGrade_33 : DC b_Py_broughtOfGrade 33 (.lload_n 2) 1 34 := ⟨by decide +kernel, rfl⟩
theorem x_Py_broughtOfGrade_34 : DC b_Py_broughtOfGrade 34 (.lreturn) 1 35 := ⟨by decide +kernel, rfl⟩
def k_Py_broughtOfGrade_5 (R5 : Int → Int → Int → Mem → Res) (a1 a2 a4 : Int) (M : Mem) : Res := if w32 a4 < 20 then (chk (0 ≤ w32 ((a1 * 20) + a4) ∧ w32 ((a1 * 20) + a4) < 120) <| blet (M 94 (ix ((a1 * 20) + a4))) fun v3 => blet (a2 + v3) fun v4 => blet (a4 + 1) fun v5 => R5 a1 v4 v5 M) else (some (a2, M))
theorem z_Py_broughtOfGrade_5 (C : Cx p s m args meth c G b_Py_broughtOfGrade 5 "PrairiePool$Payments" (some .long)) (hlev : 0 ≤ lev) {r : Int × Mem} {R5 : Int → Int → Int → Mem → Res} (hR5 : ∀ (a1 a2 a4 : Int) (M : Mem), R5 a1 a2 a4 M = some r → Z p l e lev s m args below meth c G 5 (MQ below (Qm G 2 r) args s 0 0 (Ab G)) M 5 [(0, .ref (G.1 + 88)), (1, vi a1), (2, vl a2), (4, vi a4)] []) {a1 a2 a4 : Int} {M : Mem} (h : k_Py_broughtOfGrade_5 R5 a1 a2 a4 M = some r) : Z p l e lev s m args below meth c G 5 (MQ below (Qm G 2 r) args s 0 0 (Ab G)) M 5 [(0, .ref (G.1 + 88)), (1, vi a1), (2, vl a2), (4, vi a4)] [] := by
  unfold k_Py_broughtOfGrade_5 at h
  refine z_iload C 3 x_Py_broughtOfGrade_5 rfl ?_
  refine z_bipush C rfl x_Py_broughtOfGrade_7 ?_
  rcases ite_e h with ⟨c1, h⟩ | ⟨c1, h⟩
  · refine z_icmp_ge_f (tgt := 33) C x_Py_broughtOfGrade_9 rfl c1 ?_
    refine z_lload_n C 2 x_Py_broughtOfGrade_12 rfl ?_
    refine z_aload_n C 0 x_Py_broughtOfGrade_13 rfl ?_
    refine z_getR (j := 11) C x_Py_broughtOfGrade_14 nk_88 ck_88 cw_5 (i_lt rfl) rfl rf_88_11 rfl fl_Py_35 ?_
    refine z_iload_n C 1 x_Py_broughtOfGrade_17 rfl ?_
    refine z_bipush C rfl x_Py_broughtOfGrade_18 ?_
    refine z_imul C x_Py_broughtOfGrade_20 ?_
    refine z_iload C 3 x_Py_broughtOfGrade_21 rfl ?_
    refine z_iadd C x_Py_broughtOfGrade_23 ?_
    obtain ⟨c2, h⟩ := chk_e h
    obtain ⟨v3, ev3, h⟩ := blet_e h
    refine z_lald C x_Py_broughtOfGrade_24 nk_94 ck_94 c2 ev3 ?_
    refine z_ladd C x_Py_broughtOfGrade_25 ?_
    obtain ⟨v4, ev4, h⟩ := blet_e h
    refine z_lstore_n (lv' := [(2, vl v4), (0, .ref (G.1 + 88)), (1, vi a1), (4, vi a4)]) C ev4 x_Py_broughtOfGrade_26 (i_lt rfl) rfl ?_
    obtain ⟨v5, ev5, h⟩ := blet_e h
    refine z_iinc (lv' := [(4, vi v5), (2, vl v4), (0, .ref (G.1 + 88)), (1, vi a1)]) C 3 ev5 x_Py_broughtOfGrade_27 rfl (i_lt rfl) rfl ?_
    refine z_goto (tgt := 5) C x_Py_broughtOfGrade_30 rfl ?_
    exact z_sub [2, 3, 1, 0] rfl (hR5 a1 v4 v5 M h)
  · refine z_icmp_ge_t (tgt := 33) C x_Py_broughtOfGrade_9 rfl c1 ?_
    refine z_lload_n C 2 x_Py_broughtOfGrade_33 rfl ?_
    exact z_lret C x_Py_broughtOfGrade_34 h
theorem zl_Py_broughtOfGrade_5 (C : Cx p s m args meth c G b_Py_broughtOfGrade 5 "PrairiePool$Payments" (some .long)) (hlev : 0 ≤ lev) {r : Int × Mem}  : ∀ (n : Nat) (a1 a2 a4 : Int) (M : Mem), fix (fun _ _ _ _ => none) (k_Py_broughtOfGrade_5) n a1 a2 a4 M = some r → Z p l e lev s m args below meth c G 5 (MQ below (Qm G 2 r) args s 0 0 (Ab G)) M 5 [(0, .ref (G.1 + 88)), (1, vi a1), (2, vl a2), (4, vi a4)] [] := by
  intro n
  induction n with
  | zero => intro a1 a2 a4 M h; exact nomatch (show (none : Res) = some r from h)
  | succ n ih => intro a1 a2 a4 M h; exact z_Py_broughtOfGrade_5 C hlev ih h
def d_Py_broughtOfGrade (a1 : Int) (M : Mem) : Res := fix (fun _ _ _ _ => none) (k_Py_broughtOfGrade_5) FU a1 0 0 M
theorem t_Py_broughtOfGrade (l : Launch) (G : GX) {lev : Nat} (hlev : 0 ≤ lev) {a1 : Int} {M : Mem} {r : Int × Mem} (h : d_Py_broughtOfGrade a1 M = some r) : Mt l G y_Py_broughtOfGrade b_Py_broughtOfGrade 5 (some .long) lev 2 [.ref (G.1 + 88), vi a1] M r := by
  refine Mt.of (by decide) (i_le rfl) ?_
  intro p e s m args below meth c C
  have C : Cx p s m args meth c G b_Py_broughtOfGrade 5 "PrairiePool$Payments" (some .long) := C
  unfold d_Py_broughtOfGrade at h
  refine z_sub (lv' := [(0, .ref (G.1 + 88)), (1, vi a1)]) [0, 1] rfl ?_
  refine z_lconst0 C x_Py_broughtOfGrade_0 ?_
  refine z_lstore_n (lv' := [(2, vl 0), (0, .ref (G.1 + 88)), (1, vi a1)]) C rfl x_Py_broughtOfGrade_1 (i_lt rfl) rfl ?_
  refine z_iconst C x_Py_broughtOfGrade_2 ?_
  refine z_istore (lv' := [(4, vi 0), (2, vl 0), (0, .ref (G.1 + 88)), (1, vi a1)]) C rfl x_Py_broughtOfGrade_3 (i_lt rfl) rfl ?_
  exact z_sub [2, 3, 1, 0] rfl (zl_Py_broughtOfGrade_5 C hlev FU a1 0 0 M h)
theorem x_Py_ofGrade_0 : DC b_Py_ofGrade 0 (.iload_n 2) 1 1 := ⟨by decide +kernel, rfl⟩
theorem x_Py_ofGrade_1 : DC b_Py_ofGrade 1 (.ifCond .ne 12) 3 4 := ⟨by decide +kernel, rfl⟩
theorem x_Py_ofGrade_4 : DC b_Py_ofGrade 4 (.aload_n 0) 1 5 := ⟨by decide +kernel, rfl⟩
theorem x_Py_ofGrade_5 : DC b_Py_ofGrade 5 (.getfield 29) 3 8 := ⟨by decide +kernel, rfl⟩
theorem x_Py_ofGrade_8 : DC b_Py_ofGrade 8 (.iload_n 1) 1 9 := ⟨by decide +kernel, rfl⟩
theorem x_Py_ofGrade_9 : DC b_Py_ofGrade 9 (.laload) 1 10 := ⟨by decide +kernel, rfl⟩
theorem x_Py_ofGrade_10 : DC b_Py_ofGrade 10 (.goto 22) 3 13 := ⟨by decide +kernel, rfl⟩
theorem x_Py_ofGrade_13 : DC b_Py_ofGrade 13 (.iload_n 2) 1 14 := ⟨by decide +kernel, rfl⟩
theorem x_Py_ofGrade_14 : DC b_Py_ofGrade 14 (.iconst 1) 1 15 := ⟨by decide +kernel, rfl⟩
theorem x_Py_ofGrade_15 : DC b_Py_ofGrade 15 (.if_icmp .ne 12) 3 18 := ⟨by decide +kernel, rfl⟩
theorem x_Py_ofGrade_18 : DC b_Py_ofGrade 18 (.aload_n 0) 1 19 := ⟨by decide +kernel, rfl⟩
theorem x_Py_ofGrade_19 : DC b_Py_ofGrade 19 (.getfield 32) 3 22 := ⟨by decide +kernel, rfl⟩
theorem x_Py_ofGrade_22 : DC b_Py_ofGrade 22 (.iload_n 1) 1 23 := ⟨by decide +kernel, rfl⟩
theorem x_Py_ofGrade_23 : DC b_Py_ofGrade 23 (.laload) 1 24 := ⟨by decide +kernel, rfl⟩
theorem x_Py_ofGrade_24 : DC b_Py_ofGrade 24 (.goto 8) 3 27 := ⟨by decide +kernel, rfl⟩
theorem x_Py_ofGrade_27 : DC b_Py_ofGrade 27 (.aload_n 0) 1 28 := ⟨by decide +kernel, rfl⟩
theorem x_Py_ofGrade_28 : DC b_Py_ofGrade 28 (.iload_n 1) 1 29 := ⟨by decide +kernel, rfl⟩
theorem x_Py_ofGrade_29 : DC b_Py_ofGrade 29 (.invokevirtual 132) 3 32 := ⟨by decide +kernel, rfl⟩
theorem x_Py_ofGrade_32 : DC b_Py_ofGrade 32 (.lreturn) 1 33 := ⟨by decide +kernel, rfl⟩
def d_Py_ofGrade (a1 a2 : Int) (M : Mem) : Res := if w32 a2 = 0 then (chk (0 ≤ w32 a1 ∧ w32 a1 < 6) <| blet (M 92 (ix a1)) fun v3 => some (v3, M)) else (if w32 a2 = 1 then (chk (0 ≤ w32 a1 ∧ w32 a1 < 6) <| blet (M 93 (ix a1)) fun v6 => some (v6, M)) else (bcall (d_Py_broughtOfGrade a1 M) fun v7 M8 => some (v7, M8)))
theorem t_Py_ofGrade (l : Launch) (G : GX) {lev : Nat} (hlev : 1 ≤ lev) {a1 a2 : Int} {M : Mem} {r : Int × Mem} (h : d_Py_ofGrade a1 a2 M = some r) : Mt l G y_Py_ofGrade b_Py_ofGrade 3 (some .long) lev 2 [.ref (G.1 + 88), vi a1, vi a2] M r := by
  refine Mt.of (by decide) (i_le rfl) ?_
  intro p e s m args below meth c C
  have C : Cx p s m args meth c G b_Py_ofGrade 3 "PrairiePool$Payments" (some .long) := C
  unfold d_Py_ofGrade at h
  refine z_sub (lv' := [(0, .ref (G.1 + 88)), (1, vi a1), (2, vi a2)]) [0, 1, 2] rfl ?_
  refine z_iload_n C 2 x_Py_ofGrade_0 rfl ?_
  rcases ite_e h with ⟨c1, h⟩ | ⟨c1, h⟩
  · refine z_if_ne_f (tgt := 13) C x_Py_ofGrade_1 rfl c1 ?_
    refine z_aload_n C 0 x_Py_ofGrade_4 rfl ?_
    refine z_getR (j := 9) C x_Py_ofGrade_5 nk_88 ck_88 cw_5 (i_lt rfl) rfl rf_88_9 rfl fl_Py_29 ?_
    refine z_iload_n C 1 x_Py_ofGrade_8 rfl ?_
    obtain ⟨c2, h⟩ := chk_e h
    obtain ⟨v3, ev3, h⟩ := blet_e h
    refine z_lald C x_Py_ofGrade_9 nk_92 ck_92 c2 ev3 ?_
    refine z_goto (tgt := 32) C x_Py_ofGrade_10 rfl ?_
    exact z_lret C x_Py_ofGrade_32 h
  · refine z_if_ne_t (tgt := 13) C x_Py_ofGrade_1 rfl c1 ?_
    refine z_iload_n C 2 x_Py_ofGrade_13 rfl ?_
    refine z_iconst C x_Py_ofGrade_14 ?_
    rcases ite_e h with ⟨c4, h⟩ | ⟨c4, h⟩
    · refine z_icmp_ne_f (tgt := 27) C x_Py_ofGrade_15 rfl c4 ?_
      refine z_aload_n C 0 x_Py_ofGrade_18 rfl ?_
      refine z_getR (j := 10) C x_Py_ofGrade_19 nk_88 ck_88 cw_5 (i_lt rfl) rfl rf_88_10 rfl fl_Py_32 ?_
      refine z_iload_n C 1 x_Py_ofGrade_22 rfl ?_
      obtain ⟨c5, h⟩ := chk_e h
      obtain ⟨v6, ev6, h⟩ := blet_e h
      refine z_lald C x_Py_ofGrade_23 nk_93 ck_93 c5 ev6 ?_
      refine z_goto (tgt := 32) C x_Py_ofGrade_24 rfl ?_
      exact z_lret C x_Py_ofGrade_32 h
    · refine z_icmp_ne_t (tgt := 27) C x_Py_ofGrade_15 rfl c4 ?_
      refine z_aload_n C 0 x_Py_ofGrade_27 rfl ?_
      refine z_iload_n C 1 x_Py_ofGrade_28 rfl ?_
      obtain ⟨v7, M8, fv7, h⟩ := bcall_e h
      refine z_callVl (k := 88) C x_Py_ofGrade_29 cv_Py_132 (t_Py_broughtOfGrade (lev := lev - 1) l G (by omega) fv7) nk_88 ck_88 rfl (by omega) rfl (i_le rfl) rfl ?_
      exact z_lret C x_Py_ofGrade_32 h
theorem x_Py_lastOf_0 : DC b_Py_lastOf 0 (.aload_n 0) 1 1 := ⟨by decide +kernel, rfl⟩
theorem x_Py_lastOf_1 : DC b_Py_lastOf 1 (.getfield 38) 3 4 := ⟨by decide +kernel, rfl⟩
theorem x_Py_lastOf_4 : DC b_Py_lastOf 4 (.iload_n 1) 1 5 := ⟨by decide +kernel, rfl⟩
theorem x_Py_lastOf_5 : DC b_Py_lastOf 5 (.laload) 1 6 := ⟨by decide +kernel, rfl⟩
theorem x_Py_lastOf_6 : DC b_Py_lastOf 6 (.aload_n 0) 1 7 := ⟨by decide +kernel, rfl⟩
theorem x_Py_lastOf_7 : DC b_Py_lastOf 7 (.getfield 22) 3 10 := ⟨by decide +kernel, rfl⟩
theorem x_Py_lastOf_10 : DC b_Py_lastOf 10 (.iload_n 1) 1 11 := ⟨by decide +kernel, rfl⟩
theorem x_Py_lastOf_11 : DC b_Py_lastOf 11 (.laload) 1 12 := ⟨by decide +kernel, rfl⟩
theorem x_Py_lastOf_12 : DC b_Py_lastOf 12 (.lsub) 1 13 := ⟨by decide +kernel, rfl⟩
theorem x_Py_lastOf_13 : DC b_Py_lastOf 13 (.lreturn) 1 14 := ⟨by decide +kernel, rfl⟩
def d_Py_lastOf (a1 : Int) (M : Mem) : Res := chk (0 ≤ w32 a1 ∧ w32 a1 < 20) <| blet (M 95 (ix a1)) fun v2 => chk (0 ≤ w32 a1 ∧ w32 a1 < 20) <| blet (M 90 (ix a1)) fun v4 => some (v2 - v4, M)
theorem t_Py_lastOf (l : Launch) (G : GX) {lev : Nat} (hlev : 0 ≤ lev) {a1 : Int} {M : Mem} {r : Int × Mem} (h : d_Py_lastOf a1 M = some r) : Mt l G y_Py_lastOf b_Py_lastOf 2 (some .long) lev 2 [.ref (G.1 + 88), vi a1] M r := by
  refine Mt.of (by decide) (i_le rfl) ?_
  intro p e s m args below meth c C
  have C : Cx p s m args meth c G b_Py_lastOf 2 "PrairiePool$Payments" (some .long) := C
  unfold d_Py_lastOf at h
  refine z_sub (lv' := [(0, .ref (G.1 + 88)), (1, vi a1)]) [0, 1] rfl ?_
  refine z_aload_n C 0 x_Py_lastOf_0 rfl ?_
  refine z_getR (j := 12) C x_Py_lastOf_1 nk_88 ck_88 cw_5 (i_lt rfl) rfl rf_88_12 rfl fl_Py_38 ?_
  refine z_iload_n C 1 x_Py_lastOf_4 rfl ?_
  obtain ⟨c1, h⟩ := chk_e h
  obtain ⟨v2, ev2, h⟩ := blet_e h
  refine z_lald C x_Py_lastOf_5 nk_95 ck_95 c1 ev2 ?_
  refine z_aload_n C 0 x_Py_lastOf_6 rfl ?_
  refine z_getR (j := 3) C x_Py_lastOf_7 nk_88 ck_88 cw_5 (i_lt rfl) rfl rf_88_3 rfl fl_Py_22 ?_
  refine z_iload_n C 1 x_Py_lastOf_10 rfl ?_
  obtain ⟨c3, h⟩ := chk_e h
  obtain ⟨v4, ev4, h⟩ := blet_e h
  refine z_lald C x_Py_lastOf_11 nk_90 ck_90 c3 ev4 ?_
  refine z_lsub C x_Py_lastOf_12 ?_
  exact z_lret C x_Py_lastOf_13 h
theorem x_Py_reckonOwed_0 : DC b_Py_reckonOwed 0 (.lconst 0) 1 1 := ⟨by decide +kernel, rfl⟩
theorem x_Py_reckonOwed_1 : DC b_Py_reckonOwed 1 (.lstore_n 2) 1 2 := ⟨by decide +kernel, rfl⟩
theorem x_Py_reckonOwed_2 : DC b_Py_reckonOwed 2 (.iconst 0) 1 3 := ⟨by decide +kernel, rfl⟩
theorem x_Py_reckonOwed_3 : DC b_Py_reckonOwed 3 (.istore 4) 2 5 := ⟨by decide +kernel, rfl⟩
theorem x_Py_reckonOwed_5 : DC b_Py_reckonOwed 5 (.iload 4) 2 7 := ⟨by decide +kernel, rfl⟩
theorem x_Py_reckonOwed_7 : DC b_Py_reckonOwed 7 (.bipush 20) 2 9 := ⟨by decide +kernel, rfl⟩
theorem x_Py_reckonOwed_9 : DC b_Py_reckonOwed 9 (.if_icmp .ge 36) 3 12 := ⟨by decide +kernel, rfl⟩
theorem x_Py_reckonOwed_12 : DC b_Py_reckonOwed 12 (.lload_n 2) 1 13 := ⟨by decide +kernel, rfl⟩
theorem x_Py_reckonOwed_13 : DC b_Py_reckonOwed 13 (.aload_n 0) 1 14 := ⟨by decide +kernel, rfl⟩
theorem x_Py_reckonOwed_14 : DC b_Py_reckonOwed 14 (.iload 4) 2 16 := ⟨by decide +kernel, rfl⟩
theorem x_Py_reckonOwed_16 : DC b_Py_reckonOwed 16 (.invokevirtual 136) 3 19 := ⟨by decide +kernel, rfl⟩
theorem x_Py_reckonOwed_19 : DC b_Py_reckonOwed 19 (.ladd) 1 20 := ⟨by decide +kernel, rfl⟩
theorem x_Py_reckonOwed_20 : DC b_Py_reckonOwed 20 (.lstore_n 2) 1 21 := ⟨by decide +kernel, rfl⟩
theorem x_Py_reckonOwed_21 : DC b_Py_reckonOwed 21 (.aload_n 0) 1 22 := ⟨by decide +kernel, rfl⟩
theorem x_Py_reckonOwed_22 : DC b_Py_reckonOwed 22 (.getfield 41) 3 25 := ⟨by decide +kernel, rfl⟩
theorem x_Py_reckonOwed_25 : DC b_Py_reckonOwed 25 (.iload 4) 2 27 := ⟨by decide +kernel, rfl⟩
theorem x_Py_reckonOwed_27 : DC b_Py_reckonOwed 27 (.lconst 0) 1 28 := ⟨by decide +kernel, rfl⟩
theorem x_Py_reckonOwed_28 : DC b_Py_reckonOwed 28 (.aload_n 0) 1 29 := ⟨by decide +kernel, rfl⟩
theorem x_Py_reckonOwed_29 : DC b_Py_reckonOwed 29 (.iload 4) 2 31 := ⟨by decide +kernel, rfl⟩
theorem x_Py_reckonOwed_31 : DC b_Py_reckonOwed 31 (.invokevirtual 136) 3 34 := ⟨by decide +kernel, rfl⟩
theorem x_Py_reckonOwed_34 : DC b_Py_reckonOwed 34 (.lneg) 1 35 := ⟨by decide +kernel, rfl⟩
theorem x_Py_reckonOwed_35 : DC b_Py_reckonOwed 35 (.invokestatic 139) 3 38 := ⟨by decide +kernel, rfl⟩
theorem x_Py_reckonOwed_38 : DC b_Py_reckonOwed 38 (.lastore) 1 39 := ⟨by decide +kernel, rfl⟩
theorem x_Py_reckonOwed_39 : DC b_Py_reckonOwed 39 (.iinc 4 1) 3 42 := ⟨by decide +kernel, rfl⟩
theorem x_Py_reckonOwed_42 : DC b_Py_reckonOwed 42 (.goto (-37)) 3 45 := ⟨by decide +kernel, rfl⟩
theorem x_Py_reckonOwed_45 : DC b_Py_reckonOwed 45 (.aload_n 0) 1 46 := ⟨by decide +kernel, rfl⟩
theorem x_Py_reckonOwed_46 : DC b_Py_reckonOwed 46 (.lconst 0) 1 47 := ⟨by decide +kernel, rfl⟩
theorem x_Py_reckonOwed_47 : DC b_Py_reckonOwed 47 (.lload_n 2) 1 48 := ⟨by decide +kernel, rfl⟩
theorem x_Py_reckonOwed_48 : DC b_Py_reckonOwed 48 (.lneg) 1 49 := ⟨by decide +kernel, rfl⟩
theorem x_Py_reckonOwed_49 : DC b_Py_reckonOwed 49 (.invokestatic 139) 3 52 := ⟨by decide +kernel, rfl⟩
theorem x_Py_reckonOwed_52 : DC b_Py_reckonOwed 52 (.putfield 145) 3 55 := ⟨by decide +kernel, rfl⟩
theorem x_Py_reckonOwed_55 : DC b_Py_reckonOwed 55 (.aload_n 0) 1 56 := ⟨by decide +kernel, rfl⟩
theorem x_Py_reckonOwed_56 : DC b_Py_reckonOwed 56 (.iload_n 1) 1 57 := ⟨by decide +kernel, rfl⟩
theorem x_Py_reckonOwed_57 : DC b_Py_reckonOwed 57 (.invokevirtual 113) 3 60 := ⟨by decide +kernel, rfl⟩
theorem x_Py_reckonOwed_60 : DC b_Py_reckonOwed 60 (.aload_n 0) 1 61 := ⟨by decide +kernel, rfl⟩
theorem x_Py_reckonOwed_61 : DC b_Py_reckonOwed 61 (.aload_n 0) 1 62 := ⟨by decide +kernel, rfl⟩
theorem x_Py_reckonOwed_62 : DC b_Py_reckonOwed 62 (.getfield 145) 3 65 := ⟨by decide +kernel, rfl⟩
theorem x_Py_reckonOwed_65 : DC b_Py_reckonOwed 65 (.aload_n 0) 1 66 := ⟨by decide +kernel, rfl⟩
theorem x_Py_reckonOwed_66 : DC b_Py_reckonOwed 66 (.getfield 51) 3 69 := ⟨by decide +kernel, rfl⟩
theorem x_Py_reckonOwed_69 : DC b_Py_reckonOwed 69 (.iconst 3) 1 70 := ⟨by decide +kernel, rfl⟩
theorem x_Py_reckonOwed_70 : DC b_Py_reckonOwed 70 (.invokevirtual 116) 3 73 := ⟨by decide +kernel, rfl⟩
theorem x_Py_reckonOwed_73 : DC b_Py_reckonOwed 73 (.i2l) 1 74 := ⟨by decide +kernel, rfl⟩
theorem x_Py_reckonOwed_74 : DC b_Py_reckonOwed 74 (.lmul) 1 75 := ⟨by decide +kernel, rfl⟩
theorem x_Py_reckonOwed_75 : DC b_Py_reckonOwed 75 (.ldc2_w 120) 3 78 := ⟨by decide +kernel, rfl⟩
theorem x_Py_reckonOwed_78 : DC b_Py_reckonOwed 78 (.ldiv) 1 79 := ⟨by decide +kernel, rfl⟩
theorem x_Py_reckonOwed_79 : DC b_Py_reckonOwed 79 (.putfield 149) 3 82 := ⟨by decide +kernel, rfl⟩
theorem x_Py_reckonOwed_82 : DC b_Py_reckonOwed 82 (.aload_n 0) 1 83 := ⟨by decide +kernel, rfl⟩
theorem x_Py_reckonOwed_83 : DC b_Py_reckonOwed 83 (.getfield 47) 3 86 := ⟨by decide +kernel, rfl⟩
theorem x_Py_reckonOwed_86 : DC b_Py_reckonOwed 86 (.aload_n 0) 1 87 := ⟨by decide +kernel, rfl⟩
theorem x_Py_reckonOwed_87 : DC b_Py_reckonOwed 87 (.getfield 145) 3 90 := ⟨by decide +kernel, rfl⟩
theorem x_Py_reckonOwed_90 : DC b_Py_reckonOwed 90 (.aload_n 0) 1 91 := ⟨by decide +kernel, rfl⟩
theorem x_Py_reckonOwed_91 : DC b_Py_reckonOwed 91 (.getfield 149) 3 94 := ⟨by decide +kernel, rfl⟩
theorem x_Py_reckonOwed_94 : DC b_Py_reckonOwed 94 (.lsub) 1 95 := ⟨by decide +kernel, rfl⟩
theorem x_Py_reckonOwed_95 : DC b_Py_reckonOwed 95 (.aload_n 0) 1 96 := ⟨by decide +kernel, rfl⟩
theorem x_Py_reckonOwed_96 : DC b_Py_reckonOwed 96 (.getfield 41) 3 99 := ⟨by decide +kernel, rfl⟩
theorem x_Py_reckonOwed_99 : DC b_Py_reckonOwed 99 (.aload_n 0) 1 100 := ⟨by decide +kernel, rfl⟩
theorem x_Py_reckonOwed_100 : DC b_Py_reckonOwed 100 (.getfield 26) 3 103 := ⟨by decide +kernel, rfl⟩
theorem x_Py_reckonOwed_103 : DC b_Py_reckonOwed 103 (.invokevirtual 128) 3 106 := ⟨by decide +kernel, rfl⟩
theorem x_Py_reckonOwed_106 : DC b_Py_reckonOwed 106 (.return_) 1 107 := ⟨by decide +kernel, rfl⟩
def k_Py_reckonOwed_5 (R5 : Int → Int → Int → Mem → Res) (a1 a2 a4 : Int) (M : Mem) : Res := if w32 a4 < 20 then (bcall (d_Py_lastOf a4 M) fun v2 M3 => blet (a2 + v2) fun v4 => bcall (d_Py_lastOf a4 M3) fun v5 M6 => chk (0 ≤ w32 a4 ∧ w32 a4 < 20) <| blet (sto M6 96 (ix a4) (mx64 0 (-v5))) fun M8 => blet (a4 + 1) fun v9 => R5 a1 v4 v9 M8) else (blet (sto M 88 4 (mx64 0 (-a2))) fun M10 => bcall (d_Py_beginLastWeekOf a1 M10) fun v11 M12 => blet (M12 88 4) fun v13 => bcall (d_As_ask 3 M12) fun v14 M15 => blet (sto M15 88 5 (dv64 (v13 * (w32 v14)) 1000)) fun M16 => blet (M16 88 4) fun v17 => blet (M16 88 5) fun v18 => bcall (d_Pl_part 96 91 (v17 - v18) M16) fun v19 M20 => some (0, M20))
theorem z_Py_reckonOwed_5 (C : Cx p s m args meth c G b_Py_reckonOwed 5 "PrairiePool$Payments" none) (hlev : 5 ≤ lev) {r : Int × Mem} {R5 : Int → Int → Int → Mem → Res} (hR5 : ∀ (a1 a2 a4 : Int) (M : Mem), R5 a1 a2 a4 M = some r → Z p l e lev s m args below meth c G 5 (MQ below (Qm G 0 r) args s 0 0 (Ab G)) M 5 [(0, .ref (G.1 + 88)), (1, vi a1), (2, vl a2), (4, vi a4)] []) {a1 a2 a4 : Int} {M : Mem} (h : k_Py_reckonOwed_5 R5 a1 a2 a4 M = some r) : Z p l e lev s m args below meth c G 5 (MQ below (Qm G 0 r) args s 0 0 (Ab G)) M 5 [(0, .ref (G.1 + 88)), (1, vi a1), (2, vl a2), (4, vi a4)] [] := by
  unfold k_Py_reckonOwed_5 at h
  refine z_iload C 3 x_Py_reckonOwed_5 rfl ?_
  refine z_bipush C rfl x_Py_reckonOwed_7 ?_
  rcases ite_e h with ⟨c1, h⟩ | ⟨c1, h⟩
  · refine z_icmp_ge_f (tgt := 45) C x_Py_reckonOwed_9 rfl c1 ?_
    refine z_lload_n C 2 x_Py_reckonOwed_12 rfl ?_
    refine z_aload_n C 0 x_Py_reckonOwed_13 rfl ?_
    refine z_iload C 3 x_Py_reckonOwed_14 rfl ?_
    obtain ⟨v2, M3, fv2, h⟩ := bcall_e h
    refine z_callVl (k := 88) C x_Py_reckonOwed_16 cv_Py_136 (t_Py_lastOf (lev := lev - 1) l G (by omega) fv2) nk_88 ck_88 rfl (by omega) rfl (i_le rfl) rfl ?_
    refine z_ladd C x_Py_reckonOwed_19 ?_
    obtain ⟨v4, ev4, h⟩ := blet_e h
    refine z_lstore_n (lv' := [(2, vl v4), (0, .ref (G.1 + 88)), (1, vi a1), (4, vi a4)]) C ev4 x_Py_reckonOwed_20 (i_lt rfl) rfl ?_
    refine z_aload_n C 1 x_Py_reckonOwed_21 rfl ?_
    refine z_getR (j := 13) C x_Py_reckonOwed_22 nk_88 ck_88 cw_5 (i_lt rfl) rfl rf_88_13 rfl fl_Py_41 ?_
    refine z_iload C 3 x_Py_reckonOwed_25 rfl ?_
    refine z_lconst0 C x_Py_reckonOwed_27 ?_
    refine z_aload_n C 1 x_Py_reckonOwed_28 rfl ?_
    refine z_iload C 3 x_Py_reckonOwed_29 rfl ?_
    obtain ⟨v5, M6, fv5, h⟩ := bcall_e h
    refine z_callVl (k := 88) C x_Py_reckonOwed_31 cv_Py_136 (t_Py_lastOf (lev := lev - 1) l G (by omega) fv5) nk_88 ck_88 rfl (by omega) rfl (i_le rfl) rfl ?_
    refine z_lneg C x_Py_reckonOwed_34 ?_
    refine z_mx64 C x_Py_reckonOwed_35 cs_Py_139 (by omega) (i_le rfl) ?_
    obtain ⟨c7, h⟩ := chk_e h
    obtain ⟨M8, eM8, h⟩ := blet_e h
    refine z_last C x_Py_reckonOwed_38 nk_96 ck_96 c7 eM8 ?_
    obtain ⟨v9, ev9, h⟩ := blet_e h
    refine z_iinc (lv' := [(4, vi v9), (2, vl v4), (0, .ref (G.1 + 88)), (1, vi a1)]) C 3 ev9 x_Py_reckonOwed_39 rfl (i_lt rfl) rfl ?_
    refine z_goto (tgt := 5) C x_Py_reckonOwed_42 rfl ?_
    exact z_sub [2, 3, 1, 0] rfl (hR5 a1 v4 v9 M8 h)
  · refine z_icmp_ge_t (tgt := 45) C x_Py_reckonOwed_9 rfl c1 ?_
    refine z_aload_n C 0 x_Py_reckonOwed_45 rfl ?_
    refine z_lconst0 C x_Py_reckonOwed_46 ?_
    refine z_lload_n C 2 x_Py_reckonOwed_47 rfl ?_
    refine z_lneg C x_Py_reckonOwed_48 ?_
    refine z_mx64 C x_Py_reckonOwed_49 cs_Py_139 (by omega) (i_le rfl) ?_
    obtain ⟨M10, eM10, h⟩ := blet_e h
    refine z_putL (j := 4) C x_Py_reckonOwed_52 nk_88 ck_88 cw_5 (i_lt rfl) rfl rfl rfl rfl fl_Py_145 eM10 ?_
    refine z_aload_n C 0 x_Py_reckonOwed_55 rfl ?_
    refine z_iload_n C 1 x_Py_reckonOwed_56 rfl ?_
    obtain ⟨v11, M12, fv11, h⟩ := bcall_e h
    refine z_callVv (k := 88) C x_Py_reckonOwed_57 cv_Py_113 (t_Py_beginLastWeekOf (lev := lev - 1) l G (by omega) fv11) nk_88 ck_88 rfl (by omega) rfl (i_le rfl) rfl ?_
    refine z_aload_n C 0 x_Py_reckonOwed_60 rfl ?_
    refine z_aload_n C 0 x_Py_reckonOwed_61 rfl ?_
    obtain ⟨v13, ev13, h⟩ := blet_e h
    refine z_getL (j := 4) C x_Py_reckonOwed_62 nk_88 ck_88 cw_5 (i_lt rfl) rfl rfl fl_Py_145 ev13 ?_
    refine z_aload_n C 0 x_Py_reckonOwed_65 rfl ?_
    refine z_getR (j := 8) C x_Py_reckonOwed_66 nk_88 ck_88 cw_5 (i_lt rfl) rfl rf_88_8 rfl fl_Py_51 ?_
    refine z_iconst C x_Py_reckonOwed_69 ?_
    obtain ⟨v14, M15, fv14, h⟩ := bcall_e h
    refine z_callVi (k := 32) C x_Py_reckonOwed_70 cv_Py_116 (t_As_ask (lev := lev - 1) l G (by omega) fv14) nk_32 ck_32 rfl (by omega) rfl (i_le rfl) rfl ?_
    refine z_i2l C x_Py_reckonOwed_73 ?_
    refine z_lmul C x_Py_reckonOwed_74 ?_
    refine z_ldc2 C kl_Py_120 x_Py_reckonOwed_75 ?_
    refine z_ldiv C (by decide) x_Py_reckonOwed_78 ?_
    obtain ⟨M16, eM16, h⟩ := blet_e h
    refine z_putL (j := 5) C x_Py_reckonOwed_79 nk_88 ck_88 cw_5 (i_lt rfl) rfl rfl rfl rfl fl_Py_149 eM16 ?_
    refine z_aload_n C 0 x_Py_reckonOwed_82 rfl ?_
    refine z_getR (j := 7) C x_Py_reckonOwed_83 nk_88 ck_88 cw_5 (i_lt rfl) rfl rf_88_7 rfl fl_Py_47 ?_
    refine z_aload_n C 0 x_Py_reckonOwed_86 rfl ?_
    obtain ⟨v17, ev17, h⟩ := blet_e h
    refine z_getL (j := 4) C x_Py_reckonOwed_87 nk_88 ck_88 cw_5 (i_lt rfl) rfl rfl fl_Py_145 ev17 ?_
    refine z_aload_n C 0 x_Py_reckonOwed_90 rfl ?_
    obtain ⟨v18, ev18, h⟩ := blet_e h
    refine z_getL (j := 5) C x_Py_reckonOwed_91 nk_88 ck_88 cw_5 (i_lt rfl) rfl rfl fl_Py_149 ev18 ?_
    refine z_lsub C x_Py_reckonOwed_94 ?_
    refine z_aload_n C 0 x_Py_reckonOwed_95 rfl ?_
    refine z_getR (j := 13) C x_Py_reckonOwed_96 nk_88 ck_88 cw_5 (i_lt rfl) rfl rf_88_13 rfl fl_Py_41 ?_
    refine z_aload_n C 0 x_Py_reckonOwed_99 rfl ?_
    refine z_getR (j := 6) C x_Py_reckonOwed_100 nk_88 ck_88 cw_5 (i_lt rfl) rfl rf_88_6 rfl fl_Py_26 ?_
    obtain ⟨v19, M20, fv19, h⟩ := bcall_e h
    refine z_callVv (k := 75) C x_Py_reckonOwed_103 cv_Py_128 (t_Pl_part (lev := lev - 1) l G (by omega) nk_96 ck_96 nk_91 ck_91 fv19) nk_75 ck_75 rfl (by omega) rfl (i_le rfl) rfl ?_
    exact z_vret C x_Py_reckonOwed_106 h
theorem zl_Py_reckonOwed_5 (C : Cx p s m args meth c G b_Py_reckonOwed 5 "PrairiePool$Payments" none) (hlev : 5 ≤ lev) {r : Int × Mem}  : ∀ (n : Nat) (a1 a2 a4 : Int) (M : Mem), fix (fun _ _ _ _ => none) (k_Py_reckonOwed_5) n a1 a2 a4 M = some r → Z p l e lev s m args below meth c G 5 (MQ below (Qm G 0 r) args s 0 0 (Ab G)) M 5 [(0, .ref (G.1 + 88)), (1, vi a1), (2, vl a2), (4, vi a4)] [] := by
  intro n
  induction n with
  | zero => intro a1 a2 a4 M h; exact nomatch (show (none : Res) = some r from h)
  | succ n ih => intro a1 a2 a4 M h; exact z_Py_reckonOwed_5 C hlev ih h
def d_Py_reckonOwed (a1 : Int) (M : Mem) : Res := fix (fun _ _ _ _ => none) (k_Py_reckonOwed_5) FU a1 0 0 M
theorem t_Py_reckonOwed (l : Launch) (G : GX) {lev : Nat} (hlev : 5 ≤ lev) {a1 : Int} {M : Mem} {r : Int × Mem} (h : d_Py_reckonOwed a1 M = some r) : Mt l G y_Py_reckonOwed b_Py_reckonOwed 5 none lev 0 [.ref (G.1 + 88), vi a1] M r := by
  refine Mt.of (by decide) (i_le rfl) ?_
  intro p e s m args below meth c C
  have C : Cx p s m args meth c G b_Py_reckonOwed 5 "PrairiePool$Payments" none := C
  unfold d_Py_reckonOwed at h
  refine z_sub (lv' := [(0, .ref (G.1 + 88)), (1, vi a1)]) [0, 1] rfl ?_
  refine z_lconst0 C x_Py_reckonOwed_0 ?_
  refine z_lstore_n (lv' := [(2, vl 0), (0, .ref (G.1 + 88)), (1, vi a1)]) C rfl x_Py_reckonOwed_1 (i_lt rfl) rfl ?_
  refine z_iconst C x_Py_reckonOwed_2 ?_
  refine z_istore (lv' := [(4, vi 0), (2, vl 0), (0, .ref (G.1 + 88)), (1, vi a1)]) C rfl x_Py_reckonOwed_3 (i_lt rfl) rfl ?_
  exact z_sub [2, 3, 1, 0] rfl (zl_Py_reckonOwed_5 C hlev FU a1 0 0 M h)
theorem x_Ou_add_0 : DC b_Ou_add 0 (.aload_n 0) 1 1 := ⟨by decide +kernel, rfl⟩
theorem x_Ou_add_1 : DC b_Ou_add 1 (.getfield 32) 3 4 := ⟨by decide +kernel, rfl⟩
theorem x_Ou_add_4 : DC b_Ou_add 4 (.istore 5) 2 6 := ⟨by decide +kernel, rfl⟩
theorem x_Ou_add_6 : DC b_Ou_add 6 (.aload_n 0) 1 7 := ⟨by decide +kernel, rfl⟩
theorem x_Ou_add_7 : DC b_Ou_add 7 (.getfield 11) 3 10 := ⟨by decide +kernel, rfl⟩
theorem x_Ou_add_10 : DC b_Ou_add 10 (.iload 5) 2 12 := ⟨by decide +kernel, rfl⟩
theorem x_Ou_add_12 : DC b_Ou_add 12 (.iload_n 1) 1 13 := ⟨by decide +kernel, rfl⟩
theorem x_Ou_add_13 : DC b_Ou_add 13 (.iastore) 1 14 := ⟨by decide +kernel, rfl⟩
theorem x_Ou_add_14 : DC b_Ou_add 14 (.aload_n 0) 1 15 := ⟨by decide +kernel, rfl⟩
theorem x_Ou_add_15 : DC b_Ou_add 15 (.getfield 15) 3 18 := ⟨by decide +kernel, rfl⟩
theorem x_Ou_add_18 : DC b_Ou_add 18 (.iload 5) 2 20 := ⟨by decide +kernel, rfl⟩
theorem x_Ou_add_20 : DC b_Ou_add 20 (.iload_n 2) 1 21 := ⟨by decide +kernel, rfl⟩
theorem x_Ou_add_21 : DC b_Ou_add 21 (.iastore) 1 22 := ⟨by decide +kernel, rfl⟩
theorem x_Ou_add_22 : DC b_Ou_add 22 (.aload_n 0) 1 23 := ⟨by decide +kernel, rfl⟩
theorem x_Ou_add_23 : DC b_Ou_add 23 (.getfield 18) 3 26 := ⟨by decide +kernel, rfl⟩
theorem x_Ou_add_26 : DC b_Ou_add 26 (.iload 5) 2 28 := ⟨by decide +kernel, rfl⟩
theorem x_Ou_add_28 : DC b_Ou_add 28 (.iload_n 3) 1 29 := ⟨by decide +kernel, rfl⟩
theorem x_Ou_add_29 : DC b_Ou_add 29 (.iastore) 1 30 := ⟨by decide +kernel, rfl⟩
theorem x_Ou_add_30 : DC b_Ou_add 30 (.aload_n 0) 1 31 := ⟨by decide +kernel, rfl⟩
theorem x_Ou_add_31 : DC b_Ou_add 31 (.getfield 21) 3 34 := ⟨by decide +kernel, rfl⟩
theorem x_Ou_add_34 : DC b_Ou_add 34 (.iload 5) 2 36 := ⟨by decide +kernel, rfl⟩
theorem x_Ou_add_36 : DC b_Ou_add 36 (.iload 4) 2 38 := ⟨by decide +kernel, rfl⟩
theorem x_Ou_add_38 : DC b_Ou_add 38 (.iastore) 1 39 := ⟨by decide +kernel, rfl⟩
theorem x_Ou_add_39 : DC b_Ou_add 39 (.aload_n 0) 1 40 := ⟨by decide +kernel, rfl⟩
theorem x_Ou_add_40 : DC b_Ou_add 40 (.dup) 1 41 := ⟨by decide +kernel, rfl⟩
theorem x_Ou_add_41 : DC b_Ou_add 41 (.getfield 32) 3 44 := ⟨by decide +kernel, rfl⟩
theorem x_Ou_add_44 : DC b_Ou_add 44 (.iconst 1) 1 45 := ⟨by decide +kernel, rfl⟩
theorem x_Ou_add_45 : DC b_Ou_add 45 (.iadd) 1 46 := ⟨by decide +kernel, rfl⟩
theorem x_Ou_add_46 : DC b_Ou_add 46 (.putfield 32) 3 49 := ⟨by decide +kernel, rfl⟩
theorem x_Ou_add_49 : DC b_Ou_add 49 (.iload 5) 2 51 := ⟨by decide +kernel, rfl⟩
theorem x_Ou_add_51 : DC b_Ou_add 51 (.ireturn) 1 52 := ⟨by decide +kernel, rfl⟩
def d_Ou_add (a1 a2 a3 a4 : Int) (M : Mem) : Res := blet (M 98 0) fun v1 => chk (0 ≤ w32 v1 ∧ w32 v1 < 60) <| blet (sto M 99 (ix v1) a1) fun M3 => chk (0 ≤ w32 v1 ∧ w32 v1 < 60) <| blet (sto M3 100 (ix v1) a2) fun M5 => chk (0 ≤ w32 v1 ∧ w32 v1 < 60) <| blet (sto M5 101 (ix v1) a3) fun M7 => chk (0 ≤ w32 v1 ∧ w32 v1 < 60) <| blet (sto M7 102 (ix v1) a4) fun M9 => blet (M9 98 0) fun v10 => blet (sto M9 98 0 (v10 + 1)) fun M11 => some (v1, M11)
theorem t_Ou_add (l : Launch) (G : GX) {lev : Nat} (hlev : 0 ≤ lev) {a1 a2 a3 a4 : Int} {M : Mem} {r : Int × Mem} (h : d_Ou_add a1 a2 a3 a4 M = some r) : Mt l G y_Ou_add b_Ou_add 6 (some .int) lev 1 [.ref (G.1 + 98), vi a1, vi a2, vi a3, vi a4] M r := by
  refine Mt.of (by decide) (i_le rfl) ?_
  intro p e s m args below meth c C
  have C : Cx p s m args meth c G b_Ou_add 6 "PrairiePool$Outsides" (some .int) := C
  unfold d_Ou_add at h
  refine z_sub (lv' := [(0, .ref (G.1 + 98)), (1, vi a1), (2, vi a2), (3, vi a3), (4, vi a4)]) [0, 1, 2, 3, 4] rfl ?_
  refine z_aload_n C 0 x_Ou_add_0 rfl ?_
  obtain ⟨v1, ev1, h⟩ := blet_e h
  refine z_getI (j := 0) C x_Ou_add_1 nk_98 ck_98 cw_3 (i_lt rfl) rfl rfl fl_Ou_32 ev1 ?_
  refine z_istore (lv' := [(5, vi v1), (0, .ref (G.1 + 98)), (1, vi a1), (2, vi a2), (3, vi a3), (4, vi a4)]) C rfl x_Ou_add_4 (i_lt rfl) rfl ?_
  refine z_aload_n C 1 x_Ou_add_6 rfl ?_
  refine z_getR (j := 3) C x_Ou_add_7 nk_98 ck_98 cw_3 (i_lt rfl) rfl rf_98_3 rfl fl_Ou_11 ?_
  refine z_iload C 0 x_Ou_add_10 rfl ?_
  refine z_iload_n C 2 x_Ou_add_12 rfl ?_
  obtain ⟨c2, h⟩ := chk_e h
  obtain ⟨M3, eM3, h⟩ := blet_e h
  refine z_iast C x_Ou_add_13 nk_99 ck_99 c2 eM3 ?_
  refine z_aload_n C 1 x_Ou_add_14 rfl ?_
  refine z_getR (j := 4) C x_Ou_add_15 nk_98 ck_98 cw_3 (i_lt rfl) rfl rf_98_4 rfl fl_Ou_15 ?_
  refine z_iload C 0 x_Ou_add_18 rfl ?_
  refine z_iload_n C 3 x_Ou_add_20 rfl ?_
  obtain ⟨c4, h⟩ := chk_e h
  obtain ⟨M5, eM5, h⟩ := blet_e h
  refine z_iast C x_Ou_add_21 nk_100 ck_100 c4 eM5 ?_
  refine z_aload_n C 1 x_Ou_add_22 rfl ?_
  refine z_getR (j := 5) C x_Ou_add_23 nk_98 ck_98 cw_3 (i_lt rfl) rfl rf_98_5 rfl fl_Ou_18 ?_
  refine z_iload C 0 x_Ou_add_26 rfl ?_
  refine z_iload_n C 4 x_Ou_add_28 rfl ?_
  obtain ⟨c6, h⟩ := chk_e h
  obtain ⟨M7, eM7, h⟩ := blet_e h
  refine z_iast C x_Ou_add_29 nk_101 ck_101 c6 eM7 ?_
  refine z_aload_n C 1 x_Ou_add_30 rfl ?_
  refine z_getR (j := 6) C x_Ou_add_31 nk_98 ck_98 cw_3 (i_lt rfl) rfl rf_98_6 rfl fl_Ou_21 ?_
  refine z_iload C 0 x_Ou_add_34 rfl ?_
  refine z_iload C 5 x_Ou_add_36 rfl ?_
  obtain ⟨c8, h⟩ := chk_e h
  obtain ⟨M9, eM9, h⟩ := blet_e h
  refine z_iast C x_Ou_add_38 nk_102 ck_102 c8 eM9 ?_
  refine z_aload_n C 1 x_Ou_add_39 rfl ?_
  refine z_dup C x_Ou_add_40 rfl ?_
  obtain ⟨v10, ev10, h⟩ := blet_e h
  refine z_getI (j := 0) C x_Ou_add_41 nk_98 ck_98 cw_3 (i_lt rfl) rfl rfl fl_Ou_32 ev10 ?_
  refine z_iconst C x_Ou_add_44 ?_
  refine z_iadd C x_Ou_add_45 ?_
  obtain ⟨M11, eM11, h⟩ := blet_e h
  refine z_putI (j := 0) C x_Ou_add_46 nk_98 ck_98 cw_3 (i_lt rfl) rfl rfl rfl rfl fl_Ou_32 eM11 ?_
  refine z_iload C 0 x_Ou_add_49 rfl ?_
  exact z_iret C x_Ou_add_51 h
theorem x_Py_priceOf_0 : DC b_Py_priceOf 0 (.iconst 0) 1 1 := ⟨by decide +kernel, rfl⟩
theorem x_Py_priceOf_1 : DC b_Py_priceOf 1 (.aload_n 0) 1 2 := ⟨by decide +kernel, rfl⟩
theorem x_Py_priceOf_2 : DC b_Py_priceOf 2 (.getfield 47) 3 5 := ⟨by decide +kernel, rfl⟩
theorem x_Py_priceOf_5 : DC b_Py_priceOf 5 (.getfield 70) 3 8 := ⟨by decide +kernel, rfl⟩
theorem x_Py_priceOf_8 : DC b_Py_priceOf 8 (.getfield 155) 3 11 := ⟨by decide +kernel, rfl⟩
theorem x_Py_priceOf_11 : DC b_Py_priceOf 11 (.iload_n 1) 1 12 := ⟨by decide +kernel, rfl⟩
theorem x_Py_priceOf_12 : DC b_Py_priceOf 12 (.iaload) 1 13 := ⟨by decide +kernel, rfl⟩
theorem x_Py_priceOf_13 : DC b_Py_priceOf 13 (.aload_n 0) 1 14 := ⟨by decide +kernel, rfl⟩
theorem x_Py_priceOf_14 : DC b_Py_priceOf 14 (.getfield 19) 3 17 := ⟨by decide +kernel, rfl⟩
theorem x_Py_priceOf_17 : DC b_Py_priceOf 17 (.isub) 1 18 := ⟨by decide +kernel, rfl⟩
theorem x_Py_priceOf_18 : DC b_Py_priceOf 18 (.invokestatic 158) 3 21 := ⟨by decide +kernel, rfl⟩
theorem x_Py_priceOf_21 : DC b_Py_priceOf 21 (.istore_n 2) 1 22 := ⟨by decide +kernel, rfl⟩
theorem x_Py_priceOf_22 : DC b_Py_priceOf 22 (.iconst 0) 1 23 := ⟨by decide +kernel, rfl⟩
theorem x_Py_priceOf_23 : DC b_Py_priceOf 23 (.aload_n 0) 1 24 := ⟨by decide +kernel, rfl⟩
theorem x_Py_priceOf_24 : DC b_Py_priceOf 24 (.getfield 9) 3 27 := ⟨by decide +kernel, rfl⟩
theorem x_Py_priceOf_27 : DC b_Py_priceOf 27 (.iload_n 2) 1 28 := ⟨by decide +kernel, rfl⟩
theorem x_Py_priceOf_28 : DC b_Py_priceOf 28 (.iaload) 1 29 := ⟨by decide +kernel, rfl⟩
theorem x_Py_priceOf_29 : DC b_Py_priceOf 29 (.aload_n 0) 1 30 := ⟨by decide +kernel, rfl⟩
theorem x_Py_priceOf_30 : DC b_Py_priceOf 30 (.getfield 47) 3 33 := ⟨by decide +kernel, rfl⟩
theorem x_Py_priceOf_33 : DC b_Py_priceOf 33 (.getfield 92) 3 36 := ⟨by decide +kernel, rfl⟩
theorem x_Py_priceOf_36 : DC b_Py_priceOf 36 (.iload_n 1) 1 37 := ⟨by decide +kernel, rfl⟩
theorem x_Py_priceOf_37 : DC b_Py_priceOf 37 (.iaload) 1 38 := ⟨by decide +kernel, rfl⟩
theorem x_Py_priceOf_38 : DC b_Py_priceOf 38 (.aload_n 0) 1 39 := ⟨by decide +kernel, rfl⟩
theorem x_Py_priceOf_39 : DC b_Py_priceOf 39 (.getfield 15) 3 42 := ⟨by decide +kernel, rfl⟩
theorem x_Py_priceOf_42 : DC b_Py_priceOf 42 (.imul) 1 43 := ⟨by decide +kernel, rfl⟩
theorem x_Py_priceOf_43 : DC b_Py_priceOf 43 (.isub) 1 44 := ⟨by decide +kernel, rfl⟩
theorem x_Py_priceOf_44 : DC b_Py_priceOf 44 (.invokestatic 158) 3 47 := ⟨by decide +kernel, rfl⟩
theorem x_Py_priceOf_47 : DC b_Py_priceOf 47 (.ireturn) 1 48 := ⟨by decide +kernel, rfl⟩
def d_Py_priceOf (a1 : Int) (M : Mem) : Res := chk (0 ≤ w32 a1 ∧ w32 a1 < 120) <| blet (M 25 (ix a1)) fun v2 => blet (M 88 2) fun v3 => blet (mx32 0 (v2 - v3)) fun v4 => chk (0 ≤ w32 v4 ∧ w32 v4 < 520) <| blet (M 89 (ix v4)) fun v6 => chk (0 ≤ w32 a1 ∧ w32 a1 < 120) <| blet (M 77 (ix a1)) fun v8 => blet (M 88 1) fun v9 => some (mx32 0 (v6 - (v8 * v9)), M)
theorem t_Py_priceOf (l : Launch) (G : GX) {lev : Nat} (hlev : 1 ≤ lev) {a1 : Int} {M : Mem} {r : Int × Mem} (h : d_Py_priceOf a1 M = some r) : Mt l G y_Py_priceOf b_Py_priceOf 3 (some .int) lev 1 [.ref (G.1 + 88), vi a1] M r := by
  refine Mt.of (by decide) (i_le rfl) ?_
  intro p e s m args below meth c C
  have C : Cx p s m args meth c G b_Py_priceOf 3 "PrairiePool$Payments" (some .int) := C
  unfold d_Py_priceOf at h
  refine z_sub (lv' := [(0, .ref (G.1 + 88)), (1, vi a1)]) [0, 1] rfl ?_
  refine z_iconst C x_Py_priceOf_0 ?_
  refine z_aload_n C 0 x_Py_priceOf_1 rfl ?_
  refine z_getR (j := 7) C x_Py_priceOf_2 nk_88 ck_88 cw_5 (i_lt rfl) rfl rf_88_7 rfl fl_Py_47 ?_
  refine z_getR (j := 1) C x_Py_priceOf_5 nk_75 ck_75 cw_6 (i_lt rfl) rfl rf_75_1 rfl fl_Py_70 ?_
  refine z_getR (j := 11) C x_Py_priceOf_8 nk_15 ck_15 cw_2 (i_lt rfl) rfl rf_15_11 rfl fl_Py_155 ?_
  refine z_iload_n C 1 x_Py_priceOf_11 rfl ?_
  obtain ⟨c1, h⟩ := chk_e h
  obtain ⟨v2, ev2, h⟩ := blet_e h
  refine z_iald C x_Py_priceOf_12 nk_25 ck_25 c1 ev2 ?_
  refine z_aload_n C 0 x_Py_priceOf_13 rfl ?_
  obtain ⟨v3, ev3, h⟩ := blet_e h
  refine z_getI (j := 2) C x_Py_priceOf_14 nk_88 ck_88 cw_5 (i_lt rfl) rfl rfl fl_Py_19 ev3 ?_
  refine z_isub C x_Py_priceOf_17 ?_
  refine z_mx32 C x_Py_priceOf_18 cs_Py_158 (by omega) (i_le rfl) ?_
  obtain ⟨v4, ev4, h⟩ := blet_e h
  refine z_istore_n (lv' := [(2, vi v4), (0, .ref (G.1 + 88)), (1, vi a1)]) C ev4 x_Py_priceOf_21 (i_lt rfl) rfl ?_
  refine z_iconst C x_Py_priceOf_22 ?_
  refine z_aload_n C 1 x_Py_priceOf_23 rfl ?_
  refine z_getR (j := 0) C x_Py_priceOf_24 nk_88 ck_88 cw_5 (i_lt rfl) rfl rf_88_0 rfl fl_Py_9 ?_
  refine z_iload_n C 0 x_Py_priceOf_27 rfl ?_
  obtain ⟨c5, h⟩ := chk_e h
  obtain ⟨v6, ev6, h⟩ := blet_e h
  refine z_iald C x_Py_priceOf_28 nk_89 ck_89 c5 ev6 ?_
  refine z_aload_n C 1 x_Py_priceOf_29 rfl ?_
  refine z_getR (j := 7) C x_Py_priceOf_30 nk_88 ck_88 cw_5 (i_lt rfl) rfl rf_88_7 rfl fl_Py_47 ?_
  refine z_getR (j := 5) C x_Py_priceOf_33 nk_75 ck_75 cw_6 (i_lt rfl) rfl rf_75_5 rfl fl_Py_92 ?_
  refine z_iload_n C 2 x_Py_priceOf_36 rfl ?_
  obtain ⟨c7, h⟩ := chk_e h
  obtain ⟨v8, ev8, h⟩ := blet_e h
  refine z_iald C x_Py_priceOf_37 nk_77 ck_77 c7 ev8 ?_
  refine z_aload_n C 1 x_Py_priceOf_38 rfl ?_
  obtain ⟨v9, ev9, h⟩ := blet_e h
  refine z_getI (j := 1) C x_Py_priceOf_39 nk_88 ck_88 cw_5 (i_lt rfl) rfl rfl fl_Py_15 ev9 ?_
  refine z_imul C x_Py_priceOf_42 ?_
  refine z_isub C x_Py_priceOf_43 ?_
  refine z_mx32 C x_Py_priceOf_44 cs_Py_158 (by omega) (i_le rfl) ?_
  exact z_iret C x_Py_priceOf_47 h
theorem x_Py_aloneOf_0 : DC b_Py_aloneOf 0 (.aload_n 0) 1 1 := ⟨by decide +kernel, rfl⟩
theorem x_Py_aloneOf_1 : DC b_Py_aloneOf 1 (.getfield 47) 3 4 := ⟨by decide +kernel, rfl⟩
theorem x_Py_aloneOf_4 : DC b_Py_aloneOf 4 (.getfield 70) 3 7 := ⟨by decide +kernel, rfl⟩
theorem x_Py_aloneOf_7 : DC b_Py_aloneOf 7 (.astore_n 3) 1 8 := ⟨by decide +kernel, rfl⟩
theorem x_Py_aloneOf_8 : DC b_Py_aloneOf 8 (.lconst 0) 1 9 := ⟨by decide +kernel, rfl⟩
theorem x_Py_aloneOf_9 : DC b_Py_aloneOf 9 (.lstore 4) 2 11 := ⟨by decide +kernel, rfl⟩
theorem x_Py_aloneOf_11 : DC b_Py_aloneOf 11 (.iconst 0) 1 12 := ⟨by decide +kernel, rfl⟩
theorem x_Py_aloneOf_12 : DC b_Py_aloneOf 12 (.istore 6) 2 14 := ⟨by decide +kernel, rfl⟩
theorem x_Py_aloneOf_14 : DC b_Py_aloneOf 14 (.iload 6) 2 16 := ⟨by decide +kernel, rfl⟩
theorem x_Py_aloneOf_16 : DC b_Py_aloneOf 16 (.aload_n 0) 1 17 := ⟨by decide +kernel, rfl⟩
theorem x_Py_aloneOf_17 : DC b_Py_aloneOf 17 (.getfield 47) 3 20 := ⟨by decide +kernel, rfl⟩
theorem x_Py_aloneOf_20 : DC b_Py_aloneOf 20 (.getfield 67) 3 23 := ⟨by decide +kernel, rfl⟩
theorem x_Py_aloneOf_23 : DC b_Py_aloneOf 23 (.if_icmp .ge 77) 3 26 := ⟨by decide +kernel, rfl⟩
theorem x_Py_aloneOf_26 : DC b_Py_aloneOf 26 (.aload_n 3) 1 27 := ⟨by decide +kernel, rfl⟩
theorem x_Py_aloneOf_27 : DC b_Py_aloneOf 27 (.getfield 89) 3 30 := ⟨by decide +kernel, rfl⟩
theorem x_Py_aloneOf_30 : DC b_Py_aloneOf 30 (.iload 6) 2 32 := ⟨by decide +kernel, rfl⟩
theorem x_Py_aloneOf_32 : DC b_Py_aloneOf 32 (.iaload) 1 33 := ⟨by decide +kernel, rfl⟩
theorem x_Py_aloneOf_33 : DC b_Py_aloneOf 33 (.ifCond .ne 7) 3 36 := ⟨by decide +kernel, rfl⟩
theorem x_Py_aloneOf_36 : DC b_Py_aloneOf 36 (.iconst 1) 1 37 := ⟨by decide +kernel, rfl⟩
theorem x_Py_aloneOf_37 : DC b_Py_aloneOf 37 (.goto 4) 3 40 := ⟨by decide +kernel, rfl⟩
theorem x_Py_aloneOf_40 : DC b_Py_aloneOf 40 (.iconst 0) 1 41 := ⟨by decide +kernel, rfl⟩
theorem x_Py_aloneOf_41 : DC b_Py_aloneOf 41 (.istore 7) 2 43 := ⟨by decide +kernel, rfl⟩
theorem x_Py_aloneOf_43 : DC b_Py_aloneOf 43 (.iload 7) 2 45 := ⟨by decide +kernel, rfl⟩
theorem x_Py_aloneOf_45 : DC b_Py_aloneOf 45 (.ifCond .eq 49) 3 48 := ⟨by decide +kernel, rfl⟩
theorem x_Py_aloneOf_48 : DC b_Py_aloneOf 48 (.aload_n 3) 1 49 := ⟨by decide +kernel, rfl⟩
theorem x_Py_aloneOf_49 : DC b_Py_aloneOf 49 (.getfield 95) 3 52 := ⟨by decide +kernel, rfl⟩
theorem x_Py_aloneOf_52 : DC b_Py_aloneOf 52 (.iload 6) 2 54 := ⟨by decide +kernel, rfl⟩
theorem x_Py_aloneOf_54 : DC b_Py_aloneOf 54 (.iaload) 1 55 := ⟨by decide +kernel, rfl⟩
theorem x_Py_aloneOf_55 : DC b_Py_aloneOf 55 (.iload_n 1) 1 56 := ⟨by decide +kernel, rfl⟩
theorem x_Py_aloneOf_56 : DC b_Py_aloneOf 56 (.if_icmp .ne 38) 3 59 := ⟨by decide +kernel, rfl⟩
theorem x_Py_aloneOf_59 : DC b_Py_aloneOf 59 (.aload_n 3) 1 60 := ⟨by decide +kernel, rfl⟩
theorem x_Py_aloneOf_60 : DC b_Py_aloneOf 60 (.getfield 74) 3 63 := ⟨by decide +kernel, rfl⟩
theorem x_Py_aloneOf_63 : DC b_Py_aloneOf 63 (.iload 6) 2 65 := ⟨by decide +kernel, rfl⟩
theorem x_Py_aloneOf_65 : DC b_Py_aloneOf 65 (.iaload) 1 66 := ⟨by decide +kernel, rfl⟩
theorem x_Py_aloneOf_66 : DC b_Py_aloneOf 66 (.iload_n 2) 1 67 := ⟨by decide +kernel, rfl⟩
theorem x_Py_aloneOf_67 : DC b_Py_aloneOf 67 (.if_icmp .ne 27) 3 70 := ⟨by decide +kernel, rfl⟩
theorem x_Py_aloneOf_70 : DC b_Py_aloneOf 70 (.lload 4) 2 72 := ⟨by decide +kernel, rfl⟩
theorem x_Py_aloneOf_72 : DC b_Py_aloneOf 72 (.aload_n 0) 1 73 := ⟨by decide +kernel, rfl⟩
theorem x_Py_aloneOf_73 : DC b_Py_aloneOf 73 (.getfield 47) 3 76 := ⟨by decide +kernel, rfl⟩
theorem x_Py_aloneOf_76 : DC b_Py_aloneOf 76 (.getfield 86) 3 79 := ⟨by decide +kernel, rfl⟩
theorem x_Py_aloneOf_79 : DC b_Py_aloneOf 79 (.iload 6) 2 81 := ⟨by decide +kernel, rfl⟩
theorem x_Py_aloneOf_81 : DC b_Py_aloneOf 81 (.iaload) 1 82 := ⟨by decide +kernel, rfl⟩
theorem x_Py_aloneOf_82 : DC b_Py_aloneOf 82 (.i2l) 1 83 := ⟨by decide +kernel, rfl⟩
theorem x_Py_aloneOf_83 : DC b_Py_aloneOf 83 (.aload_n 0) 1 84 := ⟨by decide +kernel, rfl⟩
theorem x_Py_aloneOf_84 : DC b_Py_aloneOf 84 (.iload 6) 2 86 := ⟨by decide +kernel, rfl⟩
theorem x_Py_aloneOf_86 : DC b_Py_aloneOf 86 (.invokevirtual 152) 3 89 := ⟨by decide +kernel, rfl⟩
theorem x_Py_aloneOf_89 : DC b_Py_aloneOf 89 (.i2l) 1 90 := ⟨by decide +kernel, rfl⟩
theorem x_Py_aloneOf_90 : DC b_Py_aloneOf 90 (.lmul) 1 91 := ⟨by decide +kernel, rfl⟩
theorem x_Py_aloneOf_91 : DC b_Py_aloneOf 91 (.ladd) 1 92 := ⟨by decide +kernel, rfl⟩
theorem x_Py_aloneOf_92 : DC b_Py_aloneOf 92 (.lstore 4) 2 94 := ⟨by decide +kernel, rfl⟩
theorem x_Py_aloneOf_94 : DC b_Py_aloneOf 94 (.iinc 6 1) 3 97 := ⟨by decide +kernel, rfl⟩
theorem x_Py_aloneOf_97 : DC b_Py_aloneOf 97 (.goto (-83)) 3 100 := ⟨by decide +kernel, rfl⟩
theorem x_Py_aloneOf_100 : DC b_Py_aloneOf 100 (.lload 4) 2 102 := ⟨by decide +kernel, rfl⟩
theorem x_Py_aloneOf_102 : DC b_Py_aloneOf 102 (.lreturn) 1 103 := ⟨by decide +kernel, rfl⟩
def k_Py_aloneOf_94 (R14 : Int → Int → Int → Int → Mem → Res) (a1 a2 a4 a6 : Int) (M : Mem) : Res := blet (a6 + 1) fun v1 => R14 a1 a2 a4 v1 M
theorem z_Py_aloneOf_94 (C : Cx p s m args meth c G b_Py_aloneOf 8 "PrairiePool$Payments" (some .long)) (hlev : 2 ≤ lev) {r : Int × Mem} {R14 : Int → Int → Int → Int → Mem → Res} (hR14 : ∀ (a1 a2 a4 a6 : Int) (M : Mem), R14 a1 a2 a4 a6 M = some r → Z p l e lev s m args below meth c G 8 (MQ below (Qm G 2 r) args s 0 0 (Ab G)) M 14 [(0, .ref (G.1 + 88)), (1, vi a1), (2, vi a2), (3, .ref (G.1 + 15)), (4, vl a4), (6, vi a6)] []) {a1 a2 a4 a6 : Int} {M : Mem} (h : k_Py_aloneOf_94 R14 a1 a2 a4 a6 M = some r) : Z p l e lev s m args below meth c G 8 (MQ below (Qm G 2 r) args s 0 0 (Ab G)) M 94 [(0, .ref (G.1 + 88)), (1, vi a1), (2, vi a2), (3, .ref (G.1 + 15)), (4, vl a4), (6, vi a6)] [] := by
  unfold k_Py_aloneOf_94 at h
  obtain ⟨v1, ev1, h⟩ := blet_e h
  refine z_iinc (lv' := [(6, vi v1), (0, .ref (G.1 + 88)), (1, vi a1), (2, vi a2), (3, .ref (G.1 + 15)), (4, vl a4)]) C 5 ev1 x_Py_aloneOf_94 rfl (i_lt rfl) rfl ?_
  refine z_goto (tgt := 14) C x_Py_aloneOf_97 rfl ?_
  exact z_sub [1, 2, 3, 4, 5, 0] rfl (hR14 a1 a2 a4 v1 M h)
def k_Py_aloneOf_41 (R14 : Int → Int → Int → Int → Mem → Res) (a1 a2 a4 a6 s0 : Int) (M : Mem) : Res := if w32 s0 = 0 then (k_Py_aloneOf_94 R14 a1 a2 a4 a6 M) else (chk (0 ≤ w32 a6 ∧ w32 a6 < 120) <| blet (M 17 (ix a6)) fun v3 => if w32 v3 = w32 a1 then (chk (0 ≤ w32 a6 ∧ w32 a6 < 120) <| blet (M 21 (ix a6)) fun v6 => if w32 v6 = w32 a2 then (chk (0 ≤ w32 a6 ∧ w32 a6 < 120) <| blet (M 76 (ix a6)) fun v9 => bcall (d_Py_priceOf a6 M) fun v10 M11 => blet (a4 + ((w32 v9) * (w32 v10))) fun v12 => k_Py_aloneOf_94 R14 a1 a2 v12 a6 M11) else (k_Py_aloneOf_94 R14 a1 a2 a4 a6 M)) else (k_Py_aloneOf_94 R14 a1 a2 a4 a6 M))
theorem z_Py_aloneOf_41 (C : Cx p s m args meth c G b_Py_aloneOf 8 "PrairiePool$Payments" (some .long)) (hlev : 2 ≤ lev) {r : Int × Mem} {R14 : Int → Int → Int → Int → Mem → Res} (hR14 : ∀ (a1 a2 a4 a6 : Int) (M : Mem), R14 a1 a2 a4 a6 M = some r → Z p l e lev s m args below meth c G 8 (MQ below (Qm G 2 r) args s 0 0 (Ab G)) M 14 [(0, .ref (G.1 + 88)), (1, vi a1), (2, vi a2), (3, .ref (G.1 + 15)), (4, vl a4), (6, vi a6)] []) {a1 a2 a4 a6 s0 : Int} {M : Mem} (h : k_Py_aloneOf_41 R14 a1 a2 a4 a6 s0 M = some r) : Z p l e lev s m args below meth c G 8 (MQ below (Qm G 2 r) args s 0 0 (Ab G)) M 41 [(0, .ref (G.1 + 88)), (1, vi a1), (2, vi a2), (3, .ref (G.1 + 15)), (4, vl a4), (6, vi a6)] [vi s0] := by
  unfold k_Py_aloneOf_41 at h
  refine z_istore (lv' := [(7, vi s0), (0, .ref (G.1 + 88)), (1, vi a1), (2, vi a2), (3, .ref (G.1 + 15)), (4, vl a4), (6, vi a6)]) C rfl x_Py_aloneOf_41 (i_lt rfl) rfl ?_
  refine z_iload C 0 x_Py_aloneOf_43 rfl ?_
  rcases ite_e h with ⟨c1, h⟩ | ⟨c1, h⟩
  · refine z_if_eq_t (tgt := 94) C x_Py_aloneOf_45 rfl c1 ?_
    exact z_sub [1, 2, 3, 4, 5, 6] rfl (z_Py_aloneOf_94 C hlev hR14 h)
  · refine z_if_eq_f (tgt := 94) C x_Py_aloneOf_45 rfl c1 ?_
    refine z_aload_n C 4 x_Py_aloneOf_48 rfl ?_
    refine z_getR (j := 3) C x_Py_aloneOf_49 nk_15 ck_15 cw_2 (i_lt rfl) rfl rf_15_3 rfl fl_Py_95 ?_
    refine z_iload C 6 x_Py_aloneOf_52 rfl ?_
    obtain ⟨c2, h⟩ := chk_e h
    obtain ⟨v3, ev3, h⟩ := blet_e h
    refine z_iald C x_Py_aloneOf_54 nk_17 ck_17 c2 ev3 ?_
    refine z_iload_n C 2 x_Py_aloneOf_55 rfl ?_
    rcases ite_e h with ⟨c4, h⟩ | ⟨c4, h⟩
    · refine z_icmp_ne_f (tgt := 94) C x_Py_aloneOf_56 rfl c4 ?_
      refine z_aload_n C 4 x_Py_aloneOf_59 rfl ?_
      refine z_getR (j := 7) C x_Py_aloneOf_60 nk_15 ck_15 cw_2 (i_lt rfl) rfl rf_15_7 rfl fl_Py_74 ?_
      refine z_iload C 6 x_Py_aloneOf_63 rfl ?_
      obtain ⟨c5, h⟩ := chk_e h
      obtain ⟨v6, ev6, h⟩ := blet_e h
      refine z_iald C x_Py_aloneOf_65 nk_21 ck_21 c5 ev6 ?_
      refine z_iload_n C 3 x_Py_aloneOf_66 rfl ?_
      rcases ite_e h with ⟨c7, h⟩ | ⟨c7, h⟩
      · refine z_icmp_ne_f (tgt := 94) C x_Py_aloneOf_67 rfl c7 ?_
        refine z_lload C 5 x_Py_aloneOf_70 rfl ?_
        refine z_aload_n C 1 x_Py_aloneOf_72 rfl ?_
        refine z_getR (j := 7) C x_Py_aloneOf_73 nk_88 ck_88 cw_5 (i_lt rfl) rfl rf_88_7 rfl fl_Py_47 ?_
        refine z_getR (j := 4) C x_Py_aloneOf_76 nk_75 ck_75 cw_6 (i_lt rfl) rfl rf_75_4 rfl fl_Py_86 ?_
        refine z_iload C 6 x_Py_aloneOf_79 rfl ?_
        obtain ⟨c8, h⟩ := chk_e h
        obtain ⟨v9, ev9, h⟩ := blet_e h
        refine z_iald C x_Py_aloneOf_81 nk_76 ck_76 c8 ev9 ?_
        refine z_i2l C x_Py_aloneOf_82 ?_
        refine z_aload_n C 1 x_Py_aloneOf_83 rfl ?_
        refine z_iload C 6 x_Py_aloneOf_84 rfl ?_
        obtain ⟨v10, M11, fv10, h⟩ := bcall_e h
        refine z_callVi (k := 88) C x_Py_aloneOf_86 cv_Py_152 (t_Py_priceOf (lev := lev - 1) l G (by omega) fv10) nk_88 ck_88 rfl (by omega) rfl (i_le rfl) rfl ?_
        refine z_i2l C x_Py_aloneOf_89 ?_
        refine z_lmul C x_Py_aloneOf_90 ?_
        refine z_ladd C x_Py_aloneOf_91 ?_
        obtain ⟨v12, ev12, h⟩ := blet_e h
        refine z_lstore (lv' := [(4, vl v12), (7, vi s0), (0, .ref (G.1 + 88)), (1, vi a1), (2, vi a2), (3, .ref (G.1 + 15)), (6, vi a6)]) C ev12 x_Py_aloneOf_92 (i_lt rfl) rfl ?_
        exact z_sub [2, 3, 4, 5, 0, 6] rfl (z_Py_aloneOf_94 C hlev hR14 h)
      · refine z_icmp_ne_t (tgt := 94) C x_Py_aloneOf_67 rfl c7 ?_
        exact z_sub [1, 2, 3, 4, 5, 6] rfl (z_Py_aloneOf_94 C hlev hR14 h)
    · refine z_icmp_ne_t (tgt := 94) C x_Py_aloneOf_56 rfl c4 ?_
      exact z_sub [1, 2, 3, 4, 5, 6] rfl (z_Py_aloneOf_94 C hlev hR14 h)
def k_Py_aloneOf_14 (R14 : Int → Int → Int → Int → Mem → Res) (a1 a2 a4 a6 : Int) (M : Mem) : Res := blet (M 75 3) fun v1 => if w32 a6 < w32 v1 then (chk (0 ≤ w32 a6 ∧ w32 a6 < 120) <| blet (M 16 (ix a6)) fun v4 => if w32 v4 = 0 then (k_Py_aloneOf_41 R14 a1 a2 a4 a6 1 M) else (k_Py_aloneOf_41 R14 a1 a2 a4 a6 0 M)) else (some (a4, M))
theorem z_Py_aloneOf_14 (C : Cx p s m args meth c G b_Py_aloneOf 8 "PrairiePool$Payments" (some .long)) (hlev : 2 ≤ lev) {r : Int × Mem} {R14 : Int → Int → Int → Int → Mem → Res} (hR14 : ∀ (a1 a2 a4 a6 : Int) (M : Mem), R14 a1 a2 a4 a6 M = some r → Z p l e lev s m args below meth c G 8 (MQ below (Qm G 2 r) args s 0 0 (Ab G)) M 14 [(0, .ref (G.1 + 88)), (1, vi a1), (2, vi a2), (3, .ref (G.1 + 15)), (4, vl a4), (6, vi a6)] []) {a1 a2 a4 a6 : Int} {M : Mem} (h : k_Py_aloneOf_14 R14 a1 a2 a4 a6 M = some r) : Z p l e lev s m args below meth c G 8 (MQ below (Qm G 2 r) args s 0 0 (Ab G)) M 14 [(0, .ref (G.1 + 88)), (1, vi a1), (2, vi a2), (3, .ref (G.1 + 15)), (4, vl a4), (6, vi a6)] [] := by
  unfold k_Py_aloneOf_14 at h
  refine z_iload C 5 x_Py_aloneOf_14 rfl ?_
  refine z_aload_n C 0 x_Py_aloneOf_16 rfl ?_
  refine z_getR (j := 7) C x_Py_aloneOf_17 nk_88 ck_88 cw_5 (i_lt rfl) rfl rf_88_7 rfl fl_Py_47 ?_
  obtain ⟨v1, ev1, h⟩ := blet_e h
  refine z_getI (j := 3) C x_Py_aloneOf_20 nk_75 ck_75 cw_6 (i_lt rfl) rfl rfl fl_Py_67 ev1 ?_
  rcases ite_e h with ⟨c2, h⟩ | ⟨c2, h⟩
  · refine z_icmp_ge_f (tgt := 100) C x_Py_aloneOf_23 rfl c2 ?_
    refine z_aload_n C 3 x_Py_aloneOf_26 rfl ?_
    refine z_getR (j := 2) C x_Py_aloneOf_27 nk_15 ck_15 cw_2 (i_lt rfl) rfl rf_15_2 rfl fl_Py_89 ?_
    refine z_iload C 5 x_Py_aloneOf_30 rfl ?_
    obtain ⟨c3, h⟩ := chk_e h
    obtain ⟨v4, ev4, h⟩ := blet_e h
    refine z_iald C x_Py_aloneOf_32 nk_16 ck_16 c3 ev4 ?_
    rcases ite_e h with ⟨c5, h⟩ | ⟨c5, h⟩
    · refine z_if_ne_f (tgt := 40) C x_Py_aloneOf_33 rfl c5 ?_
      refine z_iconst C x_Py_aloneOf_36 ?_
      refine z_goto (tgt := 41) C x_Py_aloneOf_37 rfl ?_
      exact z_sub [0, 1, 2, 3, 4, 5] rfl (z_Py_aloneOf_41 C hlev hR14 h)
    · refine z_if_ne_t (tgt := 40) C x_Py_aloneOf_33 rfl c5 ?_
      refine z_iconst C x_Py_aloneOf_40 ?_
      exact z_sub [0, 1, 2, 3, 4, 5] rfl (z_Py_aloneOf_41 C hlev hR14 h)
  · refine z_icmp_ge_t (tgt := 100) C x_Py_aloneOf_23 rfl c2 ?_
    refine z_lload C 4 x_Py_aloneOf_100 rfl ?_
    exact z_lret C x_Py_aloneOf_102 h
theorem zl_Py_aloneOf_14 (C : Cx p s m args meth c G b_Py_aloneOf 8 "PrairiePool$Payments" (some .long)) (hlev : 2 ≤ lev) {r : Int × Mem}  : ∀ (n : Nat) (a1 a2 a4 a6 : Int) (M : Mem), fix (fun _ _ _ _ _ => none) (k_Py_aloneOf_14) n a1 a2 a4 a6 M = some r → Z p l e lev s m args below meth c G 8 (MQ below (Qm G 2 r) args s 0 0 (Ab G)) M 14 [(0, .ref (G.1 + 88)), (1, vi a1), (2, vi a2), (3, .ref (G.1 + 15)), (4, vl a4), (6, vi a6)] [] := by
  intro n
  induction n with
  | zero => intro a1 a2 a4 a6 M h; exact nomatch (show (none : Res) = some r from h)
  | succ n ih => intro a1 a2 a4 a6 M h; exact z_Py_aloneOf_14 C hlev ih h
def d_Py_aloneOf (a1 a2 : Int) (M : Mem) : Res := fix (fun _ _ _ _ _ => none) (k_Py_aloneOf_14) FU a1 a2 0 0 M
theorem t_Py_aloneOf (l : Launch) (G : GX) {lev : Nat} (hlev : 2 ≤ lev) {a1 a2 : Int} {M : Mem} {r : Int × Mem} (h : d_Py_aloneOf a1 a2 M = some r) : Mt l G y_Py_aloneOf b_Py_aloneOf 8 (some .long) lev 2 [.ref (G.1 + 88), vi a1, vi a2] M r := by
  refine Mt.of (by decide) (i_le rfl) ?_
  intro p e s m args below meth c C
  have C : Cx p s m args meth c G b_Py_aloneOf 8 "PrairiePool$Payments" (some .long) := C
  unfold d_Py_aloneOf at h
  refine z_sub (lv' := [(0, .ref (G.1 + 88)), (1, vi a1), (2, vi a2)]) [0, 1, 2] rfl ?_
  refine z_aload_n C 0 x_Py_aloneOf_0 rfl ?_
  refine z_getR (j := 7) C x_Py_aloneOf_1 nk_88 ck_88 cw_5 (i_lt rfl) rfl rf_88_7 rfl fl_Py_47 ?_
  refine z_getR (j := 1) C x_Py_aloneOf_4 nk_75 ck_75 cw_6 (i_lt rfl) rfl rf_75_1 rfl fl_Py_70 ?_
  refine z_astore_n (lv' := [(3, .ref (G.1 + 15)), (0, .ref (G.1 + 88)), (1, vi a1), (2, vi a2)]) C rfl x_Py_aloneOf_7 (i_lt rfl) rfl ?_
  refine z_lconst0 C x_Py_aloneOf_8 ?_
  refine z_lstore (lv' := [(4, vl 0), (3, .ref (G.1 + 15)), (0, .ref (G.1 + 88)), (1, vi a1), (2, vi a2)]) C rfl x_Py_aloneOf_9 (i_lt rfl) rfl ?_
  refine z_iconst C x_Py_aloneOf_11 ?_
  refine z_istore (lv' := [(6, vi 0), (4, vl 0), (3, .ref (G.1 + 15)), (0, .ref (G.1 + 88)), (1, vi a1), (2, vi a2)]) C rfl x_Py_aloneOf_12 (i_lt rfl) rfl ?_
  exact z_sub [3, 4, 5, 2, 1, 0] rfl (zl_Py_aloneOf_14 C hlev FU a1 a2 0 0 M h)
theorem x_Py_countBetterOff_0 : DC b_Py_countBetterOff 0 (.iconst 0) 1 1 := ⟨by decide +kernel, rfl⟩
theorem x_Py_countBetterOff_1 : DC b_Py_countBetterOff 1 (.istore_n 2) 1 2 := ⟨by decide +kernel, rfl⟩
theorem x_Py_countBetterOff_2 : DC b_Py_countBetterOff 2 (.iconst 0) 1 3 := ⟨by decide +kernel, rfl⟩
theorem x_Py_countBetterOff_3 : DC b_Py_countBetterOff 3 (.istore_n 3) 1 4 := ⟨by decide +kernel, rfl⟩
theorem x_Py_countBetterOff_4 : DC b_Py_countBetterOff 4 (.iload_n 3) 1 5 := ⟨by decide +kernel, rfl⟩
theorem x_Py_countBetterOff_5 : DC b_Py_countBetterOff 5 (.bipush 20) 2 7 := ⟨by decide +kernel, rfl⟩
theorem x_Py_countBetterOff_7 : DC b_Py_countBetterOff 7 (.if_icmp .ge 28) 3 10 := ⟨by decide +kernel, rfl⟩
theorem x_Py_countBetterOff_10 : DC b_Py_countBetterOff 10 (.aload_n 0) 1 11 := ⟨by decide +kernel, rfl⟩
theorem x_Py_countBetterOff_11 : DC b_Py_countBetterOff 11 (.getfield 38) 3 14 := ⟨by decide +kernel, rfl⟩
theorem x_Py_countBetterOff_14 : DC b_Py_countBetterOff 14 (.iload_n 3) 1 15 := ⟨by decide +kernel, rfl⟩
theorem x_Py_countBetterOff_15 : DC b_Py_countBetterOff 15 (.laload) 1 16 := ⟨by decide +kernel, rfl⟩
theorem x_Py_countBetterOff_16 : DC b_Py_countBetterOff 16 (.aload_n 0) 1 17 := ⟨by decide +kernel, rfl⟩
theorem x_Py_countBetterOff_17 : DC b_Py_countBetterOff 17 (.iload_n 3) 1 18 := ⟨by decide +kernel, rfl⟩
theorem x_Py_countBetterOff_18 : DC b_Py_countBetterOff 18 (.iload_n 1) 1 19 := ⟨by decide +kernel, rfl⟩
theorem x_Py_countBetterOff_19 : DC b_Py_countBetterOff 19 (.invokevirtual 161) 3 22 := ⟨by decide +kernel, rfl⟩
theorem x_Py_countBetterOff_22 : DC b_Py_countBetterOff 22 (.lcmp) 1 23 := ⟨by decide +kernel, rfl⟩
theorem x_Py_countBetterOff_23 : DC b_Py_countBetterOff 23 (.ifCond .le 6) 3 26 := ⟨by decide +kernel, rfl⟩
theorem x_Py_countBetterOff_26 : DC b_Py_countBetterOff 26 (.iinc 2 1) 3 29 := ⟨by decide +kernel, rfl⟩
theorem x_Py_countBetterOff_29 : DC b_Py_countBetterOff 29 (.iinc 3 1) 3 32 := ⟨by decide +kernel, rfl⟩
theorem x_Py_countBetterOff_32 : DC b_Py_countBetterOff 32 (.goto (-28)) 3 35 := ⟨by decide +kernel, rfl⟩
theorem x_Py_countBetterOff_35 : DC b_Py_countBetterOff 35 (.iload_n 2) 1 36 := ⟨by decide +kernel, rfl⟩
theorem x_Py_countBetterOff_36 : DC b_Py_countBetterOff 36 (.ireturn) 1 37 := ⟨by decide +kernel, rfl⟩
def k_Py_countBetterOff_29 (R4 : Int → Int → Int → Mem → Res) (a1 a2 a3 : Int) (M : Mem) : Res := blet (a3 + 1) fun v1 => R4 a1 a2 v1 M
theorem z_Py_countBetterOff_29 (C : Cx p s m args meth c G b_Py_countBetterOff 4 "PrairiePool$Payments" (some .int)) (hlev : 3 ≤ lev) {r : Int × Mem} {R4 : Int → Int → Int → Mem → Res} (hR4 : ∀ (a1 a2 a3 : Int) (M : Mem), R4 a1 a2 a3 M = some r → Z p l e lev s m args below meth c G 4 (MQ below (Qm G 1 r) args s 0 0 (Ab G)) M 4 [(0, .ref (G.1 + 88)), (1, vi a1), (2, vi a2), (3, vi a3)] []) {a1 a2 a3 : Int} {M : Mem} (h : k_Py_countBetterOff_29 R4 a1 a2 a3 M = some r) : Z p l e lev s m args below meth c G 4 (MQ below (Qm G 1 r) args s 0 0 (Ab G)) M 29 [(0, .ref (G.1 + 88)), (1, vi a1), (2, vi a2), (3, vi a3)] [] := by
  unfold k_Py_countBetterOff_29 at h
  obtain ⟨v1, ev1, h⟩ := blet_e h
  refine z_iinc (lv' := [(3, vi v1), (0, .ref (G.1 + 88)), (1, vi a1), (2, vi a2)]) C 3 ev1 x_Py_countBetterOff_29 rfl (i_lt rfl) rfl ?_
  refine z_goto (tgt := 4) C x_Py_countBetterOff_32 rfl ?_
  exact z_sub [1, 2, 3, 0] rfl (hR4 a1 a2 v1 M h)
def k_Py_countBetterOff_4 (R4 : Int → Int → Int → Mem → Res) (a1 a2 a3 : Int) (M : Mem) : Res := if w32 a3 < 20 then (chk (0 ≤ w32 a3 ∧ w32 a3 < 20) <| blet (M 95 (ix a3)) fun v3 => bcall (d_Py_aloneOf a3 a1 M) fun v4 M5 => if w64 v4 < w64 v3 then (blet (a2 + 1) fun v7 => k_Py_countBetterOff_29 R4 a1 v7 a3 M5) else (k_Py_countBetterOff_29 R4 a1 a2 a3 M5)) else (some (a2, M))
theorem z_Py_countBetterOff_4 (C : Cx p s m args meth c G b_Py_countBetterOff 4 "PrairiePool$Payments" (some .int)) (hlev : 3 ≤ lev) {r : Int × Mem} {R4 : Int → Int → Int → Mem → Res} (hR4 : ∀ (a1 a2 a3 : Int) (M : Mem), R4 a1 a2 a3 M = some r → Z p l e lev s m args below meth c G 4 (MQ below (Qm G 1 r) args s 0 0 (Ab G)) M 4 [(0, .ref (G.1 + 88)), (1, vi a1), (2, vi a2), (3, vi a3)] []) {a1 a2 a3 : Int} {M : Mem} (h : k_Py_countBetterOff_4 R4 a1 a2 a3 M = some r) : Z p l e lev s m args below meth c G 4 (MQ below (Qm G 1 r) args s 0 0 (Ab G)) M 4 [(0, .ref (G.1 + 88)), (1, vi a1), (2, vi a2), (3, vi a3)] [] := by
  unfold k_Py_countBetterOff_4 at h
  refine z_iload_n C 3 x_Py_countBetterOff_4 rfl ?_
  refine z_bipush C rfl x_Py_countBetterOff_5 ?_
  rcases ite_e h with ⟨c1, h⟩ | ⟨c1, h⟩
  · refine z_icmp_ge_f (tgt := 35) C x_Py_countBetterOff_7 rfl c1 ?_
    refine z_aload_n C 0 x_Py_countBetterOff_10 rfl ?_
    refine z_getR (j := 12) C x_Py_countBetterOff_11 nk_88 ck_88 cw_5 (i_lt rfl) rfl rf_88_12 rfl fl_Py_38 ?_
    refine z_iload_n C 3 x_Py_countBetterOff_14 rfl ?_
    obtain ⟨c2, h⟩ := chk_e h
    obtain ⟨v3, ev3, h⟩ := blet_e h
    refine z_lald C x_Py_countBetterOff_15 nk_95 ck_95 c2 ev3 ?_
    refine z_aload_n C 0 x_Py_countBetterOff_16 rfl ?_
    refine z_iload_n C 3 x_Py_countBetterOff_17 rfl ?_
    refine z_iload_n C 1 x_Py_countBetterOff_18 rfl ?_
    obtain ⟨v4, M5, fv4, h⟩ := bcall_e h
    refine z_callVl (k := 88) C x_Py_countBetterOff_19 cv_Py_161 (t_Py_aloneOf (lev := lev - 1) l G (by omega) fv4) nk_88 ck_88 rfl (by omega) rfl (i_le rfl) rfl ?_
    refine z_lcmp C x_Py_countBetterOff_22 ?_
    rcases ite_e h with ⟨c6, h⟩ | ⟨c6, h⟩
    · refine z_if_le_f (tgt := 29) C x_Py_countBetterOff_23 rfl (cm_gt.mpr c6) ?_
      obtain ⟨v7, ev7, h⟩ := blet_e h
      refine z_iinc (lv' := [(2, vi v7), (0, .ref (G.1 + 88)), (1, vi a1), (3, vi a3)]) C 2 ev7 x_Py_countBetterOff_26 rfl (i_lt rfl) rfl ?_
      exact z_sub [1, 2, 0, 3] rfl (z_Py_countBetterOff_29 C hlev hR4 h)
    · refine z_if_le_t (tgt := 29) C x_Py_countBetterOff_23 rfl (fun q => c6 (cm_gt.mp q)) ?_
      exact z_sub [0, 1, 2, 3] rfl (z_Py_countBetterOff_29 C hlev hR4 h)
  · refine z_icmp_ge_t (tgt := 35) C x_Py_countBetterOff_7 rfl c1 ?_
    refine z_iload_n C 2 x_Py_countBetterOff_35 rfl ?_
    exact z_iret C x_Py_countBetterOff_36 h
theorem zl_Py_countBetterOff_4 (C : Cx p s m args meth c G b_Py_countBetterOff 4 "PrairiePool$Payments" (some .int)) (hlev : 3 ≤ lev) {r : Int × Mem}  : ∀ (n : Nat) (a1 a2 a3 : Int) (M : Mem), fix (fun _ _ _ _ => none) (k_Py_countBetterOff_4) n a1 a2 a3 M = some r → Z p l e lev s m args below meth c G 4 (MQ below (Qm G 1 r) args s 0 0 (Ab G)) M 4 [(0, .ref (G.1 + 88)), (1, vi a1), (2, vi a2), (3, vi a3)] [] := by
  intro n
  induction n with
  | zero => intro a1 a2 a3 M h; exact nomatch (show (none : Res) = some r from h)
  | succ n ih => intro a1 a2 a3 M h; exact z_Py_countBetterOff_4 C hlev ih h
def d_Py_countBetterOff (a1 : Int) (M : Mem) : Res := fix (fun _ _ _ _ => none) (k_Py_countBetterOff_4) FU a1 0 0 M
theorem t_Py_countBetterOff (l : Launch) (G : GX) {lev : Nat} (hlev : 3 ≤ lev) {a1 : Int} {M : Mem} {r : Int × Mem} (h : d_Py_countBetterOff a1 M = some r) : Mt l G y_Py_countBetterOff b_Py_countBetterOff 4 (some .int) lev 1 [.ref (G.1 + 88), vi a1] M r := by
  refine Mt.of (by decide) (i_le rfl) ?_
  intro p e s m args below meth c C
  have C : Cx p s m args meth c G b_Py_countBetterOff 4 "PrairiePool$Payments" (some .int) := C
  unfold d_Py_countBetterOff at h
  refine z_sub (lv' := [(0, .ref (G.1 + 88)), (1, vi a1)]) [0, 1] rfl ?_
  refine z_iconst C x_Py_countBetterOff_0 ?_
  refine z_istore_n (lv' := [(2, vi 0), (0, .ref (G.1 + 88)), (1, vi a1)]) C rfl x_Py_countBetterOff_1 (i_lt rfl) rfl ?_
  refine z_iconst C x_Py_countBetterOff_2 ?_
  refine z_istore_n (lv' := [(3, vi 0), (2, vi 0), (0, .ref (G.1 + 88)), (1, vi a1)]) C rfl x_Py_countBetterOff_3 (i_lt rfl) rfl ?_
  exact z_sub [2, 3, 1, 0] rfl (zl_Py_countBetterOff_4 C hlev FU a1 0 0 M h)
theorem x_Ou_penceFor_0 : DC b_Ou_penceFor 0 (.aload_n 0) 1 1 := ⟨by decide +kernel, rfl⟩
theorem x_Ou_penceFor_1 : DC b_Ou_penceFor 1 (.getfield 24) 3 4 := ⟨by decide +kernel, rfl⟩
theorem x_Ou_penceFor_4 : DC b_Ou_penceFor 4 (.aload_n 0) 1 5 := ⟨by decide +kernel, rfl⟩
theorem x_Ou_penceFor_5 : DC b_Ou_penceFor 5 (.getfield 11) 3 8 := ⟨by decide +kernel, rfl⟩
theorem x_Ou_penceFor_8 : DC b_Ou_penceFor 8 (.iload_n 1) 1 9 := ⟨by decide +kernel, rfl⟩
theorem x_Ou_penceFor_9 : DC b_Ou_penceFor 9 (.iaload) 1 10 := ⟨by decide +kernel, rfl⟩
theorem x_Ou_penceFor_10 : DC b_Ou_penceFor 10 (.aload_n 0) 1 11 := ⟨by decide +kernel, rfl⟩
theorem x_Ou_penceFor_11 : DC b_Ou_penceFor 11 (.getfield 15) 3 14 := ⟨by decide +kernel, rfl⟩
theorem x_Ou_penceFor_14 : DC b_Ou_penceFor 14 (.iload_n 1) 1 15 := ⟨by decide +kernel, rfl⟩
theorem x_Ou_penceFor_15 : DC b_Ou_penceFor 15 (.iaload) 1 16 := ⟨by decide +kernel, rfl⟩
theorem x_Ou_penceFor_16 : DC b_Ou_penceFor 16 (.bipush 52) 2 18 := ⟨by decide +kernel, rfl⟩
theorem x_Ou_penceFor_18 : DC b_Ou_penceFor 18 (.idiv) 1 19 := ⟨by decide +kernel, rfl⟩
theorem x_Ou_penceFor_19 : DC b_Ou_penceFor 19 (.invokevirtual 36) 3 22 := ⟨by decide +kernel, rfl⟩
theorem x_Ou_penceFor_22 : DC b_Ou_penceFor 22 (.ifCond .ne 5) 3 25 := ⟨by decide +kernel, rfl⟩
theorem x_Ou_penceFor_25 : DC b_Ou_penceFor 25 (.iconst 0) 1 26 := ⟨by decide +kernel, rfl⟩
theorem x_Ou_penceFor_26 : DC b_Ou_penceFor 26 (.ireturn) 1 27 := ⟨by decide +kernel, rfl⟩
theorem x_Ou_penceFor_27 : DC b_Ou_penceFor 27 (.aload_n 0) 1 28 := ⟨by decide +kernel, rfl⟩
theorem x_Ou_penceFor_28 : DC b_Ou_penceFor 28 (.getfield 28) 3 31 := ⟨by decide +kernel, rfl⟩
theorem x_Ou_penceFor_31 : DC b_Ou_penceFor 31 (.aload_n 0) 1 32 := ⟨by decide +kernel, rfl⟩
theorem x_Ou_penceFor_32 : DC b_Ou_penceFor 32 (.getfield 15) 3 35 := ⟨by decide +kernel, rfl⟩
theorem x_Ou_penceFor_35 : DC b_Ou_penceFor 35 (.iload_n 1) 1 36 := ⟨by decide +kernel, rfl⟩
theorem x_Ou_penceFor_36 : DC b_Ou_penceFor 36 (.iaload) 1 37 := ⟨by decide +kernel, rfl⟩
theorem x_Ou_penceFor_37 : DC b_Ou_penceFor 37 (.invokevirtual 42) 3 40 := ⟨by decide +kernel, rfl⟩
theorem x_Ou_penceFor_40 : DC b_Ou_penceFor 40 (.aload_n 0) 1 41 := ⟨by decide +kernel, rfl⟩
theorem x_Ou_penceFor_41 : DC b_Ou_penceFor 41 (.getfield 28) 3 44 := ⟨by decide +kernel, rfl⟩
theorem x_Ou_penceFor_44 : DC b_Ou_penceFor 44 (.aload_n 0) 1 45 := ⟨by decide +kernel, rfl⟩
theorem x_Ou_penceFor_45 : DC b_Ou_penceFor 45 (.getfield 15) 3 48 := ⟨by decide +kernel, rfl⟩
theorem x_Ou_penceFor_48 : DC b_Ou_penceFor 48 (.iload_n 1) 1 49 := ⟨by decide +kernel, rfl⟩
theorem x_Ou_penceFor_49 : DC b_Ou_penceFor 49 (.iaload) 1 50 := ⟨by decide +kernel, rfl⟩
theorem x_Ou_penceFor_50 : DC b_Ou_penceFor 50 (.invokevirtual 48) 3 53 := ⟨by decide +kernel, rfl⟩
theorem x_Ou_penceFor_53 : DC b_Ou_penceFor 53 (.aload_n 0) 1 54 := ⟨by decide +kernel, rfl⟩
theorem x_Ou_penceFor_54 : DC b_Ou_penceFor 54 (.getfield 24) 3 57 := ⟨by decide +kernel, rfl⟩
theorem x_Ou_penceFor_57 : DC b_Ou_penceFor 57 (.aload_n 0) 1 58 := ⟨by decide +kernel, rfl⟩
theorem x_Ou_penceFor_58 : DC b_Ou_penceFor 58 (.getfield 11) 3 61 := ⟨by decide +kernel, rfl⟩
theorem x_Ou_penceFor_61 : DC b_Ou_penceFor 61 (.iload_n 1) 1 62 := ⟨by decide +kernel, rfl⟩
theorem x_Ou_penceFor_62 : DC b_Ou_penceFor 62 (.iaload) 1 63 := ⟨by decide +kernel, rfl⟩
theorem x_Ou_penceFor_63 : DC b_Ou_penceFor 63 (.aload_n 0) 1 64 := ⟨by decide +kernel, rfl⟩
theorem x_Ou_penceFor_64 : DC b_Ou_penceFor 64 (.getfield 28) 3 67 := ⟨by decide +kernel, rfl⟩
theorem x_Ou_penceFor_67 : DC b_Ou_penceFor 67 (.invokevirtual 51) 3 70 := ⟨by decide +kernel, rfl⟩
theorem x_Ou_penceFor_70 : DC b_Ou_penceFor 70 (.aload_n 0) 1 71 := ⟨by decide +kernel, rfl⟩
theorem x_Ou_penceFor_71 : DC b_Ou_penceFor 71 (.getfield 28) 3 74 := ⟨by decide +kernel, rfl⟩
theorem x_Ou_penceFor_74 : DC b_Ou_penceFor 74 (.iconst 4) 1 75 := ⟨by decide +kernel, rfl⟩
theorem x_Ou_penceFor_75 : DC b_Ou_penceFor 75 (.aload_n 0) 1 76 := ⟨by decide +kernel, rfl⟩
theorem x_Ou_penceFor_76 : DC b_Ou_penceFor 76 (.getfield 18) 3 79 := ⟨by decide +kernel, rfl⟩
theorem x_Ou_penceFor_79 : DC b_Ou_penceFor 79 (.iload_n 1) 1 80 := ⟨by decide +kernel, rfl⟩
theorem x_Ou_penceFor_80 : DC b_Ou_penceFor 80 (.iaload) 1 81 := ⟨by decide +kernel, rfl⟩
theorem x_Ou_penceFor_81 : DC b_Ou_penceFor 81 (.i2l) 1 82 := ⟨by decide +kernel, rfl⟩
theorem x_Ou_penceFor_82 : DC b_Ou_penceFor 82 (.invokevirtual 55) 3 85 := ⟨by decide +kernel, rfl⟩
theorem x_Ou_penceFor_85 : DC b_Ou_penceFor 85 (.aload_n 0) 1 86 := ⟨by decide +kernel, rfl⟩
theorem x_Ou_penceFor_86 : DC b_Ou_penceFor 86 (.getfield 28) 3 89 := ⟨by decide +kernel, rfl⟩
theorem x_Ou_penceFor_89 : DC b_Ou_penceFor 89 (.bipush 10) 2 91 := ⟨by decide +kernel, rfl⟩
theorem x_Ou_penceFor_91 : DC b_Ou_penceFor 91 (.aload_n 0) 1 92 := ⟨by decide +kernel, rfl⟩
theorem x_Ou_penceFor_92 : DC b_Ou_penceFor 92 (.getfield 21) 3 95 := ⟨by decide +kernel, rfl⟩
theorem x_Ou_penceFor_95 : DC b_Ou_penceFor 95 (.iload_n 1) 1 96 := ⟨by decide +kernel, rfl⟩
theorem x_Ou_penceFor_96 : DC b_Ou_penceFor 96 (.iaload) 1 97 := ⟨by decide +kernel, rfl⟩
theorem x_Ou_penceFor_97 : DC b_Ou_penceFor 97 (.i2l) 1 98 := ⟨by decide +kernel, rfl⟩
theorem x_Ou_penceFor_98 : DC b_Ou_penceFor 98 (.invokevirtual 55) 3 101 := ⟨by decide +kernel, rfl⟩
theorem x_Ou_penceFor_101 : DC b_Ou_penceFor 101 (.aload_n 0) 1 102 := ⟨by decide +kernel, rfl⟩
theorem x_Ou_penceFor_102 : DC b_Ou_penceFor 102 (.getfield 28) 3 105 := ⟨by decide +kernel, rfl⟩
theorem x_Ou_penceFor_105 : DC b_Ou_penceFor 105 (.iconst 4) 1 106 := ⟨by decide +kernel, rfl⟩
theorem x_Ou_penceFor_106 : DC b_Ou_penceFor 106 (.invokevirtual 59) 3 109 := ⟨by decide +kernel, rfl⟩
theorem x_Ou_penceFor_109 : DC b_Ou_penceFor 109 (.ireturn) 1 110 := ⟨by decide +kernel, rfl⟩
def d_Ou_penceFor (a1 : Int) (M : Mem) : Res := chk (0 ≤ w32 a1 ∧ w32 a1 < 60) <| blet (M 99 (ix a1)) fun v2 => chk (0 ≤ w32 a1 ∧ w32 a1 < 60) <| blet (M 100 (ix a1)) fun v4 => bcall (d_Pr_isBound v2 (dv32 v4 52) M) fun v5 M6 => if w32 v5 = 0 then (some (0, M6)) else (chk (0 ≤ w32 a1 ∧ w32 a1 < 60) <| blet (M6 100 (ix a1)) fun v9 => bcall (d_As_begin v9 M6) fun v10 M11 => chk (0 ≤ w32 a1 ∧ w32 a1 < 60) <| blet (M11 100 (ix a1)) fun v13 => bcall (d_As_tellWeek v13 M11) fun v14 M15 => chk (0 ≤ w32 a1 ∧ w32 a1 < 60) <| blet (M15 99 (ix a1)) fun v17 => bcall (d_Pr_tellOf v17 M15) fun v18 M19 => chk (0 ≤ w32 a1 ∧ w32 a1 < 60) <| blet (M19 101 (ix a1)) fun v21 => bcall (d_As_tell 4 (w32 v21) M19) fun v22 M23 => chk (0 ≤ w32 a1 ∧ w32 a1 < 60) <| blet (M23 102 (ix a1)) fun v25 => bcall (d_As_tell 10 (w32 v25) M23) fun v26 M27 => bcall (d_As_ask 4 M27) fun v28 M29 => some (v28, M29))
theorem t_Ou_penceFor (l : Launch) (G : GX) {lev : Nat} (hlev : 5 ≤ lev) {a1 : Int} {M : Mem} {r : Int × Mem} (h : d_Ou_penceFor a1 M = some r) : Mt l G y_Ou_penceFor b_Ou_penceFor 2 (some .int) lev 1 [.ref (G.1 + 98), vi a1] M r := by
  refine Mt.of (by decide) (i_le rfl) ?_
  intro p e s m args below meth c C
  have C : Cx p s m args meth c G b_Ou_penceFor 2 "PrairiePool$Outsides" (some .int) := C
  unfold d_Ou_penceFor at h
  refine z_sub (lv' := [(0, .ref (G.1 + 98)), (1, vi a1)]) [0, 1] rfl ?_
  refine z_aload_n C 0 x_Ou_penceFor_0 rfl ?_
  refine z_getR (j := 1) C x_Ou_penceFor_1 nk_98 ck_98 cw_3 (i_lt rfl) rfl rf_98_1 rfl fl_Ou_24 ?_
  refine z_aload_n C 0 x_Ou_penceFor_4 rfl ?_
  refine z_getR (j := 3) C x_Ou_penceFor_5 nk_98 ck_98 cw_3 (i_lt rfl) rfl rf_98_3 rfl fl_Ou_11 ?_
  refine z_iload_n C 1 x_Ou_penceFor_8 rfl ?_
  obtain ⟨c1, h⟩ := chk_e h
  obtain ⟨v2, ev2, h⟩ := blet_e h
  refine z_iald C x_Ou_penceFor_9 nk_99 ck_99 c1 ev2 ?_
  refine z_aload_n C 0 x_Ou_penceFor_10 rfl ?_
  refine z_getR (j := 4) C x_Ou_penceFor_11 nk_98 ck_98 cw_3 (i_lt rfl) rfl rf_98_4 rfl fl_Ou_15 ?_
  refine z_iload_n C 1 x_Ou_penceFor_14 rfl ?_
  obtain ⟨c3, h⟩ := chk_e h
  obtain ⟨v4, ev4, h⟩ := blet_e h
  refine z_iald C x_Ou_penceFor_15 nk_100 ck_100 c3 ev4 ?_
  refine z_bipush C rfl x_Ou_penceFor_16 ?_
  refine z_idiv C (by decide) x_Ou_penceFor_18 ?_
  obtain ⟨v5, M6, fv5, h⟩ := bcall_e h
  refine z_callVi (k := 5) C x_Ou_penceFor_19 cv_Ou_36 (t_Pr_isBound (lev := lev - 1) l G (by omega) fv5) nk_5 ck_5 rfl (by omega) rfl (i_le rfl) rfl ?_
  rcases ite_e h with ⟨c7, h⟩ | ⟨c7, h⟩
  · refine z_if_ne_f (tgt := 27) C x_Ou_penceFor_22 rfl c7 ?_
    refine z_iconst C x_Ou_penceFor_25 ?_
    exact z_iret C x_Ou_penceFor_26 h
  · refine z_if_ne_t (tgt := 27) C x_Ou_penceFor_22 rfl c7 ?_
    refine z_aload_n C 0 x_Ou_penceFor_27 rfl ?_
    refine z_getR (j := 2) C x_Ou_penceFor_28 nk_98 ck_98 cw_3 (i_lt rfl) rfl rf_98_2 rfl fl_Ou_28 ?_
    refine z_aload_n C 0 x_Ou_penceFor_31 rfl ?_
    refine z_getR (j := 4) C x_Ou_penceFor_32 nk_98 ck_98 cw_3 (i_lt rfl) rfl rf_98_4 rfl fl_Ou_15 ?_
    refine z_iload_n C 1 x_Ou_penceFor_35 rfl ?_
    obtain ⟨c8, h⟩ := chk_e h
    obtain ⟨v9, ev9, h⟩ := blet_e h
    refine z_iald C x_Ou_penceFor_36 nk_100 ck_100 c8 ev9 ?_
    obtain ⟨v10, M11, fv10, h⟩ := bcall_e h
    refine z_callVv (k := 32) C x_Ou_penceFor_37 cv_Ou_42 (t_As_begin (lev := lev - 1) l G (by omega) fv10) nk_32 ck_32 rfl (by omega) rfl (i_le rfl) rfl ?_
    refine z_aload_n C 0 x_Ou_penceFor_40 rfl ?_
    refine z_getR (j := 2) C x_Ou_penceFor_41 nk_98 ck_98 cw_3 (i_lt rfl) rfl rf_98_2 rfl fl_Ou_28 ?_
    refine z_aload_n C 0 x_Ou_penceFor_44 rfl ?_
    refine z_getR (j := 4) C x_Ou_penceFor_45 nk_98 ck_98 cw_3 (i_lt rfl) rfl rf_98_4 rfl fl_Ou_15 ?_
    refine z_iload_n C 1 x_Ou_penceFor_48 rfl ?_
    obtain ⟨c12, h⟩ := chk_e h
    obtain ⟨v13, ev13, h⟩ := blet_e h
    refine z_iald C x_Ou_penceFor_49 nk_100 ck_100 c12 ev13 ?_
    obtain ⟨v14, M15, fv14, h⟩ := bcall_e h
    refine z_callVv (k := 32) C x_Ou_penceFor_50 cv_Ou_48 (t_As_tellWeek (lev := lev - 1) l G (by omega) fv14) nk_32 ck_32 rfl (by omega) rfl (i_le rfl) rfl ?_
    refine z_aload_n C 0 x_Ou_penceFor_53 rfl ?_
    refine z_getR (j := 1) C x_Ou_penceFor_54 nk_98 ck_98 cw_3 (i_lt rfl) rfl rf_98_1 rfl fl_Ou_24 ?_
    refine z_aload_n C 0 x_Ou_penceFor_57 rfl ?_
    refine z_getR (j := 3) C x_Ou_penceFor_58 nk_98 ck_98 cw_3 (i_lt rfl) rfl rf_98_3 rfl fl_Ou_11 ?_
    refine z_iload_n C 1 x_Ou_penceFor_61 rfl ?_
    obtain ⟨c16, h⟩ := chk_e h
    obtain ⟨v17, ev17, h⟩ := blet_e h
    refine z_iald C x_Ou_penceFor_62 nk_99 ck_99 c16 ev17 ?_
    refine z_aload_n C 0 x_Ou_penceFor_63 rfl ?_
    refine z_getR (j := 2) C x_Ou_penceFor_64 nk_98 ck_98 cw_3 (i_lt rfl) rfl rf_98_2 rfl fl_Ou_28 ?_
    obtain ⟨v18, M19, fv18, h⟩ := bcall_e h
    refine z_callVv (k := 5) C x_Ou_penceFor_67 cv_Ou_51 (t_Pr_tellOf (lev := lev - 1) l G (by omega) fv18) nk_5 ck_5 rfl (by omega) rfl (i_le rfl) rfl ?_
    refine z_aload_n C 0 x_Ou_penceFor_70 rfl ?_
    refine z_getR (j := 2) C x_Ou_penceFor_71 nk_98 ck_98 cw_3 (i_lt rfl) rfl rf_98_2 rfl fl_Ou_28 ?_
    refine z_iconst C x_Ou_penceFor_74 ?_
    refine z_aload_n C 0 x_Ou_penceFor_75 rfl ?_
    refine z_getR (j := 5) C x_Ou_penceFor_76 nk_98 ck_98 cw_3 (i_lt rfl) rfl rf_98_5 rfl fl_Ou_18 ?_
    refine z_iload_n C 1 x_Ou_penceFor_79 rfl ?_
    obtain ⟨c20, h⟩ := chk_e h
    obtain ⟨v21, ev21, h⟩ := blet_e h
    refine z_iald C x_Ou_penceFor_80 nk_101 ck_101 c20 ev21 ?_
    refine z_i2l C x_Ou_penceFor_81 ?_
    obtain ⟨v22, M23, fv22, h⟩ := bcall_e h
    refine z_callVv (k := 32) C x_Ou_penceFor_82 cv_Ou_55 (t_As_tell (lev := lev - 1) l G (by omega) fv22) nk_32 ck_32 rfl (by omega) rfl (i_le rfl) rfl ?_
    refine z_aload_n C 0 x_Ou_penceFor_85 rfl ?_
    refine z_getR (j := 2) C x_Ou_penceFor_86 nk_98 ck_98 cw_3 (i_lt rfl) rfl rf_98_2 rfl fl_Ou_28 ?_
    refine z_bipush C rfl x_Ou_penceFor_89 ?_
    refine z_aload_n C 0 x_Ou_penceFor_91 rfl ?_
    refine z_getR (j := 6) C x_Ou_penceFor_92 nk_98 ck_98 cw_3 (i_lt rfl) rfl rf_98_6 rfl fl_Ou_21 ?_
    refine z_iload_n C 1 x_Ou_penceFor_95 rfl ?_
    obtain ⟨c24, h⟩ := chk_e h
    obtain ⟨v25, ev25, h⟩ := blet_e h
    refine z_iald C x_Ou_penceFor_96 nk_102 ck_102 c24 ev25 ?_
    refine z_i2l C x_Ou_penceFor_97 ?_
    obtain ⟨v26, M27, fv26, h⟩ := bcall_e h
    refine z_callVv (k := 32) C x_Ou_penceFor_98 cv_Ou_55 (t_As_tell (lev := lev - 1) l G (by omega) fv26) nk_32 ck_32 rfl (by omega) rfl (i_le rfl) rfl ?_
    refine z_aload_n C 0 x_Ou_penceFor_101 rfl ?_
    refine z_getR (j := 2) C x_Ou_penceFor_102 nk_98 ck_98 cw_3 (i_lt rfl) rfl rf_98_2 rfl fl_Ou_28 ?_
    refine z_iconst C x_Ou_penceFor_105 ?_
    obtain ⟨v28, M29, fv28, h⟩ := bcall_e h
    refine z_callVi (k := 32) C x_Ou_penceFor_106 cv_Ou_59 (t_As_ask (lev := lev - 1) l G (by omega) fv28) nk_32 ck_32 rfl (by omega) rfl (i_le rfl) rfl ?_
    exact z_iret C x_Ou_penceFor_109 h
theorem x_Ou_costOf_0 : DC b_Ou_costOf 0 (.lconst 0) 1 1 := ⟨by decide +kernel, rfl⟩
theorem x_Ou_costOf_1 : DC b_Ou_costOf 1 (.lstore_n 3) 1 2 := ⟨by decide +kernel, rfl⟩
theorem x_Ou_costOf_2 : DC b_Ou_costOf 2 (.iconst 0) 1 3 := ⟨by decide +kernel, rfl⟩
theorem x_Ou_costOf_3 : DC b_Ou_costOf 3 (.istore 5) 2 5 := ⟨by decide +kernel, rfl⟩
theorem x_Ou_costOf_5 : DC b_Ou_costOf 5 (.iload 5) 2 7 := ⟨by decide +kernel, rfl⟩
theorem x_Ou_costOf_7 : DC b_Ou_costOf 7 (.aload_n 0) 1 8 := ⟨by decide +kernel, rfl⟩
theorem x_Ou_costOf_8 : DC b_Ou_costOf 8 (.getfield 32) 3 11 := ⟨by decide +kernel, rfl⟩
theorem x_Ou_costOf_11 : DC b_Ou_costOf 11 (.if_icmp .ge 53) 3 14 := ⟨by decide +kernel, rfl⟩
theorem x_Ou_costOf_14 : DC b_Ou_costOf 14 (.aload_n 0) 1 15 := ⟨by decide +kernel, rfl⟩
theorem x_Ou_costOf_15 : DC b_Ou_costOf 15 (.getfield 11) 3 18 := ⟨by decide +kernel, rfl⟩
theorem x_Ou_costOf_18 : DC b_Ou_costOf 18 (.iload 5) 2 20 := ⟨by decide +kernel, rfl⟩
theorem x_Ou_costOf_20 : DC b_Ou_costOf 20 (.iaload) 1 21 := ⟨by decide +kernel, rfl⟩
theorem x_Ou_costOf_21 : DC b_Ou_costOf 21 (.iload_n 1) 1 22 := ⟨by decide +kernel, rfl⟩
theorem x_Ou_costOf_22 : DC b_Ou_costOf 22 (.if_icmp .ne 36) 3 25 := ⟨by decide +kernel, rfl⟩
theorem x_Ou_costOf_25 : DC b_Ou_costOf 25 (.aload_n 0) 1 26 := ⟨by decide +kernel, rfl⟩
theorem x_Ou_costOf_26 : DC b_Ou_costOf 26 (.getfield 15) 3 29 := ⟨by decide +kernel, rfl⟩
theorem x_Ou_costOf_29 : DC b_Ou_costOf 29 (.iload 5) 2 31 := ⟨by decide +kernel, rfl⟩
theorem x_Ou_costOf_31 : DC b_Ou_costOf 31 (.iaload) 1 32 := ⟨by decide +kernel, rfl⟩
theorem x_Ou_costOf_32 : DC b_Ou_costOf 32 (.bipush 52) 2 34 := ⟨by decide +kernel, rfl⟩
theorem x_Ou_costOf_34 : DC b_Ou_costOf 34 (.idiv) 1 35 := ⟨by decide +kernel, rfl⟩
theorem x_Ou_costOf_35 : DC b_Ou_costOf 35 (.iload_n 2) 1 36 := ⟨by decide +kernel, rfl⟩
theorem x_Ou_costOf_36 : DC b_Ou_costOf 36 (.if_icmp .ne 22) 3 39 := ⟨by decide +kernel, rfl⟩
theorem x_Ou_costOf_39 : DC b_Ou_costOf 39 (.lload_n 3) 1 40 := ⟨by decide +kernel, rfl⟩
theorem x_Ou_costOf_40 : DC b_Ou_costOf 40 (.aload_n 0) 1 41 := ⟨by decide +kernel, rfl⟩
theorem x_Ou_costOf_41 : DC b_Ou_costOf 41 (.iload 5) 2 43 := ⟨by decide +kernel, rfl⟩
theorem x_Ou_costOf_43 : DC b_Ou_costOf 43 (.invokevirtual 63) 3 46 := ⟨by decide +kernel, rfl⟩
theorem x_Ou_costOf_46 : DC b_Ou_costOf 46 (.i2l) 1 47 := ⟨by decide +kernel, rfl⟩
theorem x_Ou_costOf_47 : DC b_Ou_costOf 47 (.aload_n 0) 1 48 := ⟨by decide +kernel, rfl⟩
theorem x_Ou_costOf_48 : DC b_Ou_costOf 48 (.getfield 18) 3 51 := ⟨by decide +kernel, rfl⟩
theorem x_Ou_costOf_51 : DC b_Ou_costOf 51 (.iload 5) 2 53 := ⟨by decide +kernel, rfl⟩
theorem x_Ou_costOf_53 : DC b_Ou_costOf 53 (.iaload) 1 54 := ⟨by decide +kernel, rfl⟩
theorem x_Ou_costOf_54 : DC b_Ou_costOf 54 (.i2l) 1 55 := ⟨by decide +kernel, rfl⟩
theorem x_Ou_costOf_55 : DC b_Ou_costOf 55 (.lmul) 1 56 := ⟨by decide +kernel, rfl⟩
theorem x_Ou_costOf_56 : DC b_Ou_costOf 56 (.ladd) 1 57 := ⟨by decide +kernel, rfl⟩
theorem x_Ou_costOf_57 : DC b_Ou_costOf 57 (.lstore_n 3) 1 58 := ⟨by decide +kernel, rfl⟩
theorem x_Ou_costOf_58 : DC b_Ou_costOf 58 (.iinc 5 1) 3 61 := ⟨by decide +kernel, rfl⟩
theorem x_Ou_costOf_61 : DC b_Ou_costOf 61 (.goto (-56)) 3 64 := ⟨by decide +kernel, rfl⟩
theorem x_Ou_costOf_64 : DC b_Ou_costOf 64 (.lload_n 3) 1 65 := ⟨by decide +kernel, rfl⟩
theorem x_Ou_costOf_65 : DC b_Ou_costOf 65 (.lreturn) 1 66 := ⟨by decide +kernel, rfl⟩
def k_Ou_costOf_58 (R5 : Int → Int → Int → Int → Mem → Res) (a1 a2 a3 a5 : Int) (M : Mem) : Res := blet (a5 + 1) fun v1 => R5 a1 a2 a3 v1 M
theorem z_Ou_costOf_58 (C : Cx p s m args meth c G b_Ou_costOf 6 "PrairiePool$Outsides" (some .long)) (hlev : 6 ≤ lev) {r : Int × Mem} {R5 : Int → Int → Int → Int → Mem → Res} (hR5 : ∀ (a1 a2 a3 a5 : Int) (M : Mem), R5 a1 a2 a3 a5 M = some r → Z p l e lev s m args below meth c G 6 (MQ below (Qm G 2 r) args s 0 0 (Ab G)) M 5 [(0, .ref (G.1 + 98)), (1, vi a1), (2, vi a2), (3, vl a3), (5, vi a5)] []) {a1 a2 a3 a5 : Int} {M : Mem} (h : k_Ou_costOf_58 R5 a1 a2 a3 a5 M = some r) : Z p l e lev s m args below meth c G 6 (MQ below (Qm G 2 r) args s 0 0 (Ab G)) M 58 [(0, .ref (G.1 + 98)), (1, vi a1), (2, vi a2), (3, vl a3), (5, vi a5)] [] := by
  unfold k_Ou_costOf_58 at h
  obtain ⟨v1, ev1, h⟩ := blet_e h
  refine z_iinc (lv' := [(5, vi v1), (0, .ref (G.1 + 98)), (1, vi a1), (2, vi a2), (3, vl a3)]) C 4 ev1 x_Ou_costOf_58 rfl (i_lt rfl) rfl ?_
  refine z_goto (tgt := 5) C x_Ou_costOf_61 rfl ?_
  exact z_sub [1, 2, 3, 4, 0] rfl (hR5 a1 a2 a3 v1 M h)
def k_Ou_costOf_5 (R5 : Int → Int → Int → Int → Mem → Res) (a1 a2 a3 a5 : Int) (M : Mem) : Res := blet (M 98 0) fun v1 => if w32 a5 < w32 v1 then (chk (0 ≤ w32 a5 ∧ w32 a5 < 60) <| blet (M 99 (ix a5)) fun v4 => if w32 v4 = w32 a1 then (chk (0 ≤ w32 a5 ∧ w32 a5 < 60) <| blet (M 100 (ix a5)) fun v7 => if w32 (dv32 v7 52) = w32 a2 then (bcall (d_Ou_penceFor a5 M) fun v9 M10 => chk (0 ≤ w32 a5 ∧ w32 a5 < 60) <| blet (M10 101 (ix a5)) fun v12 => blet (a3 + ((w32 v9) * (w32 v12))) fun v13 => k_Ou_costOf_58 R5 a1 a2 v13 a5 M10) else (k_Ou_costOf_58 R5 a1 a2 a3 a5 M)) else (k_Ou_costOf_58 R5 a1 a2 a3 a5 M)) else (some (a3, M))
theorem z_Ou_costOf_5 (C : Cx p s m args meth c G b_Ou_costOf 6 "PrairiePool$Outsides" (some .long)) (hlev : 6 ≤ lev) {r : Int × Mem} {R5 : Int → Int → Int → Int → Mem → Res} (hR5 : ∀ (a1 a2 a3 a5 : Int) (M : Mem), R5 a1 a2 a3 a5 M = some r → Z p l e lev s m args below meth c G 6 (MQ below (Qm G 2 r) args s 0 0 (Ab G)) M 5 [(0, .ref (G.1 + 98)), (1, vi a1), (2, vi a2), (3, vl a3), (5, vi a5)] []) {a1 a2 a3 a5 : Int} {M : Mem} (h : k_Ou_costOf_5 R5 a1 a2 a3 a5 M = some r) : Z p l e lev s m args below meth c G 6 (MQ below (Qm G 2 r) args s 0 0 (Ab G)) M 5 [(0, .ref (G.1 + 98)), (1, vi a1), (2, vi a2), (3, vl a3), (5, vi a5)] [] := by
  unfold k_Ou_costOf_5 at h
  refine z_iload C 4 x_Ou_costOf_5 rfl ?_
  refine z_aload_n C 0 x_Ou_costOf_7 rfl ?_
  obtain ⟨v1, ev1, h⟩ := blet_e h
  refine z_getI (j := 0) C x_Ou_costOf_8 nk_98 ck_98 cw_3 (i_lt rfl) rfl rfl fl_Ou_32 ev1 ?_
  rcases ite_e h with ⟨c2, h⟩ | ⟨c2, h⟩
  · refine z_icmp_ge_f (tgt := 64) C x_Ou_costOf_11 rfl c2 ?_
    refine z_aload_n C 0 x_Ou_costOf_14 rfl ?_
    refine z_getR (j := 3) C x_Ou_costOf_15 nk_98 ck_98 cw_3 (i_lt rfl) rfl rf_98_3 rfl fl_Ou_11 ?_
    refine z_iload C 4 x_Ou_costOf_18 rfl ?_
    obtain ⟨c3, h⟩ := chk_e h
    obtain ⟨v4, ev4, h⟩ := blet_e h
    refine z_iald C x_Ou_costOf_20 nk_99 ck_99 c3 ev4 ?_
    refine z_iload_n C 1 x_Ou_costOf_21 rfl ?_
    rcases ite_e h with ⟨c5, h⟩ | ⟨c5, h⟩
    · refine z_icmp_ne_f (tgt := 58) C x_Ou_costOf_22 rfl c5 ?_
      refine z_aload_n C 0 x_Ou_costOf_25 rfl ?_
      refine z_getR (j := 4) C x_Ou_costOf_26 nk_98 ck_98 cw_3 (i_lt rfl) rfl rf_98_4 rfl fl_Ou_15 ?_
      refine z_iload C 4 x_Ou_costOf_29 rfl ?_
      obtain ⟨c6, h⟩ := chk_e h
      obtain ⟨v7, ev7, h⟩ := blet_e h
      refine z_iald C x_Ou_costOf_31 nk_100 ck_100 c6 ev7 ?_
      refine z_bipush C rfl x_Ou_costOf_32 ?_
      refine z_idiv C (by decide) x_Ou_costOf_34 ?_
      refine z_iload_n C 2 x_Ou_costOf_35 rfl ?_
      rcases ite_e h with ⟨c8, h⟩ | ⟨c8, h⟩
      · refine z_icmp_ne_f (tgt := 58) C x_Ou_costOf_36 rfl c8 ?_
        refine z_lload_n C 3 x_Ou_costOf_39 rfl ?_
        refine z_aload_n C 0 x_Ou_costOf_40 rfl ?_
        refine z_iload C 4 x_Ou_costOf_41 rfl ?_
        obtain ⟨v9, M10, fv9, h⟩ := bcall_e h
        refine z_callVi (k := 98) C x_Ou_costOf_43 cv_Ou_63 (t_Ou_penceFor (lev := lev - 1) l G (by omega) fv9) nk_98 ck_98 rfl (by omega) rfl (i_le rfl) rfl ?_
        refine z_i2l C x_Ou_costOf_46 ?_
        refine z_aload_n C 0 x_Ou_costOf_47 rfl ?_
        refine z_getR (j := 5) C x_Ou_costOf_48 nk_98 ck_98 cw_3 (i_lt rfl) rfl rf_98_5 rfl fl_Ou_18 ?_
        refine z_iload C 4 x_Ou_costOf_51 rfl ?_
        obtain ⟨c11, h⟩ := chk_e h
        obtain ⟨v12, ev12, h⟩ := blet_e h
        refine z_iald C x_Ou_costOf_53 nk_101 ck_101 c11 ev12 ?_
        refine z_i2l C x_Ou_costOf_54 ?_
        refine z_lmul C x_Ou_costOf_55 ?_
        refine z_ladd C x_Ou_costOf_56 ?_
        obtain ⟨v13, ev13, h⟩ := blet_e h
        refine z_lstore_n (lv' := [(3, vl v13), (0, .ref (G.1 + 98)), (1, vi a1), (2, vi a2), (5, vi a5)]) C ev13 x_Ou_costOf_57 (i_lt rfl) rfl ?_
        exact z_sub [1, 2, 3, 0, 4] rfl (z_Ou_costOf_58 C hlev hR5 h)
      · refine z_icmp_ne_t (tgt := 58) C x_Ou_costOf_36 rfl c8 ?_
        exact z_sub [0, 1, 2, 3, 4] rfl (z_Ou_costOf_58 C hlev hR5 h)
    · refine z_icmp_ne_t (tgt := 58) C x_Ou_costOf_22 rfl c5 ?_
      exact z_sub [0, 1, 2, 3, 4] rfl (z_Ou_costOf_58 C hlev hR5 h)
  · refine z_icmp_ge_t (tgt := 64) C x_Ou_costOf_11 rfl c2 ?_
    refine z_lload_n C 3 x_Ou_costOf_64 rfl ?_
    exact z_lret C x_Ou_costOf_65 h
theorem zl_Ou_costOf_5 (C : Cx p s m args meth c G b_Ou_costOf 6 "PrairiePool$Outsides" (some .long)) (hlev : 6 ≤ lev) {r : Int × Mem}  : ∀ (n : Nat) (a1 a2 a3 a5 : Int) (M : Mem), fix (fun _ _ _ _ _ => none) (k_Ou_costOf_5) n a1 a2 a3 a5 M = some r → Z p l e lev s m args below meth c G 6 (MQ below (Qm G 2 r) args s 0 0 (Ab G)) M 5 [(0, .ref (G.1 + 98)), (1, vi a1), (2, vi a2), (3, vl a3), (5, vi a5)] [] := by
  intro n
  induction n with
  | zero => intro a1 a2 a3 a5 M h; exact nomatch (show (none : Res) = some r from h)
  | succ n ih => intro a1 a2 a3 a5 M h; exact z_Ou_costOf_5 C hlev ih h
def d_Ou_costOf (a1 a2 : Int) (M : Mem) : Res := fix (fun _ _ _ _ _ => none) (k_Ou_costOf_5) FU a1 a2 0 0 M
theorem t_Ou_costOf (l : Launch) (G : GX) {lev : Nat} (hlev : 6 ≤ lev) {a1 a2 : Int} {M : Mem} {r : Int × Mem} (h : d_Ou_costOf a1 a2 M = some r) : Mt l G y_Ou_costOf b_Ou_costOf 6 (some .long) lev 2 [.ref (G.1 + 98), vi a1, vi a2] M r := by
  refine Mt.of (by decide) (i_le rfl) ?_
  intro p e s m args below meth c C
  have C : Cx p s m args meth c G b_Ou_costOf 6 "PrairiePool$Outsides" (some .long) := C
  unfold d_Ou_costOf at h
  refine z_sub (lv' := [(0, .ref (G.1 + 98)), (1, vi a1), (2, vi a2)]) [0, 1, 2] rfl ?_
  refine z_lconst0 C x_Ou_costOf_0 ?_
  refine z_lstore_n (lv' := [(3, vl 0), (0, .ref (G.1 + 98)), (1, vi a1), (2, vi a2)]) C rfl x_Ou_costOf_1 (i_lt rfl) rfl ?_
  refine z_iconst C x_Ou_costOf_2 ?_
  refine z_istore (lv' := [(5, vi 0), (3, vl 0), (0, .ref (G.1 + 98)), (1, vi a1), (2, vi a2)]) C rfl x_Ou_costOf_3 (i_lt rfl) rfl ?_
  exact z_sub [2, 3, 4, 1, 0] rfl (zl_Ou_costOf_5 C hlev FU a1 a2 0 0 M h)
end
