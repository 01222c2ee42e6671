section
variable {p : Program} {l : Launch} {e : Env} {lev : Nat} {s : State} {m : MethodId} {args : Array Value} {below : List Frame} {meth : Method} {c : Code} {G : GX}
theorem x_Ba_count_0 : DC b_Ba_count 0 (.aload_n 0) 1 1 := ⟨by decide +kernel, rfl⟩
theorem x_Ba_count_1 : DC b_Ba_count 1 (.getfield 9) 3 4 := ⟨by decide +kernel, rfl⟩
theorem x_Ba_count_4 : DC b_Ba_count 4 (.iconst 0) 1 5 := ⟨by decide +kernel, rfl⟩
theorem x_Ba_count_5 : DC b_Ba_count 5 (.invokestatic 42) 3 8 := ⟨by decide +kernel, rfl⟩
theorem x_Ba_count_8 : DC b_Ba_count 8 (.aload_n 0) 1 9 := ⟨by decide +kernel, rfl⟩
theorem x_Ba_count_9 : DC b_Ba_count 9 (.getfield 38) 3 12 := ⟨by decide +kernel, rfl⟩
theorem x_Ba_count_12 : DC b_Ba_count 12 (.iload_n 1) 1 13 := ⟨by decide +kernel, rfl⟩
theorem x_Ba_count_13 : DC b_Ba_count 13 (.invokevirtual 48) 3 16 := ⟨by decide +kernel, rfl⟩
theorem x_Ba_count_16 : DC b_Ba_count 16 (.aload_n 0) 1 17 := ⟨by decide +kernel, rfl⟩
theorem x_Ba_count_17 : DC b_Ba_count 17 (.getfield 38) 3 20 := ⟨by decide +kernel, rfl⟩
theorem x_Ba_count_20 : DC b_Ba_count 20 (.iload_n 1) 1 21 := ⟨by decide +kernel, rfl⟩
theorem x_Ba_count_21 : DC b_Ba_count 21 (.invokevirtual 54) 3 24 := ⟨by decide +kernel, rfl⟩
theorem x_Ba_count_24 : DC b_Ba_count 24 (.iconst 0) 1 25 := ⟨by decide +kernel, rfl⟩
theorem x_Ba_count_25 : DC b_Ba_count 25 (.istore_n 2) 1 26 := ⟨by decide +kernel, rfl⟩
theorem x_Ba_count_26 : DC b_Ba_count 26 (.iload_n 2) 1 27 := ⟨by decide +kernel, rfl⟩
theorem x_Ba_count_27 : DC b_Ba_count 27 (.aload_n 0) 1 28 := ⟨by decide +kernel, rfl⟩
theorem x_Ba_count_28 : DC b_Ba_count 28 (.getfield 34) 3 31 := ⟨by decide +kernel, rfl⟩
theorem x_Ba_count_31 : DC b_Ba_count 31 (.getfield 57) 3 34 := ⟨by decide +kernel, rfl⟩
theorem x_Ba_count_34 : DC b_Ba_count 34 (.if_icmp .ge 110) 3 37 := ⟨by decide +kernel, rfl⟩
theorem x_Ba_count_37 : DC b_Ba_count 37 (.aload_n 0) 1 38 := ⟨by decide +kernel, rfl⟩
theorem x_Ba_count_38 : DC b_Ba_count 38 (.getfield 34) 3 41 := ⟨by decide +kernel, rfl⟩
theorem x_Ba_count_41 : DC b_Ba_count 41 (.iload_n 2) 1 42 := ⟨by decide +kernel, rfl⟩
theorem x_Ba_count_42 : DC b_Ba_count 42 (.aload_n 0) 1 43 := ⟨by decide +kernel, rfl⟩
theorem x_Ba_count_43 : DC b_Ba_count 43 (.getfield 38) 3 46 := ⟨by decide +kernel, rfl⟩
theorem x_Ba_count_46 : DC b_Ba_count 46 (.invokevirtual 63) 3 49 := ⟨by decide +kernel, rfl⟩
theorem x_Ba_count_49 : DC b_Ba_count 49 (.aload_n 0) 1 50 := ⟨by decide +kernel, rfl⟩
theorem x_Ba_count_50 : DC b_Ba_count 50 (.getfield 15) 3 53 := ⟨by decide +kernel, rfl⟩
theorem x_Ba_count_53 : DC b_Ba_count 53 (.iload_n 2) 1 54 := ⟨by decide +kernel, rfl⟩
theorem x_Ba_count_54 : DC b_Ba_count 54 (.aload_n 0) 1 55 := ⟨by decide +kernel, rfl⟩
theorem x_Ba_count_55 : DC b_Ba_count 55 (.getfield 38) 3 58 := ⟨by decide +kernel, rfl⟩
theorem x_Ba_count_58 : DC b_Ba_count 58 (.bipush 6) 2 60 := ⟨by decide +kernel, rfl⟩
theorem x_Ba_count_60 : DC b_Ba_count 60 (.invokevirtual 67) 3 63 := ⟨by decide +kernel, rfl⟩
theorem x_Ba_count_63 : DC b_Ba_count 63 (.iastore) 1 64 := ⟨by decide +kernel, rfl⟩
theorem x_Ba_count_64 : DC b_Ba_count 64 (.aload_n 0) 1 65 := ⟨by decide +kernel, rfl⟩
theorem x_Ba_count_65 : DC b_Ba_count 65 (.getfield 34) 3 68 := ⟨by decide +kernel, rfl⟩
theorem x_Ba_count_68 : DC b_Ba_count 68 (.getfield 71) 3 71 := ⟨by decide +kernel, rfl⟩
theorem x_Ba_count_71 : DC b_Ba_count 71 (.iload_n 2) 1 72 := ⟨by decide +kernel, rfl⟩
theorem x_Ba_count_72 : DC b_Ba_count 72 (.iaload) 1 73 := ⟨by decide +kernel, rfl⟩
theorem x_Ba_count_73 : DC b_Ba_count 73 (.iconst 1) 1 74 := ⟨by decide +kernel, rfl⟩
theorem x_Ba_count_74 : DC b_Ba_count 74 (.if_icmp .ne 29) 3 77 := ⟨by decide +kernel, rfl⟩
theorem x_Ba_count_77 : DC b_Ba_count 77 (.aload_n 0) 1 78 := ⟨by decide +kernel, rfl⟩
theorem x_Ba_count_78 : DC b_Ba_count 78 (.getfield 9) 3 81 := ⟨by decide +kernel, rfl⟩
theorem x_Ba_count_81 : DC b_Ba_count 81 (.aload_n 0) 1 82 := ⟨by decide +kernel, rfl⟩
theorem x_Ba_count_82 : DC b_Ba_count 82 (.getfield 34) 3 85 := ⟨by decide +kernel, rfl⟩
theorem x_Ba_count_85 : DC b_Ba_count 85 (.getfield 74) 3 88 := ⟨by decide +kernel, rfl⟩
theorem x_Ba_count_88 : DC b_Ba_count 88 (.iload_n 2) 1 89 := ⟨by decide +kernel, rfl⟩
theorem x_Ba_count_89 : DC b_Ba_count 89 (.iaload) 1 90 := ⟨by decide +kernel, rfl⟩
theorem x_Ba_count_90 : DC b_Ba_count 90 (.dup2) 1 91 := ⟨by decide +kernel, rfl⟩
theorem x_Ba_count_91 : DC b_Ba_count 91 (.iaload) 1 92 := ⟨by decide +kernel, rfl⟩
theorem x_Ba_count_92 : DC b_Ba_count 92 (.aload_n 0) 1 93 := ⟨by decide +kernel, rfl⟩
theorem x_Ba_count_93 : DC b_Ba_count 93 (.getfield 15) 3 96 := ⟨by decide +kernel, rfl⟩
theorem x_Ba_count_96 : DC b_Ba_count 96 (.iload_n 2) 1 97 := ⟨by decide +kernel, rfl⟩
theorem x_Ba_count_97 : DC b_Ba_count 97 (.iaload) 1 98 := ⟨by decide +kernel, rfl⟩
theorem x_Ba_count_98 : DC b_Ba_count 98 (.iadd) 1 99 := ⟨by decide +kernel, rfl⟩
theorem x_Ba_count_99 : DC b_Ba_count 99 (.iastore) 1 100 := ⟨by decide +kernel, rfl⟩
theorem x_Ba_count_100 : DC b_Ba_count 100 (.goto 38) 3 103 := ⟨by decide +kernel, rfl⟩
theorem x_Ba_count_103 : DC b_Ba_count 103 (.aload_n 0) 1 104 := ⟨by decide +kernel, rfl⟩
theorem x_Ba_count_104 : DC b_Ba_count 104 (.getfield 34) 3 107 := ⟨by decide +kernel, rfl⟩
theorem x_Ba_count_107 : DC b_Ba_count 107 (.getfield 71) 3 110 := ⟨by decide +kernel, rfl⟩
theorem x_Ba_count_110 : DC b_Ba_count 110 (.iload_n 2) 1 111 := ⟨by decide +kernel, rfl⟩
theorem x_Ba_count_111 : DC b_Ba_count 111 (.iaload) 1 112 := ⟨by decide +kernel, rfl⟩
theorem x_Ba_count_112 : DC b_Ba_count 112 (.ifCond .ne 26) 3 115 := ⟨by decide +kernel, rfl⟩
theorem x_Ba_count_115 : DC b_Ba_count 115 (.aload_n 0) 1 116 := ⟨by decide +kernel, rfl⟩
theorem x_Ba_count_116 : DC b_Ba_count 116 (.getfield 9) 3 119 := ⟨by decide +kernel, rfl⟩
theorem x_Ba_count_119 : DC b_Ba_count 119 (.aload_n 0) 1 120 := ⟨by decide +kernel, rfl⟩
theorem x_Ba_count_120 : DC b_Ba_count 120 (.getfield 34) 3 123 := ⟨by decide +kernel, rfl⟩
theorem x_Ba_count_123 : DC b_Ba_count 123 (.getfield 74) 3 126 := ⟨by decide +kernel, rfl⟩
theorem x_Ba_count_126 : DC b_Ba_count 126 (.iload_n 2) 1 127 := ⟨by decide +kernel, rfl⟩
theorem x_Ba_count_127 : DC b_Ba_count 127 (.iaload) 1 128 := ⟨by decide +kernel, rfl⟩
theorem x_Ba_count_128 : DC b_Ba_count 128 (.dup2) 1 129 := ⟨by decide +kernel, rfl⟩
theorem x_Ba_count_129 : DC b_Ba_count 129 (.iaload) 1 130 := ⟨by decide +kernel, rfl⟩
theorem x_Ba_count_130 : DC b_Ba_count 130 (.aload_n 0) 1 131 := ⟨by decide +kernel, rfl⟩
theorem x_Ba_count_131 : DC b_Ba_count 131 (.getfield 15) 3 134 := ⟨by decide +kernel, rfl⟩
theorem x_Ba_count_134 : DC b_Ba_count 134 (.iload_n 2) 1 135 := ⟨by decide +kernel, rfl⟩
theorem x_Ba_count_135 : DC b_Ba_count 135 (.iaload) 1 136 := ⟨by decide +kernel, rfl⟩
theorem x_Ba_count_136 : DC b_Ba_count 136 (.isub) 1 137 := ⟨by decide +kernel, rfl⟩
theorem x_Ba_count_137 : DC b_Ba_count 137 (.iastore) 1 138 := ⟨by decide +kernel, rfl⟩
theorem x_Ba_count_138 : DC b_Ba_count 138 (.iinc 2 1) 3 141 := ⟨by decide +kernel, rfl⟩
theorem x_Ba_count_141 : DC b_Ba_count 141 (.goto (-115)) 3 144 := ⟨by decide +kernel, rfl⟩
theorem x_Ba_count_144 : DC b_Ba_count 144 (.return_) 1 145 := ⟨by decide +kernel, rfl⟩
def k_Ba_count_138 (R26 : Int → Mem → Res) (a2 : Int) (M : Mem) : Res := blet (a2 + 1) fun v1 => R26 v1 M
theorem z_Ba_count_138 (C : Cx p s m args meth c G b_Ba_count 3 "PrairiePool$Ballot" none) (hlev : 5 ≤ lev) {r : Int × Mem} {R26 : Int → Mem → Res} (hR26 : ∀ (a2 : Int) (M : Mem), R26 a2 M = some r → Z p l e lev s m args below meth c G 3 (MQ below (Qm G 0 r) args s 0 0 (Ab G)) M 26 [(0, .ref (G.1 + 103)), (2, vi a2)] []) {a2 : Int} {M : Mem} (h : k_Ba_count_138 R26 a2 M = some r) : Z p l e lev s m args below meth c G 3 (MQ below (Qm G 0 r) args s 0 0 (Ab G)) M 138 [(0, .ref (G.1 + 103)), (2, vi a2)] [] := by
  unfold k_Ba_count_138 at h
  obtain ⟨v1, ev1, h⟩ := blet_e h
  refine z_iinc (lv' := [(2, vi v1), (0, .ref (G.1 + 103))]) C 1 ev1 x_Ba_count_138 rfl (i_lt rfl) rfl ?_
  refine z_goto (tgt := 26) C x_Ba_count_141 rfl ?_
  exact z_sub [1, 0] rfl (hR26 v1 M h)
def k_Ba_count_26 (R26 : Int → Mem → Res) (a2 : Int) (M : Mem) : Res := blet (M 5 0) fun v1 => if w32 a2 < w32 v1 then (bcall (d_Pr_tellOf a2 M) fun v3 M4 => bcall (d_As_ask 6 M4) fun v5 M6 => chk (0 ≤ w32 a2 ∧ w32 a2 < 20) <| blet (sto M6 105 (ix a2) v5) fun M8 => chk (0 ≤ w32 a2 ∧ w32 a2 < 20) <| blet (M8 12 (ix a2)) fun v10 => if w32 v10 = 1 then (chk (0 ≤ w32 a2 ∧ w32 a2 < 20) <| blet (M8 6 (ix a2)) fun v13 => chk (0 ≤ w32 v13 ∧ w32 v13 < 6) <| blet (M8 104 (ix v13)) fun v15 => chk (0 ≤ w32 a2 ∧ w32 a2 < 20) <| blet (M8 105 (ix a2)) fun v17 => chk (0 ≤ w32 v13 ∧ w32 v13 < 6) <| blet (sto M8 104 (ix v13) (v15 + v17)) fun M19 => k_Ba_count_138 R26 a2 M19) else (chk (0 ≤ w32 a2 ∧ w32 a2 < 20) <| blet (M8 12 (ix a2)) fun v21 => if w32 v21 = 0 then (chk (0 ≤ w32 a2 ∧ w32 a2 < 20) <| blet (M8 6 (ix a2)) fun v24 => chk (0 ≤ w32 v24 ∧ w32 v24 < 6) <| blet (M8 104 (ix v24)) fun v26 => chk (0 ≤ w32 a2 ∧ w32 a2 < 20) <| blet (M8 105 (ix a2)) fun v28 => chk (0 ≤ w32 v24 ∧ w32 v24 < 6) <| blet (sto M8 104 (ix v24) (v26 - v28)) fun M30 => k_Ba_count_138 R26 a2 M30) else (k_Ba_count_138 R26 a2 M8))) else (some (0, M))
theorem z_Ba_count_26 (C : Cx p s m args meth c G b_Ba_count 3 "PrairiePool$Ballot" none) (hlev : 5 ≤ lev) {r : Int × Mem} {R26 : Int → Mem → Res} (hR26 : ∀ (a2 : Int) (M : Mem), R26 a2 M = some r → Z p l e lev s m args below meth c G 3 (MQ below (Qm G 0 r) args s 0 0 (Ab G)) M 26 [(0, .ref (G.1 + 103)), (2, vi a2)] []) {a2 : Int} {M : Mem} (h : k_Ba_count_26 R26 a2 M = some r) : Z p l e lev s m args below meth c G 3 (MQ below (Qm G 0 r) args s 0 0 (Ab G)) M 26 [(0, .ref (G.1 + 103)), (2, vi a2)] [] := by
  unfold k_Ba_count_26 at h
  refine z_iload_n C 1 x_Ba_count_26 rfl ?_
  refine z_aload_n C 0 x_Ba_count_27 rfl ?_
  refine z_getR (j := 1) C x_Ba_count_28 nk_103 ck_103 cw_1 (i_lt rfl) rfl rf_103_1 rfl fl_Ba_34 ?_
  obtain ⟨v1, ev1, h⟩ := blet_e h
  refine z_getI (j := 0) C x_Ba_count_31 nk_5 ck_5 cw_7 (i_lt rfl) rfl rfl fl_Ba_57 ev1 ?_
  rcases ite_e h with ⟨c2, h⟩ | ⟨c2, h⟩
  · refine z_icmp_ge_f (tgt := 144) C x_Ba_count_34 rfl c2 ?_
    refine z_aload_n C 0 x_Ba_count_37 rfl ?_
    refine z_getR (j := 1) C x_Ba_count_38 nk_103 ck_103 cw_1 (i_lt rfl) rfl rf_103_1 rfl fl_Ba_34 ?_
    refine z_iload_n C 1 x_Ba_count_41 rfl ?_
    refine z_aload_n C 0 x_Ba_count_42 rfl ?_
    refine z_getR (j := 2) C x_Ba_count_43 nk_103 ck_103 cw_1 (i_lt rfl) rfl rf_103_2 rfl fl_Ba_38 ?_
    obtain ⟨v3, M4, fv3, h⟩ := bcall_e h
    refine z_callVv (k := 5) C x_Ba_count_46 cv_Ba_63 (t_Pr_tellOf (lev := lev - 1) l G (by omega) fv3) nk_5 ck_5 rfl (by omega) rfl (i_le rfl) rfl ?_
    refine z_aload_n C 0 x_Ba_count_49 rfl ?_
    refine z_getR (j := 3) C x_Ba_count_50 nk_103 ck_103 cw_1 (i_lt rfl) rfl rf_103_3 rfl fl_Ba_15 ?_
    refine z_iload_n C 1 x_Ba_count_53 rfl ?_
    refine z_aload_n C 0 x_Ba_count_54 rfl ?_
    refine z_getR (j := 2) C x_Ba_count_55 nk_103 ck_103 cw_1 (i_lt rfl) rfl rf_103_2 rfl fl_Ba_38 ?_
    refine z_bipush C rfl x_Ba_count_58 ?_
    obtain ⟨v5, M6, fv5, h⟩ := bcall_e h
    refine z_callVi (k := 32) C x_Ba_count_60 cv_Ba_67 (t_As_ask (lev := lev - 1) l G (by omega) fv5) nk_32 ck_32 rfl (by omega) rfl (i_le rfl) rfl ?_
    obtain ⟨c7, h⟩ := chk_e h
    obtain ⟨M8, eM8, h⟩ := blet_e h
    refine z_iast C x_Ba_count_63 nk_105 ck_105 c7 eM8 ?_
    refine z_aload_n C 0 x_Ba_count_64 rfl ?_
    refine z_getR (j := 1) C x_Ba_count_65 nk_103 ck_103 cw_1 (i_lt rfl) rfl rf_103_1 rfl fl_Ba_34 ?_
    refine z_getR (j := 7) C x_Ba_count_68 nk_5 ck_5 cw_7 (i_lt rfl) rfl rf_5_7 rfl fl_Ba_71 ?_
    refine z_iload_n C 1 x_Ba_count_71 rfl ?_
    obtain ⟨c9, h⟩ := chk_e h
    obtain ⟨v10, ev10, h⟩ := blet_e h
    refine z_iald C x_Ba_count_72 nk_12 ck_12 c9 ev10 ?_
    refine z_iconst C x_Ba_count_73 ?_
    rcases ite_e h with ⟨c11, h⟩ | ⟨c11, h⟩
    · refine z_icmp_ne_f (tgt := 103) C x_Ba_count_74 rfl c11 ?_
      refine z_aload_n C 0 x_Ba_count_77 rfl ?_
      refine z_getR (j := 0) C x_Ba_count_78 nk_103 ck_103 cw_1 (i_lt rfl) rfl rf_103_0 rfl fl_Ba_9 ?_
      refine z_aload_n C 0 x_Ba_count_81 rfl ?_
      refine z_getR (j := 1) C x_Ba_count_82 nk_103 ck_103 cw_1 (i_lt rfl) rfl rf_103_1 rfl fl_Ba_34 ?_
      refine z_getR (j := 1) C x_Ba_count_85 nk_5 ck_5 cw_7 (i_lt rfl) rfl rf_5_1 rfl fl_Ba_74 ?_
      refine z_iload_n C 1 x_Ba_count_88 rfl ?_
      obtain ⟨c12, h⟩ := chk_e h
      obtain ⟨v13, ev13, h⟩ := blet_e h
      refine z_iald C x_Ba_count_89 nk_6 ck_6 c12 ev13 ?_
      refine z_dup2 C x_Ba_count_90 rfl rfl ?_
      obtain ⟨c14, h⟩ := chk_e h
      obtain ⟨v15, ev15, h⟩ := blet_e h
      refine z_iald C x_Ba_count_91 nk_104 ck_104 c14 ev15 ?_
      refine z_aload_n C 0 x_Ba_count_92 rfl ?_
      refine z_getR (j := 3) C x_Ba_count_93 nk_103 ck_103 cw_1 (i_lt rfl) rfl rf_103_3 rfl fl_Ba_15 ?_
      refine z_iload_n C 1 x_Ba_count_96 rfl ?_
      obtain ⟨c16, h⟩ := chk_e h
      obtain ⟨v17, ev17, h⟩ := blet_e h
      refine z_iald C x_Ba_count_97 nk_105 ck_105 c16 ev17 ?_
      refine z_iadd C x_Ba_count_98 ?_
      obtain ⟨c18, h⟩ := chk_e h
      obtain ⟨M19, eM19, h⟩ := blet_e h
      refine z_iast C x_Ba_count_99 nk_104 ck_104 c18 eM19 ?_
      refine z_goto (tgt := 138) C x_Ba_count_100 rfl ?_
      exact z_sub [0, 1] rfl (z_Ba_count_138 C hlev hR26 h)
    · refine z_icmp_ne_t (tgt := 103) C x_Ba_count_74 rfl c11 ?_
      refine z_aload_n C 0 x_Ba_count_103 rfl ?_
      refine z_getR (j := 1) C x_Ba_count_104 nk_103 ck_103 cw_1 (i_lt rfl) rfl rf_103_1 rfl fl_Ba_34 ?_
      refine z_getR (j := 7) C x_Ba_count_107 nk_5 ck_5 cw_7 (i_lt rfl) rfl rf_5_7 rfl fl_Ba_71 ?_
      refine z_iload_n C 1 x_Ba_count_110 rfl ?_
      obtain ⟨c20, h⟩ := chk_e h
      obtain ⟨v21, ev21, h⟩ := blet_e h
      refine z_iald C x_Ba_count_111 nk_12 ck_12 c20 ev21 ?_
      rcases ite_e h with ⟨c22, h⟩ | ⟨c22, h⟩
      · refine z_if_ne_f (tgt := 138) C x_Ba_count_112 rfl c22 ?_
        refine z_aload_n C 0 x_Ba_count_115 rfl ?_
        refine z_getR (j := 0) C x_Ba_count_116 nk_103 ck_103 cw_1 (i_lt rfl) rfl rf_103_0 rfl fl_Ba_9 ?_
        refine z_aload_n C 0 x_Ba_count_119 rfl ?_
        refine z_getR (j := 1) C x_Ba_count_120 nk_103 ck_103 cw_1 (i_lt rfl) rfl rf_103_1 rfl fl_Ba_34 ?_
        refine z_getR (j := 1) C x_Ba_count_123 nk_5 ck_5 cw_7 (i_lt rfl) rfl rf_5_1 rfl fl_Ba_74 ?_
        refine z_iload_n C 1 x_Ba_count_126 rfl ?_
        obtain ⟨c23, h⟩ := chk_e h
        obtain ⟨v24, ev24, h⟩ := blet_e h
        refine z_iald C x_Ba_count_127 nk_6 ck_6 c23 ev24 ?_
        refine z_dup2 C x_Ba_count_128 rfl rfl ?_
        obtain ⟨c25, h⟩ := chk_e h
        obtain ⟨v26, ev26, h⟩ := blet_e h
        refine z_iald C x_Ba_count_129 nk_104 ck_104 c25 ev26 ?_
        refine z_aload_n C 0 x_Ba_count_130 rfl ?_
        refine z_getR (j := 3) C x_Ba_count_131 nk_103 ck_103 cw_1 (i_lt rfl) rfl rf_103_3 rfl fl_Ba_15 ?_
        refine z_iload_n C 1 x_Ba_count_134 rfl ?_
        obtain ⟨c27, h⟩ := chk_e h
        obtain ⟨v28, ev28, h⟩ := blet_e h
        refine z_iald C x_Ba_count_135 nk_105 ck_105 c27 ev28 ?_
        refine z_isub C x_Ba_count_136 ?_
        obtain ⟨c29, h⟩ := chk_e h
        obtain ⟨M30, eM30, h⟩ := blet_e h
        refine z_iast C x_Ba_count_137 nk_104 ck_104 c29 eM30 ?_
        exact z_sub [0, 1] rfl (z_Ba_count_138 C hlev hR26 h)
      · refine z_if_ne_t (tgt := 138) C x_Ba_count_112 rfl c22 ?_
        exact z_sub [0, 1] rfl (z_Ba_count_138 C hlev hR26 h)
  · refine z_icmp_ge_t (tgt := 144) C x_Ba_count_34 rfl c2 ?_
    exact z_vret C x_Ba_count_144 h
theorem zl_Ba_count_26 (C : Cx p s m args meth c G b_Ba_count 3 "PrairiePool$Ballot" none) (hlev : 5 ≤ lev) {r : Int × Mem}  : ∀ (n : Nat) (a2 : Int) (M : Mem), fix (fun _ _ => none) (k_Ba_count_26) n a2 M = some r → Z p l e lev s m args below meth c G 3 (MQ below (Qm G 0 r) args s 0 0 (Ab G)) M 26 [(0, .ref (G.1 + 103)), (2, vi a2)] [] := by
  intro n
  induction n with
  | zero => intro a2 M h; exact nomatch (show (none : Res) = some r from h)
  | succ n ih => intro a2 M h; exact z_Ba_count_26 C hlev ih h
def d_Ba_count (a1 : Int) (M : Mem) : Res := bcall (d_Ar_fill1 104 6 0 M) fun v1 M2 => bcall (d_As_begin a1 M2) fun v3 M4 => bcall (d_As_tellWeek a1 M4) fun v5 M6 => fix (fun _ _ => none) (k_Ba_count_26) FU 0 M6
theorem t_Ba_count (l : Launch) (G : GX) {lev : Nat} (hlev : 5 ≤ lev) {a1 : Int} {M : Mem} {r : Int × Mem} (h : d_Ba_count a1 M = some r) : Mt l G y_Ba_count b_Ba_count 3 none lev 0 [.ref (G.1 + 103), vi a1] M r := by
  refine Mt.of (by decide) (i_le rfl) ?_
  intro p e s m args below meth c C
  have C : Cx p s m args meth c G b_Ba_count 3 "PrairiePool$Ballot" none := C
  unfold d_Ba_count at h
  refine z_sub (lv' := [(0, .ref (G.1 + 103)), (1, vi a1)]) [0, 1] rfl ?_
  refine z_aload_n C 0 x_Ba_count_0 rfl ?_
  refine z_getR (j := 0) C x_Ba_count_1 nk_103 ck_103 cw_1 (i_lt rfl) rfl rf_103_0 rfl fl_Ba_9 ?_
  refine z_iconst C x_Ba_count_4 ?_
  obtain ⟨v1, M2, fv1, h⟩ := bcall_e h
  refine z_callSv C x_Ba_count_5 cs_Ba_42 (t_Ar_fill1 (lev := lev - 1) l G (by omega) nk_104 ck_104 fv1) (by omega) rfl (i_le rfl) rfl ?_
  refine z_aload_n C 0 x_Ba_count_8 rfl ?_
  refine z_getR (j := 2) C x_Ba_count_9 nk_103 ck_103 cw_1 (i_lt rfl) rfl rf_103_2 rfl fl_Ba_38 ?_
  refine z_iload_n C 1 x_Ba_count_12 rfl ?_
  obtain ⟨v3, M4, fv3, h⟩ := bcall_e h
  refine z_callVv (k := 32) C x_Ba_count_13 cv_Ba_48 (t_As_begin (lev := lev - 1) l G (by omega) fv3) nk_32 ck_32 rfl (by omega) rfl (i_le rfl) rfl ?_
  refine z_aload_n C 0 x_Ba_count_16 rfl ?_
  refine z_getR (j := 2) C x_Ba_count_17 nk_103 ck_103 cw_1 (i_lt rfl) rfl rf_103_2 rfl fl_Ba_38 ?_
  refine z_iload_n C 1 x_Ba_count_20 rfl ?_
  obtain ⟨v5, M6, fv5, h⟩ := bcall_e h
  refine z_callVv (k := 32) C x_Ba_count_21 cv_Ba_54 (t_As_tellWeek (lev := lev - 1) l G (by omega) fv5) nk_32 ck_32 rfl (by omega) rfl (i_le rfl) rfl ?_
  refine z_iconst C x_Ba_count_24 ?_
  refine z_istore_n (lv' := [(2, vi 0), (0, .ref (G.1 + 103)), (1, vi a1)]) C rfl x_Ba_count_25 (i_lt rfl) rfl ?_
  exact z_sub [1, 0] rfl (zl_Ba_count_26 C hlev FU 0 M6 h)
theorem x_Ba_isWholeFor_0 : DC b_Ba_isWholeFor 0 (.iconst 0) 1 1 := ⟨by decide +kernel, rfl⟩
theorem x_Ba_isWholeFor_1 : DC b_Ba_isWholeFor 1 (.istore_n 1) 1 2 := ⟨by decide +kernel, rfl⟩
theorem x_Ba_isWholeFor_2 : DC b_Ba_isWholeFor 2 (.iconst 0) 1 3 := ⟨by decide +kernel, rfl⟩
theorem x_Ba_isWholeFor_3 : DC b_Ba_isWholeFor 3 (.istore_n 2) 1 4 := ⟨by decide +kernel, rfl⟩
theorem x_Ba_isWholeFor_4 : DC b_Ba_isWholeFor 4 (.iload_n 2) 1 5 := ⟨by decide +kernel, rfl⟩
theorem x_Ba_isWholeFor_5 : DC b_Ba_isWholeFor 5 (.bipush 6) 2 7 := ⟨by decide +kernel, rfl⟩
theorem x_Ba_isWholeFor_7 : DC b_Ba_isWholeFor 7 (.if_icmp .ge 22) 3 10 := ⟨by decide +kernel, rfl⟩
theorem x_Ba_isWholeFor_10 : DC b_Ba_isWholeFor 10 (.iload_n 1) 1 11 := ⟨by decide +kernel, rfl⟩
theorem x_Ba_isWholeFor_11 : DC b_Ba_isWholeFor 11 (.aload_n 0) 1 12 := ⟨by decide +kernel, rfl⟩
theorem x_Ba_isWholeFor_12 : DC b_Ba_isWholeFor 12 (.getfield 9) 3 15 := ⟨by decide +kernel, rfl⟩
theorem x_Ba_isWholeFor_15 : DC b_Ba_isWholeFor 15 (.iload_n 2) 1 16 := ⟨by decide +kernel, rfl⟩
theorem x_Ba_isWholeFor_16 : DC b_Ba_isWholeFor 16 (.iaload) 1 17 := ⟨by decide +kernel, rfl⟩
theorem x_Ba_isWholeFor_17 : DC b_Ba_isWholeFor 17 (.iconst 0) 1 18 := ⟨by decide +kernel, rfl⟩
theorem x_Ba_isWholeFor_18 : DC b_Ba_isWholeFor 18 (.invokestatic 77) 3 21 := ⟨by decide +kernel, rfl⟩
theorem x_Ba_isWholeFor_21 : DC b_Ba_isWholeFor 21 (.iadd) 1 22 := ⟨by decide +kernel, rfl⟩
theorem x_Ba_isWholeFor_22 : DC b_Ba_isWholeFor 22 (.istore_n 1) 1 23 := ⟨by decide +kernel, rfl⟩
theorem x_Ba_isWholeFor_23 : DC b_Ba_isWholeFor 23 (.iinc 2 1) 3 26 := ⟨by decide +kernel, rfl⟩
theorem x_Ba_isWholeFor_26 : DC b_Ba_isWholeFor 26 (.goto (-22)) 3 29 := ⟨by decide +kernel, rfl⟩
theorem x_Ba_isWholeFor_29 : DC b_Ba_isWholeFor 29 (.iload_n 1) 1 30 := ⟨by decide +kernel, rfl⟩
theorem x_Ba_isWholeFor_30 : DC b_Ba_isWholeFor 30 (.ifCond .le 7) 3 33 := ⟨by decide +kernel, rfl⟩
theorem x_Ba_isWholeFor_33 : DC b_Ba_isWholeFor 33 (.iconst 1) 1 34 := ⟨by decide +kernel, rfl⟩
theorem x_Ba_isWholeFor_34 : DC b_Ba_isWholeFor 34 (.goto 4) 3 37 := ⟨by decide +kernel, rfl⟩
theorem x_Ba_isWholeFor_37 : DC b_Ba_isWholeFor 37 (.iconst 0) 1 38 := ⟨by decide +kernel, rfl⟩
theorem x_Ba_isWholeFor_38 : DC b_Ba_isWholeFor 38 (.ireturn) 1 39 := ⟨by decide +kernel, rfl⟩
def k_Ba_isWholeFor_4 (R4 : Int → Int → Mem → Res) (a1 a2 : Int) (M : Mem) : Res := if w32 a2 < 6 then (chk (0 ≤ w32 a2 ∧ w32 a2 < 6) <| blet (M 104 (ix a2)) fun v3 => bcall (d_In_compare v3 0 M) fun v4 M5 => blet (a1 + v4) fun v6 => blet (a2 + 1) fun v7 => R4 v6 v7 M5) else (if 0 < w32 a1 then (some (1, M)) else (some (0, M)))
theorem z_Ba_isWholeFor_4 (C : Cx p s m args meth c G b_Ba_isWholeFor 3 "PrairiePool$Ballot" (some .boolean)) (hlev : 1 ≤ lev) {r : Int × Mem} {R4 : Int → Int → Mem → Res} (hR4 : ∀ (a1 a2 : Int) (M : Mem), R4 a1 a2 M = some r → Z p l e lev s m args below meth c G 3 (MQ below (Qm G 1 r) args s 0 0 (Ab G)) M 4 [(0, .ref (G.1 + 103)), (1, vi a1), (2, vi a2)] []) {a1 a2 : Int} {M : Mem} (h : k_Ba_isWholeFor_4 R4 a1 a2 M = some r) : Z p l e lev s m args below meth c G 3 (MQ below (Qm G 1 r) args s 0 0 (Ab G)) M 4 [(0, .ref (G.1 + 103)), (1, vi a1), (2, vi a2)] [] := by
  unfold k_Ba_isWholeFor_4 at h
  refine z_iload_n C 2 x_Ba_isWholeFor_4 rfl ?_
  refine z_bipush C rfl x_Ba_isWholeFor_5 ?_
  rcases ite_e h with ⟨c1, h⟩ | ⟨c1, h⟩
  · refine z_icmp_ge_f (tgt := 29) C x_Ba_isWholeFor_7 rfl c1 ?_
    refine z_iload_n C 1 x_Ba_isWholeFor_10 rfl ?_
    refine z_aload_n C 0 x_Ba_isWholeFor_11 rfl ?_
    refine z_getR (j := 0) C x_Ba_isWholeFor_12 nk_103 ck_103 cw_1 (i_lt rfl) rfl rf_103_0 rfl fl_Ba_9 ?_
    refine z_iload_n C 2 x_Ba_isWholeFor_15 rfl ?_
    obtain ⟨c2, h⟩ := chk_e h
    obtain ⟨v3, ev3, h⟩ := blet_e h
    refine z_iald C x_Ba_isWholeFor_16 nk_104 ck_104 c2 ev3 ?_
    refine z_iconst C x_Ba_isWholeFor_17 ?_
    obtain ⟨v4, M5, fv4, h⟩ := bcall_e h
    refine z_callSi C x_Ba_isWholeFor_18 cs_Ba_77 (t_In_compare (lev := lev - 1) l G (by omega) fv4) (by omega) rfl (i_le rfl) rfl ?_
    refine z_iadd C x_Ba_isWholeFor_21 ?_
    obtain ⟨v6, ev6, h⟩ := blet_e h
    refine z_istore_n (lv' := [(1, vi v6), (0, .ref (G.1 + 103)), (2, vi a2)]) C ev6 x_Ba_isWholeFor_22 (i_lt rfl) rfl ?_
    obtain ⟨v7, ev7, h⟩ := blet_e h
    refine z_iinc (lv' := [(2, vi v7), (1, vi v6), (0, .ref (G.1 + 103))]) C 2 ev7 x_Ba_isWholeFor_23 rfl (i_lt rfl) rfl ?_
    refine z_goto (tgt := 4) C x_Ba_isWholeFor_26 rfl ?_
    exact z_sub [2, 1, 0] rfl (hR4 v6 v7 M5 h)
  · refine z_icmp_ge_t (tgt := 29) C x_Ba_isWholeFor_7 rfl c1 ?_
    refine z_iload_n C 1 x_Ba_isWholeFor_29 rfl ?_
    rcases ite_e h with ⟨c8, h⟩ | ⟨c8, h⟩
    · refine z_if_le_f (tgt := 37) C x_Ba_isWholeFor_30 rfl c8 ?_
      refine z_iconst C x_Ba_isWholeFor_33 ?_
      refine z_goto (tgt := 38) C x_Ba_isWholeFor_34 rfl ?_
      exact z_zret C x_Ba_isWholeFor_38 (by decide) h
    · refine z_if_le_t (tgt := 37) C x_Ba_isWholeFor_30 rfl c8 ?_
      refine z_iconst C x_Ba_isWholeFor_37 ?_
      exact z_zret C x_Ba_isWholeFor_38 (by decide) h
theorem zl_Ba_isWholeFor_4 (C : Cx p s m args meth c G b_Ba_isWholeFor 3 "PrairiePool$Ballot" (some .boolean)) (hlev : 1 ≤ lev) {r : Int × Mem}  : ∀ (n : Nat) (a1 a2 : Int) (M : Mem), fix (fun _ _ _ => none) (k_Ba_isWholeFor_4) n a1 a2 M = some r → Z p l e lev s m args below meth c G 3 (MQ below (Qm G 1 r) args s 0 0 (Ab G)) M 4 [(0, .ref (G.1 + 103)), (1, vi a1), (2, vi a2)] [] := by
  intro n
  induction n with
  | zero => intro a1 a2 M h; exact nomatch (show (none : Res) = some r from h)
  | succ n ih => intro a1 a2 M h; exact z_Ba_isWholeFor_4 C hlev ih h
def d_Ba_isWholeFor (M : Mem) : Res := fix (fun _ _ _ => none) (k_Ba_isWholeFor_4) FU 0 0 M
theorem t_Ba_isWholeFor (l : Launch) (G : GX) {lev : Nat} (hlev : 1 ≤ lev) {M : Mem} {r : Int × Mem} (h : d_Ba_isWholeFor M = some r) : Mt l G y_Ba_isWholeFor b_Ba_isWholeFor 3 (some .boolean) lev 1 [.ref (G.1 + 103)] M r := by
  refine Mt.of (by decide) (i_le rfl) ?_
  intro p e s m args below meth c C
  have C : Cx p s m args meth c G b_Ba_isWholeFor 3 "PrairiePool$Ballot" (some .boolean) := C
  unfold d_Ba_isWholeFor at h
  refine z_sub (lv' := [(0, .ref (G.1 + 103))]) [0] rfl ?_
  refine z_iconst C x_Ba_isWholeFor_0 ?_
  refine z_istore_n (lv' := [(1, vi 0), (0, .ref (G.1 + 103))]) C rfl x_Ba_isWholeFor_1 (i_lt rfl) rfl ?_
  refine z_iconst C x_Ba_isWholeFor_2 ?_
  refine z_istore_n (lv' := [(2, vi 0), (1, vi 0), (0, .ref (G.1 + 103))]) C rfl x_Ba_isWholeFor_3 (i_lt rfl) rfl ?_
  exact z_sub [2, 1, 0] rfl (zl_Ba_isWholeFor_4 C hlev FU 0 0 M h)
theorem x_Ba_sortIn_0 : DC b_Ba_sortIn 0 (.iload_n 1) 1 1 := ⟨by decide +kernel, rfl⟩
theorem x_Ba_sortIn_1 : DC b_Ba_sortIn 1 (.istore_n 2) 1 2 := ⟨by decide +kernel, rfl⟩
theorem x_Ba_sortIn_2 : DC b_Ba_sortIn 2 (.iload_n 2) 1 3 := ⟨by decide +kernel, rfl⟩
theorem x_Ba_sortIn_3 : DC b_Ba_sortIn 3 (.ifCond .le 45) 3 6 := ⟨by decide +kernel, rfl⟩
theorem x_Ba_sortIn_6 : DC b_Ba_sortIn 6 (.aload_n 0) 1 7 := ⟨by decide +kernel, rfl⟩
theorem x_Ba_sortIn_7 : DC b_Ba_sortIn 7 (.getfield 15) 3 10 := ⟨by decide +kernel, rfl⟩
theorem x_Ba_sortIn_10 : DC b_Ba_sortIn 10 (.aload_n 0) 1 11 := ⟨by decide +kernel, rfl⟩
theorem x_Ba_sortIn_11 : DC b_Ba_sortIn 11 (.getfield 18) 3 14 := ⟨by decide +kernel, rfl⟩
theorem x_Ba_sortIn_14 : DC b_Ba_sortIn 14 (.iload_n 2) 1 15 := ⟨by decide +kernel, rfl⟩
theorem x_Ba_sortIn_15 : DC b_Ba_sortIn 15 (.iconst 1) 1 16 := ⟨by decide +kernel, rfl⟩
theorem x_Ba_sortIn_16 : DC b_Ba_sortIn 16 (.isub) 1 17 := ⟨by decide +kernel, rfl⟩
theorem x_Ba_sortIn_17 : DC b_Ba_sortIn 17 (.iaload) 1 18 := ⟨by decide +kernel, rfl⟩
theorem x_Ba_sortIn_18 : DC b_Ba_sortIn 18 (.iaload) 1 19 := ⟨by decide +kernel, rfl⟩
theorem x_Ba_sortIn_19 : DC b_Ba_sortIn 19 (.aload_n 0) 1 20 := ⟨by decide +kernel, rfl⟩
theorem x_Ba_sortIn_20 : DC b_Ba_sortIn 20 (.getfield 15) 3 23 := ⟨by decide +kernel, rfl⟩
theorem x_Ba_sortIn_23 : DC b_Ba_sortIn 23 (.iload_n 1) 1 24 := ⟨by decide +kernel, rfl⟩
theorem x_Ba_sortIn_24 : DC b_Ba_sortIn 24 (.iaload) 1 25 := ⟨by decide +kernel, rfl⟩
theorem x_Ba_sortIn_25 : DC b_Ba_sortIn 25 (.if_icmp .ge 23) 3 28 := ⟨by decide +kernel, rfl⟩
theorem x_Ba_sortIn_28 : DC b_Ba_sortIn 28 (.aload_n 0) 1 29 := ⟨by decide +kernel, rfl⟩
theorem x_Ba_sortIn_29 : DC b_Ba_sortIn 29 (.getfield 18) 3 32 := ⟨by decide +kernel, rfl⟩
theorem x_Ba_sortIn_32 : DC b_Ba_sortIn 32 (.iload_n 2) 1 33 := ⟨by decide +kernel, rfl⟩
theorem x_Ba_sortIn_33 : DC b_Ba_sortIn 33 (.aload_n 0) 1 34 := ⟨by decide +kernel, rfl⟩
theorem x_Ba_sortIn_34 : DC b_Ba_sortIn 34 (.getfield 18) 3 37 := ⟨by decide +kernel, rfl⟩
theorem x_Ba_sortIn_37 : DC b_Ba_sortIn 37 (.iload_n 2) 1 38 := ⟨by decide +kernel, rfl⟩
theorem x_Ba_sortIn_38 : DC b_Ba_sortIn 38 (.iconst 1) 1 39 := ⟨by decide +kernel, rfl⟩
theorem x_Ba_sortIn_39 : DC b_Ba_sortIn 39 (.isub) 1 40 := ⟨by decide +kernel, rfl⟩
theorem x_Ba_sortIn_40 : DC b_Ba_sortIn 40 (.iaload) 1 41 := ⟨by decide +kernel, rfl⟩
theorem x_Ba_sortIn_41 : DC b_Ba_sortIn 41 (.iastore) 1 42 := ⟨by decide +kernel, rfl⟩
theorem x_Ba_sortIn_42 : DC b_Ba_sortIn 42 (.iinc 2 (-1)) 3 45 := ⟨by decide +kernel, rfl⟩
theorem x_Ba_sortIn_45 : DC b_Ba_sortIn 45 (.goto (-43)) 3 48 := ⟨by decide +kernel, rfl⟩
theorem x_Ba_sortIn_48 : DC b_Ba_sortIn 48 (.aload_n 0) 1 49 := ⟨by decide +kernel, rfl⟩
theorem x_Ba_sortIn_49 : DC b_Ba_sortIn 49 (.getfield 18) 3 52 := ⟨by decide +kernel, rfl⟩
theorem x_Ba_sortIn_52 : DC b_Ba_sortIn 52 (.iload_n 2) 1 53 := ⟨by decide +kernel, rfl⟩
theorem x_Ba_sortIn_53 : DC b_Ba_sortIn 53 (.iload_n 1) 1 54 := ⟨by decide +kernel, rfl⟩
theorem x_Ba_sortIn_54 : DC b_Ba_sortIn 54 (.iastore) 1 55 := ⟨by decide +kernel, rfl⟩
theorem x_Ba_sortIn_55 : DC b_Ba_sortIn 55 (.return_) 1 56 := ⟨by decide +kernel, rfl⟩
def k_Ba_sortIn_48 (a1 a2 : Int) (M : Mem) : Res := chk (0 ≤ w32 a2 ∧ w32 a2 < 20) <| blet (sto M 106 (ix a2) a1) fun M2 => some (0, M2)
theorem z_Ba_sortIn_48 (C : Cx p s m args meth c G b_Ba_sortIn 3 "PrairiePool$Ballot" none) (hlev : 0 ≤ lev) {r : Int × Mem}  {a1 a2 : Int} {M : Mem} (h : k_Ba_sortIn_48 a1 a2 M = some r) : Z p l e lev s m args below meth c G 3 (MQ below (Qm G 0 r) args s 0 0 (Ab G)) M 48 [(0, .ref (G.1 + 103)), (1, vi a1), (2, vi a2)] [] := by
  unfold k_Ba_sortIn_48 at h
  refine z_aload_n C 0 x_Ba_sortIn_48 rfl ?_
  refine z_getR (j := 4) C x_Ba_sortIn_49 nk_103 ck_103 cw_1 (i_lt rfl) rfl rf_103_4 rfl fl_Ba_18 ?_
  refine z_iload_n C 2 x_Ba_sortIn_52 rfl ?_
  refine z_iload_n C 1 x_Ba_sortIn_53 rfl ?_
  obtain ⟨c1, h⟩ := chk_e h
  obtain ⟨M2, eM2, h⟩ := blet_e h
  refine z_iast C x_Ba_sortIn_54 nk_106 ck_106 c1 eM2 ?_
  exact z_vret C x_Ba_sortIn_55 h
def k_Ba_sortIn_2 (R2 : Int → Int → Mem → Res) (a1 a2 : Int) (M : Mem) : Res := if 0 < w32 a2 then (chk (0 ≤ w32 (a2 - 1) ∧ w32 (a2 - 1) < 20) <| blet (M 106 (ix (a2 - 1))) fun v3 => chk (0 ≤ w32 v3 ∧ w32 v3 < 20) <| blet (M 105 (ix v3)) fun v5 => chk (0 ≤ w32 a1 ∧ w32 a1 < 20) <| blet (M 105 (ix a1)) fun v7 => if w32 v5 < w32 v7 then (chk (0 ≤ w32 (a2 - 1) ∧ w32 (a2 - 1) < 20) <| blet (M 106 (ix (a2 - 1))) fun v10 => chk (0 ≤ w32 a2 ∧ w32 a2 < 20) <| blet (sto M 106 (ix a2) v10) fun M12 => blet (a2 + (-1)) fun v13 => R2 a1 v13 M12) else (k_Ba_sortIn_48 a1 a2 M)) else (k_Ba_sortIn_48 a1 a2 M)
theorem z_Ba_sortIn_2 (C : Cx p s m args meth c G b_Ba_sortIn 3 "PrairiePool$Ballot" none) (hlev : 0 ≤ lev) {r : Int × Mem} {R2 : Int → Int → Mem → Res} (hR2 : ∀ (a1 a2 : Int) (M : Mem), R2 a1 a2 M = some r → Z p l e lev s m args below meth c G 3 (MQ below (Qm G 0 r) args s 0 0 (Ab G)) M 2 [(0, .ref (G.1 + 103)), (1, vi a1), (2, vi a2)] []) {a1 a2 : Int} {M : Mem} (h : k_Ba_sortIn_2 R2 a1 a2 M = some r) : Z p l e lev s m args below meth c G 3 (MQ below (Qm G 0 r) args s 0 0 (Ab G)) M 2 [(0, .ref (G.1 + 103)), (1, vi a1), (2, vi a2)] [] := by
  unfold k_Ba_sortIn_2 at h
  refine z_iload_n C 2 x_Ba_sortIn_2 rfl ?_
  rcases ite_e h with ⟨c1, h⟩ | ⟨c1, h⟩
  · refine z_if_le_f (tgt := 48) C x_Ba_sortIn_3 rfl c1 ?_
    refine z_aload_n C 0 x_Ba_sortIn_6 rfl ?_
    refine z_getR (j := 3) C x_Ba_sortIn_7 nk_103 ck_103 cw_1 (i_lt rfl) rfl rf_103_3 rfl fl_Ba_15 ?_
    refine z_aload_n C 0 x_Ba_sortIn_10 rfl ?_
    refine z_getR (j := 4) C x_Ba_sortIn_11 nk_103 ck_103 cw_1 (i_lt rfl) rfl rf_103_4 rfl fl_Ba_18 ?_
    refine z_iload_n C 2 x_Ba_sortIn_14 rfl ?_
    refine z_iconst C x_Ba_sortIn_15 ?_
    refine z_isub C x_Ba_sortIn_16 ?_
    obtain ⟨c2, h⟩ := chk_e h
    obtain ⟨v3, ev3, h⟩ := blet_e h
    refine z_iald C x_Ba_sortIn_17 nk_106 ck_106 c2 ev3 ?_
    obtain ⟨c4, h⟩ := chk_e h
    obtain ⟨v5, ev5, h⟩ := blet_e h
    refine z_iald C x_Ba_sortIn_18 nk_105 ck_105 c4 ev5 ?_
    refine z_aload_n C 0 x_Ba_sortIn_19 rfl ?_
    refine z_getR (j := 3) C x_Ba_sortIn_20 nk_103 ck_103 cw_1 (i_lt rfl) rfl rf_103_3 rfl fl_Ba_15 ?_
    refine z_iload_n C 1 x_Ba_sortIn_23 rfl ?_
    obtain ⟨c6, h⟩ := chk_e h
    obtain ⟨v7, ev7, h⟩ := blet_e h
    refine z_iald C x_Ba_sortIn_24 nk_105 ck_105 c6 ev7 ?_
    rcases ite_e h with ⟨c8, h⟩ | ⟨c8, h⟩
    · refine z_icmp_ge_f (tgt := 48) C x_Ba_sortIn_25 rfl c8 ?_
      refine z_aload_n C 0 x_Ba_sortIn_28 rfl ?_
      refine z_getR (j := 4) C x_Ba_sortIn_29 nk_103 ck_103 cw_1 (i_lt rfl) rfl rf_103_4 rfl fl_Ba_18 ?_
      refine z_iload_n C 2 x_Ba_sortIn_32 rfl ?_
      refine z_aload_n C 0 x_Ba_sortIn_33 rfl ?_
      refine z_getR (j := 4) C x_Ba_sortIn_34 nk_103 ck_103 cw_1 (i_lt rfl) rfl rf_103_4 rfl fl_Ba_18 ?_
      refine z_iload_n C 2 x_Ba_sortIn_37 rfl ?_
      refine z_iconst C x_Ba_sortIn_38 ?_
      refine z_isub C x_Ba_sortIn_39 ?_
      obtain ⟨c9, h⟩ := chk_e h
      obtain ⟨v10, ev10, h⟩ := blet_e h
      refine z_iald C x_Ba_sortIn_40 nk_106 ck_106 c9 ev10 ?_
      obtain ⟨c11, h⟩ := chk_e h
      obtain ⟨M12, eM12, h⟩ := blet_e h
      refine z_iast C x_Ba_sortIn_41 nk_106 ck_106 c11 eM12 ?_
      obtain ⟨v13, ev13, h⟩ := blet_e h
      refine z_iinc (lv' := [(2, vi v13), (0, .ref (G.1 + 103)), (1, vi a1)]) C 2 ev13 x_Ba_sortIn_42 rfl (i_lt rfl) rfl ?_
      refine z_goto (tgt := 2) C x_Ba_sortIn_45 rfl ?_
      exact z_sub [1, 2, 0] rfl (hR2 a1 v13 M12 h)
    · refine z_icmp_ge_t (tgt := 48) C x_Ba_sortIn_25 rfl c8 ?_
      exact z_sub [0, 1, 2] rfl (z_Ba_sortIn_48 C hlev h)
  · refine z_if_le_t (tgt := 48) C x_Ba_sortIn_3 rfl c1 ?_
    exact z_sub [0, 1, 2] rfl (z_Ba_sortIn_48 C hlev h)
theorem zl_Ba_sortIn_2 (C : Cx p s m args meth c G b_Ba_sortIn 3 "PrairiePool$Ballot" none) (hlev : 0 ≤ lev) {r : Int × Mem}  : ∀ (n : Nat) (a1 a2 : Int) (M : Mem), fix (fun _ _ _ => none) (k_Ba_sortIn_2) n a1 a2 M = some r → Z p l e lev s m args below meth c G 3 (MQ below (Qm G 0 r) args s 0 0 (Ab G)) M 2 [(0, .ref (G.1 + 103)), (1, vi a1), (2, vi a2)] [] := by
  intro n
  induction n with
  | zero => intro a1 a2 M h; exact nomatch (show (none : Res) = some r from h)
  | succ n ih => intro a1 a2 M h; exact z_Ba_sortIn_2 C hlev ih h
def d_Ba_sortIn (a1 : Int) (M : Mem) : Res := fix (fun _ _ _ => none) (k_Ba_sortIn_2) FU a1 a1 M
theorem t_Ba_sortIn (l : Launch) (G : GX) {lev : Nat} (hlev : 0 ≤ lev) {a1 : Int} {M : Mem} {r : Int × Mem} (h : d_Ba_sortIn a1 M = some r) : Mt l G y_Ba_sortIn b_Ba_sortIn 3 none lev 0 [.ref (G.1 + 103), vi a1] M r := by
  refine Mt.of (by decide) (i_le rfl) ?_
  intro p e s m args below meth c C
  have C : Cx p s m args meth c G b_Ba_sortIn 3 "PrairiePool$Ballot" none := C
  unfold d_Ba_sortIn at h
  refine z_sub (lv' := [(0, .ref (G.1 + 103)), (1, vi a1)]) [0, 1] rfl ?_
  refine z_iload_n C 1 x_Ba_sortIn_0 rfl ?_
  refine z_istore_n (lv' := [(2, vi a1), (0, .ref (G.1 + 103)), (1, vi a1)]) C rfl x_Ba_sortIn_1 (i_lt rfl) rfl ?_
  exact z_sub [1, 2, 0] rfl (zl_Ba_sortIn_2 C hlev FU a1 a1 M h)
theorem x_Ba_prepareToTurn_0 : DC b_Ba_prepareToTurn 0 (.aload_n 0) 1 1 := ⟨by decide +kernel, rfl⟩
theorem x_Ba_prepareToTurn_1 : DC b_Ba_prepareToTurn 1 (.invokevirtual 90) 3 4 := ⟨by decide +kernel, rfl⟩
theorem x_Ba_prepareToTurn_4 : DC b_Ba_prepareToTurn 4 (.istore_n 1) 1 5 := ⟨by decide +kernel, rfl⟩
theorem x_Ba_prepareToTurn_5 : DC b_Ba_prepareToTurn 5 (.iconst 0) 1 6 := ⟨by decide +kernel, rfl⟩
theorem x_Ba_prepareToTurn_6 : DC b_Ba_prepareToTurn 6 (.istore_n 2) 1 7 := ⟨by decide +kernel, rfl⟩
theorem x_Ba_prepareToTurn_7 : DC b_Ba_prepareToTurn 7 (.iload_n 2) 1 8 := ⟨by decide +kernel, rfl⟩
theorem x_Ba_prepareToTurn_8 : DC b_Ba_prepareToTurn 8 (.bipush 6) 2 10 := ⟨by decide +kernel, rfl⟩
theorem x_Ba_prepareToTurn_10 : DC b_Ba_prepareToTurn 10 (.if_icmp .ge 35) 3 13 := ⟨by decide +kernel, rfl⟩
theorem x_Ba_prepareToTurn_13 : DC b_Ba_prepareToTurn 13 (.aload_n 0) 1 14 := ⟨by decide +kernel, rfl⟩
theorem x_Ba_prepareToTurn_14 : DC b_Ba_prepareToTurn 14 (.getfield 25) 3 17 := ⟨by decide +kernel, rfl⟩
theorem x_Ba_prepareToTurn_17 : DC b_Ba_prepareToTurn 17 (.iload_n 2) 1 18 := ⟨by decide +kernel, rfl⟩
theorem x_Ba_prepareToTurn_18 : DC b_Ba_prepareToTurn 18 (.iload_n 1) 1 19 := ⟨by decide +kernel, rfl⟩
theorem x_Ba_prepareToTurn_19 : DC b_Ba_prepareToTurn 19 (.ifCond .eq 13) 3 22 := ⟨by decide +kernel, rfl⟩
theorem x_Ba_prepareToTurn_22 : DC b_Ba_prepareToTurn 22 (.aload_n 0) 1 23 := ⟨by decide +kernel, rfl⟩
theorem x_Ba_prepareToTurn_23 : DC b_Ba_prepareToTurn 23 (.getfield 9) 3 26 := ⟨by decide +kernel, rfl⟩
theorem x_Ba_prepareToTurn_26 : DC b_Ba_prepareToTurn 26 (.iload_n 2) 1 27 := ⟨by decide +kernel, rfl⟩
theorem x_Ba_prepareToTurn_27 : DC b_Ba_prepareToTurn 27 (.iaload) 1 28 := ⟨by decide +kernel, rfl⟩
theorem x_Ba_prepareToTurn_28 : DC b_Ba_prepareToTurn 28 (.ineg) 1 29 := ⟨by decide +kernel, rfl⟩
theorem x_Ba_prepareToTurn_29 : DC b_Ba_prepareToTurn 29 (.goto 9) 3 32 := ⟨by decide +kernel, rfl⟩
theorem x_Ba_prepareToTurn_32 : DC b_Ba_prepareToTurn 32 (.aload_n 0) 1 33 := ⟨by decide +kernel, rfl⟩
theorem x_Ba_prepareToTurn_33 : DC b_Ba_prepareToTurn 33 (.getfield 9) 3 36 := ⟨by decide +kernel, rfl⟩
theorem x_Ba_prepareToTurn_36 : DC b_Ba_prepareToTurn 36 (.iload_n 2) 1 37 := ⟨by decide +kernel, rfl⟩
theorem x_Ba_prepareToTurn_37 : DC b_Ba_prepareToTurn 37 (.iaload) 1 38 := ⟨by decide +kernel, rfl⟩
theorem x_Ba_prepareToTurn_38 : DC b_Ba_prepareToTurn 38 (.iastore) 1 39 := ⟨by decide +kernel, rfl⟩
theorem x_Ba_prepareToTurn_39 : DC b_Ba_prepareToTurn 39 (.iinc 2 1) 3 42 := ⟨by decide +kernel, rfl⟩
theorem x_Ba_prepareToTurn_42 : DC b_Ba_prepareToTurn 42 (.goto (-35)) 3 45 := ⟨by decide +kernel, rfl⟩
theorem x_Ba_prepareToTurn_45 : DC b_Ba_prepareToTurn 45 (.iconst 0) 1 46 := ⟨by decide +kernel, rfl⟩
theorem x_Ba_prepareToTurn_46 : DC b_Ba_prepareToTurn 46 (.istore_n 2) 1 47 := ⟨by decide +kernel, rfl⟩
theorem x_Ba_prepareToTurn_47 : DC b_Ba_prepareToTurn 47 (.iload_n 2) 1 48 := ⟨by decide +kernel, rfl⟩
theorem x_Ba_prepareToTurn_48 : DC b_Ba_prepareToTurn 48 (.aload_n 0) 1 49 := ⟨by decide +kernel, rfl⟩
theorem x_Ba_prepareToTurn_49 : DC b_Ba_prepareToTurn 49 (.getfield 34) 3 52 := ⟨by decide +kernel, rfl⟩
theorem x_Ba_prepareToTurn_52 : DC b_Ba_prepareToTurn 52 (.getfield 57) 3 55 := ⟨by decide +kernel, rfl⟩
theorem x_Ba_prepareToTurn_55 : DC b_Ba_prepareToTurn 55 (.if_icmp .ge 38) 3 58 := ⟨by decide +kernel, rfl⟩
theorem x_Ba_prepareToTurn_58 : DC b_Ba_prepareToTurn 58 (.aload_n 0) 1 59 := ⟨by decide +kernel, rfl⟩
theorem x_Ba_prepareToTurn_59 : DC b_Ba_prepareToTurn 59 (.getfield 21) 3 62 := ⟨by decide +kernel, rfl⟩
theorem x_Ba_prepareToTurn_62 : DC b_Ba_prepareToTurn 62 (.iload_n 2) 1 63 := ⟨by decide +kernel, rfl⟩
theorem x_Ba_prepareToTurn_63 : DC b_Ba_prepareToTurn 63 (.aload_n 0) 1 64 := ⟨by decide +kernel, rfl⟩
theorem x_Ba_prepareToTurn_64 : DC b_Ba_prepareToTurn 64 (.getfield 34) 3 67 := ⟨by decide +kernel, rfl⟩
theorem x_Ba_prepareToTurn_67 : DC b_Ba_prepareToTurn 67 (.getfield 71) 3 70 := ⟨by decide +kernel, rfl⟩
theorem x_Ba_prepareToTurn_70 : DC b_Ba_prepareToTurn 70 (.iload_n 2) 1 71 := ⟨by decide +kernel, rfl⟩
theorem x_Ba_prepareToTurn_71 : DC b_Ba_prepareToTurn 71 (.iaload) 1 72 := ⟨by decide +kernel, rfl⟩
theorem x_Ba_prepareToTurn_72 : DC b_Ba_prepareToTurn 72 (.iconst (-1)) 1 73 := ⟨by decide +kernel, rfl⟩
theorem x_Ba_prepareToTurn_73 : DC b_Ba_prepareToTurn 73 (.if_icmp .ne 7) 3 76 := ⟨by decide +kernel, rfl⟩
theorem x_Ba_prepareToTurn_76 : DC b_Ba_prepareToTurn 76 (.iconst 1) 1 77 := ⟨by decide +kernel, rfl⟩
theorem x_Ba_prepareToTurn_77 : DC b_Ba_prepareToTurn 77 (.goto 4) 3 80 := ⟨by decide +kernel, rfl⟩
theorem x_Ba_prepareToTurn_80 : DC b_Ba_prepareToTurn 80 (.iconst 0) 1 81 := ⟨by decide +kernel, rfl⟩
theorem x_Ba_prepareToTurn_81 : DC b_Ba_prepareToTurn 81 (.bastore) 1 82 := ⟨by decide +kernel, rfl⟩
theorem x_Ba_prepareToTurn_82 : DC b_Ba_prepareToTurn 82 (.aload_n 0) 1 83 := ⟨by decide +kernel, rfl⟩
theorem x_Ba_prepareToTurn_83 : DC b_Ba_prepareToTurn 83 (.iload_n 2) 1 84 := ⟨by decide +kernel, rfl⟩
theorem x_Ba_prepareToTurn_84 : DC b_Ba_prepareToTurn 84 (.invokevirtual 94) 3 87 := ⟨by decide +kernel, rfl⟩
theorem x_Ba_prepareToTurn_87 : DC b_Ba_prepareToTurn 87 (.iinc 2 1) 3 90 := ⟨by decide +kernel, rfl⟩
theorem x_Ba_prepareToTurn_90 : DC b_Ba_prepareToTurn 90 (.goto (-43)) 3 93 := ⟨by decide +kernel, rfl⟩
theorem x_Ba_prepareToTurn_93 : DC b_Ba_prepareToTurn 93 (.iload_n 1) 1 94 := ⟨by decide +kernel, rfl⟩
theorem x_Ba_prepareToTurn_94 : DC b_Ba_prepareToTurn 94 (.ifCond .eq 7) 3 97 := ⟨by decide +kernel, rfl⟩
theorem x_Ba_prepareToTurn_97 : DC b_Ba_prepareToTurn 97 (.iconst 0) 1 98 := ⟨by decide +kernel, rfl⟩
theorem x_Ba_prepareToTurn_98 : DC b_Ba_prepareToTurn 98 (.goto 4) 3 101 := ⟨by decide +kernel, rfl⟩
theorem x_Ba_prepareToTurn_101 : DC b_Ba_prepareToTurn 101 (.iconst 1) 1 102 := ⟨by decide +kernel, rfl⟩
theorem x_Ba_prepareToTurn_102 : DC b_Ba_prepareToTurn 102 (.ireturn) 1 103 := ⟨by decide +kernel, rfl⟩
def k_Ba_prepareToTurn_81 (R47 : Int → Int → Mem → Res) (a1 a2 s1 s2 : Int) (M : Mem) : Res := chk (0 ≤ w32 s1 ∧ w32 s1 < 20) <| blet (sto M 107 (ix s1) s2) fun M2 => bcall (d_Ba_sortIn a2 M2) fun v3 M4 => blet (a2 + 1) fun v5 => R47 a1 v5 M4
theorem z_Ba_prepareToTurn_81 (C : Cx p s m args meth c G b_Ba_prepareToTurn 3 "PrairiePool$Ballot" (some .int)) (hlev : 2 ≤ lev) {r : Int × Mem} {R47 : Int → Int → Mem → Res} (hR47 : ∀ (a1 a2 : Int) (M : Mem), R47 a1 a2 M = some r → Z p l e lev s m args below meth c G 3 (MQ below (Qm G 1 r) args s 0 0 (Ab G)) M 47 [(0, .ref (G.1 + 103)), (1, vi a1), (2, vi a2)] []) {a1 a2 s1 s2 : Int} {M : Mem} (h : k_Ba_prepareToTurn_81 R47 a1 a2 s1 s2 M = some r) : Z p l e lev s m args below meth c G 3 (MQ below (Qm G 1 r) args s 0 0 (Ab G)) M 81 [(0, .ref (G.1 + 103)), (1, vi a1), (2, vi a2)] [vi s2, vi s1, .ref (G.1 + 107)] := by
  unfold k_Ba_prepareToTurn_81 at h
  obtain ⟨c1, h⟩ := chk_e h
  obtain ⟨M2, eM2, h⟩ := blet_e h
  refine z_zast C x_Ba_prepareToTurn_81 nk_107 ck_107 c1 eM2 ?_
  refine z_aload_n C 0 x_Ba_prepareToTurn_82 rfl ?_
  refine z_iload_n C 2 x_Ba_prepareToTurn_83 rfl ?_
  obtain ⟨v3, M4, fv3, h⟩ := bcall_e h
  refine z_callVv (k := 103) C x_Ba_prepareToTurn_84 cv_Ba_94 (t_Ba_sortIn (lev := lev - 1) l G (by omega) fv3) nk_103 ck_103 rfl (by omega) rfl (i_le rfl) rfl ?_
  obtain ⟨v5, ev5, h⟩ := blet_e h
  refine z_iinc (lv' := [(2, vi v5), (0, .ref (G.1 + 103)), (1, vi a1)]) C 2 ev5 x_Ba_prepareToTurn_87 rfl (i_lt rfl) rfl ?_
  refine z_goto (tgt := 47) C x_Ba_prepareToTurn_90 rfl ?_
  exact z_sub [1, 2, 0] rfl (hR47 a1 v5 M4 h)
def k_Ba_prepareToTurn_47 (R47 : Int → Int → Mem → Res) (a1 a2 : Int) (M : Mem) : Res := blet (M 5 0) fun v1 => if w32 a2 < w32 v1 then (chk (0 ≤ w32 a2 ∧ w32 a2 < 20) <| blet (M 12 (ix a2)) fun v4 => if w32 v4 = (-1) then (k_Ba_prepareToTurn_81 R47 a1 a2 a2 1 M) else (k_Ba_prepareToTurn_81 R47 a1 a2 a2 0 M)) else (if w32 a1 = 0 then (some (1, M)) else (some (0, M)))
theorem z_Ba_prepareToTurn_47 (C : Cx p s m args meth c G b_Ba_prepareToTurn 3 "PrairiePool$Ballot" (some .int)) (hlev : 2 ≤ lev) {r : Int × Mem} {R47 : Int → Int → Mem → Res} (hR47 : ∀ (a1 a2 : Int) (M : Mem), R47 a1 a2 M = some r → Z p l e lev s m args below meth c G 3 (MQ below (Qm G 1 r) args s 0 0 (Ab G)) M 47 [(0, .ref (G.1 + 103)), (1, vi a1), (2, vi a2)] []) {a1 a2 : Int} {M : Mem} (h : k_Ba_prepareToTurn_47 R47 a1 a2 M = some r) : Z p l e lev s m args below meth c G 3 (MQ below (Qm G 1 r) args s 0 0 (Ab G)) M 47 [(0, .ref (G.1 + 103)), (1, vi a1), (2, vi a2)] [] := by
  unfold k_Ba_prepareToTurn_47 at h
  refine z_iload_n C 2 x_Ba_prepareToTurn_47 rfl ?_
  refine z_aload_n C 0 x_Ba_prepareToTurn_48 rfl ?_
  refine z_getR (j := 1) C x_Ba_prepareToTurn_49 nk_103 ck_103 cw_1 (i_lt rfl) rfl rf_103_1 rfl fl_Ba_34 ?_
  obtain ⟨v1, ev1, h⟩ := blet_e h
  refine z_getI (j := 0) C x_Ba_prepareToTurn_52 nk_5 ck_5 cw_7 (i_lt rfl) rfl rfl fl_Ba_57 ev1 ?_
  rcases ite_e h with ⟨c2, h⟩ | ⟨c2, h⟩
  · refine z_icmp_ge_f (tgt := 93) C x_Ba_prepareToTurn_55 rfl c2 ?_
    refine z_aload_n C 0 x_Ba_prepareToTurn_58 rfl ?_
    refine z_getR (j := 5) C x_Ba_prepareToTurn_59 nk_103 ck_103 cw_1 (i_lt rfl) rfl rf_103_5 rfl fl_Ba_21 ?_
    refine z_iload_n C 2 x_Ba_prepareToTurn_62 rfl ?_
    refine z_aload_n C 0 x_Ba_prepareToTurn_63 rfl ?_
    refine z_getR (j := 1) C x_Ba_prepareToTurn_64 nk_103 ck_103 cw_1 (i_lt rfl) rfl rf_103_1 rfl fl_Ba_34 ?_
    refine z_getR (j := 7) C x_Ba_prepareToTurn_67 nk_5 ck_5 cw_7 (i_lt rfl) rfl rf_5_7 rfl fl_Ba_71 ?_
    refine z_iload_n C 2 x_Ba_prepareToTurn_70 rfl ?_
    obtain ⟨c3, h⟩ := chk_e h
    obtain ⟨v4, ev4, h⟩ := blet_e h
    refine z_iald C x_Ba_prepareToTurn_71 nk_12 ck_12 c3 ev4 ?_
    refine z_iconst C x_Ba_prepareToTurn_72 ?_
    rcases ite_e h with ⟨c5, h⟩ | ⟨c5, h⟩
    · refine z_icmp_ne_f (tgt := 80) C x_Ba_prepareToTurn_73 rfl c5 ?_
      refine z_iconst C x_Ba_prepareToTurn_76 ?_
      refine z_goto (tgt := 81) C x_Ba_prepareToTurn_77 rfl ?_
      exact z_sub [0, 1, 2] rfl (z_Ba_prepareToTurn_81 C hlev hR47 h)
    · refine z_icmp_ne_t (tgt := 80) C x_Ba_prepareToTurn_73 rfl c5 ?_
      refine z_iconst C x_Ba_prepareToTurn_80 ?_
      exact z_sub [0, 1, 2] rfl (z_Ba_prepareToTurn_81 C hlev hR47 h)
  · refine z_icmp_ge_t (tgt := 93) C x_Ba_prepareToTurn_55 rfl c2 ?_
    refine z_iload_n C 1 x_Ba_prepareToTurn_93 rfl ?_
    rcases ite_e h with ⟨c6, h⟩ | ⟨c6, h⟩
    · refine z_if_eq_t (tgt := 101) C x_Ba_prepareToTurn_94 rfl c6 ?_
      refine z_iconst C x_Ba_prepareToTurn_101 ?_
      exact z_iret C x_Ba_prepareToTurn_102 h
    · refine z_if_eq_f (tgt := 101) C x_Ba_prepareToTurn_94 rfl c6 ?_
      refine z_iconst C x_Ba_prepareToTurn_97 ?_
      refine z_goto (tgt := 102) C x_Ba_prepareToTurn_98 rfl ?_
      exact z_iret C x_Ba_prepareToTurn_102 h
theorem zl_Ba_prepareToTurn_47 (C : Cx p s m args meth c G b_Ba_prepareToTurn 3 "PrairiePool$Ballot" (some .int)) (hlev : 2 ≤ lev) {r : Int × Mem}  : ∀ (n : Nat) (a1 a2 : Int) (M : Mem), fix (fun _ _ _ => none) (k_Ba_prepareToTurn_47) n a1 a2 M = some r → Z p l e lev s m args below meth c G 3 (MQ below (Qm G 1 r) args s 0 0 (Ab G)) M 47 [(0, .ref (G.1 + 103)), (1, vi a1), (2, vi a2)] [] := by
  intro n
  induction n with
  | zero => intro a1 a2 M h; exact nomatch (show (none : Res) = some r from h)
  | succ n ih => intro a1 a2 M h; exact z_Ba_prepareToTurn_47 C hlev ih h
def k_Ba_prepareToTurn_38 (R7 : Int → Int → Mem → Res) (a1 a2 s1 s2 : Int) (M : Mem) : Res := chk (0 ≤ w32 s1 ∧ w32 s1 < 6) <| blet (sto M 108 (ix s1) s2) fun M2 => blet (a2 + 1) fun v3 => R7 a1 v3 M2
theorem z_Ba_prepareToTurn_38 (C : Cx p s m args meth c G b_Ba_prepareToTurn 3 "PrairiePool$Ballot" (some .int)) (hlev : 2 ≤ lev) {r : Int × Mem} {R7 : Int → Int → Mem → Res} (hR7 : ∀ (a1 a2 : Int) (M : Mem), R7 a1 a2 M = some r → Z p l e lev s m args below meth c G 3 (MQ below (Qm G 1 r) args s 0 0 (Ab G)) M 7 [(0, .ref (G.1 + 103)), (1, vi a1), (2, vi a2)] []) {a1 a2 s1 s2 : Int} {M : Mem} (h : k_Ba_prepareToTurn_38 R7 a1 a2 s1 s2 M = some r) : Z p l e lev s m args below meth c G 3 (MQ below (Qm G 1 r) args s 0 0 (Ab G)) M 38 [(0, .ref (G.1 + 103)), (1, vi a1), (2, vi a2)] [vi s2, vi s1, .ref (G.1 + 108)] := by
  unfold k_Ba_prepareToTurn_38 at h
  obtain ⟨c1, h⟩ := chk_e h
  obtain ⟨M2, eM2, h⟩ := blet_e h
  refine z_iast C x_Ba_prepareToTurn_38 nk_108 ck_108 c1 eM2 ?_
  obtain ⟨v3, ev3, h⟩ := blet_e h
  refine z_iinc (lv' := [(2, vi v3), (0, .ref (G.1 + 103)), (1, vi a1)]) C 2 ev3 x_Ba_prepareToTurn_39 rfl (i_lt rfl) rfl ?_
  refine z_goto (tgt := 7) C x_Ba_prepareToTurn_42 rfl ?_
  exact z_sub [1, 2, 0] rfl (hR7 a1 v3 M2 h)
def k_Ba_prepareToTurn_7 (R7 : Int → Int → Mem → Res) (a1 a2 : Int) (M : Mem) : Res := if w32 a2 < 6 then (if w32 a1 = 0 then (chk (0 ≤ w32 a2 ∧ w32 a2 < 6) <| blet (M 104 (ix a2)) fun v4 => k_Ba_prepareToTurn_38 R7 a1 a2 a2 v4 M) else (chk (0 ≤ w32 a2 ∧ w32 a2 < 6) <| blet (M 104 (ix a2)) fun v6 => k_Ba_prepareToTurn_38 R7 a1 a2 a2 (-v6) M)) else (fix (fun _ _ _ => none) (k_Ba_prepareToTurn_47) FU a1 0 M)
theorem z_Ba_prepareToTurn_7 (C : Cx p s m args meth c G b_Ba_prepareToTurn 3 "PrairiePool$Ballot" (some .int)) (hlev : 2 ≤ lev) {r : Int × Mem} {R7 : Int → Int → Mem → Res} (hR7 : ∀ (a1 a2 : Int) (M : Mem), R7 a1 a2 M = some r → Z p l e lev s m args below meth c G 3 (MQ below (Qm G 1 r) args s 0 0 (Ab G)) M 7 [(0, .ref (G.1 + 103)), (1, vi a1), (2, vi a2)] []) {a1 a2 : Int} {M : Mem} (h : k_Ba_prepareToTurn_7 R7 a1 a2 M = some r) : Z p l e lev s m args below meth c G 3 (MQ below (Qm G 1 r) args s 0 0 (Ab G)) M 7 [(0, .ref (G.1 + 103)), (1, vi a1), (2, vi a2)] [] := by
  unfold k_Ba_prepareToTurn_7 at h
  refine z_iload_n C 2 x_Ba_prepareToTurn_7 rfl ?_
  refine z_bipush C rfl x_Ba_prepareToTurn_8 ?_
  rcases ite_e h with ⟨c1, h⟩ | ⟨c1, h⟩
  · refine z_icmp_ge_f (tgt := 45) C x_Ba_prepareToTurn_10 rfl c1 ?_
    refine z_aload_n C 0 x_Ba_prepareToTurn_13 rfl ?_
    refine z_getR (j := 6) C x_Ba_prepareToTurn_14 nk_103 ck_103 cw_1 (i_lt rfl) rfl rf_103_6 rfl fl_Ba_25 ?_
    refine z_iload_n C 2 x_Ba_prepareToTurn_17 rfl ?_
    refine z_iload_n C 1 x_Ba_prepareToTurn_18 rfl ?_
    rcases ite_e h with ⟨c2, h⟩ | ⟨c2, h⟩
    · refine z_if_eq_t (tgt := 32) C x_Ba_prepareToTurn_19 rfl c2 ?_
      refine z_aload_n C 0 x_Ba_prepareToTurn_32 rfl ?_
      refine z_getR (j := 0) C x_Ba_prepareToTurn_33 nk_103 ck_103 cw_1 (i_lt rfl) rfl rf_103_0 rfl fl_Ba_9 ?_
      refine z_iload_n C 2 x_Ba_prepareToTurn_36 rfl ?_
      obtain ⟨c3, h⟩ := chk_e h
      obtain ⟨v4, ev4, h⟩ := blet_e h
      refine z_iald C x_Ba_prepareToTurn_37 nk_104 ck_104 c3 ev4 ?_
      exact z_sub [0, 1, 2] rfl (z_Ba_prepareToTurn_38 C hlev hR7 h)
    · refine z_if_eq_f (tgt := 32) C x_Ba_prepareToTurn_19 rfl c2 ?_
      refine z_aload_n C 0 x_Ba_prepareToTurn_22 rfl ?_
      refine z_getR (j := 0) C x_Ba_prepareToTurn_23 nk_103 ck_103 cw_1 (i_lt rfl) rfl rf_103_0 rfl fl_Ba_9 ?_
      refine z_iload_n C 2 x_Ba_prepareToTurn_26 rfl ?_
      obtain ⟨c5, h⟩ := chk_e h
      obtain ⟨v6, ev6, h⟩ := blet_e h
      refine z_iald C x_Ba_prepareToTurn_27 nk_104 ck_104 c5 ev6 ?_
      refine z_ineg C x_Ba_prepareToTurn_28 ?_
      refine z_goto (tgt := 38) C x_Ba_prepareToTurn_29 rfl ?_
      exact z_sub [0, 1, 2] rfl (z_Ba_prepareToTurn_38 C hlev hR7 h)
  · refine z_icmp_ge_t (tgt := 45) C x_Ba_prepareToTurn_10 rfl c1 ?_
    refine z_iconst C x_Ba_prepareToTurn_45 ?_
    refine z_istore_n (lv' := [(2, vi 0), (0, .ref (G.1 + 103)), (1, vi a1)]) C rfl x_Ba_prepareToTurn_46 (i_lt rfl) rfl ?_
    exact z_sub [1, 2, 0] rfl (zl_Ba_prepareToTurn_47 C hlev FU a1 0 M h)
theorem zl_Ba_prepareToTurn_7 (C : Cx p s m args meth c G b_Ba_prepareToTurn 3 "PrairiePool$Ballot" (some .int)) (hlev : 2 ≤ lev) {r : Int × Mem}  : ∀ (n : Nat) (a1 a2 : Int) (M : Mem), fix (fun _ _ _ => none) (k_Ba_prepareToTurn_7) n a1 a2 M = some r → Z p l e lev s m args below meth c G 3 (MQ below (Qm G 1 r) args s 0 0 (Ab G)) M 7 [(0, .ref (G.1 + 103)), (1, vi a1), (2, vi a2)] [] := by
  intro n
  induction n with
  | zero => intro a1 a2 M h; exact nomatch (show (none : Res) = some r from h)
  | succ n ih => intro a1 a2 M h; exact z_Ba_prepareToTurn_7 C hlev ih h
def d_Ba_prepareToTurn (M : Mem) : Res := bcall (d_Ba_isWholeFor M) fun v1 M2 => fix (fun _ _ _ => none) (k_Ba_prepareToTurn_7) FU v1 0 M2
theorem t_Ba_prepareToTurn (l : Launch) (G : GX) {lev : Nat} (hlev : 2 ≤ lev) {M : Mem} {r : Int × Mem} (h : d_Ba_prepareToTurn M = some r) : Mt l G y_Ba_prepareToTurn b_Ba_prepareToTurn 3 (some .int) lev 1 [.ref (G.1 + 103)] M r := by
  refine Mt.of (by decide) (i_le rfl) ?_
  intro p e s m args below meth c C
  have C : Cx p s m args meth c G b_Ba_prepareToTurn 3 "PrairiePool$Ballot" (some .int) := C
  unfold d_Ba_prepareToTurn at h
  refine z_sub (lv' := [(0, .ref (G.1 + 103))]) [0] rfl ?_
  refine z_aload_n C 0 x_Ba_prepareToTurn_0 rfl ?_
  obtain ⟨v1, M2, fv1, h⟩ := bcall_e h
  refine z_callVi (k := 103) C x_Ba_prepareToTurn_1 cv_Ba_90 (t_Ba_isWholeFor (lev := lev - 1) l G (by omega) fv1) nk_103 ck_103 rfl (by omega) rfl (i_le rfl) rfl ?_
  refine z_istore_n (lv' := [(1, vi v1), (0, .ref (G.1 + 103))]) C rfl x_Ba_prepareToTurn_4 (i_lt rfl) rfl ?_
  refine z_iconst C x_Ba_prepareToTurn_5 ?_
  refine z_istore_n (lv' := [(2, vi 0), (1, vi v1), (0, .ref (G.1 + 103))]) C rfl x_Ba_prepareToTurn_6 (i_lt rfl) rfl ?_
  exact z_sub [2, 1, 0] rfl (zl_Ba_prepareToTurn_7 C hlev FU v1 0 M2 h)
theorem x_Ba_fewestToGain_0 : DC b_Ba_fewestToGain 0 (.aload_n 0) 1 1 := ⟨by decide +kernel, rfl⟩
theorem x_Ba_fewestToGain_1 : DC b_Ba_fewestToGain 1 (.getfield 25) 3 4 := ⟨by decide +kernel, rfl⟩
theorem x_Ba_fewestToGain_4 : DC b_Ba_fewestToGain 4 (.iload_n 1) 1 5 := ⟨by decide +kernel, rfl⟩
theorem x_Ba_fewestToGain_5 : DC b_Ba_fewestToGain 5 (.iaload) 1 6 := ⟨by decide +kernel, rfl⟩
theorem x_Ba_fewestToGain_6 : DC b_Ba_fewestToGain 6 (.istore_n 3) 1 7 := ⟨by decide +kernel, rfl⟩
theorem x_Ba_fewestToGain_7 : DC b_Ba_fewestToGain 7 (.iconst 0) 1 8 := ⟨by decide +kernel, rfl⟩
theorem x_Ba_fewestToGain_8 : DC b_Ba_fewestToGain 8 (.istore 4) 2 10 := ⟨by decide +kernel, rfl⟩
theorem x_Ba_fewestToGain_10 : DC b_Ba_fewestToGain 10 (.iconst 0) 1 11 := ⟨by decide +kernel, rfl⟩
theorem x_Ba_fewestToGain_11 : DC b_Ba_fewestToGain 11 (.istore 5) 2 13 := ⟨by decide +kernel, rfl⟩
theorem x_Ba_fewestToGain_13 : DC b_Ba_fewestToGain 13 (.iload 5) 2 15 := ⟨by decide +kernel, rfl⟩
theorem x_Ba_fewestToGain_15 : DC b_Ba_fewestToGain 15 (.aload_n 0) 1 16 := ⟨by decide +kernel, rfl⟩
theorem x_Ba_fewestToGain_16 : DC b_Ba_fewestToGain 16 (.getfield 34) 3 19 := ⟨by decide +kernel, rfl⟩
theorem x_Ba_fewestToGain_19 : DC b_Ba_fewestToGain 19 (.getfield 57) 3 22 := ⟨by decide +kernel, rfl⟩
theorem x_Ba_fewestToGain_22 : DC b_Ba_fewestToGain 22 (.if_icmp .ge 60) 3 25 := ⟨by decide +kernel, rfl⟩
theorem x_Ba_fewestToGain_25 : DC b_Ba_fewestToGain 25 (.iload_n 3) 1 26 := ⟨by decide +kernel, rfl⟩
theorem x_Ba_fewestToGain_26 : DC b_Ba_fewestToGain 26 (.iload_n 2) 1 27 := ⟨by decide +kernel, rfl⟩
theorem x_Ba_fewestToGain_27 : DC b_Ba_fewestToGain 27 (.if_icmp .ge 55) 3 30 := ⟨by decide +kernel, rfl⟩
theorem x_Ba_fewestToGain_30 : DC b_Ba_fewestToGain 30 (.aload_n 0) 1 31 := ⟨by decide +kernel, rfl⟩
theorem x_Ba_fewestToGain_31 : DC b_Ba_fewestToGain 31 (.getfield 18) 3 34 := ⟨by decide +kernel, rfl⟩
theorem x_Ba_fewestToGain_34 : DC b_Ba_fewestToGain 34 (.iload 5) 2 36 := ⟨by decide +kernel, rfl⟩
theorem x_Ba_fewestToGain_36 : DC b_Ba_fewestToGain 36 (.iaload) 1 37 := ⟨by decide +kernel, rfl⟩
theorem x_Ba_fewestToGain_37 : DC b_Ba_fewestToGain 37 (.istore 6) 2 39 := ⟨by decide +kernel, rfl⟩
theorem x_Ba_fewestToGain_39 : DC b_Ba_fewestToGain 39 (.aload_n 0) 1 40 := ⟨by decide +kernel, rfl⟩
theorem x_Ba_fewestToGain_40 : DC b_Ba_fewestToGain 40 (.getfield 21) 3 43 := ⟨by decide +kernel, rfl⟩
theorem x_Ba_fewestToGain_43 : DC b_Ba_fewestToGain 43 (.iload 6) 2 45 := ⟨by decide +kernel, rfl⟩
theorem x_Ba_fewestToGain_45 : DC b_Ba_fewestToGain 45 (.baload) 1 46 := ⟨by decide +kernel, rfl⟩
theorem x_Ba_fewestToGain_46 : DC b_Ba_fewestToGain 46 (.ifCond .eq 30) 3 49 := ⟨by decide +kernel, rfl⟩
theorem x_Ba_fewestToGain_49 : DC b_Ba_fewestToGain 49 (.aload_n 0) 1 50 := ⟨by decide +kernel, rfl⟩
theorem x_Ba_fewestToGain_50 : DC b_Ba_fewestToGain 50 (.getfield 34) 3 53 := ⟨by decide +kernel, rfl⟩
theorem x_Ba_fewestToGain_53 : DC b_Ba_fewestToGain 53 (.getfield 74) 3 56 := ⟨by decide +kernel, rfl⟩
theorem x_Ba_fewestToGain_56 : DC b_Ba_fewestToGain 56 (.iload 6) 2 58 := ⟨by decide +kernel, rfl⟩
theorem x_Ba_fewestToGain_58 : DC b_Ba_fewestToGain 58 (.iaload) 1 59 := ⟨by decide +kernel, rfl⟩
theorem x_Ba_fewestToGain_59 : DC b_Ba_fewestToGain 59 (.iload_n 1) 1 60 := ⟨by decide +kernel, rfl⟩
theorem x_Ba_fewestToGain_60 : DC b_Ba_fewestToGain 60 (.if_icmp .ne 16) 3 63 := ⟨by decide +kernel, rfl⟩
theorem x_Ba_fewestToGain_63 : DC b_Ba_fewestToGain 63 (.iload_n 3) 1 64 := ⟨by decide +kernel, rfl⟩
theorem x_Ba_fewestToGain_64 : DC b_Ba_fewestToGain 64 (.aload_n 0) 1 65 := ⟨by decide +kernel, rfl⟩
theorem x_Ba_fewestToGain_65 : DC b_Ba_fewestToGain 65 (.getfield 15) 3 68 := ⟨by decide +kernel, rfl⟩
theorem x_Ba_fewestToGain_68 : DC b_Ba_fewestToGain 68 (.iload 6) 2 70 := ⟨by decide +kernel, rfl⟩
theorem x_Ba_fewestToGain_70 : DC b_Ba_fewestToGain 70 (.iaload) 1 71 := ⟨by decide +kernel, rfl⟩
theorem x_Ba_fewestToGain_71 : DC b_Ba_fewestToGain 71 (.iadd) 1 72 := ⟨by decide +kernel, rfl⟩
theorem x_Ba_fewestToGain_72 : DC b_Ba_fewestToGain 72 (.istore_n 3) 1 73 := ⟨by decide +kernel, rfl⟩
theorem x_Ba_fewestToGain_73 : DC b_Ba_fewestToGain 73 (.iinc 4 1) 3 76 := ⟨by decide +kernel, rfl⟩
theorem x_Ba_fewestToGain_76 : DC b_Ba_fewestToGain 76 (.iinc 5 1) 3 79 := ⟨by decide +kernel, rfl⟩
theorem x_Ba_fewestToGain_79 : DC b_Ba_fewestToGain 79 (.goto (-66)) 3 82 := ⟨by decide +kernel, rfl⟩
theorem x_Ba_fewestToGain_82 : DC b_Ba_fewestToGain 82 (.iload_n 3) 1 83 := ⟨by decide +kernel, rfl⟩
theorem x_Ba_fewestToGain_83 : DC b_Ba_fewestToGain 83 (.iload_n 2) 1 84 := ⟨by decide +kernel, rfl⟩
theorem x_Ba_fewestToGain_84 : DC b_Ba_fewestToGain 84 (.if_icmp .ge 9) 3 87 := ⟨by decide +kernel, rfl⟩
theorem x_Ba_fewestToGain_87 : DC b_Ba_fewestToGain 87 (.sipush 1000) 3 90 := ⟨by decide +kernel, rfl⟩
theorem x_Ba_fewestToGain_90 : DC b_Ba_fewestToGain 90 (.goto 5) 3 93 := ⟨by decide +kernel, rfl⟩
theorem x_Ba_fewestToGain_93 : DC b_Ba_fewestToGain 93 (.iload 4) 2 95 := ⟨by decide +kernel, rfl⟩
theorem x_Ba_fewestToGain_95 : DC b_Ba_fewestToGain 95 (.ireturn) 1 96 := ⟨by decide +kernel, rfl⟩
def k_Ba_fewestToGain_82 (a2 a3 a4 : Int) (M : Mem) : Res := if w32 a3 < w32 a2 then (some (1000, M)) else (some (a4, M))
theorem z_Ba_fewestToGain_82 (C : Cx p s m args meth c G b_Ba_fewestToGain 7 "PrairiePool$Ballot" (some .int)) (hlev : 0 ≤ lev) {r : Int × Mem}  {a2 a3 a4 : Int} {M : Mem} (h : k_Ba_fewestToGain_82 a2 a3 a4 M = some r) : Z p l e lev s m args below meth c G 7 (MQ below (Qm G 1 r) args s 0 0 (Ab G)) M 82 [(2, vi a2), (3, vi a3), (4, vi a4)] [] := by
  unfold k_Ba_fewestToGain_82 at h
  refine z_iload_n C 1 x_Ba_fewestToGain_82 rfl ?_
  refine z_iload_n C 0 x_Ba_fewestToGain_83 rfl ?_
  rcases ite_e h with ⟨c1, h⟩ | ⟨c1, h⟩
  · refine z_icmp_ge_f (tgt := 93) C x_Ba_fewestToGain_84 rfl c1 ?_
    refine z_sipush C rfl x_Ba_fewestToGain_87 ?_
    refine z_goto (tgt := 95) C x_Ba_fewestToGain_90 rfl ?_
    exact z_iret C x_Ba_fewestToGain_95 h
  · refine z_icmp_ge_t (tgt := 93) C x_Ba_fewestToGain_84 rfl c1 ?_
    refine z_iload C 2 x_Ba_fewestToGain_93 rfl ?_
    exact z_iret C x_Ba_fewestToGain_95 h
def k_Ba_fewestToGain_76 (R13 : Int → Int → Int → Int → Int → Mem → Res) (a1 a2 a3 a4 a5 : Int) (M : Mem) : Res := blet (a5 + 1) fun v1 => R13 a1 a2 a3 a4 v1 M
theorem z_Ba_fewestToGain_76 (C : Cx p s m args meth c G b_Ba_fewestToGain 7 "PrairiePool$Ballot" (some .int)) (hlev : 0 ≤ lev) {r : Int × Mem} {R13 : Int → Int → Int → Int → Int → Mem → Res} (hR13 : ∀ (a1 a2 a3 a4 a5 : Int) (M : Mem), R13 a1 a2 a3 a4 a5 M = some r → Z p l e lev s m args below meth c G 7 (MQ below (Qm G 1 r) args s 0 0 (Ab G)) M 13 [(0, .ref (G.1 + 103)), (1, vi a1), (2, vi a2), (3, vi a3), (4, vi a4), (5, vi a5)] []) {a1 a2 a3 a4 a5 : Int} {M : Mem} (h : k_Ba_fewestToGain_76 R13 a1 a2 a3 a4 a5 M = some r) : Z p l e lev s m args below meth c G 7 (MQ below (Qm G 1 r) args s 0 0 (Ab G)) M 76 [(0, .ref (G.1 + 103)), (1, vi a1), (2, vi a2), (3, vi a3), (4, vi a4), (5, vi a5)] [] := by
  unfold k_Ba_fewestToGain_76 at h
  obtain ⟨v1, ev1, h⟩ := blet_e h
  refine z_iinc (lv' := [(5, vi v1), (0, .ref (G.1 + 103)), (1, vi a1), (2, vi a2), (3, vi a3), (4, vi a4)]) C 5 ev1 x_Ba_fewestToGain_76 rfl (i_lt rfl) rfl ?_
  refine z_goto (tgt := 13) C x_Ba_fewestToGain_79 rfl ?_
  exact z_sub [1, 2, 3, 4, 5, 0] rfl (hR13 a1 a2 a3 a4 v1 M h)
def k_Ba_fewestToGain_13 (R13 : Int → Int → Int → Int → Int → Mem → Res) (a1 a2 a3 a4 a5 : Int) (M : Mem) : Res := blet (M 5 0) fun v1 => if w32 a5 < w32 v1 then (if w32 a3 < w32 a2 then (chk (0 ≤ w32 a5 ∧ w32 a5 < 20) <| blet (M 106 (ix a5)) fun v5 => chk (0 ≤ w32 v5 ∧ w32 v5 < 20) <| blet (M 107 (ix v5) % 2) fun v7 => if w32 v7 = 0 then (k_Ba_fewestToGain_76 R13 a1 a2 a3 a4 a5 M) else (chk (0 ≤ w32 v5 ∧ w32 v5 < 20) <| blet (M 6 (ix v5)) fun v10 => if w32 v10 = w32 a1 then (chk (0 ≤ w32 v5 ∧ w32 v5 < 20) <| blet (M 105 (ix v5)) fun v13 => blet (a3 + v13) fun v14 => blet (a4 + 1) fun v15 => k_Ba_fewestToGain_76 R13 a1 a2 v14 v15 a5 M) else (k_Ba_fewestToGain_76 R13 a1 a2 a3 a4 a5 M))) else (k_Ba_fewestToGain_82 a2 a3 a4 M)) else (k_Ba_fewestToGain_82 a2 a3 a4 M)
theorem z_Ba_fewestToGain_13 (C : Cx p s m args meth c G b_Ba_fewestToGain 7 "PrairiePool$Ballot" (some .int)) (hlev : 0 ≤ lev) {r : Int × Mem} {R13 : Int → Int → Int → Int → Int → Mem → Res} (hR13 : ∀ (a1 a2 a3 a4 a5 : Int) (M : Mem), R13 a1 a2 a3 a4 a5 M = some r → Z p l e lev s m args below meth c G 7 (MQ below (Qm G 1 r) args s 0 0 (Ab G)) M 13 [(0, .ref (G.1 + 103)), (1, vi a1), (2, vi a2), (3, vi a3), (4, vi a4), (5, vi a5)] []) {a1 a2 a3 a4 a5 : Int} {M : Mem} (h : k_Ba_fewestToGain_13 R13 a1 a2 a3 a4 a5 M = some r) : Z p l e lev s m args below meth c G 7 (MQ below (Qm G 1 r) args s 0 0 (Ab G)) M 13 [(0, .ref (G.1 + 103)), (1, vi a1), (2, vi a2), (3, vi a3), (4, vi a4), (5, vi a5)] [] := by
  unfold k_Ba_fewestToGain_13 at h
  refine z_iload C 5 x_Ba_fewestToGain_13 rfl ?_
  refine z_aload_n C 0 x_Ba_fewestToGain_15 rfl ?_
  refine z_getR (j := 1) C x_Ba_fewestToGain_16 nk_103 ck_103 cw_1 (i_lt rfl) rfl rf_103_1 rfl fl_Ba_34 ?_
  obtain ⟨v1, ev1, h⟩ := blet_e h
  refine z_getI (j := 0) C x_Ba_fewestToGain_19 nk_5 ck_5 cw_7 (i_lt rfl) rfl rfl fl_Ba_57 ev1 ?_
  rcases ite_e h with ⟨c2, h⟩ | ⟨c2, h⟩
  · refine z_icmp_ge_f (tgt := 82) C x_Ba_fewestToGain_22 rfl c2 ?_
    refine z_iload_n C 3 x_Ba_fewestToGain_25 rfl ?_
    refine z_iload_n C 2 x_Ba_fewestToGain_26 rfl ?_
    rcases ite_e h with ⟨c3, h⟩ | ⟨c3, h⟩
    · refine z_icmp_ge_f (tgt := 82) C x_Ba_fewestToGain_27 rfl c3 ?_
      refine z_aload_n C 0 x_Ba_fewestToGain_30 rfl ?_
      refine z_getR (j := 4) C x_Ba_fewestToGain_31 nk_103 ck_103 cw_1 (i_lt rfl) rfl rf_103_4 rfl fl_Ba_18 ?_
      refine z_iload C 5 x_Ba_fewestToGain_34 rfl ?_
      obtain ⟨c4, h⟩ := chk_e h
      obtain ⟨v5, ev5, h⟩ := blet_e h
      refine z_iald C x_Ba_fewestToGain_36 nk_106 ck_106 c4 ev5 ?_
      refine z_istore (lv' := [(6, vi v5), (0, .ref (G.1 + 103)), (1, vi a1), (2, vi a2), (3, vi a3), (4, vi a4), (5, vi a5)]) C rfl x_Ba_fewestToGain_37 (i_lt rfl) rfl ?_
      refine z_aload_n C 1 x_Ba_fewestToGain_39 rfl ?_
      refine z_getR (j := 5) C x_Ba_fewestToGain_40 nk_103 ck_103 cw_1 (i_lt rfl) rfl rf_103_5 rfl fl_Ba_21 ?_
      refine z_iload C 0 x_Ba_fewestToGain_43 rfl ?_
      obtain ⟨c6, h⟩ := chk_e h
      obtain ⟨v7, ev7, h⟩ := blet_e h
      refine z_zald C x_Ba_fewestToGain_45 nk_107 ck_107 c6 ev7 ?_
      rcases ite_e h with ⟨c8, h⟩ | ⟨c8, h⟩
      · refine z_if_eq_t (tgt := 76) C x_Ba_fewestToGain_46 rfl c8 ?_
        exact z_sub [1, 2, 3, 4, 5, 6] rfl (z_Ba_fewestToGain_76 C hlev hR13 h)
      · refine z_if_eq_f (tgt := 76) C x_Ba_fewestToGain_46 rfl c8 ?_
        refine z_aload_n C 1 x_Ba_fewestToGain_49 rfl ?_
        refine z_getR (j := 1) C x_Ba_fewestToGain_50 nk_103 ck_103 cw_1 (i_lt rfl) rfl rf_103_1 rfl fl_Ba_34 ?_
        refine z_getR (j := 1) C x_Ba_fewestToGain_53 nk_5 ck_5 cw_7 (i_lt rfl) rfl rf_5_1 rfl fl_Ba_74 ?_
        refine z_iload C 0 x_Ba_fewestToGain_56 rfl ?_
        obtain ⟨c9, h⟩ := chk_e h
        obtain ⟨v10, ev10, h⟩ := blet_e h
        refine z_iald C x_Ba_fewestToGain_58 nk_6 ck_6 c9 ev10 ?_
        refine z_iload_n C 2 x_Ba_fewestToGain_59 rfl ?_
        rcases ite_e h with ⟨c11, h⟩ | ⟨c11, h⟩
        · refine z_icmp_ne_f (tgt := 76) C x_Ba_fewestToGain_60 rfl c11 ?_
          refine z_iload_n C 4 x_Ba_fewestToGain_63 rfl ?_
          refine z_aload_n C 1 x_Ba_fewestToGain_64 rfl ?_
          refine z_getR (j := 3) C x_Ba_fewestToGain_65 nk_103 ck_103 cw_1 (i_lt rfl) rfl rf_103_3 rfl fl_Ba_15 ?_
          refine z_iload C 0 x_Ba_fewestToGain_68 rfl ?_
          obtain ⟨c12, h⟩ := chk_e h
          obtain ⟨v13, ev13, h⟩ := blet_e h
          refine z_iald C x_Ba_fewestToGain_70 nk_105 ck_105 c12 ev13 ?_
          refine z_iadd C x_Ba_fewestToGain_71 ?_
          obtain ⟨v14, ev14, h⟩ := blet_e h
          refine z_istore_n (lv' := [(3, vi v14), (6, vi v5), (0, .ref (G.1 + 103)), (1, vi a1), (2, vi a2), (4, vi a4), (5, vi a5)]) C ev14 x_Ba_fewestToGain_72 (i_lt rfl) rfl ?_
          obtain ⟨v15, ev15, h⟩ := blet_e h
          refine z_iinc (lv' := [(4, vi v15), (3, vi v14), (6, vi v5), (0, .ref (G.1 + 103)), (1, vi a1), (2, vi a2), (5, vi a5)]) C 5 ev15 x_Ba_fewestToGain_73 rfl (i_lt rfl) rfl ?_
          exact z_sub [3, 4, 5, 1, 0, 6] rfl (z_Ba_fewestToGain_76 C hlev hR13 h)
        · refine z_icmp_ne_t (tgt := 76) C x_Ba_fewestToGain_60 rfl c11 ?_
          exact z_sub [1, 2, 3, 4, 5, 6] rfl (z_Ba_fewestToGain_76 C hlev hR13 h)
    · refine z_icmp_ge_t (tgt := 82) C x_Ba_fewestToGain_27 rfl c3 ?_
      exact z_sub [2, 3, 4] rfl (z_Ba_fewestToGain_82 C hlev h)
  · refine z_icmp_ge_t (tgt := 82) C x_Ba_fewestToGain_22 rfl c2 ?_
    exact z_sub [2, 3, 4] rfl (z_Ba_fewestToGain_82 C hlev h)
theorem zl_Ba_fewestToGain_13 (C : Cx p s m args meth c G b_Ba_fewestToGain 7 "PrairiePool$Ballot" (some .int)) (hlev : 0 ≤ lev) {r : Int × Mem}  : ∀ (n : Nat) (a1 a2 a3 a4 a5 : Int) (M : Mem), fix (fun _ _ _ _ _ _ => none) (k_Ba_fewestToGain_13) n a1 a2 a3 a4 a5 M = some r → Z p l e lev s m args below meth c G 7 (MQ below (Qm G 1 r) args s 0 0 (Ab G)) M 13 [(0, .ref (G.1 + 103)), (1, vi a1), (2, vi a2), (3, vi a3), (4, vi a4), (5, vi a5)] [] := by
  intro n
  induction n with
  | zero => intro a1 a2 a3 a4 a5 M h; exact nomatch (show (none : Res) = some r from h)
  | succ n ih => intro a1 a2 a3 a4 a5 M h; exact z_Ba_fewestToGain_13 C hlev ih h
def d_Ba_fewestToGain (a1 a2 : Int) (M : Mem) : Res := chk (0 ≤ w32 a1 ∧ w32 a1 < 6) <| blet (M 108 (ix a1)) fun v2 => fix (fun _ _ _ _ _ _ => none) (k_Ba_fewestToGain_13) FU a1 a2 v2 0 0 M
theorem t_Ba_fewestToGain (l : Launch) (G : GX) {lev : Nat} (hlev : 0 ≤ lev) {a1 a2 : Int} {M : Mem} {r : Int × Mem} (h : d_Ba_fewestToGain a1 a2 M = some r) : Mt l G y_Ba_fewestToGain b_Ba_fewestToGain 7 (some .int) lev 1 [.ref (G.1 + 103), vi a1, vi a2] M r := by
  refine Mt.of (by decide) (i_le rfl) ?_
  intro p e s m args below meth c C
  have C : Cx p s m args meth c G b_Ba_fewestToGain 7 "PrairiePool$Ballot" (some .int) := C
  unfold d_Ba_fewestToGain at h
  refine z_sub (lv' := [(0, .ref (G.1 + 103)), (1, vi a1), (2, vi a2)]) [0, 1, 2] rfl ?_
  refine z_aload_n C 0 x_Ba_fewestToGain_0 rfl ?_
  refine z_getR (j := 6) C x_Ba_fewestToGain_1 nk_103 ck_103 cw_1 (i_lt rfl) rfl rf_103_6 rfl fl_Ba_25 ?_
  refine z_iload_n C 1 x_Ba_fewestToGain_4 rfl ?_
  obtain ⟨c1, h⟩ := chk_e h
  obtain ⟨v2, ev2, h⟩ := blet_e h
  refine z_iald C x_Ba_fewestToGain_5 nk_108 ck_108 c1 ev2 ?_
  refine z_istore_n (lv' := [(3, vi v2), (0, .ref (G.1 + 103)), (1, vi a1), (2, vi a2)]) C rfl x_Ba_fewestToGain_6 (i_lt rfl) rfl ?_
  refine z_iconst C x_Ba_fewestToGain_7 ?_
  refine z_istore (lv' := [(4, vi 0), (3, vi v2), (0, .ref (G.1 + 103)), (1, vi a1), (2, vi a2)]) C rfl x_Ba_fewestToGain_8 (i_lt rfl) rfl ?_
  refine z_iconst C x_Ba_fewestToGain_10 ?_
  refine z_istore (lv' := [(5, vi 0), (4, vi 0), (3, vi v2), (0, .ref (G.1 + 103)), (1, vi a1), (2, vi a2)]) C rfl x_Ba_fewestToGain_11 (i_lt rfl) rfl ?_
  exact z_sub [3, 4, 5, 2, 1, 0] rfl (zl_Ba_fewestToGain_13 C hlev FU a1 a2 v2 0 0 M h)
theorem x_Ba_fewestToReach_0 : DC b_Ba_fewestToReach 0 (.aload_n 0) 1 1 := ⟨by decide +kernel, rfl⟩
theorem x_Ba_fewestToReach_1 : DC b_Ba_fewestToReach 1 (.getfield 28) 3 4 := ⟨by decide +kernel, rfl⟩
theorem x_Ba_fewestToReach_4 : DC b_Ba_fewestToReach 4 (.sipush 1000) 3 7 := ⟨by decide +kernel, rfl⟩
theorem x_Ba_fewestToReach_7 : DC b_Ba_fewestToReach 7 (.invokestatic 42) 3 10 := ⟨by decide +kernel, rfl⟩
theorem x_Ba_fewestToReach_10 : DC b_Ba_fewestToReach 10 (.aload_n 0) 1 11 := ⟨by decide +kernel, rfl⟩
theorem x_Ba_fewestToReach_11 : DC b_Ba_fewestToReach 11 (.getfield 28) 3 14 := ⟨by decide +kernel, rfl⟩
theorem x_Ba_fewestToReach_14 : DC b_Ba_fewestToReach 14 (.bipush 6) 2 16 := ⟨by decide +kernel, rfl⟩
theorem x_Ba_fewestToReach_16 : DC b_Ba_fewestToReach 16 (.iconst 0) 1 17 := ⟨by decide +kernel, rfl⟩
theorem x_Ba_fewestToReach_17 : DC b_Ba_fewestToReach 17 (.iastore) 1 18 := ⟨by decide +kernel, rfl⟩
theorem x_Ba_fewestToReach_18 : DC b_Ba_fewestToReach 18 (.iconst 0) 1 19 := ⟨by decide +kernel, rfl⟩
theorem x_Ba_fewestToReach_19 : DC b_Ba_fewestToReach 19 (.istore_n 2) 1 20 := ⟨by decide +kernel, rfl⟩
theorem x_Ba_fewestToReach_20 : DC b_Ba_fewestToReach 20 (.iload_n 2) 1 21 := ⟨by decide +kernel, rfl⟩
theorem x_Ba_fewestToReach_21 : DC b_Ba_fewestToReach 21 (.bipush 6) 2 23 := ⟨by decide +kernel, rfl⟩
theorem x_Ba_fewestToReach_23 : DC b_Ba_fewestToReach 23 (.if_icmp .ge 132) 3 26 := ⟨by decide +kernel, rfl⟩
theorem x_Ba_fewestToReach_26 : DC b_Ba_fewestToReach 26 (.aload_n 0) 1 27 := ⟨by decide +kernel, rfl⟩
theorem x_Ba_fewestToReach_27 : DC b_Ba_fewestToReach 27 (.getfield 28) 3 30 := ⟨by decide +kernel, rfl⟩
theorem x_Ba_fewestToReach_30 : DC b_Ba_fewestToReach 30 (.iconst 0) 1 31 := ⟨by decide +kernel, rfl⟩
theorem x_Ba_fewestToReach_31 : DC b_Ba_fewestToReach 31 (.aload_n 0) 1 32 := ⟨by decide +kernel, rfl⟩
theorem x_Ba_fewestToReach_32 : DC b_Ba_fewestToReach 32 (.getfield 31) 3 35 := ⟨by decide +kernel, rfl⟩
theorem x_Ba_fewestToReach_35 : DC b_Ba_fewestToReach 35 (.iconst 0) 1 36 := ⟨by decide +kernel, rfl⟩
theorem x_Ba_fewestToReach_36 : DC b_Ba_fewestToReach 36 (.bipush 13) 2 38 := ⟨by decide +kernel, rfl⟩
theorem x_Ba_fewestToReach_38 : DC b_Ba_fewestToReach 38 (.invokestatic 97) 3 41 := ⟨by decide +kernel, rfl⟩
theorem x_Ba_fewestToReach_41 : DC b_Ba_fewestToReach 41 (.aload_n 0) 1 42 := ⟨by decide +kernel, rfl⟩
theorem x_Ba_fewestToReach_42 : DC b_Ba_fewestToReach 42 (.iload_n 2) 1 43 := ⟨by decide +kernel, rfl⟩
theorem x_Ba_fewestToReach_43 : DC b_Ba_fewestToReach 43 (.iconst 0) 1 44 := ⟨by decide +kernel, rfl⟩
theorem x_Ba_fewestToReach_44 : DC b_Ba_fewestToReach 44 (.invokevirtual 103) 3 47 := ⟨by decide +kernel, rfl⟩
theorem x_Ba_fewestToReach_47 : DC b_Ba_fewestToReach 47 (.istore_n 3) 1 48 := ⟨by decide +kernel, rfl⟩
theorem x_Ba_fewestToReach_48 : DC b_Ba_fewestToReach 48 (.aload_n 0) 1 49 := ⟨by decide +kernel, rfl⟩
theorem x_Ba_fewestToReach_49 : DC b_Ba_fewestToReach 49 (.iload_n 2) 1 50 := ⟨by decide +kernel, rfl⟩
theorem x_Ba_fewestToReach_50 : DC b_Ba_fewestToReach 50 (.iconst 1) 1 51 := ⟨by decide +kernel, rfl⟩
theorem x_Ba_fewestToReach_51 : DC b_Ba_fewestToReach 51 (.invokevirtual 103) 3 54 := ⟨by decide +kernel, rfl⟩
theorem x_Ba_fewestToReach_54 : DC b_Ba_fewestToReach 54 (.istore 4) 2 56 := ⟨by decide +kernel, rfl⟩
theorem x_Ba_fewestToReach_56 : DC b_Ba_fewestToReach 56 (.iconst 0) 1 57 := ⟨by decide +kernel, rfl⟩
theorem x_Ba_fewestToReach_57 : DC b_Ba_fewestToReach 57 (.istore 5) 2 59 := ⟨by decide +kernel, rfl⟩
theorem x_Ba_fewestToReach_59 : DC b_Ba_fewestToReach 59 (.iload 5) 2 61 := ⟨by decide +kernel, rfl⟩
theorem x_Ba_fewestToReach_61 : DC b_Ba_fewestToReach 61 (.bipush 13) 2 63 := ⟨by decide +kernel, rfl⟩
theorem x_Ba_fewestToReach_63 : DC b_Ba_fewestToReach 63 (.if_icmp .ge 86) 3 66 := ⟨by decide +kernel, rfl⟩
theorem x_Ba_fewestToReach_66 : DC b_Ba_fewestToReach 66 (.iload 5) 2 68 := ⟨by decide +kernel, rfl⟩
theorem x_Ba_fewestToReach_68 : DC b_Ba_fewestToReach 68 (.iconst 1) 1 69 := ⟨by decide +kernel, rfl⟩
theorem x_Ba_fewestToReach_69 : DC b_Ba_fewestToReach 69 (.iadd) 1 70 := ⟨by decide +kernel, rfl⟩
theorem x_Ba_fewestToReach_70 : DC b_Ba_fewestToReach 70 (.bipush 13) 2 72 := ⟨by decide +kernel, rfl⟩
theorem x_Ba_fewestToReach_72 : DC b_Ba_fewestToReach 72 (.if_icmp .ge 15) 3 75 := ⟨by decide +kernel, rfl⟩
theorem x_Ba_fewestToReach_75 : DC b_Ba_fewestToReach 75 (.aload_n 0) 1 76 := ⟨by decide +kernel, rfl⟩
theorem x_Ba_fewestToReach_76 : DC b_Ba_fewestToReach 76 (.getfield 31) 3 79 := ⟨by decide +kernel, rfl⟩
theorem x_Ba_fewestToReach_79 : DC b_Ba_fewestToReach 79 (.iload 5) 2 81 := ⟨by decide +kernel, rfl⟩
theorem x_Ba_fewestToReach_81 : DC b_Ba_fewestToReach 81 (.iconst 1) 1 82 := ⟨by decide +kernel, rfl⟩
theorem x_Ba_fewestToReach_82 : DC b_Ba_fewestToReach 82 (.iadd) 1 83 := ⟨by decide +kernel, rfl⟩
theorem x_Ba_fewestToReach_83 : DC b_Ba_fewestToReach 83 (.iaload) 1 84 := ⟨by decide +kernel, rfl⟩
theorem x_Ba_fewestToReach_84 : DC b_Ba_fewestToReach 84 (.goto 6) 3 87 := ⟨by decide +kernel, rfl⟩
theorem x_Ba_fewestToReach_87 : DC b_Ba_fewestToReach 87 (.sipush 1000) 3 90 := ⟨by decide +kernel, rfl⟩
theorem x_Ba_fewestToReach_90 : DC b_Ba_fewestToReach 90 (.istore 6) 2 92 := ⟨by decide +kernel, rfl⟩
theorem x_Ba_fewestToReach_92 : DC b_Ba_fewestToReach 92 (.iload 5) 2 94 := ⟨by decide +kernel, rfl⟩
theorem x_Ba_fewestToReach_94 : DC b_Ba_fewestToReach 94 (.ifCond .le 18) 3 97 := ⟨by decide +kernel, rfl⟩
theorem x_Ba_fewestToReach_97 : DC b_Ba_fewestToReach 97 (.aload_n 0) 1 98 := ⟨by decide +kernel, rfl⟩
theorem x_Ba_fewestToReach_98 : DC b_Ba_fewestToReach 98 (.getfield 31) 3 101 := ⟨by decide +kernel, rfl⟩
theorem x_Ba_fewestToReach_101 : DC b_Ba_fewestToReach 101 (.iload 5) 2 103 := ⟨by decide +kernel, rfl⟩
theorem x_Ba_fewestToReach_103 : DC b_Ba_fewestToReach 103 (.iconst 1) 1 104 := ⟨by decide +kernel, rfl⟩
theorem x_Ba_fewestToReach_104 : DC b_Ba_fewestToReach 104 (.isub) 1 105 := ⟨by decide +kernel, rfl⟩
theorem x_Ba_fewestToReach_105 : DC b_Ba_fewestToReach 105 (.iaload) 1 106 := ⟨by decide +kernel, rfl⟩
theorem x_Ba_fewestToReach_106 : DC b_Ba_fewestToReach 106 (.iload 4) 2 108 := ⟨by decide +kernel, rfl⟩
theorem x_Ba_fewestToReach_108 : DC b_Ba_fewestToReach 108 (.iadd) 1 109 := ⟨by decide +kernel, rfl⟩
theorem x_Ba_fewestToReach_109 : DC b_Ba_fewestToReach 109 (.goto 6) 3 112 := ⟨by decide +kernel, rfl⟩
theorem x_Ba_fewestToReach_112 : DC b_Ba_fewestToReach 112 (.sipush 1000) 3 115 := ⟨by decide +kernel, rfl⟩
theorem x_Ba_fewestToReach_115 : DC b_Ba_fewestToReach 115 (.istore 7) 2 117 := ⟨by decide +kernel, rfl⟩
theorem x_Ba_fewestToReach_117 : DC b_Ba_fewestToReach 117 (.aload_n 0) 1 118 := ⟨by decide +kernel, rfl⟩
theorem x_Ba_fewestToReach_118 : DC b_Ba_fewestToReach 118 (.getfield 28) 3 121 := ⟨by decide +kernel, rfl⟩
theorem x_Ba_fewestToReach_121 : DC b_Ba_fewestToReach 121 (.iload 5) 2 123 := ⟨by decide +kernel, rfl⟩
theorem x_Ba_fewestToReach_123 : DC b_Ba_fewestToReach 123 (.iload 6) 2 125 := ⟨by decide +kernel, rfl⟩
theorem x_Ba_fewestToReach_125 : DC b_Ba_fewestToReach 125 (.iload 7) 2 127 := ⟨by decide +kernel, rfl⟩
theorem x_Ba_fewestToReach_127 : DC b_Ba_fewestToReach 127 (.aload_n 0) 1 128 := ⟨by decide +kernel, rfl⟩
theorem x_Ba_fewestToReach_128 : DC b_Ba_fewestToReach 128 (.getfield 31) 3 131 := ⟨by decide +kernel, rfl⟩
theorem x_Ba_fewestToReach_131 : DC b_Ba_fewestToReach 131 (.iload 5) 2 133 := ⟨by decide +kernel, rfl⟩
theorem x_Ba_fewestToReach_133 : DC b_Ba_fewestToReach 133 (.iaload) 1 134 := ⟨by decide +kernel, rfl⟩
theorem x_Ba_fewestToReach_134 : DC b_Ba_fewestToReach 134 (.iload_n 3) 1 135 := ⟨by decide +kernel, rfl⟩
theorem x_Ba_fewestToReach_135 : DC b_Ba_fewestToReach 135 (.iadd) 1 136 := ⟨by decide +kernel, rfl⟩
theorem x_Ba_fewestToReach_136 : DC b_Ba_fewestToReach 136 (.invokestatic 106) 3 139 := ⟨by decide +kernel, rfl⟩
theorem x_Ba_fewestToReach_139 : DC b_Ba_fewestToReach 139 (.invokestatic 106) 3 142 := ⟨by decide +kernel, rfl⟩
theorem x_Ba_fewestToReach_142 : DC b_Ba_fewestToReach 142 (.iastore) 1 143 := ⟨by decide +kernel, rfl⟩
theorem x_Ba_fewestToReach_143 : DC b_Ba_fewestToReach 143 (.iinc 5 1) 3 146 := ⟨by decide +kernel, rfl⟩
theorem x_Ba_fewestToReach_146 : DC b_Ba_fewestToReach 146 (.goto (-87)) 3 149 := ⟨by decide +kernel, rfl⟩
theorem x_Ba_fewestToReach_149 : DC b_Ba_fewestToReach 149 (.iinc 2 1) 3 152 := ⟨by decide +kernel, rfl⟩
theorem x_Ba_fewestToReach_152 : DC b_Ba_fewestToReach 152 (.goto (-132)) 3 155 := ⟨by decide +kernel, rfl⟩
theorem x_Ba_fewestToReach_155 : DC b_Ba_fewestToReach 155 (.sipush 1000) 3 158 := ⟨by decide +kernel, rfl⟩
theorem x_Ba_fewestToReach_158 : DC b_Ba_fewestToReach 158 (.istore_n 2) 1 159 := ⟨by decide +kernel, rfl⟩
theorem x_Ba_fewestToReach_159 : DC b_Ba_fewestToReach 159 (.bipush 6) 2 161 := ⟨by decide +kernel, rfl⟩
theorem x_Ba_fewestToReach_161 : DC b_Ba_fewestToReach 161 (.iload_n 1) 1 162 := ⟨by decide +kernel, rfl⟩
theorem x_Ba_fewestToReach_162 : DC b_Ba_fewestToReach 162 (.iadd) 1 163 := ⟨by decide +kernel, rfl⟩
theorem x_Ba_fewestToReach_163 : DC b_Ba_fewestToReach 163 (.istore_n 3) 1 164 := ⟨by decide +kernel, rfl⟩
theorem x_Ba_fewestToReach_164 : DC b_Ba_fewestToReach 164 (.iload_n 3) 1 165 := ⟨by decide +kernel, rfl⟩
theorem x_Ba_fewestToReach_165 : DC b_Ba_fewestToReach 165 (.bipush 13) 2 167 := ⟨by decide +kernel, rfl⟩
theorem x_Ba_fewestToReach_167 : DC b_Ba_fewestToReach 167 (.if_icmp .ge 20) 3 170 := ⟨by decide +kernel, rfl⟩
theorem x_Ba_fewestToReach_170 : DC b_Ba_fewestToReach 170 (.iload_n 2) 1 171 := ⟨by decide +kernel, rfl⟩
theorem x_Ba_fewestToReach_171 : DC b_Ba_fewestToReach 171 (.aload_n 0) 1 172 := ⟨by decide +kernel, rfl⟩
theorem x_Ba_fewestToReach_172 : DC b_Ba_fewestToReach 172 (.getfield 28) 3 175 := ⟨by decide +kernel, rfl⟩
theorem x_Ba_fewestToReach_175 : DC b_Ba_fewestToReach 175 (.iload_n 3) 1 176 := ⟨by decide +kernel, rfl⟩
theorem x_Ba_fewestToReach_176 : DC b_Ba_fewestToReach 176 (.iaload) 1 177 := ⟨by decide +kernel, rfl⟩
theorem x_Ba_fewestToReach_177 : DC b_Ba_fewestToReach 177 (.invokestatic 106) 3 180 := ⟨by decide +kernel, rfl⟩
theorem x_Ba_fewestToReach_180 : DC b_Ba_fewestToReach 180 (.istore_n 2) 1 181 := ⟨by decide +kernel, rfl⟩
theorem x_Ba_fewestToReach_181 : DC b_Ba_fewestToReach 181 (.iinc 3 1) 3 184 := ⟨by decide +kernel, rfl⟩
theorem x_Ba_fewestToReach_184 : DC b_Ba_fewestToReach 184 (.goto (-20)) 3 187 := ⟨by decide +kernel, rfl⟩
theorem x_Ba_fewestToReach_187 : DC b_Ba_fewestToReach 187 (.iload_n 2) 1 188 := ⟨by decide +kernel, rfl⟩
theorem x_Ba_fewestToReach_188 : DC b_Ba_fewestToReach 188 (.ireturn) 1 189 := ⟨by decide +kernel, rfl⟩
def k_Ba_fewestToReach_164 (R164 : Int → Int → Mem → Res) (a2 a3 : Int) (M : Mem) : Res := if w32 a3 < 13 then (chk (0 ≤ w32 a3 ∧ w32 a3 < 13) <| blet (M 109 (ix a3)) fun v3 => blet (mn32 a2 v3) fun v4 => blet (a3 + 1) fun v5 => R164 v4 v5 M) else (some (a2, M))
theorem z_Ba_fewestToReach_164 (C : Cx p s m args meth c G b_Ba_fewestToReach 8 "PrairiePool$Ballot" (some .int)) (hlev : 1 ≤ lev) {r : Int × Mem} {R164 : Int → Int → Mem → Res} (hR164 : ∀ (a2 a3 : Int) (M : Mem), R164 a2 a3 M = some r → Z p l e lev s m args below meth c G 8 (MQ below (Qm G 1 r) args s 0 0 (Ab G)) M 164 [(0, .ref (G.1 + 103)), (2, vi a2), (3, vi a3)] []) {a2 a3 : Int} {M : Mem} (h : k_Ba_fewestToReach_164 R164 a2 a3 M = some r) : Z p l e lev s m args below meth c G 8 (MQ below (Qm G 1 r) args s 0 0 (Ab G)) M 164 [(0, .ref (G.1 + 103)), (2, vi a2), (3, vi a3)] [] := by
  unfold k_Ba_fewestToReach_164 at h
  refine z_iload_n C 2 x_Ba_fewestToReach_164 rfl ?_
  refine z_bipush C rfl x_Ba_fewestToReach_165 ?_
  rcases ite_e h with ⟨c1, h⟩ | ⟨c1, h⟩
  · refine z_icmp_ge_f (tgt := 187) C x_Ba_fewestToReach_167 rfl c1 ?_
    refine z_iload_n C 1 x_Ba_fewestToReach_170 rfl ?_
    refine z_aload_n C 0 x_Ba_fewestToReach_171 rfl ?_
    refine z_getR (j := 7) C x_Ba_fewestToReach_172 nk_103 ck_103 cw_1 (i_lt rfl) rfl rf_103_7 rfl fl_Ba_28 ?_
    refine z_iload_n C 2 x_Ba_fewestToReach_175 rfl ?_
    obtain ⟨c2, h⟩ := chk_e h
    obtain ⟨v3, ev3, h⟩ := blet_e h
    refine z_iald C x_Ba_fewestToReach_176 nk_109 ck_109 c2 ev3 ?_
    refine z_mn32 C x_Ba_fewestToReach_177 cs_Ba_106 (by omega) (i_le rfl) ?_
    obtain ⟨v4, ev4, h⟩ := blet_e h
    refine z_istore_n (lv' := [(2, vi v4), (0, .ref (G.1 + 103)), (3, vi a3)]) C ev4 x_Ba_fewestToReach_180 (i_lt rfl) rfl ?_
    obtain ⟨v5, ev5, h⟩ := blet_e h
    refine z_iinc (lv' := [(3, vi v5), (2, vi v4), (0, .ref (G.1 + 103))]) C 2 ev5 x_Ba_fewestToReach_181 rfl (i_lt rfl) rfl ?_
    refine z_goto (tgt := 164) C x_Ba_fewestToReach_184 rfl ?_
    exact z_sub [2, 1, 0] rfl (hR164 v4 v5 M h)
  · refine z_icmp_ge_t (tgt := 187) C x_Ba_fewestToReach_167 rfl c1 ?_
    refine z_iload_n C 1 x_Ba_fewestToReach_187 rfl ?_
    exact z_iret C x_Ba_fewestToReach_188 h
theorem zl_Ba_fewestToReach_164 (C : Cx p s m args meth c G b_Ba_fewestToReach 8 "PrairiePool$Ballot" (some .int)) (hlev : 1 ≤ lev) {r : Int × Mem}  : ∀ (n : Nat) (a2 a3 : Int) (M : Mem), fix (fun _ _ _ => none) (k_Ba_fewestToReach_164) n a2 a3 M = some r → Z p l e lev s m args below meth c G 8 (MQ below (Qm G 1 r) args s 0 0 (Ab G)) M 164 [(0, .ref (G.1 + 103)), (2, vi a2), (3, vi a3)] [] := by
  intro n
  induction n with
  | zero => intro a2 a3 M h; exact nomatch (show (none : Res) = some r from h)
  | succ n ih => intro a2 a3 M h; exact z_Ba_fewestToReach_164 C hlev ih h
def k_Ba_fewestToReach_115 (R20 : Int → Int → Mem → Res) (R59 : Int → Int → Int → Int → Int → Mem → Res) (a1 a2 a3 a4 a5 a6 s0 : Int) (M : Mem) : Res := chk (0 ≤ w32 a5 ∧ w32 a5 < 13) <| blet (M 110 (ix a5)) fun v2 => chk (0 ≤ w32 a5 ∧ w32 a5 < 13) <| blet (sto M 109 (ix a5) (mn32 a6 (mn32 s0 (v2 + a3)))) fun M4 => blet (a5 + 1) fun v5 => R59 a1 a2 a3 a4 v5 M4
theorem z_Ba_fewestToReach_115 (C : Cx p s m args meth c G b_Ba_fewestToReach 8 "PrairiePool$Ballot" (some .int)) (hlev : 1 ≤ lev) {r : Int × Mem} {R20 : Int → Int → Mem → Res} {R59 : Int → Int → Int → Int → Int → Mem → Res} (hR20 : ∀ (a1 a2 : Int) (M : Mem), R20 a1 a2 M = some r → Z p l e lev s m args below meth c G 8 (MQ below (Qm G 1 r) args s 0 0 (Ab G)) M 20 [(0, .ref (G.1 + 103)), (1, vi a1), (2, vi a2)] []) (hR59 : ∀ (a1 a2 a3 a4 a5 : Int) (M : Mem), R59 a1 a2 a3 a4 a5 M = some r → Z p l e lev s m args below meth c G 8 (MQ below (Qm G 1 r) args s 0 0 (Ab G)) M 59 [(0, .ref (G.1 + 103)), (1, vi a1), (2, vi a2), (3, vi a3), (4, vi a4), (5, vi a5)] []) {a1 a2 a3 a4 a5 a6 s0 : Int} {M : Mem} (h : k_Ba_fewestToReach_115 R20 R59 a1 a2 a3 a4 a5 a6 s0 M = some r) : Z p l e lev s m args below meth c G 8 (MQ below (Qm G 1 r) args s 0 0 (Ab G)) M 115 [(0, .ref (G.1 + 103)), (1, vi a1), (2, vi a2), (3, vi a3), (4, vi a4), (5, vi a5), (6, vi a6)] [vi s0] := by
  unfold k_Ba_fewestToReach_115 at h
  refine z_istore (lv' := [(7, vi s0), (0, .ref (G.1 + 103)), (1, vi a1), (2, vi a2), (3, vi a3), (4, vi a4), (5, vi a5), (6, vi a6)]) C rfl x_Ba_fewestToReach_115 (i_lt rfl) rfl ?_
  refine z_aload_n C 1 x_Ba_fewestToReach_117 rfl ?_
  refine z_getR (j := 7) C x_Ba_fewestToReach_118 nk_103 ck_103 cw_1 (i_lt rfl) rfl rf_103_7 rfl fl_Ba_28 ?_
  refine z_iload C 6 x_Ba_fewestToReach_121 rfl ?_
  refine z_iload C 7 x_Ba_fewestToReach_123 rfl ?_
  refine z_iload C 0 x_Ba_fewestToReach_125 rfl ?_
  refine z_aload_n C 1 x_Ba_fewestToReach_127 rfl ?_
  refine z_getR (j := 8) C x_Ba_fewestToReach_128 nk_103 ck_103 cw_1 (i_lt rfl) rfl rf_103_8 rfl fl_Ba_31 ?_
  refine z_iload C 6 x_Ba_fewestToReach_131 rfl ?_
  obtain ⟨c1, h⟩ := chk_e h
  obtain ⟨v2, ev2, h⟩ := blet_e h
  refine z_iald C x_Ba_fewestToReach_133 nk_110 ck_110 c1 ev2 ?_
  refine z_iload_n C 4 x_Ba_fewestToReach_134 rfl ?_
  refine z_iadd C x_Ba_fewestToReach_135 ?_
  refine z_mn32 C x_Ba_fewestToReach_136 cs_Ba_106 (by omega) (i_le rfl) ?_
  refine z_mn32 C x_Ba_fewestToReach_139 cs_Ba_106 (by omega) (i_le rfl) ?_
  obtain ⟨c3, h⟩ := chk_e h
  obtain ⟨M4, eM4, h⟩ := blet_e h
  refine z_iast C x_Ba_fewestToReach_142 nk_109 ck_109 c3 eM4 ?_
  obtain ⟨v5, ev5, h⟩ := blet_e h
  refine z_iinc (lv' := [(5, vi v5), (7, vi s0), (0, .ref (G.1 + 103)), (1, vi a1), (2, vi a2), (3, vi a3), (4, vi a4), (6, vi a6)]) C 6 ev5 x_Ba_fewestToReach_143 rfl (i_lt rfl) rfl ?_
  refine z_goto (tgt := 59) C x_Ba_fewestToReach_146 rfl ?_
  exact z_sub [2, 3, 4, 5, 6, 0] rfl (hR59 a1 a2 a3 a4 v5 M4 h)
def k_Ba_fewestToReach_90 (R20 : Int → Int → Mem → Res) (R59 : Int → Int → Int → Int → Int → Mem → Res) (a1 a2 a3 a4 a5 s0 : Int) (M : Mem) : Res := if 0 < w32 a5 then (chk (0 ≤ w32 (a5 - 1) ∧ w32 (a5 - 1) < 13) <| blet (M 110 (ix (a5 - 1))) fun v3 => k_Ba_fewestToReach_115 R20 R59 a1 a2 a3 a4 a5 s0 (v3 + a4) M) else (k_Ba_fewestToReach_115 R20 R59 a1 a2 a3 a4 a5 s0 1000 M)
theorem z_Ba_fewestToReach_90 (C : Cx p s m args meth c G b_Ba_fewestToReach 8 "PrairiePool$Ballot" (some .int)) (hlev : 1 ≤ lev) {r : Int × Mem} {R20 : Int → Int → Mem → Res} {R59 : Int → Int → Int → Int → Int → Mem → Res} (hR20 : ∀ (a1 a2 : Int) (M : Mem), R20 a1 a2 M = some r → Z p l e lev s m args below meth c G 8 (MQ below (Qm G 1 r) args s 0 0 (Ab G)) M 20 [(0, .ref (G.1 + 103)), (1, vi a1), (2, vi a2)] []) (hR59 : ∀ (a1 a2 a3 a4 a5 : Int) (M : Mem), R59 a1 a2 a3 a4 a5 M = some r → Z p l e lev s m args below meth c G 8 (MQ below (Qm G 1 r) args s 0 0 (Ab G)) M 59 [(0, .ref (G.1 + 103)), (1, vi a1), (2, vi a2), (3, vi a3), (4, vi a4), (5, vi a5)] []) {a1 a2 a3 a4 a5 s0 : Int} {M : Mem} (h : k_Ba_fewestToReach_90 R20 R59 a1 a2 a3 a4 a5 s0 M = some r) : Z p l e lev s m args below meth c G 8 (MQ below (Qm G 1 r) args s 0 0 (Ab G)) M 90 [(0, .ref (G.1 + 103)), (1, vi a1), (2, vi a2), (3, vi a3), (4, vi a4), (5, vi a5)] [vi s0] := by
  unfold k_Ba_fewestToReach_90 at h
  refine z_istore (lv' := [(6, vi s0), (0, .ref (G.1 + 103)), (1, vi a1), (2, vi a2), (3, vi a3), (4, vi a4), (5, vi a5)]) C rfl x_Ba_fewestToReach_90 (i_lt rfl) rfl ?_
  refine z_iload C 6 x_Ba_fewestToReach_92 rfl ?_
  rcases ite_e h with ⟨c1, h⟩ | ⟨c1, h⟩
  · refine z_if_le_f (tgt := 112) C x_Ba_fewestToReach_94 rfl c1 ?_
    refine z_aload_n C 1 x_Ba_fewestToReach_97 rfl ?_
    refine z_getR (j := 8) C x_Ba_fewestToReach_98 nk_103 ck_103 cw_1 (i_lt rfl) rfl rf_103_8 rfl fl_Ba_31 ?_
    refine z_iload C 6 x_Ba_fewestToReach_101 rfl ?_
    refine z_iconst C x_Ba_fewestToReach_103 ?_
    refine z_isub C x_Ba_fewestToReach_104 ?_
    obtain ⟨c2, h⟩ := chk_e h
    obtain ⟨v3, ev3, h⟩ := blet_e h
    refine z_iald C x_Ba_fewestToReach_105 nk_110 ck_110 c2 ev3 ?_
    refine z_iload C 5 x_Ba_fewestToReach_106 rfl ?_
    refine z_iadd C x_Ba_fewestToReach_108 ?_
    refine z_goto (tgt := 115) C x_Ba_fewestToReach_109 rfl ?_
    exact z_sub [1, 2, 3, 4, 5, 6, 0] rfl (z_Ba_fewestToReach_115 C hlev hR20 hR59 h)
  · refine z_if_le_t (tgt := 112) C x_Ba_fewestToReach_94 rfl c1 ?_
    refine z_sipush C rfl x_Ba_fewestToReach_112 ?_
    exact z_sub [1, 2, 3, 4, 5, 6, 0] rfl (z_Ba_fewestToReach_115 C hlev hR20 hR59 h)
def k_Ba_fewestToReach_59 (R20 : Int → Int → Mem → Res) (R59 : Int → Int → Int → Int → Int → Mem → Res) (a1 a2 a3 a4 a5 : Int) (M : Mem) : Res := if w32 a5 < 13 then (if w32 (a5 + 1) < 13 then (chk (0 ≤ w32 (a5 + 1) ∧ w32 (a5 + 1) < 13) <| blet (M 110 (ix (a5 + 1))) fun v4 => k_Ba_fewestToReach_90 R20 R59 a1 a2 a3 a4 a5 v4 M) else (k_Ba_fewestToReach_90 R20 R59 a1 a2 a3 a4 a5 1000 M)) else (blet (a2 + 1) fun v5 => R20 a1 v5 M)
theorem z_Ba_fewestToReach_59 (C : Cx p s m args meth c G b_Ba_fewestToReach 8 "PrairiePool$Ballot" (some .int)) (hlev : 1 ≤ lev) {r : Int × Mem} {R20 : Int → Int → Mem → Res} {R59 : Int → Int → Int → Int → Int → Mem → Res} (hR20 : ∀ (a1 a2 : Int) (M : Mem), R20 a1 a2 M = some r → Z p l e lev s m args below meth c G 8 (MQ below (Qm G 1 r) args s 0 0 (Ab G)) M 20 [(0, .ref (G.1 + 103)), (1, vi a1), (2, vi a2)] []) (hR59 : ∀ (a1 a2 a3 a4 a5 : Int) (M : Mem), R59 a1 a2 a3 a4 a5 M = some r → Z p l e lev s m args below meth c G 8 (MQ below (Qm G 1 r) args s 0 0 (Ab G)) M 59 [(0, .ref (G.1 + 103)), (1, vi a1), (2, vi a2), (3, vi a3), (4, vi a4), (5, vi a5)] []) {a1 a2 a3 a4 a5 : Int} {M : Mem} (h : k_Ba_fewestToReach_59 R20 R59 a1 a2 a3 a4 a5 M = some r) : Z p l e lev s m args below meth c G 8 (MQ below (Qm G 1 r) args s 0 0 (Ab G)) M 59 [(0, .ref (G.1 + 103)), (1, vi a1), (2, vi a2), (3, vi a3), (4, vi a4), (5, vi a5)] [] := by
  unfold k_Ba_fewestToReach_59 at h
  refine z_iload C 5 x_Ba_fewestToReach_59 rfl ?_
  refine z_bipush C rfl x_Ba_fewestToReach_61 ?_
  rcases ite_e h with ⟨c1, h⟩ | ⟨c1, h⟩
  · refine z_icmp_ge_f (tgt := 149) C x_Ba_fewestToReach_63 rfl c1 ?_
    refine z_iload C 5 x_Ba_fewestToReach_66 rfl ?_
    refine z_iconst C x_Ba_fewestToReach_68 ?_
    refine z_iadd C x_Ba_fewestToReach_69 ?_
    refine z_bipush C rfl x_Ba_fewestToReach_70 ?_
    rcases ite_e h with ⟨c2, h⟩ | ⟨c2, h⟩
    · refine z_icmp_ge_f (tgt := 87) C x_Ba_fewestToReach_72 rfl c2 ?_
      refine z_aload_n C 0 x_Ba_fewestToReach_75 rfl ?_
      refine z_getR (j := 8) C x_Ba_fewestToReach_76 nk_103 ck_103 cw_1 (i_lt rfl) rfl rf_103_8 rfl fl_Ba_31 ?_
      refine z_iload C 5 x_Ba_fewestToReach_79 rfl ?_
      refine z_iconst C x_Ba_fewestToReach_81 ?_
      refine z_iadd C x_Ba_fewestToReach_82 ?_
      obtain ⟨c3, h⟩ := chk_e h
      obtain ⟨v4, ev4, h⟩ := blet_e h
      refine z_iald C x_Ba_fewestToReach_83 nk_110 ck_110 c3 ev4 ?_
      refine z_goto (tgt := 90) C x_Ba_fewestToReach_84 rfl ?_
      exact z_sub [0, 1, 2, 3, 4, 5] rfl (z_Ba_fewestToReach_90 C hlev hR20 hR59 h)
    · refine z_icmp_ge_t (tgt := 87) C x_Ba_fewestToReach_72 rfl c2 ?_
      refine z_sipush C rfl x_Ba_fewestToReach_87 ?_
      exact z_sub [0, 1, 2, 3, 4, 5] rfl (z_Ba_fewestToReach_90 C hlev hR20 hR59 h)
  · refine z_icmp_ge_t (tgt := 149) C x_Ba_fewestToReach_63 rfl c1 ?_
    obtain ⟨v5, ev5, h⟩ := blet_e h
    refine z_iinc (lv' := [(2, vi v5), (0, .ref (G.1 + 103)), (1, vi a1), (3, vi a3), (4, vi a4), (5, vi a5)]) C 2 ev5 x_Ba_fewestToReach_149 rfl (i_lt rfl) rfl ?_
    refine z_goto (tgt := 20) C x_Ba_fewestToReach_152 rfl ?_
    exact z_sub [1, 2, 0] rfl (hR20 a1 v5 M h)
theorem zl_Ba_fewestToReach_59 (C : Cx p s m args meth c G b_Ba_fewestToReach 8 "PrairiePool$Ballot" (some .int)) (hlev : 1 ≤ lev) {r : Int × Mem} {R20 : Int → Int → Mem → Res} (hR20 : ∀ (a1 a2 : Int) (M : Mem), R20 a1 a2 M = some r → Z p l e lev s m args below meth c G 8 (MQ below (Qm G 1 r) args s 0 0 (Ab G)) M 20 [(0, .ref (G.1 + 103)), (1, vi a1), (2, vi a2)] []) : ∀ (n : Nat) (a1 a2 a3 a4 a5 : Int) (M : Mem), fix (fun _ _ _ _ _ _ => none) (k_Ba_fewestToReach_59 R20) n a1 a2 a3 a4 a5 M = some r → Z p l e lev s m args below meth c G 8 (MQ below (Qm G 1 r) args s 0 0 (Ab G)) M 59 [(0, .ref (G.1 + 103)), (1, vi a1), (2, vi a2), (3, vi a3), (4, vi a4), (5, vi a5)] [] := by
  intro n
  induction n with
  | zero => intro a1 a2 a3 a4 a5 M h; exact nomatch (show (none : Res) = some r from h)
  | succ n ih => intro a1 a2 a3 a4 a5 M h; exact z_Ba_fewestToReach_59 C hlev hR20 ih h
def k_Ba_fewestToReach_20 (R20 : Int → Int → Mem → Res) (a1 a2 : Int) (M : Mem) : Res := if w32 a2 < 6 then (blet (cpy M 109 0 110 0 13) fun M2 => bcall (d_Ba_fewestToGain a2 0 M2) fun v3 M4 => bcall (d_Ba_fewestToGain a2 1 M4) fun v5 M6 => fix (fun _ _ _ _ _ _ => none) (k_Ba_fewestToReach_59 R20) FU a1 a2 v3 v5 0 M6) else (blet (6 + a1) fun v7 => fix (fun _ _ _ => none) (k_Ba_fewestToReach_164) FU 1000 v7 M)
theorem z_Ba_fewestToReach_20 (C : Cx p s m args meth c G b_Ba_fewestToReach 8 "PrairiePool$Ballot" (some .int)) (hlev : 1 ≤ lev) {r : Int × Mem} {R20 : Int → Int → Mem → Res} (hR20 : ∀ (a1 a2 : Int) (M : Mem), R20 a1 a2 M = some r → Z p l e lev s m args below meth c G 8 (MQ below (Qm G 1 r) args s 0 0 (Ab G)) M 20 [(0, .ref (G.1 + 103)), (1, vi a1), (2, vi a2)] []) {a1 a2 : Int} {M : Mem} (h : k_Ba_fewestToReach_20 R20 a1 a2 M = some r) : Z p l e lev s m args below meth c G 8 (MQ below (Qm G 1 r) args s 0 0 (Ab G)) M 20 [(0, .ref (G.1 + 103)), (1, vi a1), (2, vi a2)] [] := by
  unfold k_Ba_fewestToReach_20 at h
  refine z_iload_n C 2 x_Ba_fewestToReach_20 rfl ?_
  refine z_bipush C rfl x_Ba_fewestToReach_21 ?_
  rcases ite_e h with ⟨c1, h⟩ | ⟨c1, h⟩
  · refine z_icmp_ge_f (tgt := 155) C x_Ba_fewestToReach_23 rfl c1 ?_
    refine z_aload_n C 0 x_Ba_fewestToReach_26 rfl ?_
    refine z_getR (j := 7) C x_Ba_fewestToReach_27 nk_103 ck_103 cw_1 (i_lt rfl) rfl rf_103_7 rfl fl_Ba_28 ?_
    refine z_iconst C x_Ba_fewestToReach_30 ?_
    refine z_aload_n C 0 x_Ba_fewestToReach_31 rfl ?_
    refine z_getR (j := 8) C x_Ba_fewestToReach_32 nk_103 ck_103 cw_1 (i_lt rfl) rfl rf_103_8 rfl fl_Ba_31 ?_
    refine z_iconst C x_Ba_fewestToReach_35 ?_
    refine z_bipush C rfl x_Ba_fewestToReach_36 ?_
    obtain ⟨M2, eM2, h⟩ := blet_e h
    refine z_copyI C x_Ba_fewestToReach_38 ca_Ba_97 nk_109 ck_109 nk_110 ck_110 (by decide) (by omega) (i_le rfl) eM2 ?_
    refine z_aload_n C 0 x_Ba_fewestToReach_41 rfl ?_
    refine z_iload_n C 2 x_Ba_fewestToReach_42 rfl ?_
    refine z_iconst C x_Ba_fewestToReach_43 ?_
    obtain ⟨v3, M4, fv3, h⟩ := bcall_e h
    refine z_callVi (k := 103) C x_Ba_fewestToReach_44 cv_Ba_103 (t_Ba_fewestToGain (lev := lev - 1) l G (by omega) fv3) nk_103 ck_103 rfl (by omega) rfl (i_le rfl) rfl ?_
    refine z_istore_n (lv' := [(3, vi v3), (0, .ref (G.1 + 103)), (1, vi a1), (2, vi a2)]) C rfl x_Ba_fewestToReach_47 (i_lt rfl) rfl ?_
    refine z_aload_n C 1 x_Ba_fewestToReach_48 rfl ?_
    refine z_iload_n C 3 x_Ba_fewestToReach_49 rfl ?_
    refine z_iconst C x_Ba_fewestToReach_50 ?_
    obtain ⟨v5, M6, fv5, h⟩ := bcall_e h
    refine z_callVi (k := 103) C x_Ba_fewestToReach_51 cv_Ba_103 (t_Ba_fewestToGain (lev := lev - 1) l G (by omega) fv5) nk_103 ck_103 rfl (by omega) rfl (i_le rfl) rfl ?_
    refine z_istore (lv' := [(4, vi v5), (3, vi v3), (0, .ref (G.1 + 103)), (1, vi a1), (2, vi a2)]) C rfl x_Ba_fewestToReach_54 (i_lt rfl) rfl ?_
    refine z_iconst C x_Ba_fewestToReach_56 ?_
    refine z_istore (lv' := [(5, vi 0), (4, vi v5), (3, vi v3), (0, .ref (G.1 + 103)), (1, vi a1), (2, vi a2)]) C rfl x_Ba_fewestToReach_57 (i_lt rfl) rfl ?_
    exact z_sub [3, 4, 5, 2, 1, 0] rfl (zl_Ba_fewestToReach_59 C hlev hR20 FU a1 a2 v3 v5 0 M6 h)
  · refine z_icmp_ge_t (tgt := 155) C x_Ba_fewestToReach_23 rfl c1 ?_
    refine z_sipush C rfl x_Ba_fewestToReach_155 ?_
    refine z_istore_n (lv' := [(2, vi 1000), (0, .ref (G.1 + 103)), (1, vi a1)]) C rfl x_Ba_fewestToReach_158 (i_lt rfl) rfl ?_
    refine z_bipush C rfl x_Ba_fewestToReach_159 ?_
    refine z_iload_n C 2 x_Ba_fewestToReach_161 rfl ?_
    refine z_iadd C x_Ba_fewestToReach_162 ?_
    obtain ⟨v7, ev7, h⟩ := blet_e h
    refine z_istore_n (lv' := [(3, vi v7), (2, vi 1000), (0, .ref (G.1 + 103)), (1, vi a1)]) C ev7 x_Ba_fewestToReach_163 (i_lt rfl) rfl ?_
    exact z_sub [2, 1, 0] rfl (zl_Ba_fewestToReach_164 C hlev FU 1000 v7 M h)
theorem zl_Ba_fewestToReach_20 (C : Cx p s m args meth c G b_Ba_fewestToReach 8 "PrairiePool$Ballot" (some .int)) (hlev : 1 ≤ lev) {r : Int × Mem}  : ∀ (n : Nat) (a1 a2 : Int) (M : Mem), fix (fun _ _ _ => none) (k_Ba_fewestToReach_20) n a1 a2 M = some r → Z p l e lev s m args below meth c G 8 (MQ below (Qm G 1 r) args s 0 0 (Ab G)) M 20 [(0, .ref (G.1 + 103)), (1, vi a1), (2, vi a2)] [] := by
  intro n
  induction n with
  | zero => intro a1 a2 M h; exact nomatch (show (none : Res) = some r from h)
  | succ n ih => intro a1 a2 M h; exact z_Ba_fewestToReach_20 C hlev ih h
def d_Ba_fewestToReach (a1 : Int) (M : Mem) : Res := bcall (d_Ar_fill1 109 13 1000 M) fun v1 M2 => blet (sto M2 109 6 0) fun M3 => fix (fun _ _ _ => none) (k_Ba_fewestToReach_20) FU a1 0 M3
theorem t_Ba_fewestToReach (l : Launch) (G : GX) {lev : Nat} (hlev : 1 ≤ lev) {a1 : Int} {M : Mem} {r : Int × Mem} (h : d_Ba_fewestToReach a1 M = some r) : Mt l G y_Ba_fewestToReach b_Ba_fewestToReach 8 (some .int) lev 1 [.ref (G.1 + 103), vi a1] M r := by
  refine Mt.of (by decide) (i_le rfl) ?_
  intro p e s m args below meth c C
  have C : Cx p s m args meth c G b_Ba_fewestToReach 8 "PrairiePool$Ballot" (some .int) := C
  unfold d_Ba_fewestToReach at h
  refine z_sub (lv' := [(0, .ref (G.1 + 103)), (1, vi a1)]) [0, 1] rfl ?_
  refine z_aload_n C 0 x_Ba_fewestToReach_0 rfl ?_
  refine z_getR (j := 7) C x_Ba_fewestToReach_1 nk_103 ck_103 cw_1 (i_lt rfl) rfl rf_103_7 rfl fl_Ba_28 ?_
  refine z_sipush C rfl x_Ba_fewestToReach_4 ?_
  obtain ⟨v1, M2, fv1, h⟩ := bcall_e h
  refine z_callSv C x_Ba_fewestToReach_7 cs_Ba_42 (t_Ar_fill1 (lev := lev - 1) l G (by omega) nk_109 ck_109 fv1) (by omega) rfl (i_le rfl) rfl ?_
  refine z_aload_n C 0 x_Ba_fewestToReach_10 rfl ?_
  refine z_getR (j := 7) C x_Ba_fewestToReach_11 nk_103 ck_103 cw_1 (i_lt rfl) rfl rf_103_7 rfl fl_Ba_28 ?_
  refine z_bipush C rfl x_Ba_fewestToReach_14 ?_
  refine z_iconst C x_Ba_fewestToReach_16 ?_
  obtain ⟨M3, eM3, h⟩ := blet_e h
  refine z_iast C x_Ba_fewestToReach_17 nk_109 ck_109 (by decide) eM3 ?_
  refine z_iconst C x_Ba_fewestToReach_18 ?_
  refine z_istore_n (lv' := [(2, vi 0), (0, .ref (G.1 + 103)), (1, vi a1)]) C rfl x_Ba_fewestToReach_19 (i_lt rfl) rfl ?_
  exact z_sub [1, 2, 0] rfl (zl_Ba_fewestToReach_20 C hlev FU a1 0 M3 h)
theorem x_Ba_leastSetThatTurns_0 : DC b_Ba_leastSetThatTurns 0 (.aload_n 0) 1 1 := ⟨by decide +kernel, rfl⟩
theorem x_Ba_leastSetThatTurns_1 : DC b_Ba_leastSetThatTurns 1 (.invokevirtual 83) 3 4 := ⟨by decide +kernel, rfl⟩
theorem x_Ba_leastSetThatTurns_4 : DC b_Ba_leastSetThatTurns 4 (.istore_n 1) 1 5 := ⟨by decide +kernel, rfl⟩
theorem x_Ba_leastSetThatTurns_5 : DC b_Ba_leastSetThatTurns 5 (.aload_n 0) 1 6 := ⟨by decide +kernel, rfl⟩
theorem x_Ba_leastSetThatTurns_6 : DC b_Ba_leastSetThatTurns 6 (.iload_n 1) 1 7 := ⟨by decide +kernel, rfl⟩
theorem x_Ba_leastSetThatTurns_7 : DC b_Ba_leastSetThatTurns 7 (.invokevirtual 87) 3 10 := ⟨by decide +kernel, rfl⟩
theorem x_Ba_leastSetThatTurns_10 : DC b_Ba_leastSetThatTurns 10 (.istore_n 2) 1 11 := ⟨by decide +kernel, rfl⟩
theorem x_Ba_leastSetThatTurns_11 : DC b_Ba_leastSetThatTurns 11 (.iload_n 2) 1 12 := ⟨by decide +kernel, rfl⟩
theorem x_Ba_leastSetThatTurns_12 : DC b_Ba_leastSetThatTurns 12 (.sipush 1000) 3 15 := ⟨by decide +kernel, rfl⟩
theorem x_Ba_leastSetThatTurns_15 : DC b_Ba_leastSetThatTurns 15 (.if_icmp .lt 5) 3 18 := ⟨by decide +kernel, rfl⟩
theorem x_Ba_leastSetThatTurns_18 : DC b_Ba_leastSetThatTurns 18 (.iconst (-1)) 1 19 := ⟨by decide +kernel, rfl⟩
theorem x_Ba_leastSetThatTurns_19 : DC b_Ba_leastSetThatTurns 19 (.ireturn) 1 20 := ⟨by decide +kernel, rfl⟩
theorem x_Ba_leastSetThatTurns_20 : DC b_Ba_leastSetThatTurns 20 (.iconst 0) 1 21 := ⟨by decide +kernel, rfl⟩
theorem x_Ba_leastSetThatTurns_21 : DC b_Ba_leastSetThatTurns 21 (.istore_n 3) 1 22 := ⟨by decide +kernel, rfl⟩
theorem x_Ba_leastSetThatTurns_22 : DC b_Ba_leastSetThatTurns 22 (.aload_n 0) 1 23 := ⟨by decide +kernel, rfl⟩
theorem x_Ba_leastSetThatTurns_23 : DC b_Ba_leastSetThatTurns 23 (.getfield 34) 3 26 := ⟨by decide +kernel, rfl⟩
theorem x_Ba_leastSetThatTurns_26 : DC b_Ba_leastSetThatTurns 26 (.getfield 57) 3 29 := ⟨by decide +kernel, rfl⟩
theorem x_Ba_leastSetThatTurns_29 : DC b_Ba_leastSetThatTurns 29 (.iconst 1) 1 30 := ⟨by decide +kernel, rfl⟩
theorem x_Ba_leastSetThatTurns_30 : DC b_Ba_leastSetThatTurns 30 (.isub) 1 31 := ⟨by decide +kernel, rfl⟩
theorem x_Ba_leastSetThatTurns_31 : DC b_Ba_leastSetThatTurns 31 (.istore 4) 2 33 := ⟨by decide +kernel, rfl⟩
theorem x_Ba_leastSetThatTurns_33 : DC b_Ba_leastSetThatTurns 33 (.iload 4) 2 35 := ⟨by decide +kernel, rfl⟩
theorem x_Ba_leastSetThatTurns_35 : DC b_Ba_leastSetThatTurns 35 (.ifCond .lt 75) 3 38 := ⟨by decide +kernel, rfl⟩
theorem x_Ba_leastSetThatTurns_38 : DC b_Ba_leastSetThatTurns 38 (.aload_n 0) 1 39 := ⟨by decide +kernel, rfl⟩
theorem x_Ba_leastSetThatTurns_39 : DC b_Ba_leastSetThatTurns 39 (.getfield 21) 3 42 := ⟨by decide +kernel, rfl⟩
theorem x_Ba_leastSetThatTurns_42 : DC b_Ba_leastSetThatTurns 42 (.iload 4) 2 44 := ⟨by decide +kernel, rfl⟩
theorem x_Ba_leastSetThatTurns_44 : DC b_Ba_leastSetThatTurns 44 (.baload) 1 45 := ⟨by decide +kernel, rfl⟩
theorem x_Ba_leastSetThatTurns_45 : DC b_Ba_leastSetThatTurns 45 (.istore 5) 2 47 := ⟨by decide +kernel, rfl⟩
theorem x_Ba_leastSetThatTurns_47 : DC b_Ba_leastSetThatTurns 47 (.aload_n 0) 1 48 := ⟨by decide +kernel, rfl⟩
theorem x_Ba_leastSetThatTurns_48 : DC b_Ba_leastSetThatTurns 48 (.getfield 21) 3 51 := ⟨by decide +kernel, rfl⟩
theorem x_Ba_leastSetThatTurns_51 : DC b_Ba_leastSetThatTurns 51 (.iload 4) 2 53 := ⟨by decide +kernel, rfl⟩
theorem x_Ba_leastSetThatTurns_53 : DC b_Ba_leastSetThatTurns 53 (.iconst 0) 1 54 := ⟨by decide +kernel, rfl⟩
theorem x_Ba_leastSetThatTurns_54 : DC b_Ba_leastSetThatTurns 54 (.bastore) 1 55 := ⟨by decide +kernel, rfl⟩
theorem x_Ba_leastSetThatTurns_55 : DC b_Ba_leastSetThatTurns 55 (.iload 5) 2 57 := ⟨by decide +kernel, rfl⟩
theorem x_Ba_leastSetThatTurns_57 : DC b_Ba_leastSetThatTurns 57 (.ifCond .eq 47) 3 60 := ⟨by decide +kernel, rfl⟩
theorem x_Ba_leastSetThatTurns_60 : DC b_Ba_leastSetThatTurns 60 (.aload_n 0) 1 61 := ⟨by decide +kernel, rfl⟩
theorem x_Ba_leastSetThatTurns_61 : DC b_Ba_leastSetThatTurns 61 (.iload_n 1) 1 62 := ⟨by decide +kernel, rfl⟩
theorem x_Ba_leastSetThatTurns_62 : DC b_Ba_leastSetThatTurns 62 (.invokevirtual 87) 3 65 := ⟨by decide +kernel, rfl⟩
theorem x_Ba_leastSetThatTurns_65 : DC b_Ba_leastSetThatTurns 65 (.iload_n 2) 1 66 := ⟨by decide +kernel, rfl⟩
theorem x_Ba_leastSetThatTurns_66 : DC b_Ba_leastSetThatTurns 66 (.if_icmp .le 38) 3 69 := ⟨by decide +kernel, rfl⟩
theorem x_Ba_leastSetThatTurns_69 : DC b_Ba_leastSetThatTurns 69 (.iload_n 3) 1 70 := ⟨by decide +kernel, rfl⟩
theorem x_Ba_leastSetThatTurns_70 : DC b_Ba_leastSetThatTurns 70 (.iconst 1) 1 71 := ⟨by decide +kernel, rfl⟩
theorem x_Ba_leastSetThatTurns_71 : DC b_Ba_leastSetThatTurns 71 (.iload 4) 2 73 := ⟨by decide +kernel, rfl⟩
theorem x_Ba_leastSetThatTurns_73 : DC b_Ba_leastSetThatTurns 73 (.ishl) 1 74 := ⟨by decide +kernel, rfl⟩
theorem x_Ba_leastSetThatTurns_74 : DC b_Ba_leastSetThatTurns 74 (.ior) 1 75 := ⟨by decide +kernel, rfl⟩
theorem x_Ba_leastSetThatTurns_75 : DC b_Ba_leastSetThatTurns 75 (.istore_n 3) 1 76 := ⟨by decide +kernel, rfl⟩
theorem x_Ba_leastSetThatTurns_76 : DC b_Ba_leastSetThatTurns 76 (.aload_n 0) 1 77 := ⟨by decide +kernel, rfl⟩
theorem x_Ba_leastSetThatTurns_77 : DC b_Ba_leastSetThatTurns 77 (.getfield 25) 3 80 := ⟨by decide +kernel, rfl⟩
theorem x_Ba_leastSetThatTurns_80 : DC b_Ba_leastSetThatTurns 80 (.aload_n 0) 1 81 := ⟨by decide +kernel, rfl⟩
theorem x_Ba_leastSetThatTurns_81 : DC b_Ba_leastSetThatTurns 81 (.getfield 34) 3 84 := ⟨by decide +kernel, rfl⟩
theorem x_Ba_leastSetThatTurns_84 : DC b_Ba_leastSetThatTurns 84 (.getfield 74) 3 87 := ⟨by decide +kernel, rfl⟩
theorem x_Ba_leastSetThatTurns_87 : DC b_Ba_leastSetThatTurns 87 (.iload 4) 2 89 := ⟨by decide +kernel, rfl⟩
theorem x_Ba_leastSetThatTurns_89 : DC b_Ba_leastSetThatTurns 89 (.iaload) 1 90 := ⟨by decide +kernel, rfl⟩
theorem x_Ba_leastSetThatTurns_90 : DC b_Ba_leastSetThatTurns 90 (.dup2) 1 91 := ⟨by decide +kernel, rfl⟩
theorem x_Ba_leastSetThatTurns_91 : DC b_Ba_leastSetThatTurns 91 (.iaload) 1 92 := ⟨by decide +kernel, rfl⟩
theorem x_Ba_leastSetThatTurns_92 : DC b_Ba_leastSetThatTurns 92 (.aload_n 0) 1 93 := ⟨by decide +kernel, rfl⟩
theorem x_Ba_leastSetThatTurns_93 : DC b_Ba_leastSetThatTurns 93 (.getfield 15) 3 96 := ⟨by decide +kernel, rfl⟩
theorem x_Ba_leastSetThatTurns_96 : DC b_Ba_leastSetThatTurns 96 (.iload 4) 2 98 := ⟨by decide +kernel, rfl⟩
theorem x_Ba_leastSetThatTurns_98 : DC b_Ba_leastSetThatTurns 98 (.iaload) 1 99 := ⟨by decide +kernel, rfl⟩
theorem x_Ba_leastSetThatTurns_99 : DC b_Ba_leastSetThatTurns 99 (.iadd) 1 100 := ⟨by decide +kernel, rfl⟩
theorem x_Ba_leastSetThatTurns_100 : DC b_Ba_leastSetThatTurns 100 (.iastore) 1 101 := ⟨by decide +kernel, rfl⟩
theorem x_Ba_leastSetThatTurns_101 : DC b_Ba_leastSetThatTurns 101 (.iinc 2 (-1)) 3 104 := ⟨by decide +kernel, rfl⟩
theorem x_Ba_leastSetThatTurns_104 : DC b_Ba_leastSetThatTurns 104 (.iinc 4 (-1)) 3 107 := ⟨by decide +kernel, rfl⟩
theorem x_Ba_leastSetThatTurns_107 : DC b_Ba_leastSetThatTurns 107 (.goto (-74)) 3 110 := ⟨by decide +kernel, rfl⟩
theorem x_Ba_leastSetThatTurns_110 : DC b_Ba_leastSetThatTurns 110 (.iload_n 3) 1 111 := ⟨by decide +kernel, rfl⟩
theorem x_Ba_leastSetThatTurns_111 : DC b_Ba_leastSetThatTurns 111 (.ireturn) 1 112 := ⟨by decide +kernel, rfl⟩
def k_Ba_leastSetThatTurns_104 (R33 : Int → Int → Int → Int → Mem → Res) (a1 a2 a3 a4 : Int) (M : Mem) : Res := blet (a4 + (-1)) fun v1 => R33 a1 a2 a3 v1 M
theorem z_Ba_leastSetThatTurns_104 (C : Cx p s m args meth c G b_Ba_leastSetThatTurns 6 "PrairiePool$Ballot" (some .int)) (hlev : 3 ≤ lev) {r : Int × Mem} {R33 : Int → Int → Int → Int → Mem → Res} (hR33 : ∀ (a1 a2 a3 a4 : Int) (M : Mem), R33 a1 a2 a3 a4 M = some r → Z p l e lev s m args below meth c G 6 (MQ below (Qm G 1 r) args s 0 0 (Ab G)) M 33 [(0, .ref (G.1 + 103)), (1, vi a1), (2, vi a2), (3, vi a3), (4, vi a4)] []) {a1 a2 a3 a4 : Int} {M : Mem} (h : k_Ba_leastSetThatTurns_104 R33 a1 a2 a3 a4 M = some r) : Z p l e lev s m args below meth c G 6 (MQ below (Qm G 1 r) args s 0 0 (Ab G)) M 104 [(0, .ref (G.1 + 103)), (1, vi a1), (2, vi a2), (3, vi a3), (4, vi a4)] [] := by
  unfold k_Ba_leastSetThatTurns_104 at h
  obtain ⟨v1, ev1, h⟩ := blet_e h
  refine z_iinc (lv' := [(4, vi v1), (0, .ref (G.1 + 103)), (1, vi a1), (2, vi a2), (3, vi a3)]) C 4 ev1 x_Ba_leastSetThatTurns_104 rfl (i_lt rfl) rfl ?_
  refine z_goto (tgt := 33) C x_Ba_leastSetThatTurns_107 rfl ?_
  exact z_sub [1, 2, 3, 4, 0] rfl (hR33 a1 a2 a3 v1 M h)
def k_Ba_leastSetThatTurns_33 (R33 : Int → Int → Int → Int → Mem → Res) (a1 a2 a3 a4 : Int) (M : Mem) : Res := if w32 a4 < 0 then (some (a3, M)) else (chk (0 ≤ w32 a4 ∧ w32 a4 < 20) <| blet (M 107 (ix a4) % 2) fun v3 => chk (0 ≤ w32 a4 ∧ w32 a4 < 20) <| blet (sto M 107 (ix a4) 0) fun M5 => if w32 v3 = 0 then (k_Ba_leastSetThatTurns_104 R33 a1 a2 a3 a4 M5) else (bcall (d_Ba_fewestToReach a1 M5) fun v7 M8 => if w32 a2 < w32 v7 then (blet (or32 a3 (sl32 1 a4)) fun v10 => chk (0 ≤ w32 a4 ∧ w32 a4 < 20) <| blet (M8 6 (ix a4)) fun v12 => chk (0 ≤ w32 v12 ∧ w32 v12 < 6) <| blet (M8 108 (ix v12)) fun v14 => chk (0 ≤ w32 a4 ∧ w32 a4 < 20) <| blet (M8 105 (ix a4)) fun v16 => chk (0 ≤ w32 v12 ∧ w32 v12 < 6) <| blet (sto M8 108 (ix v12) (v14 + v16)) fun M18 => blet (a2 + (-1)) fun v19 => k_Ba_leastSetThatTurns_104 R33 a1 v19 v10 a4 M18) else (k_Ba_leastSetThatTurns_104 R33 a1 a2 a3 a4 M8)))
theorem z_Ba_leastSetThatTurns_33 (C : Cx p s m args meth c G b_Ba_leastSetThatTurns 6 "PrairiePool$Ballot" (some .int)) (hlev : 3 ≤ lev) {r : Int × Mem} {R33 : Int → Int → Int → Int → Mem → Res} (hR33 : ∀ (a1 a2 a3 a4 : Int) (M : Mem), R33 a1 a2 a3 a4 M = some r → Z p l e lev s m args below meth c G 6 (MQ below (Qm G 1 r) args s 0 0 (Ab G)) M 33 [(0, .ref (G.1 + 103)), (1, vi a1), (2, vi a2), (3, vi a3), (4, vi a4)] []) {a1 a2 a3 a4 : Int} {M : Mem} (h : k_Ba_leastSetThatTurns_33 R33 a1 a2 a3 a4 M = some r) : Z p l e lev s m args below meth c G 6 (MQ below (Qm G 1 r) args s 0 0 (Ab G)) M 33 [(0, .ref (G.1 + 103)), (1, vi a1), (2, vi a2), (3, vi a3), (4, vi a4)] [] := by
  unfold k_Ba_leastSetThatTurns_33 at h
  refine z_iload C 4 x_Ba_leastSetThatTurns_33 rfl ?_
  rcases ite_e h with ⟨c1, h⟩ | ⟨c1, h⟩
  · refine z_if_lt_t (tgt := 110) C x_Ba_leastSetThatTurns_35 rfl c1 ?_
    refine z_iload_n C 3 x_Ba_leastSetThatTurns_110 rfl ?_
    exact z_iret C x_Ba_leastSetThatTurns_111 h
  · refine z_if_lt_f (tgt := 110) C x_Ba_leastSetThatTurns_35 rfl c1 ?_
    refine z_aload_n C 0 x_Ba_leastSetThatTurns_38 rfl ?_
    refine z_getR (j := 5) C x_Ba_leastSetThatTurns_39 nk_103 ck_103 cw_1 (i_lt rfl) rfl rf_103_5 rfl fl_Ba_21 ?_
    refine z_iload C 4 x_Ba_leastSetThatTurns_42 rfl ?_
    obtain ⟨c2, h⟩ := chk_e h
    obtain ⟨v3, ev3, h⟩ := blet_e h
    refine z_zald C x_Ba_leastSetThatTurns_44 nk_107 ck_107 c2 ev3 ?_
    refine z_istore (lv' := [(5, vi v3), (0, .ref (G.1 + 103)), (1, vi a1), (2, vi a2), (3, vi a3), (4, vi a4)]) C rfl x_Ba_leastSetThatTurns_45 (i_lt rfl) rfl ?_
    refine z_aload_n C 1 x_Ba_leastSetThatTurns_47 rfl ?_
    refine z_getR (j := 5) C x_Ba_leastSetThatTurns_48 nk_103 ck_103 cw_1 (i_lt rfl) rfl rf_103_5 rfl fl_Ba_21 ?_
    refine z_iload C 5 x_Ba_leastSetThatTurns_51 rfl ?_
    refine z_iconst C x_Ba_leastSetThatTurns_53 ?_
    obtain ⟨c4, h⟩ := chk_e h
    obtain ⟨M5, eM5, h⟩ := blet_e h
    refine z_zast C x_Ba_leastSetThatTurns_54 nk_107 ck_107 c4 eM5 ?_
    refine z_iload C 0 x_Ba_leastSetThatTurns_55 rfl ?_
    rcases ite_e h with ⟨c6, h⟩ | ⟨c6, h⟩
    · refine z_if_eq_t (tgt := 104) C x_Ba_leastSetThatTurns_57 rfl c6 ?_
      exact z_sub [1, 2, 3, 4, 5] rfl (z_Ba_leastSetThatTurns_104 C hlev hR33 h)
    · refine z_if_eq_f (tgt := 104) C x_Ba_leastSetThatTurns_57 rfl c6 ?_
      refine z_aload_n C 1 x_Ba_leastSetThatTurns_60 rfl ?_
      refine z_iload_n C 2 x_Ba_leastSetThatTurns_61 rfl ?_
      obtain ⟨v7, M8, fv7, h⟩ := bcall_e h
      refine z_callVi (k := 103) C x_Ba_leastSetThatTurns_62 cv_Ba_87 (t_Ba_fewestToReach (lev := lev - 1) l G (by omega) fv7) nk_103 ck_103 rfl (by omega) rfl (i_le rfl) rfl ?_
      refine z_iload_n C 3 x_Ba_leastSetThatTurns_65 rfl ?_
      rcases ite_e h with ⟨c9, h⟩ | ⟨c9, h⟩
      · refine z_icmp_le_f (tgt := 104) C x_Ba_leastSetThatTurns_66 rfl c9 ?_
        refine z_iload_n C 4 x_Ba_leastSetThatTurns_69 rfl ?_
        refine z_iconst C x_Ba_leastSetThatTurns_70 ?_
        refine z_iload C 5 x_Ba_leastSetThatTurns_71 rfl ?_
        refine z_ishl C x_Ba_leastSetThatTurns_73 ?_
        refine z_ior C x_Ba_leastSetThatTurns_74 ?_
        obtain ⟨v10, ev10, h⟩ := blet_e h
        refine z_istore_n (lv' := [(3, vi v10), (5, vi v3), (0, .ref (G.1 + 103)), (1, vi a1), (2, vi a2), (4, vi a4)]) C ev10 x_Ba_leastSetThatTurns_75 (i_lt rfl) rfl ?_
        refine z_aload_n C 2 x_Ba_leastSetThatTurns_76 rfl ?_
        refine z_getR (j := 6) C x_Ba_leastSetThatTurns_77 nk_103 ck_103 cw_1 (i_lt rfl) rfl rf_103_6 rfl fl_Ba_25 ?_
        refine z_aload_n C 2 x_Ba_leastSetThatTurns_80 rfl ?_
        refine z_getR (j := 1) C x_Ba_leastSetThatTurns_81 nk_103 ck_103 cw_1 (i_lt rfl) rfl rf_103_1 rfl fl_Ba_34 ?_
        refine z_getR (j := 1) C x_Ba_leastSetThatTurns_84 nk_5 ck_5 cw_7 (i_lt rfl) rfl rf_5_1 rfl fl_Ba_74 ?_
        refine z_iload C 5 x_Ba_leastSetThatTurns_87 rfl ?_
        obtain ⟨c11, h⟩ := chk_e h
        obtain ⟨v12, ev12, h⟩ := blet_e h
        refine z_iald C x_Ba_leastSetThatTurns_89 nk_6 ck_6 c11 ev12 ?_
        refine z_dup2 C x_Ba_leastSetThatTurns_90 rfl rfl ?_
        obtain ⟨c13, h⟩ := chk_e h
        obtain ⟨v14, ev14, h⟩ := blet_e h
        refine z_iald C x_Ba_leastSetThatTurns_91 nk_108 ck_108 c13 ev14 ?_
        refine z_aload_n C 2 x_Ba_leastSetThatTurns_92 rfl ?_
        refine z_getR (j := 3) C x_Ba_leastSetThatTurns_93 nk_103 ck_103 cw_1 (i_lt rfl) rfl rf_103_3 rfl fl_Ba_15 ?_
        refine z_iload C 5 x_Ba_leastSetThatTurns_96 rfl ?_
        obtain ⟨c15, h⟩ := chk_e h
        obtain ⟨v16, ev16, h⟩ := blet_e h
        refine z_iald C x_Ba_leastSetThatTurns_98 nk_105 ck_105 c15 ev16 ?_
        refine z_iadd C x_Ba_leastSetThatTurns_99 ?_
        obtain ⟨c17, h⟩ := chk_e h
        obtain ⟨M18, eM18, h⟩ := blet_e h
        refine z_iast C x_Ba_leastSetThatTurns_100 nk_108 ck_108 c17 eM18 ?_
        obtain ⟨v19, ev19, h⟩ := blet_e h
        refine z_iinc (lv' := [(2, vi v19), (3, vi v10), (5, vi v3), (0, .ref (G.1 + 103)), (1, vi a1), (4, vi a4)]) C 4 ev19 x_Ba_leastSetThatTurns_101 rfl (i_lt rfl) rfl ?_
        exact z_sub [3, 4, 0, 1, 5] rfl (z_Ba_leastSetThatTurns_104 C hlev hR33 h)
      · refine z_icmp_le_t (tgt := 104) C x_Ba_leastSetThatTurns_66 rfl c9 ?_
        exact z_sub [1, 2, 3, 4, 5] rfl (z_Ba_leastSetThatTurns_104 C hlev hR33 h)
theorem zl_Ba_leastSetThatTurns_33 (C : Cx p s m args meth c G b_Ba_leastSetThatTurns 6 "PrairiePool$Ballot" (some .int)) (hlev : 3 ≤ lev) {r : Int × Mem}  : ∀ (n : Nat) (a1 a2 a3 a4 : Int) (M : Mem), fix (fun _ _ _ _ _ => none) (k_Ba_leastSetThatTurns_33) n a1 a2 a3 a4 M = some r → Z p l e lev s m args below meth c G 6 (MQ below (Qm G 1 r) args s 0 0 (Ab G)) M 33 [(0, .ref (G.1 + 103)), (1, vi a1), (2, vi a2), (3, vi a3), (4, vi a4)] [] := by
  intro n
  induction n with
  | zero => intro a1 a2 a3 a4 M h; exact nomatch (show (none : Res) = some r from h)
  | succ n ih => intro a1 a2 a3 a4 M h; exact z_Ba_leastSetThatTurns_33 C hlev ih h
def d_Ba_leastSetThatTurns (M : Mem) : Res := bcall (d_Ba_prepareToTurn M) fun v1 M2 => bcall (d_Ba_fewestToReach v1 M2) fun v3 M4 => if w32 v3 < 1000 then (blet (M4 5 0) fun v6 => blet (v6 - 1) fun v7 => fix (fun _ _ _ _ _ => none) (k_Ba_leastSetThatTurns_33) FU v1 v3 0 v7 M4) else (some ((-1), M4))
theorem t_Ba_leastSetThatTurns (l : Launch) (G : GX) {lev : Nat} (hlev : 3 ≤ lev) {M : Mem} {r : Int × Mem} (h : d_Ba_leastSetThatTurns M = some r) : Mt l G y_Ba_leastSetThatTurns b_Ba_leastSetThatTurns 6 (some .int) lev 1 [.ref (G.1 + 103)] M r := by
  refine Mt.of (by decide) (i_le rfl) ?_
  intro p e s m args below meth c C
  have C : Cx p s m args meth c G b_Ba_leastSetThatTurns 6 "PrairiePool$Ballot" (some .int) := C
  unfold d_Ba_leastSetThatTurns at h
  refine z_sub (lv' := [(0, .ref (G.1 + 103))]) [0] rfl ?_
  refine z_aload_n C 0 x_Ba_leastSetThatTurns_0 rfl ?_
  obtain ⟨v1, M2, fv1, h⟩ := bcall_e h
  refine z_callVi (k := 103) C x_Ba_leastSetThatTurns_1 cv_Ba_83 (t_Ba_prepareToTurn (lev := lev - 1) l G (by omega) fv1) nk_103 ck_103 rfl (by omega) rfl (i_le rfl) rfl ?_
  refine z_istore_n (lv' := [(1, vi v1), (0, .ref (G.1 + 103))]) C rfl x_Ba_leastSetThatTurns_4 (i_lt rfl) rfl ?_
  refine z_aload_n C 1 x_Ba_leastSetThatTurns_5 rfl ?_
  refine z_iload_n C 0 x_Ba_leastSetThatTurns_6 rfl ?_
  obtain ⟨v3, M4, fv3, h⟩ := bcall_e h
  refine z_callVi (k := 103) C x_Ba_leastSetThatTurns_7 cv_Ba_87 (t_Ba_fewestToReach (lev := lev - 1) l G (by omega) fv3) nk_103 ck_103 rfl (by omega) rfl (i_le rfl) rfl ?_
  refine z_istore_n (lv' := [(2, vi v3), (1, vi v1), (0, .ref (G.1 + 103))]) C rfl x_Ba_leastSetThatTurns_10 (i_lt rfl) rfl ?_
  refine z_iload_n C 0 x_Ba_leastSetThatTurns_11 rfl ?_
  refine z_sipush C rfl x_Ba_leastSetThatTurns_12 ?_
  rcases ite_e h with ⟨c5, h⟩ | ⟨c5, h⟩
  · refine z_icmp_lt_t (tgt := 20) C x_Ba_leastSetThatTurns_15 rfl c5 ?_
    refine z_iconst C x_Ba_leastSetThatTurns_20 ?_
    refine z_istore_n (lv' := [(3, vi 0), (2, vi v3), (1, vi v1), (0, .ref (G.1 + 103))]) C rfl x_Ba_leastSetThatTurns_21 (i_lt rfl) rfl ?_
    refine z_aload_n C 3 x_Ba_leastSetThatTurns_22 rfl ?_
    refine z_getR (j := 1) C x_Ba_leastSetThatTurns_23 nk_103 ck_103 cw_1 (i_lt rfl) rfl rf_103_1 rfl fl_Ba_34 ?_
    obtain ⟨v6, ev6, h⟩ := blet_e h
    refine z_getI (j := 0) C x_Ba_leastSetThatTurns_26 nk_5 ck_5 cw_7 (i_lt rfl) rfl rfl fl_Ba_57 ev6 ?_
    refine z_iconst C x_Ba_leastSetThatTurns_29 ?_
    refine z_isub C x_Ba_leastSetThatTurns_30 ?_
    obtain ⟨v7, ev7, h⟩ := blet_e h
    refine z_istore (lv' := [(4, vi v7), (3, vi 0), (2, vi v3), (1, vi v1), (0, .ref (G.1 + 103))]) C ev7 x_Ba_leastSetThatTurns_31 (i_lt rfl) rfl ?_
    exact z_sub [4, 3, 2, 1, 0] rfl (zl_Ba_leastSetThatTurns_33 C hlev FU v1 v3 0 v7 M4 h)
  · refine z_icmp_lt_f (tgt := 20) C x_Ba_leastSetThatTurns_15 rfl c5 ?_
    refine z_iconst C x_Ba_leastSetThatTurns_18 ?_
    exact z_iret C x_Ba_leastSetThatTurns_19 h
end
