section
variable {p : Program} {l : Launch} {e : Env} {lev : Nat} {s : State} {m : MethodId} {args : Array Value} {below : List Frame} {meth : Method} {c : Code} {G : GX}
theorem x_Pl_judge_0 : DC b_Pl_judge 0 (.aload_n 0) 1 1 := ⟨by decide +kernel, rfl⟩
theorem x_Pl_judge_1 : DC b_Pl_judge 1 (.getfield 17) 3 4 := ⟨by decide +kernel, rfl⟩
theorem x_Pl_judge_4 : DC b_Pl_judge 4 (.iconst 5) 1 5 := ⟨by decide +kernel, rfl⟩
theorem x_Pl_judge_5 : DC b_Pl_judge 5 (.invokestatic 67) 3 8 := ⟨by decide +kernel, rfl⟩
theorem x_Pl_judge_8 : DC b_Pl_judge 8 (.aload_n 0) 1 9 := ⟨by decide +kernel, rfl⟩
theorem x_Pl_judge_9 : DC b_Pl_judge 9 (.getfield 20) 3 12 := ⟨by decide +kernel, rfl⟩
theorem x_Pl_judge_12 : DC b_Pl_judge 12 (.ldc 73) 2 14 := ⟨by decide +kernel, rfl⟩
theorem x_Pl_judge_14 : DC b_Pl_judge 14 (.invokestatic 67) 3 17 := ⟨by decide +kernel, rfl⟩
theorem x_Pl_judge_17 : DC b_Pl_judge 17 (.iconst 0) 1 18 := ⟨by decide +kernel, rfl⟩
theorem x_Pl_judge_18 : DC b_Pl_judge 18 (.istore_n 2) 1 19 := ⟨by decide +kernel, rfl⟩
theorem x_Pl_judge_19 : DC b_Pl_judge 19 (.iload_n 2) 1 20 := ⟨by decide +kernel, rfl⟩
theorem x_Pl_judge_20 : DC b_Pl_judge 20 (.aload_n 0) 1 21 := ⟨by decide +kernel, rfl⟩
theorem x_Pl_judge_21 : DC b_Pl_judge 21 (.getfield 55) 3 24 := ⟨by decide +kernel, rfl⟩
theorem x_Pl_judge_24 : DC b_Pl_judge 24 (.getfield 74) 3 27 := ⟨by decide +kernel, rfl⟩
theorem x_Pl_judge_27 : DC b_Pl_judge 27 (.if_icmp .ge 77) 3 30 := ⟨by decide +kernel, rfl⟩
theorem x_Pl_judge_30 : DC b_Pl_judge 30 (.aload_n 0) 1 31 := ⟨by decide +kernel, rfl⟩
theorem x_Pl_judge_31 : DC b_Pl_judge 31 (.getfield 55) 3 34 := ⟨by decide +kernel, rfl⟩
theorem x_Pl_judge_34 : DC b_Pl_judge 34 (.getfield 78) 3 37 := ⟨by decide +kernel, rfl⟩
theorem x_Pl_judge_37 : DC b_Pl_judge 37 (.iload_n 2) 1 38 := ⟨by decide +kernel, rfl⟩
theorem x_Pl_judge_38 : DC b_Pl_judge 38 (.iaload) 1 39 := ⟨by decide +kernel, rfl⟩
theorem x_Pl_judge_39 : DC b_Pl_judge 39 (.istore_n 3) 1 40 := ⟨by decide +kernel, rfl⟩
theorem x_Pl_judge_40 : DC b_Pl_judge 40 (.aload_n 0) 1 41 := ⟨by decide +kernel, rfl⟩
theorem x_Pl_judge_41 : DC b_Pl_judge 41 (.getfield 55) 3 44 := ⟨by decide +kernel, rfl⟩
theorem x_Pl_judge_44 : DC b_Pl_judge 44 (.getfield 81) 3 47 := ⟨by decide +kernel, rfl⟩
theorem x_Pl_judge_47 : DC b_Pl_judge 47 (.iload_n 2) 1 48 := ⟨by decide +kernel, rfl⟩
theorem x_Pl_judge_48 : DC b_Pl_judge 48 (.iaload) 1 49 := ⟨by decide +kernel, rfl⟩
theorem x_Pl_judge_49 : DC b_Pl_judge 49 (.istore 4) 2 51 := ⟨by decide +kernel, rfl⟩
theorem x_Pl_judge_51 : DC b_Pl_judge 51 (.aload_n 0) 1 52 := ⟨by decide +kernel, rfl⟩
theorem x_Pl_judge_52 : DC b_Pl_judge 52 (.getfield 55) 3 55 := ⟨by decide +kernel, rfl⟩
theorem x_Pl_judge_55 : DC b_Pl_judge 55 (.getfield 84) 3 58 := ⟨by decide +kernel, rfl⟩
theorem x_Pl_judge_58 : DC b_Pl_judge 58 (.iload_n 2) 1 59 := ⟨by decide +kernel, rfl⟩
theorem x_Pl_judge_59 : DC b_Pl_judge 59 (.iaload) 1 60 := ⟨by decide +kernel, rfl⟩
theorem x_Pl_judge_60 : DC b_Pl_judge 60 (.iload_n 1) 1 61 := ⟨by decide +kernel, rfl⟩
theorem x_Pl_judge_61 : DC b_Pl_judge 61 (.if_icmp .gt 37) 3 64 := ⟨by decide +kernel, rfl⟩
theorem x_Pl_judge_64 : DC b_Pl_judge 64 (.iload 4) 2 66 := ⟨by decide +kernel, rfl⟩
theorem x_Pl_judge_66 : DC b_Pl_judge 66 (.aload_n 0) 1 67 := ⟨by decide +kernel, rfl⟩
theorem x_Pl_judge_67 : DC b_Pl_judge 67 (.getfield 20) 3 70 := ⟨by decide +kernel, rfl⟩
theorem x_Pl_judge_70 : DC b_Pl_judge 70 (.iload_n 3) 1 71 := ⟨by decide +kernel, rfl⟩
theorem x_Pl_judge_71 : DC b_Pl_judge 71 (.iaload) 1 72 := ⟨by decide +kernel, rfl⟩
theorem x_Pl_judge_72 : DC b_Pl_judge 72 (.if_icmp .lt 26) 3 75 := ⟨by decide +kernel, rfl⟩
theorem x_Pl_judge_75 : DC b_Pl_judge 75 (.aload_n 0) 1 76 := ⟨by decide +kernel, rfl⟩
theorem x_Pl_judge_76 : DC b_Pl_judge 76 (.getfield 20) 3 79 := ⟨by decide +kernel, rfl⟩
theorem x_Pl_judge_79 : DC b_Pl_judge 79 (.iload_n 3) 1 80 := ⟨by decide +kernel, rfl⟩
theorem x_Pl_judge_80 : DC b_Pl_judge 80 (.iload 4) 2 82 := ⟨by decide +kernel, rfl⟩
theorem x_Pl_judge_82 : DC b_Pl_judge 82 (.iastore) 1 83 := ⟨by decide +kernel, rfl⟩
theorem x_Pl_judge_83 : DC b_Pl_judge 83 (.aload_n 0) 1 84 := ⟨by decide +kernel, rfl⟩
theorem x_Pl_judge_84 : DC b_Pl_judge 84 (.getfield 17) 3 87 := ⟨by decide +kernel, rfl⟩
theorem x_Pl_judge_87 : DC b_Pl_judge 87 (.iload_n 3) 1 88 := ⟨by decide +kernel, rfl⟩
theorem x_Pl_judge_88 : DC b_Pl_judge 88 (.aload_n 0) 1 89 := ⟨by decide +kernel, rfl⟩
theorem x_Pl_judge_89 : DC b_Pl_judge 89 (.getfield 55) 3 92 := ⟨by decide +kernel, rfl⟩
theorem x_Pl_judge_92 : DC b_Pl_judge 92 (.getfield 87) 3 95 := ⟨by decide +kernel, rfl⟩
theorem x_Pl_judge_95 : DC b_Pl_judge 95 (.iload_n 2) 1 96 := ⟨by decide +kernel, rfl⟩
theorem x_Pl_judge_96 : DC b_Pl_judge 96 (.iaload) 1 97 := ⟨by decide +kernel, rfl⟩
theorem x_Pl_judge_97 : DC b_Pl_judge 97 (.iastore) 1 98 := ⟨by decide +kernel, rfl⟩
theorem x_Pl_judge_98 : DC b_Pl_judge 98 (.iinc 2 1) 3 101 := ⟨by decide +kernel, rfl⟩
theorem x_Pl_judge_101 : DC b_Pl_judge 101 (.goto (-82)) 3 104 := ⟨by decide +kernel, rfl⟩
theorem x_Pl_judge_104 : DC b_Pl_judge 104 (.return_) 1 105 := ⟨by decide +kernel, rfl⟩
def k_Pl_judge_98 (R19 : Int → Int → Mem → Res) (a1 a2 : Int) (M : Mem) : Res := blet (a2 + 1) fun v1 => R19 a1 v1 M
theorem z_Pl_judge_98 (C : Cx p s m args meth c G b_Pl_judge 5 "PrairiePool$Play" none) (hlev : 1 ≤ lev) {r : Int × Mem} {R19 : Int → Int → Mem → Res} (hR19 : ∀ (a1 a2 : Int) (M : Mem), R19 a1 a2 M = some r → Z p l e lev s m args below meth c G 5 (MQ below (Qm G 0 r) args s 0 0 (Ab G)) M 19 [(0, .ref (G.1 + 75)), (1, vi a1), (2, vi a2)] []) {a1 a2 : Int} {M : Mem} (h : k_Pl_judge_98 R19 a1 a2 M = some r) : Z p l e lev s m args below meth c G 5 (MQ below (Qm G 0 r) args s 0 0 (Ab G)) M 98 [(0, .ref (G.1 + 75)), (1, vi a1), (2, vi a2)] [] := by
  unfold k_Pl_judge_98 at h
  obtain ⟨v1, ev1, h⟩ := blet_e h
  refine z_iinc (lv' := [(2, vi v1), (0, .ref (G.1 + 75)), (1, vi a1)]) C 2 ev1 x_Pl_judge_98 rfl (i_lt rfl) rfl ?_
  refine z_goto (tgt := 19) C x_Pl_judge_101 rfl ?_
  exact z_sub [1, 2, 0] rfl (hR19 a1 v1 M h)
def k_Pl_judge_19 (R19 : Int → Int → Mem → Res) (a1 a2 : Int) (M : Mem) : Res := blet (M 15 13) fun v1 => if w32 a2 < w32 v1 then (chk (0 ≤ w32 a2 ∧ w32 a2 < 100) <| blet (M 27 (ix a2)) fun v4 => chk (0 ≤ w32 a2 ∧ w32 a2 < 100) <| blet (M 30 (ix a2)) fun v6 => chk (0 ≤ w32 a2 ∧ w32 a2 < 100) <| blet (M 31 (ix a2)) fun v8 => if w32 a1 < w32 v8 then (k_Pl_judge_98 R19 a1 a2 M) else (chk (0 ≤ w32 v4 ∧ w32 v4 < 120) <| blet (M 78 (ix v4)) fun v11 => if w32 v6 < w32 v11 then (k_Pl_judge_98 R19 a1 a2 M) else (chk (0 ≤ w32 v4 ∧ w32 v4 < 120) <| blet (sto M 78 (ix v4) v6) fun M14 => chk (0 ≤ w32 a2 ∧ w32 a2 < 100) <| blet (M14 29 (ix a2)) fun v16 => chk (0 ≤ w32 v4 ∧ w32 v4 < 120) <| blet (sto M14 77 (ix v4) v16) fun M18 => k_Pl_judge_98 R19 a1 a2 M18))) else (some (0, M))
theorem z_Pl_judge_19 (C : Cx p s m args meth c G b_Pl_judge 5 "PrairiePool$Play" none) (hlev : 1 ≤ lev) {r : Int × Mem} {R19 : Int → Int → Mem → Res} (hR19 : ∀ (a1 a2 : Int) (M : Mem), R19 a1 a2 M = some r → Z p l e lev s m args below meth c G 5 (MQ below (Qm G 0 r) args s 0 0 (Ab G)) M 19 [(0, .ref (G.1 + 75)), (1, vi a1), (2, vi a2)] []) {a1 a2 : Int} {M : Mem} (h : k_Pl_judge_19 R19 a1 a2 M = some r) : Z p l e lev s m args below meth c G 5 (MQ below (Qm G 0 r) args s 0 0 (Ab G)) M 19 [(0, .ref (G.1 + 75)), (1, vi a1), (2, vi a2)] [] := by
  unfold k_Pl_judge_19 at h
  refine z_iload_n C 2 x_Pl_judge_19 rfl ?_
  refine z_aload_n C 0 x_Pl_judge_20 rfl ?_
  refine z_getR (j := 1) C x_Pl_judge_21 nk_75 ck_75 cw_6 (i_lt rfl) rfl rf_75_1 rfl fl_Pl_55 ?_
  obtain ⟨v1, ev1, h⟩ := blet_e h
  refine z_getI (j := 13) C x_Pl_judge_24 nk_15 ck_15 cw_2 (i_lt rfl) rfl rfl fl_Pl_74 ev1 ?_
  rcases ite_e h with ⟨c2, h⟩ | ⟨c2, h⟩
  · refine z_icmp_ge_f (tgt := 104) C x_Pl_judge_27 rfl c2 ?_
    refine z_aload_n C 0 x_Pl_judge_30 rfl ?_
    refine z_getR (j := 1) C x_Pl_judge_31 nk_75 ck_75 cw_6 (i_lt rfl) rfl rf_75_1 rfl fl_Pl_55 ?_
    refine z_getR (j := 14) C x_Pl_judge_34 nk_15 ck_15 cw_2 (i_lt rfl) rfl rf_15_14 rfl fl_Pl_78 ?_
    refine z_iload_n C 2 x_Pl_judge_37 rfl ?_
    obtain ⟨c3, h⟩ := chk_e h
    obtain ⟨v4, ev4, h⟩ := blet_e h
    refine z_iald C x_Pl_judge_38 nk_27 ck_27 c3 ev4 ?_
    refine z_istore_n (lv' := [(3, vi v4), (0, .ref (G.1 + 75)), (1, vi a1), (2, vi a2)]) C rfl x_Pl_judge_39 (i_lt rfl) rfl ?_
    refine z_aload_n C 1 x_Pl_judge_40 rfl ?_
    refine z_getR (j := 1) C x_Pl_judge_41 nk_75 ck_75 cw_6 (i_lt rfl) rfl rf_75_1 rfl fl_Pl_55 ?_
    refine z_getR (j := 17) C x_Pl_judge_44 nk_15 ck_15 cw_2 (i_lt rfl) rfl rf_15_17 rfl fl_Pl_81 ?_
    refine z_iload_n C 3 x_Pl_judge_47 rfl ?_
    obtain ⟨c5, h⟩ := chk_e h
    obtain ⟨v6, ev6, h⟩ := blet_e h
    refine z_iald C x_Pl_judge_48 nk_30 ck_30 c5 ev6 ?_
    refine z_istore (lv' := [(4, vi v6), (3, vi v4), (0, .ref (G.1 + 75)), (1, vi a1), (2, vi a2)]) C rfl x_Pl_judge_49 (i_lt rfl) rfl ?_
    refine z_aload_n C 2 x_Pl_judge_51 rfl ?_
    refine z_getR (j := 1) C x_Pl_judge_52 nk_75 ck_75 cw_6 (i_lt rfl) rfl rf_75_1 rfl fl_Pl_55 ?_
    refine z_getR (j := 18) C x_Pl_judge_55 nk_15 ck_15 cw_2 (i_lt rfl) rfl rf_15_18 rfl fl_Pl_84 ?_
    refine z_iload_n C 4 x_Pl_judge_58 rfl ?_
    obtain ⟨c7, h⟩ := chk_e h
    obtain ⟨v8, ev8, h⟩ := blet_e h
    refine z_iald C x_Pl_judge_59 nk_31 ck_31 c7 ev8 ?_
    refine z_iload_n C 3 x_Pl_judge_60 rfl ?_
    rcases ite_e h with ⟨c9, h⟩ | ⟨c9, h⟩
    · refine z_icmp_gt_t (tgt := 98) C x_Pl_judge_61 rfl c9 ?_
      exact z_sub [2, 3, 4] rfl (z_Pl_judge_98 C hlev hR19 h)
    · refine z_icmp_gt_f (tgt := 98) C x_Pl_judge_61 rfl c9 ?_
      refine z_iload C 0 x_Pl_judge_64 rfl ?_
      refine z_aload_n C 2 x_Pl_judge_66 rfl ?_
      refine z_getR (j := 6) C x_Pl_judge_67 nk_75 ck_75 cw_6 (i_lt rfl) rfl rf_75_6 rfl fl_Pl_20 ?_
      refine z_iload_n C 1 x_Pl_judge_70 rfl ?_
      obtain ⟨c10, h⟩ := chk_e h
      obtain ⟨v11, ev11, h⟩ := blet_e h
      refine z_iald C x_Pl_judge_71 nk_78 ck_78 c10 ev11 ?_
      rcases ite_e h with ⟨c12, h⟩ | ⟨c12, h⟩
      · refine z_icmp_lt_t (tgt := 98) C x_Pl_judge_72 rfl c12 ?_
        exact z_sub [2, 3, 4] rfl (z_Pl_judge_98 C hlev hR19 h)
      · refine z_icmp_lt_f (tgt := 98) C x_Pl_judge_72 rfl c12 ?_
        refine z_aload_n C 2 x_Pl_judge_75 rfl ?_
        refine z_getR (j := 6) C x_Pl_judge_76 nk_75 ck_75 cw_6 (i_lt rfl) rfl rf_75_6 rfl fl_Pl_20 ?_
        refine z_iload_n C 1 x_Pl_judge_79 rfl ?_
        refine z_iload C 0 x_Pl_judge_80 rfl ?_
        obtain ⟨c13, h⟩ := chk_e h
        obtain ⟨M14, eM14, h⟩ := blet_e h
        refine z_iast C x_Pl_judge_82 nk_78 ck_78 c13 eM14 ?_
        refine z_aload_n C 2 x_Pl_judge_83 rfl ?_
        refine z_getR (j := 5) C x_Pl_judge_84 nk_75 ck_75 cw_6 (i_lt rfl) rfl rf_75_5 rfl fl_Pl_17 ?_
        refine z_iload_n C 1 x_Pl_judge_87 rfl ?_
        refine z_aload_n C 2 x_Pl_judge_88 rfl ?_
        refine z_getR (j := 1) C x_Pl_judge_89 nk_75 ck_75 cw_6 (i_lt rfl) rfl rf_75_1 rfl fl_Pl_55 ?_
        refine z_getR (j := 16) C x_Pl_judge_92 nk_15 ck_15 cw_2 (i_lt rfl) rfl rf_15_16 rfl fl_Pl_87 ?_
        refine z_iload_n C 4 x_Pl_judge_95 rfl ?_
        obtain ⟨c15, h⟩ := chk_e h
        obtain ⟨v16, ev16, h⟩ := blet_e h
        refine z_iald C x_Pl_judge_96 nk_29 ck_29 c15 ev16 ?_
        obtain ⟨c17, h⟩ := chk_e h
        obtain ⟨M18, eM18, h⟩ := blet_e h
        refine z_iast C x_Pl_judge_97 nk_77 ck_77 c17 eM18 ?_
        exact z_sub [2, 3, 4] rfl (z_Pl_judge_98 C hlev hR19 h)
  · refine z_icmp_ge_t (tgt := 104) C x_Pl_judge_27 rfl c2 ?_
    exact z_vret C x_Pl_judge_104 h
theorem zl_Pl_judge_19 (C : Cx p s m args meth c G b_Pl_judge 5 "PrairiePool$Play" none) (hlev : 1 ≤ lev) {r : Int × Mem}  : ∀ (n : Nat) (a1 a2 : Int) (M : Mem), fix (fun _ _ _ => none) (k_Pl_judge_19) n a1 a2 M = some r → Z p l e lev s m args below meth c G 5 (MQ below (Qm G 0 r) args s 0 0 (Ab G)) M 19 [(0, .ref (G.1 + 75)), (1, vi a1), (2, vi a2)] [] := by
  intro n
  induction n with
  | zero => intro a1 a2 M h; exact nomatch (show (none : Res) = some r from h)
  | succ n ih => intro a1 a2 M h; exact z_Pl_judge_19 C hlev ih h
def d_Pl_judge (a1 : Int) (M : Mem) : Res := bcall (d_Ar_fill1 77 120 5 M) fun v1 M2 => bcall (d_Ar_fill1 78 120 (-1000001) M2) fun v3 M4 => fix (fun _ _ _ => none) (k_Pl_judge_19) FU a1 0 M4
theorem t_Pl_judge (l : Launch) (G : GX) {lev : Nat} (hlev : 1 ≤ lev) {a1 : Int} {M : Mem} {r : Int × Mem} (h : d_Pl_judge a1 M = some r) : Mt l G y_Pl_judge b_Pl_judge 5 none lev 0 [.ref (G.1 + 75), vi a1] M r := by
  refine Mt.of (by decide) (i_le rfl) ?_
  intro p e s m args below meth c C
  have C : Cx p s m args meth c G b_Pl_judge 5 "PrairiePool$Play" none := C
  unfold d_Pl_judge at h
  refine z_sub (lv' := [(0, .ref (G.1 + 75)), (1, vi a1)]) [0, 1] rfl ?_
  refine z_aload_n C 0 x_Pl_judge_0 rfl ?_
  refine z_getR (j := 5) C x_Pl_judge_1 nk_75 ck_75 cw_6 (i_lt rfl) rfl rf_75_5 rfl fl_Pl_17 ?_
  refine z_iconst C x_Pl_judge_4 ?_
  obtain ⟨v1, M2, fv1, h⟩ := bcall_e h
  refine z_callSv C x_Pl_judge_5 cs_Pl_67 (t_Ar_fill1 (lev := lev - 1) l G (by omega) nk_77 ck_77 fv1) (by omega) rfl (i_le rfl) rfl ?_
  refine z_aload_n C 0 x_Pl_judge_8 rfl ?_
  refine z_getR (j := 6) C x_Pl_judge_9 nk_75 ck_75 cw_6 (i_lt rfl) rfl rf_75_6 rfl fl_Pl_20 ?_
  refine z_ldc C kc_Pl_73 x_Pl_judge_12 ?_
  obtain ⟨v3, M4, fv3, h⟩ := bcall_e h
  refine z_callSv C x_Pl_judge_14 cs_Pl_67 (t_Ar_fill1 (lev := lev - 1) l G (by omega) nk_78 ck_78 fv3) (by omega) rfl (i_le rfl) rfl ?_
  refine z_iconst C x_Pl_judge_17 ?_
  refine z_istore_n (lv' := [(2, vi 0), (0, .ref (G.1 + 75)), (1, vi a1)]) C rfl x_Pl_judge_18 (i_lt rfl) rfl ?_
  exact z_sub [1, 2, 0] rfl (zl_Pl_judge_19 C hlev FU a1 0 M4 h)
theorem x_Pl_slotOfBin_0 : DC b_Pl_slotOfBin 0 (.iload_n 0) 1 1 := ⟨by decide +kernel, rfl⟩
theorem x_Pl_slotOfBin_1 : DC b_Pl_slotOfBin 1 (.bipush 60) 2 3 := ⟨by decide +kernel, rfl⟩
theorem x_Pl_slotOfBin_3 : DC b_Pl_slotOfBin 3 (.imul) 1 4 := ⟨by decide +kernel, rfl⟩
theorem x_Pl_slotOfBin_4 : DC b_Pl_slotOfBin 4 (.iload_n 1) 1 5 := ⟨by decide +kernel, rfl⟩
theorem x_Pl_slotOfBin_5 : DC b_Pl_slotOfBin 5 (.bipush 10) 2 7 := ⟨by decide +kernel, rfl⟩
theorem x_Pl_slotOfBin_7 : DC b_Pl_slotOfBin 7 (.imul) 1 8 := ⟨by decide +kernel, rfl⟩
theorem x_Pl_slotOfBin_8 : DC b_Pl_slotOfBin 8 (.iadd) 1 9 := ⟨by decide +kernel, rfl⟩
theorem x_Pl_slotOfBin_9 : DC b_Pl_slotOfBin 9 (.iload_n 2) 1 10 := ⟨by decide +kernel, rfl⟩
theorem x_Pl_slotOfBin_10 : DC b_Pl_slotOfBin 10 (.iadd) 1 11 := ⟨by decide +kernel, rfl⟩
theorem x_Pl_slotOfBin_11 : DC b_Pl_slotOfBin 11 (.ireturn) 1 12 := ⟨by decide +kernel, rfl⟩
def d_Pl_slotOfBin (a0 a1 a2 : Int) (M : Mem) : Res := some (((a0 * 60) + (a1 * 10)) + a2, M)
theorem t_Pl_slotOfBin (l : Launch) (G : GX) {lev : Nat} (hlev : 0 ≤ lev) {a0 a1 a2 : Int} {M : Mem} {r : Int × Mem} (h : d_Pl_slotOfBin a0 a1 a2 M = some r) : Mt l G y_Pl_slotOfBin b_Pl_slotOfBin 3 (some .int) lev 1 [vi a0, vi a1, vi a2] M r := by
  refine Mt.of (by decide) (i_le rfl) ?_
  intro p e s m args below meth c C
  have C : Cx p s m args meth c G b_Pl_slotOfBin 3 "PrairiePool$Play" (some .int) := C
  unfold d_Pl_slotOfBin at h
  refine z_sub (lv' := [(0, vi a0), (1, vi a1), (2, vi a2)]) [0, 1, 2] rfl ?_
  refine z_iload_n C 0 x_Pl_slotOfBin_0 rfl ?_
  refine z_bipush C rfl x_Pl_slotOfBin_1 ?_
  refine z_imul C x_Pl_slotOfBin_3 ?_
  refine z_iload_n C 1 x_Pl_slotOfBin_4 rfl ?_
  refine z_bipush C rfl x_Pl_slotOfBin_5 ?_
  refine z_imul C x_Pl_slotOfBin_7 ?_
  refine z_iadd C x_Pl_slotOfBin_8 ?_
  refine z_iload_n C 2 x_Pl_slotOfBin_9 rfl ?_
  refine z_iadd C x_Pl_slotOfBin_10 ?_
  exact z_iret C x_Pl_slotOfBin_11 h
theorem x_Pl_openRow_0 : DC b_Pl_openRow 0 (.aload_n 0) 1 1 := ⟨by decide +kernel, rfl⟩
theorem x_Pl_openRow_1 : DC b_Pl_openRow 1 (.getfield 29) 3 4 := ⟨by decide +kernel, rfl⟩
theorem x_Pl_openRow_4 : DC b_Pl_openRow 4 (.iload_n 1) 1 5 := ⟨by decide +kernel, rfl⟩
theorem x_Pl_openRow_5 : DC b_Pl_openRow 5 (.iaload) 1 6 := ⟨by decide +kernel, rfl⟩
theorem x_Pl_openRow_6 : DC b_Pl_openRow 6 (.iconst (-1)) 1 7 := ⟨by decide +kernel, rfl⟩
theorem x_Pl_openRow_7 : DC b_Pl_openRow 7 (.if_icmp .ne 52) 3 10 := ⟨by decide +kernel, rfl⟩
theorem x_Pl_openRow_10 : DC b_Pl_openRow 10 (.aload_n 0) 1 11 := ⟨by decide +kernel, rfl⟩
theorem x_Pl_openRow_11 : DC b_Pl_openRow 11 (.getfield 29) 3 14 := ⟨by decide +kernel, rfl⟩
theorem x_Pl_openRow_14 : DC b_Pl_openRow 14 (.iload_n 1) 1 15 := ⟨by decide +kernel, rfl⟩
theorem x_Pl_openRow_15 : DC b_Pl_openRow 15 (.aload_n 0) 1 16 := ⟨by decide +kernel, rfl⟩
theorem x_Pl_openRow_16 : DC b_Pl_openRow 16 (.getfield 90) 3 19 := ⟨by decide +kernel, rfl⟩
theorem x_Pl_openRow_19 : DC b_Pl_openRow 19 (.iastore) 1 20 := ⟨by decide +kernel, rfl⟩
theorem x_Pl_openRow_20 : DC b_Pl_openRow 20 (.iconst 0) 1 21 := ⟨by decide +kernel, rfl⟩
theorem x_Pl_openRow_21 : DC b_Pl_openRow 21 (.istore_n 2) 1 22 := ⟨by decide +kernel, rfl⟩
theorem x_Pl_openRow_22 : DC b_Pl_openRow 22 (.iload_n 2) 1 23 := ⟨by decide +kernel, rfl⟩
theorem x_Pl_openRow_23 : DC b_Pl_openRow 23 (.bipush 20) 2 25 := ⟨by decide +kernel, rfl⟩
theorem x_Pl_openRow_25 : DC b_Pl_openRow 25 (.if_icmp .ge 24) 3 28 := ⟨by decide +kernel, rfl⟩
theorem x_Pl_openRow_28 : DC b_Pl_openRow 28 (.aload_n 0) 1 29 := ⟨by decide +kernel, rfl⟩
theorem x_Pl_openRow_29 : DC b_Pl_openRow 29 (.getfield 32) 3 32 := ⟨by decide +kernel, rfl⟩
theorem x_Pl_openRow_32 : DC b_Pl_openRow 32 (.aload_n 0) 1 33 := ⟨by decide +kernel, rfl⟩
theorem x_Pl_openRow_33 : DC b_Pl_openRow 33 (.getfield 90) 3 36 := ⟨by decide +kernel, rfl⟩
theorem x_Pl_openRow_36 : DC b_Pl_openRow 36 (.bipush 20) 2 38 := ⟨by decide +kernel, rfl⟩
theorem x_Pl_openRow_38 : DC b_Pl_openRow 38 (.imul) 1 39 := ⟨by decide +kernel, rfl⟩
theorem x_Pl_openRow_39 : DC b_Pl_openRow 39 (.iload_n 2) 1 40 := ⟨by decide +kernel, rfl⟩
theorem x_Pl_openRow_40 : DC b_Pl_openRow 40 (.iadd) 1 41 := ⟨by decide +kernel, rfl⟩
theorem x_Pl_openRow_41 : DC b_Pl_openRow 41 (.lconst 0) 1 42 := ⟨by decide +kernel, rfl⟩
theorem x_Pl_openRow_42 : DC b_Pl_openRow 42 (.lastore) 1 43 := ⟨by decide +kernel, rfl⟩
theorem x_Pl_openRow_43 : DC b_Pl_openRow 43 (.iinc 2 1) 3 46 := ⟨by decide +kernel, rfl⟩
theorem x_Pl_openRow_46 : DC b_Pl_openRow 46 (.goto (-24)) 3 49 := ⟨by decide +kernel, rfl⟩
theorem x_Pl_openRow_49 : DC b_Pl_openRow 49 (.aload_n 0) 1 50 := ⟨by decide +kernel, rfl⟩
theorem x_Pl_openRow_50 : DC b_Pl_openRow 50 (.dup) 1 51 := ⟨by decide +kernel, rfl⟩
theorem x_Pl_openRow_51 : DC b_Pl_openRow 51 (.getfield 90) 3 54 := ⟨by decide +kernel, rfl⟩
theorem x_Pl_openRow_54 : DC b_Pl_openRow 54 (.iconst 1) 1 55 := ⟨by decide +kernel, rfl⟩
theorem x_Pl_openRow_55 : DC b_Pl_openRow 55 (.iadd) 1 56 := ⟨by decide +kernel, rfl⟩
theorem x_Pl_openRow_56 : DC b_Pl_openRow 56 (.putfield 90) 3 59 := ⟨by decide +kernel, rfl⟩
theorem x_Pl_openRow_59 : DC b_Pl_openRow 59 (.aload_n 0) 1 60 := ⟨by decide +kernel, rfl⟩
theorem x_Pl_openRow_60 : DC b_Pl_openRow 60 (.getfield 29) 3 63 := ⟨by decide +kernel, rfl⟩
theorem x_Pl_openRow_63 : DC b_Pl_openRow 63 (.iload_n 1) 1 64 := ⟨by decide +kernel, rfl⟩
theorem x_Pl_openRow_64 : DC b_Pl_openRow 64 (.iaload) 1 65 := ⟨by decide +kernel, rfl⟩
theorem x_Pl_openRow_65 : DC b_Pl_openRow 65 (.ireturn) 1 66 := ⟨by decide +kernel, rfl⟩
def k_Pl_openRow_59 (a1 : Int) (M : Mem) : Res := chk (0 ≤ w32 a1 ∧ w32 a1 < 600) <| blet (M 81 (ix a1)) fun v2 => some (v2, M)
theorem z_Pl_openRow_59 (C : Cx p s m args meth c G b_Pl_openRow 3 "PrairiePool$Play" (some .int)) (hlev : 0 ≤ lev) {r : Int × Mem}  {a1 : Int} {M : Mem} (h : k_Pl_openRow_59 a1 M = some r) : Z p l e lev s m args below meth c G 3 (MQ below (Qm G 1 r) args s 0 0 (Ab G)) M 59 [(0, .ref (G.1 + 75)), (1, vi a1)] [] := by
  unfold k_Pl_openRow_59 at h
  refine z_aload_n C 0 x_Pl_openRow_59 rfl ?_
  refine z_getR (j := 9) C x_Pl_openRow_60 nk_75 ck_75 cw_6 (i_lt rfl) rfl rf_75_9 rfl fl_Pl_29 ?_
  refine z_iload_n C 1 x_Pl_openRow_63 rfl ?_
  obtain ⟨c1, h⟩ := chk_e h
  obtain ⟨v2, ev2, h⟩ := blet_e h
  refine z_iald C x_Pl_openRow_64 nk_81 ck_81 c1 ev2 ?_
  exact z_iret C x_Pl_openRow_65 h
def k_Pl_openRow_22 (R22 : Int → Int → Mem → Res) (a1 a2 : Int) (M : Mem) : Res := if w32 a2 < 20 then (blet (M 75 10) fun v2 => chk (0 ≤ w32 ((v2 * 20) + a2) ∧ w32 ((v2 * 20) + a2) < 2400) <| blet (sto M 82 (ix ((v2 * 20) + a2)) 0) fun M4 => blet (a2 + 1) fun v5 => R22 a1 v5 M4) else (blet (M 75 10) fun v6 => blet (sto M 75 10 (v6 + 1)) fun M7 => k_Pl_openRow_59 a1 M7)
theorem z_Pl_openRow_22 (C : Cx p s m args meth c G b_Pl_openRow 3 "PrairiePool$Play" (some .int)) (hlev : 0 ≤ lev) {r : Int × Mem} {R22 : Int → Int → Mem → Res} (hR22 : ∀ (a1 a2 : Int) (M : Mem), R22 a1 a2 M = some r → Z p l e lev s m args below meth c G 3 (MQ below (Qm G 1 r) args s 0 0 (Ab G)) M 22 [(0, .ref (G.1 + 75)), (1, vi a1), (2, vi a2)] []) {a1 a2 : Int} {M : Mem} (h : k_Pl_openRow_22 R22 a1 a2 M = some r) : Z p l e lev s m args below meth c G 3 (MQ below (Qm G 1 r) args s 0 0 (Ab G)) M 22 [(0, .ref (G.1 + 75)), (1, vi a1), (2, vi a2)] [] := by
  unfold k_Pl_openRow_22 at h
  refine z_iload_n C 2 x_Pl_openRow_22 rfl ?_
  refine z_bipush C rfl x_Pl_openRow_23 ?_
  rcases ite_e h with ⟨c1, h⟩ | ⟨c1, h⟩
  · refine z_icmp_ge_f (tgt := 49) C x_Pl_openRow_25 rfl c1 ?_
    refine z_aload_n C 0 x_Pl_openRow_28 rfl ?_
    refine z_getR (j := 11) C x_Pl_openRow_29 nk_75 ck_75 cw_6 (i_lt rfl) rfl rf_75_11 rfl fl_Pl_32 ?_
    refine z_aload_n C 0 x_Pl_openRow_32 rfl ?_
    obtain ⟨v2, ev2, h⟩ := blet_e h
    refine z_getI (j := 10) C x_Pl_openRow_33 nk_75 ck_75 cw_6 (i_lt rfl) rfl rfl fl_Pl_90 ev2 ?_
    refine z_bipush C rfl x_Pl_openRow_36 ?_
    refine z_imul C x_Pl_openRow_38 ?_
    refine z_iload_n C 2 x_Pl_openRow_39 rfl ?_
    refine z_iadd C x_Pl_openRow_40 ?_
    refine z_lconst0 C x_Pl_openRow_41 ?_
    obtain ⟨c3, h⟩ := chk_e h
    obtain ⟨M4, eM4, h⟩ := blet_e h
    refine z_last C x_Pl_openRow_42 nk_82 ck_82 c3 eM4 ?_
    obtain ⟨v5, ev5, h⟩ := blet_e h
    refine z_iinc (lv' := [(2, vi v5), (0, .ref (G.1 + 75)), (1, vi a1)]) C 2 ev5 x_Pl_openRow_43 rfl (i_lt rfl) rfl ?_
    refine z_goto (tgt := 22) C x_Pl_openRow_46 rfl ?_
    exact z_sub [1, 2, 0] rfl (hR22 a1 v5 M4 h)
  · refine z_icmp_ge_t (tgt := 49) C x_Pl_openRow_25 rfl c1 ?_
    refine z_aload_n C 0 x_Pl_openRow_49 rfl ?_
    refine z_dup C x_Pl_openRow_50 rfl ?_
    obtain ⟨v6, ev6, h⟩ := blet_e h
    refine z_getI (j := 10) C x_Pl_openRow_51 nk_75 ck_75 cw_6 (i_lt rfl) rfl rfl fl_Pl_90 ev6 ?_
    refine z_iconst C x_Pl_openRow_54 ?_
    refine z_iadd C x_Pl_openRow_55 ?_
    obtain ⟨M7, eM7, h⟩ := blet_e h
    refine z_putI (j := 10) C x_Pl_openRow_56 nk_75 ck_75 cw_6 (i_lt rfl) rfl rfl rfl rfl fl_Pl_90 eM7 ?_
    exact z_sub [0, 1] rfl (z_Pl_openRow_59 C hlev h)
theorem zl_Pl_openRow_22 (C : Cx p s m args meth c G b_Pl_openRow 3 "PrairiePool$Play" (some .int)) (hlev : 0 ≤ lev) {r : Int × Mem}  : ∀ (n : Nat) (a1 a2 : Int) (M : Mem), fix (fun _ _ _ => none) (k_Pl_openRow_22) n a1 a2 M = some r → Z p l e lev s m args below meth c G 3 (MQ below (Qm G 1 r) args s 0 0 (Ab G)) M 22 [(0, .ref (G.1 + 75)), (1, vi a1), (2, vi a2)] [] := by
  intro n
  induction n with
  | zero => intro a1 a2 M h; exact nomatch (show (none : Res) = some r from h)
  | succ n ih => intro a1 a2 M h; exact z_Pl_openRow_22 C hlev ih h
def d_Pl_openRow (a1 : Int) (M : Mem) : Res := chk (0 ≤ w32 a1 ∧ w32 a1 < 600) <| blet (M 81 (ix a1)) fun v2 => if w32 v2 = (-1) then (blet (M 75 10) fun v4 => chk (0 ≤ w32 a1 ∧ w32 a1 < 600) <| blet (sto M 81 (ix a1) v4) fun M6 => fix (fun _ _ _ => none) (k_Pl_openRow_22) FU a1 0 M6) else (k_Pl_openRow_59 a1 M)
theorem t_Pl_openRow (l : Launch) (G : GX) {lev : Nat} (hlev : 0 ≤ lev) {a1 : Int} {M : Mem} {r : Int × Mem} (h : d_Pl_openRow a1 M = some r) : Mt l G y_Pl_openRow b_Pl_openRow 3 (some .int) lev 1 [.ref (G.1 + 75), vi a1] M r := by
  refine Mt.of (by decide) (i_le rfl) ?_
  intro p e s m args below meth c C
  have C : Cx p s m args meth c G b_Pl_openRow 3 "PrairiePool$Play" (some .int) := C
  unfold d_Pl_openRow at h
  refine z_sub (lv' := [(0, .ref (G.1 + 75)), (1, vi a1)]) [0, 1] rfl ?_
  refine z_aload_n C 0 x_Pl_openRow_0 rfl ?_
  refine z_getR (j := 9) C x_Pl_openRow_1 nk_75 ck_75 cw_6 (i_lt rfl) rfl rf_75_9 rfl fl_Pl_29 ?_
  refine z_iload_n C 1 x_Pl_openRow_4 rfl ?_
  obtain ⟨c1, h⟩ := chk_e h
  obtain ⟨v2, ev2, h⟩ := blet_e h
  refine z_iald C x_Pl_openRow_5 nk_81 ck_81 c1 ev2 ?_
  refine z_iconst C x_Pl_openRow_6 ?_
  rcases ite_e h with ⟨c3, h⟩ | ⟨c3, h⟩
  · refine z_icmp_ne_f (tgt := 59) C x_Pl_openRow_7 rfl c3 ?_
    refine z_aload_n C 0 x_Pl_openRow_10 rfl ?_
    refine z_getR (j := 9) C x_Pl_openRow_11 nk_75 ck_75 cw_6 (i_lt rfl) rfl rf_75_9 rfl fl_Pl_29 ?_
    refine z_iload_n C 1 x_Pl_openRow_14 rfl ?_
    refine z_aload_n C 0 x_Pl_openRow_15 rfl ?_
    obtain ⟨v4, ev4, h⟩ := blet_e h
    refine z_getI (j := 10) C x_Pl_openRow_16 nk_75 ck_75 cw_6 (i_lt rfl) rfl rfl fl_Pl_90 ev4 ?_
    obtain ⟨c5, h⟩ := chk_e h
    obtain ⟨M6, eM6, h⟩ := blet_e h
    refine z_iast C x_Pl_openRow_19 nk_81 ck_81 c5 eM6 ?_
    refine z_iconst C x_Pl_openRow_20 ?_
    refine z_istore_n (lv' := [(2, vi 0), (0, .ref (G.1 + 75)), (1, vi a1)]) C rfl x_Pl_openRow_21 (i_lt rfl) rfl ?_
    exact z_sub [1, 2, 0] rfl (zl_Pl_openRow_22 C hlev FU a1 0 M6 h)
  · refine z_icmp_ne_t (tgt := 59) C x_Pl_openRow_7 rfl c3 ?_
    exact z_sub [0, 1] rfl (z_Pl_openRow_59 C hlev h)
theorem x_Pl_bring_0 : DC b_Pl_bring 0 (.aload_n 0) 1 1 := ⟨by decide +kernel, rfl⟩
theorem x_Pl_bring_1 : DC b_Pl_bring 1 (.getfield 55) 3 4 := ⟨by decide +kernel, rfl⟩
theorem x_Pl_bring_4 : DC b_Pl_bring 4 (.getfield 144) 3 7 := ⟨by decide +kernel, rfl⟩
theorem x_Pl_bring_7 : DC b_Pl_bring 7 (.iload_n 1) 1 8 := ⟨by decide +kernel, rfl⟩
theorem x_Pl_bring_8 : DC b_Pl_bring 8 (.iaload) 1 9 := ⟨by decide +kernel, rfl⟩
theorem x_Pl_bring_9 : DC b_Pl_bring 9 (.istore_n 3) 1 10 := ⟨by decide +kernel, rfl⟩
theorem x_Pl_bring_10 : DC b_Pl_bring 10 (.aload_n 0) 1 11 := ⟨by decide +kernel, rfl⟩
theorem x_Pl_bring_11 : DC b_Pl_bring 11 (.getfield 55) 3 14 := ⟨by decide +kernel, rfl⟩
theorem x_Pl_bring_14 : DC b_Pl_bring 14 (.iload_n 1) 1 15 := ⟨by decide +kernel, rfl⟩
theorem x_Pl_bring_15 : DC b_Pl_bring 15 (.invokevirtual 147) 3 18 := ⟨by decide +kernel, rfl⟩
theorem x_Pl_bring_18 : DC b_Pl_bring 18 (.istore 4) 2 20 := ⟨by decide +kernel, rfl⟩
theorem x_Pl_bring_20 : DC b_Pl_bring 20 (.iload 4) 2 22 := ⟨by decide +kernel, rfl⟩
theorem x_Pl_bring_22 : DC b_Pl_bring 22 (.aload_n 0) 1 23 := ⟨by decide +kernel, rfl⟩
theorem x_Pl_bring_23 : DC b_Pl_bring 23 (.getfield 51) 3 26 := ⟨by decide +kernel, rfl⟩
theorem x_Pl_bring_26 : DC b_Pl_bring 26 (.getfield 150) 3 29 := ⟨by decide +kernel, rfl⟩
theorem x_Pl_bring_29 : DC b_Pl_bring 29 (.iload_n 2) 1 30 := ⟨by decide +kernel, rfl⟩
theorem x_Pl_bring_30 : DC b_Pl_bring 30 (.iaload) 1 31 := ⟨by decide +kernel, rfl⟩
theorem x_Pl_bring_31 : DC b_Pl_bring 31 (.aload_n 0) 1 32 := ⟨by decide +kernel, rfl⟩
theorem x_Pl_bring_32 : DC b_Pl_bring 32 (.getfield 36) 3 35 := ⟨by decide +kernel, rfl⟩
theorem x_Pl_bring_35 : DC b_Pl_bring 35 (.iload_n 2) 1 36 := ⟨by decide +kernel, rfl⟩
theorem x_Pl_bring_36 : DC b_Pl_bring 36 (.iaload) 1 37 := ⟨by decide +kernel, rfl⟩
theorem x_Pl_bring_37 : DC b_Pl_bring 37 (.isub) 1 38 := ⟨by decide +kernel, rfl⟩
theorem x_Pl_bring_38 : DC b_Pl_bring 38 (.invokestatic 155) 3 41 := ⟨by decide +kernel, rfl⟩
theorem x_Pl_bring_41 : DC b_Pl_bring 41 (.istore 5) 2 43 := ⟨by decide +kernel, rfl⟩
theorem x_Pl_bring_43 : DC b_Pl_bring 43 (.aload_n 0) 1 44 := ⟨by decide +kernel, rfl⟩
theorem x_Pl_bring_44 : DC b_Pl_bring 44 (.getfield 13) 3 47 := ⟨by decide +kernel, rfl⟩
theorem x_Pl_bring_47 : DC b_Pl_bring 47 (.iload_n 1) 1 48 := ⟨by decide +kernel, rfl⟩
theorem x_Pl_bring_48 : DC b_Pl_bring 48 (.iload 5) 2 50 := ⟨by decide +kernel, rfl⟩
theorem x_Pl_bring_50 : DC b_Pl_bring 50 (.iastore) 1 51 := ⟨by decide +kernel, rfl⟩
theorem x_Pl_bring_51 : DC b_Pl_bring 51 (.aload_n 0) 1 52 := ⟨by decide +kernel, rfl⟩
theorem x_Pl_bring_52 : DC b_Pl_bring 52 (.getfield 36) 3 55 := ⟨by decide +kernel, rfl⟩
theorem x_Pl_bring_55 : DC b_Pl_bring 55 (.iload_n 2) 1 56 := ⟨by decide +kernel, rfl⟩
theorem x_Pl_bring_56 : DC b_Pl_bring 56 (.dup2) 1 57 := ⟨by decide +kernel, rfl⟩
theorem x_Pl_bring_57 : DC b_Pl_bring 57 (.iaload) 1 58 := ⟨by decide +kernel, rfl⟩
theorem x_Pl_bring_58 : DC b_Pl_bring 58 (.iload 5) 2 60 := ⟨by decide +kernel, rfl⟩
theorem x_Pl_bring_60 : DC b_Pl_bring 60 (.iadd) 1 61 := ⟨by decide +kernel, rfl⟩
theorem x_Pl_bring_61 : DC b_Pl_bring 61 (.iastore) 1 62 := ⟨by decide +kernel, rfl⟩
theorem x_Pl_bring_62 : DC b_Pl_bring 62 (.aload_n 0) 1 63 := ⟨by decide +kernel, rfl⟩
theorem x_Pl_bring_63 : DC b_Pl_bring 63 (.getfield 39) 3 66 := ⟨by decide +kernel, rfl⟩
theorem x_Pl_bring_66 : DC b_Pl_bring 66 (.iconst 0) 1 67 := ⟨by decide +kernel, rfl⟩
theorem x_Pl_bring_67 : DC b_Pl_bring 67 (.iload_n 3) 1 68 := ⟨by decide +kernel, rfl⟩
theorem x_Pl_bring_68 : DC b_Pl_bring 68 (.iadd) 1 69 := ⟨by decide +kernel, rfl⟩
theorem x_Pl_bring_69 : DC b_Pl_bring 69 (.dup2) 1 70 := ⟨by decide +kernel, rfl⟩
theorem x_Pl_bring_70 : DC b_Pl_bring 70 (.iaload) 1 71 := ⟨by decide +kernel, rfl⟩
theorem x_Pl_bring_71 : DC b_Pl_bring 71 (.aload_n 0) 1 72 := ⟨by decide +kernel, rfl⟩
theorem x_Pl_bring_72 : DC b_Pl_bring 72 (.getfield 55) 3 75 := ⟨by decide +kernel, rfl⟩
theorem x_Pl_bring_75 : DC b_Pl_bring 75 (.getfield 161) 3 78 := ⟨by decide +kernel, rfl⟩
theorem x_Pl_bring_78 : DC b_Pl_bring 78 (.iload_n 1) 1 79 := ⟨by decide +kernel, rfl⟩
theorem x_Pl_bring_79 : DC b_Pl_bring 79 (.iaload) 1 80 := ⟨by decide +kernel, rfl⟩
theorem x_Pl_bring_80 : DC b_Pl_bring 80 (.iadd) 1 81 := ⟨by decide +kernel, rfl⟩
theorem x_Pl_bring_81 : DC b_Pl_bring 81 (.iastore) 1 82 := ⟨by decide +kernel, rfl⟩
theorem x_Pl_bring_82 : DC b_Pl_bring 82 (.aload_n 0) 1 83 := ⟨by decide +kernel, rfl⟩
theorem x_Pl_bring_83 : DC b_Pl_bring 83 (.getfield 39) 3 86 := ⟨by decide +kernel, rfl⟩
theorem x_Pl_bring_86 : DC b_Pl_bring 86 (.bipush 20) 2 88 := ⟨by decide +kernel, rfl⟩
theorem x_Pl_bring_88 : DC b_Pl_bring 88 (.iload_n 3) 1 89 := ⟨by decide +kernel, rfl⟩
theorem x_Pl_bring_89 : DC b_Pl_bring 89 (.iadd) 1 90 := ⟨by decide +kernel, rfl⟩
theorem x_Pl_bring_90 : DC b_Pl_bring 90 (.dup2) 1 91 := ⟨by decide +kernel, rfl⟩
theorem x_Pl_bring_91 : DC b_Pl_bring 91 (.iaload) 1 92 := ⟨by decide +kernel, rfl⟩
theorem x_Pl_bring_92 : DC b_Pl_bring 92 (.iload 4) 2 94 := ⟨by decide +kernel, rfl⟩
theorem x_Pl_bring_94 : DC b_Pl_bring 94 (.iload 5) 2 96 := ⟨by decide +kernel, rfl⟩
theorem x_Pl_bring_96 : DC b_Pl_bring 96 (.isub) 1 97 := ⟨by decide +kernel, rfl⟩
theorem x_Pl_bring_97 : DC b_Pl_bring 97 (.iadd) 1 98 := ⟨by decide +kernel, rfl⟩
theorem x_Pl_bring_98 : DC b_Pl_bring 98 (.iastore) 1 99 := ⟨by decide +kernel, rfl⟩
theorem x_Pl_bring_99 : DC b_Pl_bring 99 (.aload_n 0) 1 100 := ⟨by decide +kernel, rfl⟩
theorem x_Pl_bring_100 : DC b_Pl_bring 100 (.iload_n 2) 1 101 := ⟨by decide +kernel, rfl⟩
theorem x_Pl_bring_101 : DC b_Pl_bring 101 (.aload_n 0) 1 102 := ⟨by decide +kernel, rfl⟩
theorem x_Pl_bring_102 : DC b_Pl_bring 102 (.getfield 17) 3 105 := ⟨by decide +kernel, rfl⟩
theorem x_Pl_bring_105 : DC b_Pl_bring 105 (.iload_n 1) 1 106 := ⟨by decide +kernel, rfl⟩
theorem x_Pl_bring_106 : DC b_Pl_bring 106 (.iaload) 1 107 := ⟨by decide +kernel, rfl⟩
theorem x_Pl_bring_107 : DC b_Pl_bring 107 (.aload_n 0) 1 108 := ⟨by decide +kernel, rfl⟩
theorem x_Pl_bring_108 : DC b_Pl_bring 108 (.getfield 55) 3 111 := ⟨by decide +kernel, rfl⟩
theorem x_Pl_bring_111 : DC b_Pl_bring 111 (.getfield 113) 3 114 := ⟨by decide +kernel, rfl⟩
theorem x_Pl_bring_114 : DC b_Pl_bring 114 (.iload_n 1) 1 115 := ⟨by decide +kernel, rfl⟩
theorem x_Pl_bring_115 : DC b_Pl_bring 115 (.iaload) 1 116 := ⟨by decide +kernel, rfl⟩
theorem x_Pl_bring_116 : DC b_Pl_bring 116 (.invokestatic 63) 3 119 := ⟨by decide +kernel, rfl⟩
theorem x_Pl_bring_119 : DC b_Pl_bring 119 (.invokevirtual 135) 3 122 := ⟨by decide +kernel, rfl⟩
theorem x_Pl_bring_122 : DC b_Pl_bring 122 (.istore 6) 2 124 := ⟨by decide +kernel, rfl⟩
theorem x_Pl_bring_124 : DC b_Pl_bring 124 (.aload_n 0) 1 125 := ⟨by decide +kernel, rfl⟩
theorem x_Pl_bring_125 : DC b_Pl_bring 125 (.getfield 32) 3 128 := ⟨by decide +kernel, rfl⟩
theorem x_Pl_bring_128 : DC b_Pl_bring 128 (.iload 6) 2 130 := ⟨by decide +kernel, rfl⟩
theorem x_Pl_bring_130 : DC b_Pl_bring 130 (.bipush 20) 2 132 := ⟨by decide +kernel, rfl⟩
theorem x_Pl_bring_132 : DC b_Pl_bring 132 (.imul) 1 133 := ⟨by decide +kernel, rfl⟩
theorem x_Pl_bring_133 : DC b_Pl_bring 133 (.iload_n 3) 1 134 := ⟨by decide +kernel, rfl⟩
theorem x_Pl_bring_134 : DC b_Pl_bring 134 (.iadd) 1 135 := ⟨by decide +kernel, rfl⟩
theorem x_Pl_bring_135 : DC b_Pl_bring 135 (.dup2) 1 136 := ⟨by decide +kernel, rfl⟩
theorem x_Pl_bring_136 : DC b_Pl_bring 136 (.laload) 1 137 := ⟨by decide +kernel, rfl⟩
theorem x_Pl_bring_137 : DC b_Pl_bring 137 (.iload 5) 2 139 := ⟨by decide +kernel, rfl⟩
theorem x_Pl_bring_139 : DC b_Pl_bring 139 (.i2l) 1 140 := ⟨by decide +kernel, rfl⟩
theorem x_Pl_bring_140 : DC b_Pl_bring 140 (.ladd) 1 141 := ⟨by decide +kernel, rfl⟩
theorem x_Pl_bring_141 : DC b_Pl_bring 141 (.lastore) 1 142 := ⟨by decide +kernel, rfl⟩
theorem x_Pl_bring_142 : DC b_Pl_bring 142 (.return_) 1 143 := ⟨by decide +kernel, rfl⟩
def d_Pl_bring (a1 a2 : Int) (M : Mem) : Res := chk (0 ≤ w32 a1 ∧ w32 a1 < 120) <| blet (M 17 (ix a1)) fun v2 => bcall (d_Jo_netOf a1 M) fun v3 M4 => chk (0 ≤ w32 a2 ∧ w32 a2 < 8) <| blet (M4 14 (ix a2)) fun v6 => chk (0 ≤ w32 a2 ∧ w32 a2 < 8) <| blet (M4 83 (ix a2)) fun v8 => blet (mn32 v3 (v6 - v8)) fun v9 => chk (0 ≤ w32 a1 ∧ w32 a1 < 120) <| blet (sto M4 76 (ix a1) v9) fun M11 => chk (0 ≤ w32 a2 ∧ w32 a2 < 8) <| blet (M11 83 (ix a2)) fun v13 => chk (0 ≤ w32 a2 ∧ w32 a2 < 8) <| blet (sto M11 83 (ix a2) (v13 + v9)) fun M15 => chk (0 ≤ w32 (0 + v2) ∧ w32 (0 + v2) < 80) <| blet (M15 84 (ix (0 + v2))) fun v17 => chk (0 ≤ w32 a1 ∧ w32 a1 < 120) <| blet (M15 23 (ix a1)) fun v19 => chk (0 ≤ w32 (0 + v2) ∧ w32 (0 + v2) < 80) <| blet (sto M15 84 (ix (0 + v2)) (v17 + v19)) fun M21 => chk (0 ≤ w32 (20 + v2) ∧ w32 (20 + v2) < 80) <| blet (M21 84 (ix (20 + v2))) fun v23 => chk (0 ≤ w32 (20 + v2) ∧ w32 (20 + v2) < 80) <| blet (sto M21 84 (ix (20 + v2)) (v23 + (v3 - v9))) fun M25 => chk (0 ≤ w32 a1 ∧ w32 a1 < 120) <| blet (M25 77 (ix a1)) fun v27 => chk (0 ≤ w32 a1 ∧ w32 a1 < 120) <| blet (M25 21 (ix a1)) fun v29 => bcall (d_Pl_slotOfBin a2 v27 v29 M25) fun v30 M31 => bcall (d_Pl_openRow v30 M31) fun v32 M33 => chk (0 ≤ w32 ((v32 * 20) + v2) ∧ w32 ((v32 * 20) + v2) < 2400) <| blet (M33 82 (ix ((v32 * 20) + v2))) fun v35 => chk (0 ≤ w32 ((v32 * 20) + v2) ∧ w32 ((v32 * 20) + v2) < 2400) <| blet (sto M33 82 (ix ((v32 * 20) + v2)) (v35 + (w32 v9))) fun M37 => some (0, M37)
theorem t_Pl_bring (l : Launch) (G : GX) {lev : Nat} (hlev : 1 ≤ lev) {a1 a2 : Int} {M : Mem} {r : Int × Mem} (h : d_Pl_bring a1 a2 M = some r) : Mt l G y_Pl_bring b_Pl_bring 7 none lev 0 [.ref (G.1 + 75), vi a1, vi a2] M r := by
  refine Mt.of (by decide) (i_le rfl) ?_
  intro p e s m args below meth c C
  have C : Cx p s m args meth c G b_Pl_bring 7 "PrairiePool$Play" none := C
  unfold d_Pl_bring at h
  refine z_sub (lv' := [(0, .ref (G.1 + 75)), (1, vi a1), (2, vi a2)]) [0, 1, 2] rfl ?_
  refine z_aload_n C 0 x_Pl_bring_0 rfl ?_
  refine z_getR (j := 1) C x_Pl_bring_1 nk_75 ck_75 cw_6 (i_lt rfl) rfl rf_75_1 rfl fl_Pl_55 ?_
  refine z_getR (j := 3) C x_Pl_bring_4 nk_15 ck_15 cw_2 (i_lt rfl) rfl rf_15_3 rfl fl_Pl_144 ?_
  refine z_iload_n C 1 x_Pl_bring_7 rfl ?_
  obtain ⟨c1, h⟩ := chk_e h
  obtain ⟨v2, ev2, h⟩ := blet_e h
  refine z_iald C x_Pl_bring_8 nk_17 ck_17 c1 ev2 ?_
  refine z_istore_n (lv' := [(3, vi v2), (0, .ref (G.1 + 75)), (1, vi a1), (2, vi a2)]) C rfl x_Pl_bring_9 (i_lt rfl) rfl ?_
  refine z_aload_n C 1 x_Pl_bring_10 rfl ?_
  refine z_getR (j := 1) C x_Pl_bring_11 nk_75 ck_75 cw_6 (i_lt rfl) rfl rf_75_1 rfl fl_Pl_55 ?_
  refine z_iload_n C 2 x_Pl_bring_14 rfl ?_
  obtain ⟨v3, M4, fv3, h⟩ := bcall_e h
  refine z_callVi (k := 15) C x_Pl_bring_15 cv_Pl_147 (t_Jo_netOf (lev := lev - 1) l G (by omega) fv3) nk_15 ck_15 rfl (by omega) rfl (i_le rfl) rfl ?_
  refine z_istore (lv' := [(4, vi v3), (3, vi v2), (0, .ref (G.1 + 75)), (1, vi a1), (2, vi a2)]) C rfl x_Pl_bring_18 (i_lt rfl) rfl ?_
  refine z_iload C 0 x_Pl_bring_20 rfl ?_
  refine z_aload_n C 2 x_Pl_bring_22 rfl ?_
  refine z_getR (j := 0) C x_Pl_bring_23 nk_75 ck_75 cw_6 (i_lt rfl) rfl rf_75_0 rfl fl_Pl_51 ?_
  refine z_getR (j := 10) C x_Pl_bring_26 nk_5 ck_5 cw_7 (i_lt rfl) rfl rf_5_10 rfl fl_Pl_150 ?_
  refine z_iload_n C 4 x_Pl_bring_29 rfl ?_
  obtain ⟨c5, h⟩ := chk_e h
  obtain ⟨v6, ev6, h⟩ := blet_e h
  refine z_iald C x_Pl_bring_30 nk_14 ck_14 c5 ev6 ?_
  refine z_aload_n C 2 x_Pl_bring_31 rfl ?_
  refine z_getR (j := 12) C x_Pl_bring_32 nk_75 ck_75 cw_6 (i_lt rfl) rfl rf_75_12 rfl fl_Pl_36 ?_
  refine z_iload_n C 4 x_Pl_bring_35 rfl ?_
  obtain ⟨c7, h⟩ := chk_e h
  obtain ⟨v8, ev8, h⟩ := blet_e h
  refine z_iald C x_Pl_bring_36 nk_83 ck_83 c7 ev8 ?_
  refine z_isub C x_Pl_bring_37 ?_
  refine z_mn32 C x_Pl_bring_38 cs_Pl_155 (by omega) (i_le rfl) ?_
  obtain ⟨v9, ev9, h⟩ := blet_e h
  refine z_istore (lv' := [(5, vi v9), (4, vi v3), (3, vi v2), (0, .ref (G.1 + 75)), (1, vi a1), (2, vi a2)]) C ev9 x_Pl_bring_41 (i_lt rfl) rfl ?_
  refine z_aload_n C 3 x_Pl_bring_43 rfl ?_
  refine z_getR (j := 4) C x_Pl_bring_44 nk_75 ck_75 cw_6 (i_lt rfl) rfl rf_75_4 rfl fl_Pl_13 ?_
  refine z_iload_n C 4 x_Pl_bring_47 rfl ?_
  refine z_iload C 0 x_Pl_bring_48 rfl ?_
  obtain ⟨c10, h⟩ := chk_e h
  obtain ⟨M11, eM11, h⟩ := blet_e h
  refine z_iast C x_Pl_bring_50 nk_76 ck_76 c10 eM11 ?_
  refine z_aload_n C 3 x_Pl_bring_51 rfl ?_
  refine z_getR (j := 12) C x_Pl_bring_52 nk_75 ck_75 cw_6 (i_lt rfl) rfl rf_75_12 rfl fl_Pl_36 ?_
  refine z_iload_n C 5 x_Pl_bring_55 rfl ?_
  refine z_dup2 C x_Pl_bring_56 rfl rfl ?_
  obtain ⟨c12, h⟩ := chk_e h
  obtain ⟨v13, ev13, h⟩ := blet_e h
  refine z_iald C x_Pl_bring_57 nk_83 ck_83 c12 ev13 ?_
  refine z_iload C 0 x_Pl_bring_58 rfl ?_
  refine z_iadd C x_Pl_bring_60 ?_
  obtain ⟨c14, h⟩ := chk_e h
  obtain ⟨M15, eM15, h⟩ := blet_e h
  refine z_iast C x_Pl_bring_61 nk_83 ck_83 c14 eM15 ?_
  refine z_aload_n C 3 x_Pl_bring_62 rfl ?_
  refine z_getR (j := 13) C x_Pl_bring_63 nk_75 ck_75 cw_6 (i_lt rfl) rfl rf_75_13 rfl fl_Pl_39 ?_
  refine z_iconst C x_Pl_bring_66 ?_
  refine z_iload_n C 2 x_Pl_bring_67 rfl ?_
  refine z_iadd C x_Pl_bring_68 ?_
  refine z_dup2 C x_Pl_bring_69 rfl rfl ?_
  obtain ⟨c16, h⟩ := chk_e h
  obtain ⟨v17, ev17, h⟩ := blet_e h
  refine z_iald C x_Pl_bring_70 nk_84 ck_84 c16 ev17 ?_
  refine z_aload_n C 3 x_Pl_bring_71 rfl ?_
  refine z_getR (j := 1) C x_Pl_bring_72 nk_75 ck_75 cw_6 (i_lt rfl) rfl rf_75_1 rfl fl_Pl_55 ?_
  refine z_getR (j := 9) C x_Pl_bring_75 nk_15 ck_15 cw_2 (i_lt rfl) rfl rf_15_9 rfl fl_Pl_161 ?_
  refine z_iload_n C 4 x_Pl_bring_78 rfl ?_
  obtain ⟨c18, h⟩ := chk_e h
  obtain ⟨v19, ev19, h⟩ := blet_e h
  refine z_iald C x_Pl_bring_79 nk_23 ck_23 c18 ev19 ?_
  refine z_iadd C x_Pl_bring_80 ?_
  obtain ⟨c20, h⟩ := chk_e h
  obtain ⟨M21, eM21, h⟩ := blet_e h
  refine z_iast C x_Pl_bring_81 nk_84 ck_84 c20 eM21 ?_
  refine z_aload_n C 3 x_Pl_bring_82 rfl ?_
  refine z_getR (j := 13) C x_Pl_bring_83 nk_75 ck_75 cw_6 (i_lt rfl) rfl rf_75_13 rfl fl_Pl_39 ?_
  refine z_bipush C rfl x_Pl_bring_86 ?_
  refine z_iload_n C 2 x_Pl_bring_88 rfl ?_
  refine z_iadd C x_Pl_bring_89 ?_
  refine z_dup2 C x_Pl_bring_90 rfl rfl ?_
  obtain ⟨c22, h⟩ := chk_e h
  obtain ⟨v23, ev23, h⟩ := blet_e h
  refine z_iald C x_Pl_bring_91 nk_84 ck_84 c22 ev23 ?_
  refine z_iload C 1 x_Pl_bring_92 rfl ?_
  refine z_iload C 0 x_Pl_bring_94 rfl ?_
  refine z_isub C x_Pl_bring_96 ?_
  refine z_iadd C x_Pl_bring_97 ?_
  obtain ⟨c24, h⟩ := chk_e h
  obtain ⟨M25, eM25, h⟩ := blet_e h
  refine z_iast C x_Pl_bring_98 nk_84 ck_84 c24 eM25 ?_
  refine z_aload_n C 3 x_Pl_bring_99 rfl ?_
  refine z_iload_n C 5 x_Pl_bring_100 rfl ?_
  refine z_aload_n C 3 x_Pl_bring_101 rfl ?_
  refine z_getR (j := 5) C x_Pl_bring_102 nk_75 ck_75 cw_6 (i_lt rfl) rfl rf_75_5 rfl fl_Pl_17 ?_
  refine z_iload_n C 4 x_Pl_bring_105 rfl ?_
  obtain ⟨c26, h⟩ := chk_e h
  obtain ⟨v27, ev27, h⟩ := blet_e h
  refine z_iald C x_Pl_bring_106 nk_77 ck_77 c26 ev27 ?_
  refine z_aload_n C 3 x_Pl_bring_107 rfl ?_
  refine z_getR (j := 1) C x_Pl_bring_108 nk_75 ck_75 cw_6 (i_lt rfl) rfl rf_75_1 rfl fl_Pl_55 ?_
  refine z_getR (j := 7) C x_Pl_bring_111 nk_15 ck_15 cw_2 (i_lt rfl) rfl rf_15_7 rfl fl_Pl_113 ?_
  refine z_iload_n C 4 x_Pl_bring_114 rfl ?_
  obtain ⟨c28, h⟩ := chk_e h
  obtain ⟨v29, ev29, h⟩ := blet_e h
  refine z_iald C x_Pl_bring_115 nk_21 ck_21 c28 ev29 ?_
  obtain ⟨v30, M31, fv30, h⟩ := bcall_e h
  refine z_callSi C x_Pl_bring_116 cs_Pl_63 (t_Pl_slotOfBin (lev := lev - 1) l G (by omega) fv30) (by omega) rfl (i_le rfl) rfl ?_
  obtain ⟨v32, M33, fv32, h⟩ := bcall_e h
  refine z_callVi (k := 75) C x_Pl_bring_119 cv_Pl_135 (t_Pl_openRow (lev := lev - 1) l G (by omega) fv32) nk_75 ck_75 rfl (by omega) rfl (i_le rfl) rfl ?_
  refine z_istore (lv' := [(6, vi v32), (5, vi v9), (4, vi v3), (3, vi v2), (0, .ref (G.1 + 75)), (1, vi a1), (2, vi a2)]) C rfl x_Pl_bring_122 (i_lt rfl) rfl ?_
  refine z_aload_n C 4 x_Pl_bring_124 rfl ?_
  refine z_getR (j := 11) C x_Pl_bring_125 nk_75 ck_75 cw_6 (i_lt rfl) rfl rf_75_11 rfl fl_Pl_32 ?_
  refine z_iload C 0 x_Pl_bring_128 rfl ?_
  refine z_bipush C rfl x_Pl_bring_130 ?_
  refine z_imul C x_Pl_bring_132 ?_
  refine z_iload_n C 3 x_Pl_bring_133 rfl ?_
  refine z_iadd C x_Pl_bring_134 ?_
  refine z_dup2 C x_Pl_bring_135 rfl rfl ?_
  obtain ⟨c34, h⟩ := chk_e h
  obtain ⟨v35, ev35, h⟩ := blet_e h
  refine z_lald C x_Pl_bring_136 nk_82 ck_82 c34 ev35 ?_
  refine z_iload C 1 x_Pl_bring_137 rfl ?_
  refine z_i2l C x_Pl_bring_139 ?_
  refine z_ladd C x_Pl_bring_140 ?_
  obtain ⟨c36, h⟩ := chk_e h
  obtain ⟨M37, eM37, h⟩ := blet_e h
  refine z_last C x_Pl_bring_141 nk_82 ck_82 c36 eM37 ?_
  exact z_vret C x_Pl_bring_142 h
theorem x_Pl_bushelsAt_0 : DC b_Pl_bushelsAt 0 (.aload_n 0) 1 1 := ⟨by decide +kernel, rfl⟩
theorem x_Pl_bushelsAt_1 : DC b_Pl_bushelsAt 1 (.getfield 29) 3 4 := ⟨by decide +kernel, rfl⟩
theorem x_Pl_bushelsAt_4 : DC b_Pl_bushelsAt 4 (.iload_n 1) 1 5 := ⟨by decide +kernel, rfl⟩
theorem x_Pl_bushelsAt_5 : DC b_Pl_bushelsAt 5 (.iaload) 1 6 := ⟨by decide +kernel, rfl⟩
theorem x_Pl_bushelsAt_6 : DC b_Pl_bushelsAt 6 (.istore_n 3) 1 7 := ⟨by decide +kernel, rfl⟩
theorem x_Pl_bushelsAt_7 : DC b_Pl_bushelsAt 7 (.iload_n 3) 1 8 := ⟨by decide +kernel, rfl⟩
theorem x_Pl_bushelsAt_8 : DC b_Pl_bushelsAt 8 (.iconst (-1)) 1 9 := ⟨by decide +kernel, rfl⟩
theorem x_Pl_bushelsAt_9 : DC b_Pl_bushelsAt 9 (.if_icmp .ne 5) 3 12 := ⟨by decide +kernel, rfl⟩
theorem x_Pl_bushelsAt_12 : DC b_Pl_bushelsAt 12 (.iconst 0) 1 13 := ⟨by decide +kernel, rfl⟩
theorem x_Pl_bushelsAt_13 : DC b_Pl_bushelsAt 13 (.ireturn) 1 14 := ⟨by decide +kernel, rfl⟩
theorem x_Pl_bushelsAt_14 : DC b_Pl_bushelsAt 14 (.iload_n 2) 1 15 := ⟨by decide +kernel, rfl⟩
theorem x_Pl_bushelsAt_15 : DC b_Pl_bushelsAt 15 (.iconst (-1)) 1 16 := ⟨by decide +kernel, rfl⟩
theorem x_Pl_bushelsAt_16 : DC b_Pl_bushelsAt 16 (.if_icmp .eq 16) 3 19 := ⟨by decide +kernel, rfl⟩
theorem x_Pl_bushelsAt_19 : DC b_Pl_bushelsAt 19 (.aload_n 0) 1 20 := ⟨by decide +kernel, rfl⟩
theorem x_Pl_bushelsAt_20 : DC b_Pl_bushelsAt 20 (.getfield 32) 3 23 := ⟨by decide +kernel, rfl⟩
theorem x_Pl_bushelsAt_23 : DC b_Pl_bushelsAt 23 (.iload_n 3) 1 24 := ⟨by decide +kernel, rfl⟩
theorem x_Pl_bushelsAt_24 : DC b_Pl_bushelsAt 24 (.bipush 20) 2 26 := ⟨by decide +kernel, rfl⟩
theorem x_Pl_bushelsAt_26 : DC b_Pl_bushelsAt 26 (.imul) 1 27 := ⟨by decide +kernel, rfl⟩
theorem x_Pl_bushelsAt_27 : DC b_Pl_bushelsAt 27 (.iload_n 2) 1 28 := ⟨by decide +kernel, rfl⟩
theorem x_Pl_bushelsAt_28 : DC b_Pl_bushelsAt 28 (.iadd) 1 29 := ⟨by decide +kernel, rfl⟩
theorem x_Pl_bushelsAt_29 : DC b_Pl_bushelsAt 29 (.laload) 1 30 := ⟨by decide +kernel, rfl⟩
theorem x_Pl_bushelsAt_30 : DC b_Pl_bushelsAt 30 (.l2i) 1 31 := ⟨by decide +kernel, rfl⟩
theorem x_Pl_bushelsAt_31 : DC b_Pl_bushelsAt 31 (.ireturn) 1 32 := ⟨by decide +kernel, rfl⟩
theorem x_Pl_bushelsAt_32 : DC b_Pl_bushelsAt 32 (.lconst 0) 1 33 := ⟨by decide +kernel, rfl⟩
theorem x_Pl_bushelsAt_33 : DC b_Pl_bushelsAt 33 (.lstore 4) 2 35 := ⟨by decide +kernel, rfl⟩
theorem x_Pl_bushelsAt_35 : DC b_Pl_bushelsAt 35 (.iconst 0) 1 36 := ⟨by decide +kernel, rfl⟩
theorem x_Pl_bushelsAt_36 : DC b_Pl_bushelsAt 36 (.istore 6) 2 38 := ⟨by decide +kernel, rfl⟩
theorem x_Pl_bushelsAt_38 : DC b_Pl_bushelsAt 38 (.iload 6) 2 40 := ⟨by decide +kernel, rfl⟩
theorem x_Pl_bushelsAt_40 : DC b_Pl_bushelsAt 40 (.bipush 20) 2 42 := ⟨by decide +kernel, rfl⟩
theorem x_Pl_bushelsAt_42 : DC b_Pl_bushelsAt 42 (.if_icmp .ge 26) 3 45 := ⟨by decide +kernel, rfl⟩
theorem x_Pl_bushelsAt_45 : DC b_Pl_bushelsAt 45 (.lload 4) 2 47 := ⟨by decide +kernel, rfl⟩
theorem x_Pl_bushelsAt_47 : DC b_Pl_bushelsAt 47 (.aload_n 0) 1 48 := ⟨by decide +kernel, rfl⟩
theorem x_Pl_bushelsAt_48 : DC b_Pl_bushelsAt 48 (.getfield 32) 3 51 := ⟨by decide +kernel, rfl⟩
theorem x_Pl_bushelsAt_51 : DC b_Pl_bushelsAt 51 (.iload_n 3) 1 52 := ⟨by decide +kernel, rfl⟩
theorem x_Pl_bushelsAt_52 : DC b_Pl_bushelsAt 52 (.bipush 20) 2 54 := ⟨by decide +kernel, rfl⟩
theorem x_Pl_bushelsAt_54 : DC b_Pl_bushelsAt 54 (.imul) 1 55 := ⟨by decide +kernel, rfl⟩
theorem x_Pl_bushelsAt_55 : DC b_Pl_bushelsAt 55 (.iload 6) 2 57 := ⟨by decide +kernel, rfl⟩
theorem x_Pl_bushelsAt_57 : DC b_Pl_bushelsAt 57 (.iadd) 1 58 := ⟨by decide +kernel, rfl⟩
theorem x_Pl_bushelsAt_58 : DC b_Pl_bushelsAt 58 (.laload) 1 59 := ⟨by decide +kernel, rfl⟩
theorem x_Pl_bushelsAt_59 : DC b_Pl_bushelsAt 59 (.ladd) 1 60 := ⟨by decide +kernel, rfl⟩
theorem x_Pl_bushelsAt_60 : DC b_Pl_bushelsAt 60 (.lstore 4) 2 62 := ⟨by decide +kernel, rfl⟩
theorem x_Pl_bushelsAt_62 : DC b_Pl_bushelsAt 62 (.iinc 6 1) 3 65 := ⟨by decide +kernel, rfl⟩
theorem x_Pl_bushelsAt_65 : DC b_Pl_bushelsAt 65 (.goto (-27)) 3 68 := ⟨by decide +kernel, rfl⟩
theorem x_Pl_bushelsAt_68 : DC b_Pl_bushelsAt 68 (.lload 4) 2 70 := ⟨by decide +kernel, rfl⟩
theorem x_Pl_bushelsAt_70 : DC b_Pl_bushelsAt 70 (.l2i) 1 71 := ⟨by decide +kernel, rfl⟩
theorem x_Pl_bushelsAt_71 : DC b_Pl_bushelsAt 71 (.ireturn) 1 72 := ⟨by decide +kernel, rfl⟩
def k_Pl_bushelsAt_38 (R38 : Int → Int → Int → Mem → Res) (a3 a4 a6 : Int) (M : Mem) : Res := if w32 a6 < 20 then (chk (0 ≤ w32 ((a3 * 20) + a6) ∧ w32 ((a3 * 20) + a6) < 2400) <| blet (M 82 (ix ((a3 * 20) + a6))) fun v3 => blet (a4 + v3) fun v4 => blet (a6 + 1) fun v5 => R38 a3 v4 v5 M) else (some (a4, M))
theorem z_Pl_bushelsAt_38 (C : Cx p s m args meth c G b_Pl_bushelsAt 7 "PrairiePool$Play" (some .int)) (hlev : 0 ≤ lev) {r : Int × Mem} {R38 : Int → Int → Int → Mem → Res} (hR38 : ∀ (a3 a4 a6 : Int) (M : Mem), R38 a3 a4 a6 M = some r → Z p l e lev s m args below meth c G 7 (MQ below (Qm G 1 r) args s 0 0 (Ab G)) M 38 [(0, .ref (G.1 + 75)), (3, vi a3), (4, vl a4), (6, vi a6)] []) {a3 a4 a6 : Int} {M : Mem} (h : k_Pl_bushelsAt_38 R38 a3 a4 a6 M = some r) : Z p l e lev s m args below meth c G 7 (MQ below (Qm G 1 r) args s 0 0 (Ab G)) M 38 [(0, .ref (G.1 + 75)), (3, vi a3), (4, vl a4), (6, vi a6)] [] := by
  unfold k_Pl_bushelsAt_38 at h
  refine z_iload C 3 x_Pl_bushelsAt_38 rfl ?_
  refine z_bipush C rfl x_Pl_bushelsAt_40 ?_
  rcases ite_e h with ⟨c1, h⟩ | ⟨c1, h⟩
  · refine z_icmp_ge_f (tgt := 68) C x_Pl_bushelsAt_42 rfl c1 ?_
    refine z_lload C 2 x_Pl_bushelsAt_45 rfl ?_
    refine z_aload_n C 0 x_Pl_bushelsAt_47 rfl ?_
    refine z_getR (j := 11) C x_Pl_bushelsAt_48 nk_75 ck_75 cw_6 (i_lt rfl) rfl rf_75_11 rfl fl_Pl_32 ?_
    refine z_iload_n C 1 x_Pl_bushelsAt_51 rfl ?_
    refine z_bipush C rfl x_Pl_bushelsAt_52 ?_
    refine z_imul C x_Pl_bushelsAt_54 ?_
    refine z_iload C 3 x_Pl_bushelsAt_55 rfl ?_
    refine z_iadd C x_Pl_bushelsAt_57 ?_
    obtain ⟨c2, h⟩ := chk_e h
    obtain ⟨v3, ev3, h⟩ := blet_e h
    refine z_lald C x_Pl_bushelsAt_58 nk_82 ck_82 c2 ev3 ?_
    refine z_ladd C x_Pl_bushelsAt_59 ?_
    obtain ⟨v4, ev4, h⟩ := blet_e h
    refine z_lstore (lv' := [(4, vl v4), (0, .ref (G.1 + 75)), (3, vi a3), (6, vi a6)]) C ev4 x_Pl_bushelsAt_60 (i_lt rfl) rfl ?_
    obtain ⟨v5, ev5, h⟩ := blet_e h
    refine z_iinc (lv' := [(6, vi v5), (4, vl v4), (0, .ref (G.1 + 75)), (3, vi a3)]) C 3 ev5 x_Pl_bushelsAt_62 rfl (i_lt rfl) rfl ?_
    refine z_goto (tgt := 38) C x_Pl_bushelsAt_65 rfl ?_
    exact z_sub [2, 3, 1, 0] rfl (hR38 a3 v4 v5 M h)
  · refine z_icmp_ge_t (tgt := 68) C x_Pl_bushelsAt_42 rfl c1 ?_
    refine z_lload C 2 x_Pl_bushelsAt_68 rfl ?_
    refine z_l2i C x_Pl_bushelsAt_70 ?_
    exact z_iret C x_Pl_bushelsAt_71 h
theorem zl_Pl_bushelsAt_38 (C : Cx p s m args meth c G b_Pl_bushelsAt 7 "PrairiePool$Play" (some .int)) (hlev : 0 ≤ lev) {r : Int × Mem}  : ∀ (n : Nat) (a3 a4 a6 : Int) (M : Mem), fix (fun _ _ _ _ => none) (k_Pl_bushelsAt_38) n a3 a4 a6 M = some r → Z p l e lev s m args below meth c G 7 (MQ below (Qm G 1 r) args s 0 0 (Ab G)) M 38 [(0, .ref (G.1 + 75)), (3, vi a3), (4, vl a4), (6, vi a6)] [] := by
  intro n
  induction n with
  | zero => intro a3 a4 a6 M h; exact nomatch (show (none : Res) = some r from h)
  | succ n ih => intro a3 a4 a6 M h; exact z_Pl_bushelsAt_38 C hlev ih h
def d_Pl_bushelsAt (a1 a2 : Int) (M : Mem) : Res := chk (0 ≤ w32 a1 ∧ w32 a1 < 600) <| blet (M 81 (ix a1)) fun v2 => if w32 v2 = (-1) then (some (0, M)) else (if w32 a2 = (-1) then (fix (fun _ _ _ _ => none) (k_Pl_bushelsAt_38) FU v2 0 0 M) else (chk (0 ≤ w32 ((v2 * 20) + a2) ∧ w32 ((v2 * 20) + a2) < 2400) <| blet (M 82 (ix ((v2 * 20) + a2))) fun v6 => some (v6, M)))
theorem t_Pl_bushelsAt (l : Launch) (G : GX) {lev : Nat} (hlev : 0 ≤ lev) {a1 a2 : Int} {M : Mem} {r : Int × Mem} (h : d_Pl_bushelsAt a1 a2 M = some r) : Mt l G y_Pl_bushelsAt b_Pl_bushelsAt 7 (some .int) lev 1 [.ref (G.1 + 75), vi a1, vi a2] M r := by
  refine Mt.of (by decide) (i_le rfl) ?_
  intro p e s m args below meth c C
  have C : Cx p s m args meth c G b_Pl_bushelsAt 7 "PrairiePool$Play" (some .int) := C
  unfold d_Pl_bushelsAt at h
  refine z_sub (lv' := [(0, .ref (G.1 + 75)), (1, vi a1), (2, vi a2)]) [0, 1, 2] rfl ?_
  refine z_aload_n C 0 x_Pl_bushelsAt_0 rfl ?_
  refine z_getR (j := 9) C x_Pl_bushelsAt_1 nk_75 ck_75 cw_6 (i_lt rfl) rfl rf_75_9 rfl fl_Pl_29 ?_
  refine z_iload_n C 1 x_Pl_bushelsAt_4 rfl ?_
  obtain ⟨c1, h⟩ := chk_e h
  obtain ⟨v2, ev2, h⟩ := blet_e h
  refine z_iald C x_Pl_bushelsAt_5 nk_81 ck_81 c1 ev2 ?_
  refine z_istore_n (lv' := [(3, vi v2), (0, .ref (G.1 + 75)), (1, vi a1), (2, vi a2)]) C rfl x_Pl_bushelsAt_6 (i_lt rfl) rfl ?_
  refine z_iload_n C 0 x_Pl_bushelsAt_7 rfl ?_
  refine z_iconst C x_Pl_bushelsAt_8 ?_
  rcases ite_e h with ⟨c3, h⟩ | ⟨c3, h⟩
  · refine z_icmp_ne_f (tgt := 14) C x_Pl_bushelsAt_9 rfl c3 ?_
    refine z_iconst C x_Pl_bushelsAt_12 ?_
    exact z_iret C x_Pl_bushelsAt_13 h
  · refine z_icmp_ne_t (tgt := 14) C x_Pl_bushelsAt_9 rfl c3 ?_
    refine z_iload_n C 3 x_Pl_bushelsAt_14 rfl ?_
    refine z_iconst C x_Pl_bushelsAt_15 ?_
    rcases ite_e h with ⟨c4, h⟩ | ⟨c4, h⟩
    · refine z_icmp_eq_t (tgt := 32) C x_Pl_bushelsAt_16 rfl c4 ?_
      refine z_lconst0 C x_Pl_bushelsAt_32 ?_
      refine z_lstore (lv' := [(4, vl 0), (3, vi v2), (0, .ref (G.1 + 75)), (1, vi a1), (2, vi a2)]) C rfl x_Pl_bushelsAt_33 (i_lt rfl) rfl ?_
      refine z_iconst C x_Pl_bushelsAt_35 ?_
      refine z_istore (lv' := [(6, vi 0), (4, vl 0), (3, vi v2), (0, .ref (G.1 + 75)), (1, vi a1), (2, vi a2)]) C rfl x_Pl_bushelsAt_36 (i_lt rfl) rfl ?_
      exact z_sub [3, 2, 1, 0] rfl (zl_Pl_bushelsAt_38 C hlev FU v2 0 0 M h)
    · refine z_icmp_eq_f (tgt := 32) C x_Pl_bushelsAt_16 rfl c4 ?_
      refine z_aload_n C 1 x_Pl_bushelsAt_19 rfl ?_
      refine z_getR (j := 11) C x_Pl_bushelsAt_20 nk_75 ck_75 cw_6 (i_lt rfl) rfl rf_75_11 rfl fl_Pl_32 ?_
      refine z_iload_n C 0 x_Pl_bushelsAt_23 rfl ?_
      refine z_bipush C rfl x_Pl_bushelsAt_24 ?_
      refine z_imul C x_Pl_bushelsAt_26 ?_
      refine z_iload_n C 3 x_Pl_bushelsAt_27 rfl ?_
      refine z_iadd C x_Pl_bushelsAt_28 ?_
      obtain ⟨c5, h⟩ := chk_e h
      obtain ⟨v6, ev6, h⟩ := blet_e h
      refine z_lald C x_Pl_bushelsAt_29 nk_82 ck_82 c5 ev6 ?_
      refine z_l2i C x_Pl_bushelsAt_30 ?_
      exact z_iret C x_Pl_bushelsAt_31 h
theorem x_Pl_placeOfGreatest_0 : DC b_Pl_placeOfGreatest 0 (.iconst 0) 1 1 := ⟨by decide +kernel, rfl⟩
theorem x_Pl_placeOfGreatest_1 : DC b_Pl_placeOfGreatest 1 (.istore_n 1) 1 2 := ⟨by decide +kernel, rfl⟩
theorem x_Pl_placeOfGreatest_2 : DC b_Pl_placeOfGreatest 2 (.iconst 1) 1 3 := ⟨by decide +kernel, rfl⟩
theorem x_Pl_placeOfGreatest_3 : DC b_Pl_placeOfGreatest 3 (.istore_n 2) 1 4 := ⟨by decide +kernel, rfl⟩
theorem x_Pl_placeOfGreatest_4 : DC b_Pl_placeOfGreatest 4 (.iload_n 2) 1 5 := ⟨by decide +kernel, rfl⟩
theorem x_Pl_placeOfGreatest_5 : DC b_Pl_placeOfGreatest 5 (.aload_n 0) 1 6 := ⟨by decide +kernel, rfl⟩
theorem x_Pl_placeOfGreatest_6 : DC b_Pl_placeOfGreatest 6 (.arraylength) 1 7 := ⟨by decide +kernel, rfl⟩
theorem x_Pl_placeOfGreatest_7 : DC b_Pl_placeOfGreatest 7 (.if_icmp .ge 21) 3 10 := ⟨by decide +kernel, rfl⟩
theorem x_Pl_placeOfGreatest_10 : DC b_Pl_placeOfGreatest 10 (.aload_n 0) 1 11 := ⟨by decide +kernel, rfl⟩
theorem x_Pl_placeOfGreatest_11 : DC b_Pl_placeOfGreatest 11 (.iload_n 2) 1 12 := ⟨by decide +kernel, rfl⟩
theorem x_Pl_placeOfGreatest_12 : DC b_Pl_placeOfGreatest 12 (.laload) 1 13 := ⟨by decide +kernel, rfl⟩
theorem x_Pl_placeOfGreatest_13 : DC b_Pl_placeOfGreatest 13 (.aload_n 0) 1 14 := ⟨by decide +kernel, rfl⟩
theorem x_Pl_placeOfGreatest_14 : DC b_Pl_placeOfGreatest 14 (.iload_n 1) 1 15 := ⟨by decide +kernel, rfl⟩
theorem x_Pl_placeOfGreatest_15 : DC b_Pl_placeOfGreatest 15 (.laload) 1 16 := ⟨by decide +kernel, rfl⟩
theorem x_Pl_placeOfGreatest_16 : DC b_Pl_placeOfGreatest 16 (.lcmp) 1 17 := ⟨by decide +kernel, rfl⟩
theorem x_Pl_placeOfGreatest_17 : DC b_Pl_placeOfGreatest 17 (.ifCond .le 5) 3 20 := ⟨by decide +kernel, rfl⟩
theorem x_Pl_placeOfGreatest_20 : DC b_Pl_placeOfGreatest 20 (.iload_n 2) 1 21 := ⟨by decide +kernel, rfl⟩
theorem x_Pl_placeOfGreatest_21 : DC b_Pl_placeOfGreatest 21 (.istore_n 1) 1 22 := ⟨by decide +kernel, rfl⟩
theorem x_Pl_placeOfGreatest_22 : DC b_Pl_placeOfGreatest 22 (.iinc 2 1) 3 25 := ⟨by decide +kernel, rfl⟩
theorem x_Pl_placeOfGreatest_25 : DC b_Pl_placeOfGreatest 25 (.goto (-21)) 3 28 := ⟨by decide +kernel, rfl⟩
theorem x_Pl_placeOfGreatest_28 : DC b_Pl_placeOfGreatest 28 (.iload_n 1) 1 29 := ⟨by decide +kernel, rfl⟩
theorem x_Pl_placeOfGreatest_29 : DC b_Pl_placeOfGreatest 29 (.ireturn) 1 30 := ⟨by decide +kernel, rfl⟩
def k_Pl_placeOfGreatest_22 (k0 : Nat) (R4 : Int → Int → Mem → Res) (a1 a2 : Int) (M : Mem) : Res := blet (a2 + 1) fun v1 => R4 a1 v1 M
theorem z_Pl_placeOfGreatest_22 (C : Cx p s m args meth c G b_Pl_placeOfGreatest 3 "PrairiePool$Play" (some .int)) (hlev : 0 ≤ lev) {k0 : Nat} (nk0 : k0 < NC) (ck0 : ck k0 = (2, 0, 20)) {r : Int × Mem} {R4 : Int → Int → Mem → Res} (hR4 : ∀ (a1 a2 : Int) (M : Mem), R4 a1 a2 M = some r → Z p l e lev s m args below meth c G 3 (MQ below (Qm G 1 r) args s 0 0 (Ab G)) M 4 [(0, .ref (G.1 + k0)), (1, vi a1), (2, vi a2)] []) {a1 a2 : Int} {M : Mem} (h : k_Pl_placeOfGreatest_22 k0 R4 a1 a2 M = some r) : Z p l e lev s m args below meth c G 3 (MQ below (Qm G 1 r) args s 0 0 (Ab G)) M 22 [(0, .ref (G.1 + k0)), (1, vi a1), (2, vi a2)] [] := by
  unfold k_Pl_placeOfGreatest_22 at h
  obtain ⟨v1, ev1, h⟩ := blet_e h
  refine z_iinc (lv' := [(2, vi v1), (0, .ref (G.1 + k0)), (1, vi a1)]) C 2 ev1 x_Pl_placeOfGreatest_22 rfl (i_lt rfl) rfl ?_
  refine z_goto (tgt := 4) C x_Pl_placeOfGreatest_25 rfl ?_
  exact z_sub [1, 2, 0] rfl (hR4 a1 v1 M h)
def k_Pl_placeOfGreatest_4 (k0 : Nat) (R4 : Int → Int → Mem → Res) (a1 a2 : Int) (M : Mem) : Res := if w32 a2 < 20 then (chk (0 ≤ w32 a2 ∧ w32 a2 < 20) <| blet (M k0 (ix a2)) fun v3 => chk (0 ≤ w32 a1 ∧ w32 a1 < 20) <| blet (M k0 (ix a1)) fun v5 => if w64 v5 < w64 v3 then (k_Pl_placeOfGreatest_22 k0 R4 a2 a2 M) else (k_Pl_placeOfGreatest_22 k0 R4 a1 a2 M)) else (some (a1, M))
theorem z_Pl_placeOfGreatest_4 (C : Cx p s m args meth c G b_Pl_placeOfGreatest 3 "PrairiePool$Play" (some .int)) (hlev : 0 ≤ lev) {k0 : Nat} (nk0 : k0 < NC) (ck0 : ck k0 = (2, 0, 20)) {r : Int × Mem} {R4 : Int → Int → Mem → Res} (hR4 : ∀ (a1 a2 : Int) (M : Mem), R4 a1 a2 M = some r → Z p l e lev s m args below meth c G 3 (MQ below (Qm G 1 r) args s 0 0 (Ab G)) M 4 [(0, .ref (G.1 + k0)), (1, vi a1), (2, vi a2)] []) {a1 a2 : Int} {M : Mem} (h : k_Pl_placeOfGreatest_4 k0 R4 a1 a2 M = some r) : Z p l e lev s m args below meth c G 3 (MQ below (Qm G 1 r) args s 0 0 (Ab G)) M 4 [(0, .ref (G.1 + k0)), (1, vi a1), (2, vi a2)] [] := by
  unfold k_Pl_placeOfGreatest_4 at h
  refine z_iload_n C 2 x_Pl_placeOfGreatest_4 rfl ?_
  refine z_aload_n C 0 x_Pl_placeOfGreatest_5 rfl ?_
  refine z_alen C x_Pl_placeOfGreatest_6 nk0 ck0 (i_lt rfl) ?_
  rcases ite_e h with ⟨c1, h⟩ | ⟨c1, h⟩
  · refine z_icmp_ge_f (tgt := 28) C x_Pl_placeOfGreatest_7 rfl c1 ?_
    refine z_aload_n C 0 x_Pl_placeOfGreatest_10 rfl ?_
    refine z_iload_n C 2 x_Pl_placeOfGreatest_11 rfl ?_
    obtain ⟨c2, h⟩ := chk_e h
    obtain ⟨v3, ev3, h⟩ := blet_e h
    refine z_lald C x_Pl_placeOfGreatest_12 nk0 ck0 c2 ev3 ?_
    refine z_aload_n C 0 x_Pl_placeOfGreatest_13 rfl ?_
    refine z_iload_n C 1 x_Pl_placeOfGreatest_14 rfl ?_
    obtain ⟨c4, h⟩ := chk_e h
    obtain ⟨v5, ev5, h⟩ := blet_e h
    refine z_lald C x_Pl_placeOfGreatest_15 nk0 ck0 c4 ev5 ?_
    refine z_lcmp C x_Pl_placeOfGreatest_16 ?_
    rcases ite_e h with ⟨c6, h⟩ | ⟨c6, h⟩
    · refine z_if_le_f (tgt := 22) C x_Pl_placeOfGreatest_17 rfl (cm_gt.mpr c6) ?_
      refine z_iload_n C 2 x_Pl_placeOfGreatest_20 rfl ?_
      refine z_istore_n (lv' := [(1, vi a2), (0, .ref (G.1 + k0)), (2, vi a2)]) C rfl x_Pl_placeOfGreatest_21 (i_lt rfl) rfl ?_
      exact z_sub [1, 0, 2] rfl (z_Pl_placeOfGreatest_22 C hlev nk0 ck0 hR4 h)
    · refine z_if_le_t (tgt := 22) C x_Pl_placeOfGreatest_17 rfl (fun q => c6 (cm_gt.mp q)) ?_
      exact z_sub [0, 1, 2] rfl (z_Pl_placeOfGreatest_22 C hlev nk0 ck0 hR4 h)
  · refine z_icmp_ge_t (tgt := 28) C x_Pl_placeOfGreatest_7 rfl c1 ?_
    refine z_iload_n C 1 x_Pl_placeOfGreatest_28 rfl ?_
    exact z_iret C x_Pl_placeOfGreatest_29 h
theorem zl_Pl_placeOfGreatest_4 (C : Cx p s m args meth c G b_Pl_placeOfGreatest 3 "PrairiePool$Play" (some .int)) (hlev : 0 ≤ lev) {k0 : Nat} (nk0 : k0 < NC) (ck0 : ck k0 = (2, 0, 20)) {r : Int × Mem}  : ∀ (n : Nat) (a1 a2 : Int) (M : Mem), fix (fun _ _ _ => none) (k_Pl_placeOfGreatest_4 k0) n a1 a2 M = some r → Z p l e lev s m args below meth c G 3 (MQ below (Qm G 1 r) args s 0 0 (Ab G)) M 4 [(0, .ref (G.1 + k0)), (1, vi a1), (2, vi a2)] [] := by
  intro n
  induction n with
  | zero => intro a1 a2 M h; exact nomatch (show (none : Res) = some r from h)
  | succ n ih => intro a1 a2 M h; exact z_Pl_placeOfGreatest_4 C hlev nk0 ck0 ih h
def d_Pl_placeOfGreatest (k0 : Nat) (M : Mem) : Res := fix (fun _ _ _ => none) (k_Pl_placeOfGreatest_4 k0) FU 0 1 M
theorem t_Pl_placeOfGreatest (l : Launch) (G : GX) {lev : Nat} (hlev : 0 ≤ lev) {k0 : Nat} (nk0 : k0 < NC) (ck0 : ck k0 = (2, 0, 20)) {M : Mem} {r : Int × Mem} (h : d_Pl_placeOfGreatest k0 M = some r) : Mt l G y_Pl_placeOfGreatest b_Pl_placeOfGreatest 3 (some .int) lev 1 [.ref (G.1 + k0)] M r := by
  refine Mt.of (by decide) (i_le rfl) ?_
  intro p e s m args below meth c C
  have C : Cx p s m args meth c G b_Pl_placeOfGreatest 3 "PrairiePool$Play" (some .int) := C
  unfold d_Pl_placeOfGreatest at h
  refine z_sub (lv' := [(0, .ref (G.1 + k0))]) [0] rfl ?_
  refine z_iconst C x_Pl_placeOfGreatest_0 ?_
  refine z_istore_n (lv' := [(1, vi 0), (0, .ref (G.1 + k0))]) C rfl x_Pl_placeOfGreatest_1 (i_lt rfl) rfl ?_
  refine z_iconst C x_Pl_placeOfGreatest_2 ?_
  refine z_istore_n (lv' := [(2, vi 1), (1, vi 0), (0, .ref (G.1 + k0))]) C rfl x_Pl_placeOfGreatest_3 (i_lt rfl) rfl ?_
  exact z_sub [2, 1, 0] rfl (zl_Pl_placeOfGreatest_4 C hlev nk0 ck0 FU 0 1 M h)
theorem x_Pl_part_0 : DC b_Pl_part 0 (.lconst 0) 1 1 := ⟨by decide +kernel, rfl⟩
theorem x_Pl_part_1 : DC b_Pl_part 1 (.lstore 5) 2 3 := ⟨by decide +kernel, rfl⟩
theorem x_Pl_part_3 : DC b_Pl_part 3 (.iconst 0) 1 4 := ⟨by decide +kernel, rfl⟩
theorem x_Pl_part_4 : DC b_Pl_part 4 (.istore 7) 2 6 := ⟨by decide +kernel, rfl⟩
theorem x_Pl_part_6 : DC b_Pl_part 6 (.iload 7) 2 8 := ⟨by decide +kernel, rfl⟩
theorem x_Pl_part_8 : DC b_Pl_part 8 (.bipush 20) 2 10 := ⟨by decide +kernel, rfl⟩
theorem x_Pl_part_10 : DC b_Pl_part 10 (.if_icmp .ge 24) 3 13 := ⟨by decide +kernel, rfl⟩
theorem x_Pl_part_13 : DC b_Pl_part 13 (.lload 5) 2 15 := ⟨by decide +kernel, rfl⟩
theorem x_Pl_part_15 : DC b_Pl_part 15 (.aload_n 3) 1 16 := ⟨by decide +kernel, rfl⟩
theorem x_Pl_part_16 : DC b_Pl_part 16 (.iload 7) 2 18 := ⟨by decide +kernel, rfl⟩
theorem x_Pl_part_18 : DC b_Pl_part 18 (.laload) 1 19 := ⟨by decide +kernel, rfl⟩
theorem x_Pl_part_19 : DC b_Pl_part 19 (.ladd) 1 20 := ⟨by decide +kernel, rfl⟩
theorem x_Pl_part_20 : DC b_Pl_part 20 (.lstore 5) 2 22 := ⟨by decide +kernel, rfl⟩
theorem x_Pl_part_22 : DC b_Pl_part 22 (.aload 4) 2 24 := ⟨by decide +kernel, rfl⟩
theorem x_Pl_part_24 : DC b_Pl_part 24 (.iload 7) 2 26 := ⟨by decide +kernel, rfl⟩
theorem x_Pl_part_26 : DC b_Pl_part 26 (.lconst 0) 1 27 := ⟨by decide +kernel, rfl⟩
theorem x_Pl_part_27 : DC b_Pl_part 27 (.lastore) 1 28 := ⟨by decide +kernel, rfl⟩
theorem x_Pl_part_28 : DC b_Pl_part 28 (.iinc 7 1) 3 31 := ⟨by decide +kernel, rfl⟩
theorem x_Pl_part_31 : DC b_Pl_part 31 (.goto (-25)) 3 34 := ⟨by decide +kernel, rfl⟩
theorem x_Pl_part_34 : DC b_Pl_part 34 (.lload 5) 2 36 := ⟨by decide +kernel, rfl⟩
theorem x_Pl_part_36 : DC b_Pl_part 36 (.lconst 0) 1 37 := ⟨by decide +kernel, rfl⟩
theorem x_Pl_part_37 : DC b_Pl_part 37 (.lcmp) 1 38 := ⟨by decide +kernel, rfl⟩
theorem x_Pl_part_38 : DC b_Pl_part 38 (.ifCond .gt 4) 3 41 := ⟨by decide +kernel, rfl⟩
theorem x_Pl_part_41 : DC b_Pl_part 41 (.return_) 1 42 := ⟨by decide +kernel, rfl⟩
theorem x_Pl_part_42 : DC b_Pl_part 42 (.lload_n 1) 1 43 := ⟨by decide +kernel, rfl⟩
theorem x_Pl_part_43 : DC b_Pl_part 43 (.lstore 7) 2 45 := ⟨by decide +kernel, rfl⟩
theorem x_Pl_part_45 : DC b_Pl_part 45 (.iconst 0) 1 46 := ⟨by decide +kernel, rfl⟩
theorem x_Pl_part_46 : DC b_Pl_part 46 (.istore 9) 2 48 := ⟨by decide +kernel, rfl⟩
theorem x_Pl_part_48 : DC b_Pl_part 48 (.iload 9) 2 50 := ⟨by decide +kernel, rfl⟩
theorem x_Pl_part_50 : DC b_Pl_part 50 (.bipush 20) 2 52 := ⟨by decide +kernel, rfl⟩
theorem x_Pl_part_52 : DC b_Pl_part 52 (.if_icmp .ge 49) 3 55 := ⟨by decide +kernel, rfl⟩
theorem x_Pl_part_55 : DC b_Pl_part 55 (.aload 4) 2 57 := ⟨by decide +kernel, rfl⟩
theorem x_Pl_part_57 : DC b_Pl_part 57 (.iload 9) 2 59 := ⟨by decide +kernel, rfl⟩
theorem x_Pl_part_59 : DC b_Pl_part 59 (.lload_n 1) 1 60 := ⟨by decide +kernel, rfl⟩
theorem x_Pl_part_60 : DC b_Pl_part 60 (.aload_n 3) 1 61 := ⟨by decide +kernel, rfl⟩
theorem x_Pl_part_61 : DC b_Pl_part 61 (.iload 9) 2 63 := ⟨by decide +kernel, rfl⟩
theorem x_Pl_part_63 : DC b_Pl_part 63 (.laload) 1 64 := ⟨by decide +kernel, rfl⟩
theorem x_Pl_part_64 : DC b_Pl_part 64 (.lmul) 1 65 := ⟨by decide +kernel, rfl⟩
theorem x_Pl_part_65 : DC b_Pl_part 65 (.lload 5) 2 67 := ⟨by decide +kernel, rfl⟩
theorem x_Pl_part_67 : DC b_Pl_part 67 (.ldiv) 1 68 := ⟨by decide +kernel, rfl⟩
theorem x_Pl_part_68 : DC b_Pl_part 68 (.lastore) 1 69 := ⟨by decide +kernel, rfl⟩
theorem x_Pl_part_69 : DC b_Pl_part 69 (.aload_n 0) 1 70 := ⟨by decide +kernel, rfl⟩
theorem x_Pl_part_70 : DC b_Pl_part 70 (.getfield 48) 3 73 := ⟨by decide +kernel, rfl⟩
theorem x_Pl_part_73 : DC b_Pl_part 73 (.iload 9) 2 75 := ⟨by decide +kernel, rfl⟩
theorem x_Pl_part_75 : DC b_Pl_part 75 (.lload_n 1) 1 76 := ⟨by decide +kernel, rfl⟩
theorem x_Pl_part_76 : DC b_Pl_part 76 (.aload_n 3) 1 77 := ⟨by decide +kernel, rfl⟩
theorem x_Pl_part_77 : DC b_Pl_part 77 (.iload 9) 2 79 := ⟨by decide +kernel, rfl⟩
theorem x_Pl_part_79 : DC b_Pl_part 79 (.laload) 1 80 := ⟨by decide +kernel, rfl⟩
theorem x_Pl_part_80 : DC b_Pl_part 80 (.lmul) 1 81 := ⟨by decide +kernel, rfl⟩
theorem x_Pl_part_81 : DC b_Pl_part 81 (.lload 5) 2 83 := ⟨by decide +kernel, rfl⟩
theorem x_Pl_part_83 : DC b_Pl_part 83 (.lrem) 1 84 := ⟨by decide +kernel, rfl⟩
theorem x_Pl_part_84 : DC b_Pl_part 84 (.lastore) 1 85 := ⟨by decide +kernel, rfl⟩
theorem x_Pl_part_85 : DC b_Pl_part 85 (.lload 7) 2 87 := ⟨by decide +kernel, rfl⟩
theorem x_Pl_part_87 : DC b_Pl_part 87 (.aload 4) 2 89 := ⟨by decide +kernel, rfl⟩
theorem x_Pl_part_89 : DC b_Pl_part 89 (.iload 9) 2 91 := ⟨by decide +kernel, rfl⟩
theorem x_Pl_part_91 : DC b_Pl_part 91 (.laload) 1 92 := ⟨by decide +kernel, rfl⟩
theorem x_Pl_part_92 : DC b_Pl_part 92 (.lsub) 1 93 := ⟨by decide +kernel, rfl⟩
theorem x_Pl_part_93 : DC b_Pl_part 93 (.lstore 7) 2 95 := ⟨by decide +kernel, rfl⟩
theorem x_Pl_part_95 : DC b_Pl_part 95 (.iinc 9 1) 3 98 := ⟨by decide +kernel, rfl⟩
theorem x_Pl_part_98 : DC b_Pl_part 98 (.goto (-50)) 3 101 := ⟨by decide +kernel, rfl⟩
theorem x_Pl_part_101 : DC b_Pl_part 101 (.iconst 0) 1 102 := ⟨by decide +kernel, rfl⟩
theorem x_Pl_part_102 : DC b_Pl_part 102 (.istore 9) 2 104 := ⟨by decide +kernel, rfl⟩
theorem x_Pl_part_104 : DC b_Pl_part 104 (.iload 9) 2 106 := ⟨by decide +kernel, rfl⟩
theorem x_Pl_part_106 : DC b_Pl_part 106 (.i2l) 1 107 := ⟨by decide +kernel, rfl⟩
theorem x_Pl_part_107 : DC b_Pl_part 107 (.lload 7) 2 109 := ⟨by decide +kernel, rfl⟩
theorem x_Pl_part_109 : DC b_Pl_part 109 (.lcmp) 1 110 := ⟨by decide +kernel, rfl⟩
theorem x_Pl_part_110 : DC b_Pl_part 110 (.ifCond .ge 44) 3 113 := ⟨by decide +kernel, rfl⟩
theorem x_Pl_part_113 : DC b_Pl_part 113 (.iload 9) 2 115 := ⟨by decide +kernel, rfl⟩
theorem x_Pl_part_115 : DC b_Pl_part 115 (.bipush 20) 2 117 := ⟨by decide +kernel, rfl⟩
theorem x_Pl_part_117 : DC b_Pl_part 117 (.if_icmp .ge 37) 3 120 := ⟨by decide +kernel, rfl⟩
theorem x_Pl_part_120 : DC b_Pl_part 120 (.aload_n 0) 1 121 := ⟨by decide +kernel, rfl⟩
theorem x_Pl_part_121 : DC b_Pl_part 121 (.getfield 48) 3 124 := ⟨by decide +kernel, rfl⟩
theorem x_Pl_part_124 : DC b_Pl_part 124 (.invokestatic 183) 3 127 := ⟨by decide +kernel, rfl⟩
theorem x_Pl_part_127 : DC b_Pl_part 127 (.istore 10) 2 129 := ⟨by decide +kernel, rfl⟩
theorem x_Pl_part_129 : DC b_Pl_part 129 (.aload 4) 2 131 := ⟨by decide +kernel, rfl⟩
theorem x_Pl_part_131 : DC b_Pl_part 131 (.iload 10) 2 133 := ⟨by decide +kernel, rfl⟩
theorem x_Pl_part_133 : DC b_Pl_part 133 (.dup2) 1 134 := ⟨by decide +kernel, rfl⟩
theorem x_Pl_part_134 : DC b_Pl_part 134 (.laload) 1 135 := ⟨by decide +kernel, rfl⟩
theorem x_Pl_part_135 : DC b_Pl_part 135 (.lconst 1) 1 136 := ⟨by decide +kernel, rfl⟩
theorem x_Pl_part_136 : DC b_Pl_part 136 (.ladd) 1 137 := ⟨by decide +kernel, rfl⟩
theorem x_Pl_part_137 : DC b_Pl_part 137 (.lastore) 1 138 := ⟨by decide +kernel, rfl⟩
theorem x_Pl_part_138 : DC b_Pl_part 138 (.aload_n 0) 1 139 := ⟨by decide +kernel, rfl⟩
theorem x_Pl_part_139 : DC b_Pl_part 139 (.getfield 48) 3 142 := ⟨by decide +kernel, rfl⟩
theorem x_Pl_part_142 : DC b_Pl_part 142 (.iload 10) 2 144 := ⟨by decide +kernel, rfl⟩
theorem x_Pl_part_144 : DC b_Pl_part 144 (.ldc2_w 187) 3 147 := ⟨by decide +kernel, rfl⟩
theorem x_Pl_part_147 : DC b_Pl_part 147 (.lastore) 1 148 := ⟨by decide +kernel, rfl⟩
theorem x_Pl_part_148 : DC b_Pl_part 148 (.iinc 9 1) 3 151 := ⟨by decide +kernel, rfl⟩
theorem x_Pl_part_151 : DC b_Pl_part 151 (.goto (-47)) 3 154 := ⟨by decide +kernel, rfl⟩
theorem x_Pl_part_154 : DC b_Pl_part 154 (.return_) 1 155 := ⟨by decide +kernel, rfl⟩
def k_Pl_part_104 (k3 : Nat) (k4 : Nat) (R104 : Int → Int → Mem → Res) (a7 a9 : Int) (M : Mem) : Res := if w64 (w32 a9) < w64 a7 then (if w32 a9 < 20 then (bcall (d_Pl_placeOfGreatest 87 M) fun v3 M4 => chk (0 ≤ w32 v3 ∧ w32 v3 < 20) <| blet (M4 k4 (ix v3)) fun v6 => chk (0 ≤ w32 v3 ∧ w32 v3 < 20) <| blet (sto M4 k4 (ix v3) (v6 + 1)) fun M8 => chk (0 ≤ w32 v3 ∧ w32 v3 < 20) <| blet (sto M8 87 (ix v3) (-1)) fun M10 => blet (a9 + 1) fun v11 => R104 a7 v11 M10) else (some (0, M))) else (some (0, M))
theorem z_Pl_part_104 (C : Cx p s m args meth c G b_Pl_part 11 "PrairiePool$Play" none) (hlev : 1 ≤ lev) {k3 : Nat} {k4 : Nat} (nk3 : k3 < NC) (ck3 : ck k3 = (2, 0, 20)) (nk4 : k4 < NC) (ck4 : ck k4 = (2, 0, 20)) {r : Int × Mem} {R104 : Int → Int → Mem → Res} (hR104 : ∀ (a7 a9 : Int) (M : Mem), R104 a7 a9 M = some r → Z p l e lev s m args below meth c G 11 (MQ below (Qm G 0 r) args s 0 0 (Ab G)) M 104 [(0, .ref (G.1 + 75)), (4, .ref (G.1 + k4)), (7, vl a7), (9, vi a9)] []) {a7 a9 : Int} {M : Mem} (h : k_Pl_part_104 k3 k4 R104 a7 a9 M = some r) : Z p l e lev s m args below meth c G 11 (MQ below (Qm G 0 r) args s 0 0 (Ab G)) M 104 [(0, .ref (G.1 + 75)), (4, .ref (G.1 + k4)), (7, vl a7), (9, vi a9)] [] := by
  unfold k_Pl_part_104 at h
  refine z_iload C 3 x_Pl_part_104 rfl ?_
  refine z_i2l C x_Pl_part_106 ?_
  refine z_lload C 2 x_Pl_part_107 rfl ?_
  refine z_lcmp C x_Pl_part_109 ?_
  rcases ite_e h with ⟨c1, h⟩ | ⟨c1, h⟩
  · refine z_if_ge_f (tgt := 154) C x_Pl_part_110 rfl (cm_lt.mpr c1) ?_
    refine z_iload C 3 x_Pl_part_113 rfl ?_
    refine z_bipush C rfl x_Pl_part_115 ?_
    rcases ite_e h with ⟨c2, h⟩ | ⟨c2, h⟩
    · refine z_icmp_ge_f (tgt := 154) C x_Pl_part_117 rfl c2 ?_
      refine z_aload_n C 0 x_Pl_part_120 rfl ?_
      refine z_getR (j := 17) C x_Pl_part_121 nk_75 ck_75 cw_6 (i_lt rfl) rfl rf_75_17 rfl fl_Pl_48 ?_
      obtain ⟨v3, M4, fv3, h⟩ := bcall_e h
      refine z_callSi C x_Pl_part_124 cs_Pl_183 (t_Pl_placeOfGreatest (lev := lev - 1) l G (by omega) nk_87 ck_87 fv3) (by omega) rfl (i_le rfl) rfl ?_
      refine z_istore (lv' := [(10, vi v3), (0, .ref (G.1 + 75)), (4, .ref (G.1 + k4)), (7, vl a7), (9, vi a9)]) C rfl x_Pl_part_127 (i_lt rfl) rfl ?_
      refine z_aload C 2 x_Pl_part_129 rfl ?_
      refine z_iload C 0 x_Pl_part_131 rfl ?_
      refine z_dup2 C x_Pl_part_133 rfl rfl ?_
      obtain ⟨c5, h⟩ := chk_e h
      obtain ⟨v6, ev6, h⟩ := blet_e h
      refine z_lald C x_Pl_part_134 nk4 ck4 c5 ev6 ?_
      refine z_lconst1 C x_Pl_part_135 ?_
      refine z_ladd C x_Pl_part_136 ?_
      obtain ⟨c7, h⟩ := chk_e h
      obtain ⟨M8, eM8, h⟩ := blet_e h
      refine z_last C x_Pl_part_137 nk4 ck4 c7 eM8 ?_
      refine z_aload_n C 1 x_Pl_part_138 rfl ?_
      refine z_getR (j := 17) C x_Pl_part_139 nk_75 ck_75 cw_6 (i_lt rfl) rfl rf_75_17 rfl fl_Pl_48 ?_
      refine z_iload C 0 x_Pl_part_142 rfl ?_
      refine z_ldc2 C kl_Pl_187 x_Pl_part_144 ?_
      obtain ⟨c9, h⟩ := chk_e h
      obtain ⟨M10, eM10, h⟩ := blet_e h
      refine z_last C x_Pl_part_147 nk_87 ck_87 c9 eM10 ?_
      obtain ⟨v11, ev11, h⟩ := blet_e h
      refine z_iinc (lv' := [(9, vi v11), (10, vi v3), (0, .ref (G.1 + 75)), (4, .ref (G.1 + k4)), (7, vl a7)]) C 4 ev11 x_Pl_part_148 rfl (i_lt rfl) rfl ?_
      refine z_goto (tgt := 104) C x_Pl_part_151 rfl ?_
      exact z_sub [2, 3, 4, 0] rfl (hR104 a7 v11 M10 h)
    · refine z_icmp_ge_t (tgt := 154) C x_Pl_part_117 rfl c2 ?_
      exact z_vret C x_Pl_part_154 h
  · refine z_if_ge_t (tgt := 154) C x_Pl_part_110 rfl (fun q => c1 (cm_lt.mp q)) ?_
    exact z_vret C x_Pl_part_154 h
theorem zl_Pl_part_104 (C : Cx p s m args meth c G b_Pl_part 11 "PrairiePool$Play" none) (hlev : 1 ≤ lev) {k3 : Nat} {k4 : Nat} (nk3 : k3 < NC) (ck3 : ck k3 = (2, 0, 20)) (nk4 : k4 < NC) (ck4 : ck k4 = (2, 0, 20)) {r : Int × Mem}  : ∀ (n : Nat) (a7 a9 : Int) (M : Mem), fix (fun _ _ _ => none) (k_Pl_part_104 k3 k4) n a7 a9 M = some r → Z p l e lev s m args below meth c G 11 (MQ below (Qm G 0 r) args s 0 0 (Ab G)) M 104 [(0, .ref (G.1 + 75)), (4, .ref (G.1 + k4)), (7, vl a7), (9, vi a9)] [] := by
  intro n
  induction n with
  | zero => intro a7 a9 M h; exact nomatch (show (none : Res) = some r from h)
  | succ n ih => intro a7 a9 M h; exact z_Pl_part_104 C hlev nk3 ck3 nk4 ck4 ih h
def k_Pl_part_48 (k3 : Nat) (k4 : Nat) (R48 : Int → Int → Int → Int → Mem → Res) (a1 a5 a7 a9 : Int) (M : Mem) : Res := if w32 a9 < 20 then (chk (0 ≤ w32 a9 ∧ w32 a9 < 20) <| blet (M k3 (ix a9)) fun v3 => chk (¬ w64 a5 = 0) <| chk (0 ≤ w32 a9 ∧ w32 a9 < 20) <| blet (sto M k4 (ix a9) (dv64 (a1 * v3) a5)) fun M6 => chk (0 ≤ w32 a9 ∧ w32 a9 < 20) <| blet (M6 k3 (ix a9)) fun v8 => chk (¬ w64 a5 = 0) <| chk (0 ≤ w32 a9 ∧ w32 a9 < 20) <| blet (sto M6 87 (ix a9) (rm64 (a1 * v8) a5)) fun M11 => chk (0 ≤ w32 a9 ∧ w32 a9 < 20) <| blet (M11 k4 (ix a9)) fun v13 => blet (a7 - v13) fun v14 => blet (a9 + 1) fun v15 => R48 a1 a5 v14 v15 M11) else (fix (fun _ _ _ => none) (k_Pl_part_104 k3 k4) FU a7 0 M)
theorem z_Pl_part_48 (C : Cx p s m args meth c G b_Pl_part 11 "PrairiePool$Play" none) (hlev : 1 ≤ lev) {k3 : Nat} {k4 : Nat} (nk3 : k3 < NC) (ck3 : ck k3 = (2, 0, 20)) (nk4 : k4 < NC) (ck4 : ck k4 = (2, 0, 20)) {r : Int × Mem} {R48 : Int → Int → Int → Int → Mem → Res} (hR48 : ∀ (a1 a5 a7 a9 : Int) (M : Mem), R48 a1 a5 a7 a9 M = some r → Z p l e lev s m args below meth c G 11 (MQ below (Qm G 0 r) args s 0 0 (Ab G)) M 48 [(0, .ref (G.1 + 75)), (1, vl a1), (3, .ref (G.1 + k3)), (4, .ref (G.1 + k4)), (5, vl a5), (7, vl a7), (9, vi a9)] []) {a1 a5 a7 a9 : Int} {M : Mem} (h : k_Pl_part_48 k3 k4 R48 a1 a5 a7 a9 M = some r) : Z p l e lev s m args below meth c G 11 (MQ below (Qm G 0 r) args s 0 0 (Ab G)) M 48 [(0, .ref (G.1 + 75)), (1, vl a1), (3, .ref (G.1 + k3)), (4, .ref (G.1 + k4)), (5, vl a5), (7, vl a7), (9, vi a9)] [] := by
  unfold k_Pl_part_48 at h
  refine z_iload C 6 x_Pl_part_48 rfl ?_
  refine z_bipush C rfl x_Pl_part_50 ?_
  rcases ite_e h with ⟨c1, h⟩ | ⟨c1, h⟩
  · refine z_icmp_ge_f (tgt := 101) C x_Pl_part_52 rfl c1 ?_
    refine z_aload C 3 x_Pl_part_55 rfl ?_
    refine z_iload C 6 x_Pl_part_57 rfl ?_
    refine z_lload_n C 1 x_Pl_part_59 rfl ?_
    refine z_aload_n C 2 x_Pl_part_60 rfl ?_
    refine z_iload C 6 x_Pl_part_61 rfl ?_
    obtain ⟨c2, h⟩ := chk_e h
    obtain ⟨v3, ev3, h⟩ := blet_e h
    refine z_lald C x_Pl_part_63 nk3 ck3 c2 ev3 ?_
    refine z_lmul C x_Pl_part_64 ?_
    refine z_lload C 4 x_Pl_part_65 rfl ?_
    obtain ⟨c4, h⟩ := chk_e h
    refine z_ldiv C c4 x_Pl_part_67 ?_
    obtain ⟨c5, h⟩ := chk_e h
    obtain ⟨M6, eM6, h⟩ := blet_e h
    refine z_last C x_Pl_part_68 nk4 ck4 c5 eM6 ?_
    refine z_aload_n C 0 x_Pl_part_69 rfl ?_
    refine z_getR (j := 17) C x_Pl_part_70 nk_75 ck_75 cw_6 (i_lt rfl) rfl rf_75_17 rfl fl_Pl_48 ?_
    refine z_iload C 6 x_Pl_part_73 rfl ?_
    refine z_lload_n C 1 x_Pl_part_75 rfl ?_
    refine z_aload_n C 2 x_Pl_part_76 rfl ?_
    refine z_iload C 6 x_Pl_part_77 rfl ?_
    obtain ⟨c7, h⟩ := chk_e h
    obtain ⟨v8, ev8, h⟩ := blet_e h
    refine z_lald C x_Pl_part_79 nk3 ck3 c7 ev8 ?_
    refine z_lmul C x_Pl_part_80 ?_
    refine z_lload C 4 x_Pl_part_81 rfl ?_
    obtain ⟨c9, h⟩ := chk_e h
    refine z_lrem C c9 x_Pl_part_83 ?_
    obtain ⟨c10, h⟩ := chk_e h
    obtain ⟨M11, eM11, h⟩ := blet_e h
    refine z_last C x_Pl_part_84 nk_87 ck_87 c10 eM11 ?_
    refine z_lload C 5 x_Pl_part_85 rfl ?_
    refine z_aload C 3 x_Pl_part_87 rfl ?_
    refine z_iload C 6 x_Pl_part_89 rfl ?_
    obtain ⟨c12, h⟩ := chk_e h
    obtain ⟨v13, ev13, h⟩ := blet_e h
    refine z_lald C x_Pl_part_91 nk4 ck4 c12 ev13 ?_
    refine z_lsub C x_Pl_part_92 ?_
    obtain ⟨v14, ev14, h⟩ := blet_e h
    refine z_lstore (lv' := [(7, vl v14), (0, .ref (G.1 + 75)), (1, vl a1), (3, .ref (G.1 + k3)), (4, .ref (G.1 + k4)), (5, vl a5), (9, vi a9)]) C ev14 x_Pl_part_93 (i_lt rfl) rfl ?_
    obtain ⟨v15, ev15, h⟩ := blet_e h
    refine z_iinc (lv' := [(9, vi v15), (7, vl v14), (0, .ref (G.1 + 75)), (1, vl a1), (3, .ref (G.1 + k3)), (4, .ref (G.1 + k4)), (5, vl a5)]) C 6 ev15 x_Pl_part_95 rfl (i_lt rfl) rfl ?_
    refine z_goto (tgt := 48) C x_Pl_part_98 rfl ?_
    exact z_sub [2, 3, 4, 5, 6, 1, 0] rfl (hR48 a1 a5 v14 v15 M11 h)
  · refine z_icmp_ge_t (tgt := 101) C x_Pl_part_52 rfl c1 ?_
    refine z_iconst C x_Pl_part_101 ?_
    refine z_istore (lv' := [(9, vi 0), (0, .ref (G.1 + 75)), (1, vl a1), (3, .ref (G.1 + k3)), (4, .ref (G.1 + k4)), (5, vl a5), (7, vl a7)]) C rfl x_Pl_part_102 (i_lt rfl) rfl ?_
    exact z_sub [1, 4, 6, 0] rfl (zl_Pl_part_104 C hlev nk3 ck3 nk4 ck4 FU a7 0 M h)
theorem zl_Pl_part_48 (C : Cx p s m args meth c G b_Pl_part 11 "PrairiePool$Play" none) (hlev : 1 ≤ lev) {k3 : Nat} {k4 : Nat} (nk3 : k3 < NC) (ck3 : ck k3 = (2, 0, 20)) (nk4 : k4 < NC) (ck4 : ck k4 = (2, 0, 20)) {r : Int × Mem}  : ∀ (n : Nat) (a1 a5 a7 a9 : Int) (M : Mem), fix (fun _ _ _ _ _ => none) (k_Pl_part_48 k3 k4) n a1 a5 a7 a9 M = some r → Z p l e lev s m args below meth c G 11 (MQ below (Qm G 0 r) args s 0 0 (Ab G)) M 48 [(0, .ref (G.1 + 75)), (1, vl a1), (3, .ref (G.1 + k3)), (4, .ref (G.1 + k4)), (5, vl a5), (7, vl a7), (9, vi a9)] [] := by
  intro n
  induction n with
  | zero => intro a1 a5 a7 a9 M h; exact nomatch (show (none : Res) = some r from h)
  | succ n ih => intro a1 a5 a7 a9 M h; exact z_Pl_part_48 C hlev nk3 ck3 nk4 ck4 ih h
def k_Pl_part_6 (k3 : Nat) (k4 : Nat) (R6 : Int → Int → Int → Mem → Res) (a1 a5 a7 : Int) (M : Mem) : Res := if w32 a7 < 20 then (chk (0 ≤ w32 a7 ∧ w32 a7 < 20) <| blet (M k3 (ix a7)) fun v3 => blet (a5 + v3) fun v4 => chk (0 ≤ w32 a7 ∧ w32 a7 < 20) <| blet (sto M k4 (ix a7) 0) fun M6 => blet (a7 + 1) fun v7 => R6 a1 v4 v7 M6) else (if 0 < w64 a5 then (fix (fun _ _ _ _ _ => none) (k_Pl_part_48 k3 k4) FU a1 a5 a1 0 M) else (some (0, M)))
theorem z_Pl_part_6 (C : Cx p s m args meth c G b_Pl_part 11 "PrairiePool$Play" none) (hlev : 1 ≤ lev) {k3 : Nat} {k4 : Nat} (nk3 : k3 < NC) (ck3 : ck k3 = (2, 0, 20)) (nk4 : k4 < NC) (ck4 : ck k4 = (2, 0, 20)) {r : Int × Mem} {R6 : Int → Int → Int → Mem → Res} (hR6 : ∀ (a1 a5 a7 : Int) (M : Mem), R6 a1 a5 a7 M = some r → Z p l e lev s m args below meth c G 11 (MQ below (Qm G 0 r) args s 0 0 (Ab G)) M 6 [(0, .ref (G.1 + 75)), (1, vl a1), (3, .ref (G.1 + k3)), (4, .ref (G.1 + k4)), (5, vl a5), (7, vi a7)] []) {a1 a5 a7 : Int} {M : Mem} (h : k_Pl_part_6 k3 k4 R6 a1 a5 a7 M = some r) : Z p l e lev s m args below meth c G 11 (MQ below (Qm G 0 r) args s 0 0 (Ab G)) M 6 [(0, .ref (G.1 + 75)), (1, vl a1), (3, .ref (G.1 + k3)), (4, .ref (G.1 + k4)), (5, vl a5), (7, vi a7)] [] := by
  unfold k_Pl_part_6 at h
  refine z_iload C 5 x_Pl_part_6 rfl ?_
  refine z_bipush C rfl x_Pl_part_8 ?_
  rcases ite_e h with ⟨c1, h⟩ | ⟨c1, h⟩
  · refine z_icmp_ge_f (tgt := 34) C x_Pl_part_10 rfl c1 ?_
    refine z_lload C 4 x_Pl_part_13 rfl ?_
    refine z_aload_n C 2 x_Pl_part_15 rfl ?_
    refine z_iload C 5 x_Pl_part_16 rfl ?_
    obtain ⟨c2, h⟩ := chk_e h
    obtain ⟨v3, ev3, h⟩ := blet_e h
    refine z_lald C x_Pl_part_18 nk3 ck3 c2 ev3 ?_
    refine z_ladd C x_Pl_part_19 ?_
    obtain ⟨v4, ev4, h⟩ := blet_e h
    refine z_lstore (lv' := [(5, vl v4), (0, .ref (G.1 + 75)), (1, vl a1), (3, .ref (G.1 + k3)), (4, .ref (G.1 + k4)), (7, vi a7)]) C ev4 x_Pl_part_20 (i_lt rfl) rfl ?_
    refine z_aload C 4 x_Pl_part_22 rfl ?_
    refine z_iload C 5 x_Pl_part_24 rfl ?_
    refine z_lconst0 C x_Pl_part_26 ?_
    obtain ⟨c5, h⟩ := chk_e h
    obtain ⟨M6, eM6, h⟩ := blet_e h
    refine z_last C x_Pl_part_27 nk4 ck4 c5 eM6 ?_
    obtain ⟨v7, ev7, h⟩ := blet_e h
    refine z_iinc (lv' := [(7, vi v7), (5, vl v4), (0, .ref (G.1 + 75)), (1, vl a1), (3, .ref (G.1 + k3)), (4, .ref (G.1 + k4))]) C 5 ev7 x_Pl_part_28 rfl (i_lt rfl) rfl ?_
    refine z_goto (tgt := 6) C x_Pl_part_31 rfl ?_
    exact z_sub [2, 3, 4, 5, 1, 0] rfl (hR6 a1 v4 v7 M6 h)
  · refine z_icmp_ge_t (tgt := 34) C x_Pl_part_10 rfl c1 ?_
    refine z_lload C 4 x_Pl_part_34 rfl ?_
    refine z_lconst0 C x_Pl_part_36 ?_
    refine z_lcmp C x_Pl_part_37 ?_
    rcases ite_e h with ⟨c8, h⟩ | ⟨c8, h⟩
    · refine z_if_gt_t (tgt := 42) C x_Pl_part_38 rfl (cm_gt.mpr c8) ?_
      refine z_lload_n C 1 x_Pl_part_42 rfl ?_
      refine z_lstore (lv' := [(7, vl a1), (0, .ref (G.1 + 75)), (1, vl a1), (3, .ref (G.1 + k3)), (4, .ref (G.1 + k4)), (5, vl a5)]) C rfl x_Pl_part_43 (i_lt rfl) rfl ?_
      refine z_iconst C x_Pl_part_45 ?_
      refine z_istore (lv' := [(9, vi 0), (7, vl a1), (0, .ref (G.1 + 75)), (1, vl a1), (3, .ref (G.1 + k3)), (4, .ref (G.1 + k4)), (5, vl a5)]) C rfl x_Pl_part_46 (i_lt rfl) rfl ?_
      exact z_sub [2, 3, 4, 5, 6, 1, 0] rfl (zl_Pl_part_48 C hlev nk3 ck3 nk4 ck4 FU a1 a5 a1 0 M h)
    · refine z_if_gt_f (tgt := 42) C x_Pl_part_38 rfl (fun q => c8 (cm_gt.mp q)) ?_
      exact z_vret C x_Pl_part_41 h
theorem zl_Pl_part_6 (C : Cx p s m args meth c G b_Pl_part 11 "PrairiePool$Play" none) (hlev : 1 ≤ lev) {k3 : Nat} {k4 : Nat} (nk3 : k3 < NC) (ck3 : ck k3 = (2, 0, 20)) (nk4 : k4 < NC) (ck4 : ck k4 = (2, 0, 20)) {r : Int × Mem}  : ∀ (n : Nat) (a1 a5 a7 : Int) (M : Mem), fix (fun _ _ _ _ => none) (k_Pl_part_6 k3 k4) n a1 a5 a7 M = some r → Z p l e lev s m args below meth c G 11 (MQ below (Qm G 0 r) args s 0 0 (Ab G)) M 6 [(0, .ref (G.1 + 75)), (1, vl a1), (3, .ref (G.1 + k3)), (4, .ref (G.1 + k4)), (5, vl a5), (7, vi a7)] [] := by
  intro n
  induction n with
  | zero => intro a1 a5 a7 M h; exact nomatch (show (none : Res) = some r from h)
  | succ n ih => intro a1 a5 a7 M h; exact z_Pl_part_6 C hlev nk3 ck3 nk4 ck4 ih h
def d_Pl_part (k3 : Nat) (k4 : Nat) (a1 : Int) (M : Mem) : Res := fix (fun _ _ _ _ => none) (k_Pl_part_6 k3 k4) FU a1 0 0 M
theorem t_Pl_part (l : Launch) (G : GX) {lev : Nat} (hlev : 1 ≤ lev) {k3 : Nat} {k4 : Nat} (nk3 : k3 < NC) (ck3 : ck k3 = (2, 0, 20)) (nk4 : k4 < NC) (ck4 : ck k4 = (2, 0, 20)) {a1 : Int} {M : Mem} {r : Int × Mem} (h : d_Pl_part k3 k4 a1 M = some r) : Mt l G y_Pl_part b_Pl_part 11 none lev 0 [.ref (G.1 + 75), vl a1, .ref (G.1 + k3), .ref (G.1 + k4)] M r := by
  refine Mt.of (by decide) (i_le rfl) ?_
  intro p e s m args below meth c C
  have C : Cx p s m args meth c G b_Pl_part 11 "PrairiePool$Play" none := C
  unfold d_Pl_part at h
  refine z_sub (lv' := [(0, .ref (G.1 + 75)), (1, vl a1), (3, .ref (G.1 + k3)), (4, .ref (G.1 + k4))]) [0, 1, 2, 3] rfl ?_
  refine z_lconst0 C x_Pl_part_0 ?_
  refine z_lstore (lv' := [(5, vl 0), (0, .ref (G.1 + 75)), (1, vl a1), (3, .ref (G.1 + k3)), (4, .ref (G.1 + k4))]) C rfl x_Pl_part_1 (i_lt rfl) rfl ?_
  refine z_iconst C x_Pl_part_3 ?_
  refine z_istore (lv' := [(7, vi 0), (5, vl 0), (0, .ref (G.1 + 75)), (1, vl a1), (3, .ref (G.1 + k3)), (4, .ref (G.1 + k4))]) C rfl x_Pl_part_4 (i_lt rfl) rfl ?_
  exact z_sub [2, 3, 4, 5, 1, 0] rfl (zl_Pl_part_6 C hlev nk3 ck3 nk4 ck4 FU a1 0 0 M h)
theorem x_Pl_takeParts_0 : DC b_Pl_takeParts 0 (.aload_n 0) 1 1 := ⟨by decide +kernel, rfl⟩
theorem x_Pl_takeParts_1 : DC b_Pl_takeParts 1 (.getfield 55) 3 4 := ⟨by decide +kernel, rfl⟩
theorem x_Pl_takeParts_4 : DC b_Pl_takeParts 4 (.getfield 164) 3 7 := ⟨by decide +kernel, rfl⟩
theorem x_Pl_takeParts_7 : DC b_Pl_takeParts 7 (.iload_n 1) 1 8 := ⟨by decide +kernel, rfl⟩
theorem x_Pl_takeParts_8 : DC b_Pl_takeParts 8 (.iaload) 1 9 := ⟨by decide +kernel, rfl⟩
theorem x_Pl_takeParts_9 : DC b_Pl_takeParts 9 (.istore_n 3) 1 10 := ⟨by decide +kernel, rfl⟩
theorem x_Pl_takeParts_10 : DC b_Pl_takeParts 10 (.iload_n 3) 1 11 := ⟨by decide +kernel, rfl⟩
theorem x_Pl_takeParts_11 : DC b_Pl_takeParts 11 (.aload_n 0) 1 12 := ⟨by decide +kernel, rfl⟩
theorem x_Pl_takeParts_12 : DC b_Pl_takeParts 12 (.iload_n 2) 1 13 := ⟨by decide +kernel, rfl⟩
theorem x_Pl_takeParts_13 : DC b_Pl_takeParts 13 (.iconst (-1)) 1 14 := ⟨by decide +kernel, rfl⟩
theorem x_Pl_takeParts_14 : DC b_Pl_takeParts 14 (.invokevirtual 167) 3 17 := ⟨by decide +kernel, rfl⟩
theorem x_Pl_takeParts_17 : DC b_Pl_takeParts 17 (.invokestatic 155) 3 20 := ⟨by decide +kernel, rfl⟩
theorem x_Pl_takeParts_20 : DC b_Pl_takeParts 20 (.istore 4) 2 22 := ⟨by decide +kernel, rfl⟩
theorem x_Pl_takeParts_22 : DC b_Pl_takeParts 22 (.aload_n 0) 1 23 := ⟨by decide +kernel, rfl⟩
theorem x_Pl_takeParts_23 : DC b_Pl_takeParts 23 (.getfield 13) 3 26 := ⟨by decide +kernel, rfl⟩
theorem x_Pl_takeParts_26 : DC b_Pl_takeParts 26 (.iload_n 1) 1 27 := ⟨by decide +kernel, rfl⟩
theorem x_Pl_takeParts_27 : DC b_Pl_takeParts 27 (.iload 4) 2 29 := ⟨by decide +kernel, rfl⟩
theorem x_Pl_takeParts_29 : DC b_Pl_takeParts 29 (.iastore) 1 30 := ⟨by decide +kernel, rfl⟩
theorem x_Pl_takeParts_30 : DC b_Pl_takeParts 30 (.aload_n 0) 1 31 := ⟨by decide +kernel, rfl⟩
theorem x_Pl_takeParts_31 : DC b_Pl_takeParts 31 (.dup) 1 32 := ⟨by decide +kernel, rfl⟩
theorem x_Pl_takeParts_32 : DC b_Pl_takeParts 32 (.getfield 93) 3 35 := ⟨by decide +kernel, rfl⟩
theorem x_Pl_takeParts_35 : DC b_Pl_takeParts 35 (.iload_n 3) 1 36 := ⟨by decide +kernel, rfl⟩
theorem x_Pl_takeParts_36 : DC b_Pl_takeParts 36 (.iload 4) 2 38 := ⟨by decide +kernel, rfl⟩
theorem x_Pl_takeParts_38 : DC b_Pl_takeParts 38 (.isub) 1 39 := ⟨by decide +kernel, rfl⟩
theorem x_Pl_takeParts_39 : DC b_Pl_takeParts 39 (.iadd) 1 40 := ⟨by decide +kernel, rfl⟩
theorem x_Pl_takeParts_40 : DC b_Pl_takeParts 40 (.putfield 93) 3 43 := ⟨by decide +kernel, rfl⟩
theorem x_Pl_takeParts_43 : DC b_Pl_takeParts 43 (.aload_n 0) 1 44 := ⟨by decide +kernel, rfl⟩
theorem x_Pl_takeParts_44 : DC b_Pl_takeParts 44 (.getfield 45) 3 47 := ⟨by decide +kernel, rfl⟩
theorem x_Pl_takeParts_47 : DC b_Pl_takeParts 47 (.lconst 0) 1 48 := ⟨by decide +kernel, rfl⟩
theorem x_Pl_takeParts_48 : DC b_Pl_takeParts 48 (.invokestatic 170) 3 51 := ⟨by decide +kernel, rfl⟩
theorem x_Pl_takeParts_51 : DC b_Pl_takeParts 51 (.aload_n 0) 1 52 := ⟨by decide +kernel, rfl⟩
theorem x_Pl_takeParts_52 : DC b_Pl_takeParts 52 (.getfield 29) 3 55 := ⟨by decide +kernel, rfl⟩
theorem x_Pl_takeParts_55 : DC b_Pl_takeParts 55 (.iload_n 2) 1 56 := ⟨by decide +kernel, rfl⟩
theorem x_Pl_takeParts_56 : DC b_Pl_takeParts 56 (.iaload) 1 57 := ⟨by decide +kernel, rfl⟩
theorem x_Pl_takeParts_57 : DC b_Pl_takeParts 57 (.istore 5) 2 59 := ⟨by decide +kernel, rfl⟩
theorem x_Pl_takeParts_59 : DC b_Pl_takeParts 59 (.iload 5) 2 61 := ⟨by decide +kernel, rfl⟩
theorem x_Pl_takeParts_61 : DC b_Pl_takeParts 61 (.iconst (-1)) 1 62 := ⟨by decide +kernel, rfl⟩
theorem x_Pl_takeParts_62 : DC b_Pl_takeParts 62 (.if_icmp .ne 4) 3 65 := ⟨by decide +kernel, rfl⟩
theorem x_Pl_takeParts_65 : DC b_Pl_takeParts 65 (.return_) 1 66 := ⟨by decide +kernel, rfl⟩
theorem x_Pl_takeParts_66 : DC b_Pl_takeParts 66 (.aload_n 0) 1 67 := ⟨by decide +kernel, rfl⟩
theorem x_Pl_takeParts_67 : DC b_Pl_takeParts 67 (.getfield 32) 3 70 := ⟨by decide +kernel, rfl⟩
theorem x_Pl_takeParts_70 : DC b_Pl_takeParts 70 (.iload 5) 2 72 := ⟨by decide +kernel, rfl⟩
theorem x_Pl_takeParts_72 : DC b_Pl_takeParts 72 (.bipush 20) 2 74 := ⟨by decide +kernel, rfl⟩
theorem x_Pl_takeParts_74 : DC b_Pl_takeParts 74 (.imul) 1 75 := ⟨by decide +kernel, rfl⟩
theorem x_Pl_takeParts_75 : DC b_Pl_takeParts 75 (.aload_n 0) 1 76 := ⟨by decide +kernel, rfl⟩
theorem x_Pl_takeParts_76 : DC b_Pl_takeParts 76 (.getfield 42) 3 79 := ⟨by decide +kernel, rfl⟩
theorem x_Pl_takeParts_79 : DC b_Pl_takeParts 79 (.iconst 0) 1 80 := ⟨by decide +kernel, rfl⟩
theorem x_Pl_takeParts_80 : DC b_Pl_takeParts 80 (.bipush 20) 2 82 := ⟨by decide +kernel, rfl⟩
theorem x_Pl_takeParts_82 : DC b_Pl_takeParts 82 (.invokestatic 173) 3 85 := ⟨by decide +kernel, rfl⟩
theorem x_Pl_takeParts_85 : DC b_Pl_takeParts 85 (.aload_n 0) 1 86 := ⟨by decide +kernel, rfl⟩
theorem x_Pl_takeParts_86 : DC b_Pl_takeParts 86 (.iload 4) 2 88 := ⟨by decide +kernel, rfl⟩
theorem x_Pl_takeParts_88 : DC b_Pl_takeParts 88 (.i2l) 1 89 := ⟨by decide +kernel, rfl⟩
theorem x_Pl_takeParts_89 : DC b_Pl_takeParts 89 (.aload_n 0) 1 90 := ⟨by decide +kernel, rfl⟩
theorem x_Pl_takeParts_90 : DC b_Pl_takeParts 90 (.getfield 42) 3 93 := ⟨by decide +kernel, rfl⟩
theorem x_Pl_takeParts_93 : DC b_Pl_takeParts 93 (.aload_n 0) 1 94 := ⟨by decide +kernel, rfl⟩
theorem x_Pl_takeParts_94 : DC b_Pl_takeParts 94 (.getfield 45) 3 97 := ⟨by decide +kernel, rfl⟩
theorem x_Pl_takeParts_97 : DC b_Pl_takeParts 97 (.invokevirtual 179) 3 100 := ⟨by decide +kernel, rfl⟩
theorem x_Pl_takeParts_100 : DC b_Pl_takeParts 100 (.iconst 0) 1 101 := ⟨by decide +kernel, rfl⟩
theorem x_Pl_takeParts_101 : DC b_Pl_takeParts 101 (.istore 6) 2 103 := ⟨by decide +kernel, rfl⟩
theorem x_Pl_takeParts_103 : DC b_Pl_takeParts 103 (.iload 6) 2 105 := ⟨by decide +kernel, rfl⟩
theorem x_Pl_takeParts_105 : DC b_Pl_takeParts 105 (.bipush 20) 2 107 := ⟨by decide +kernel, rfl⟩
theorem x_Pl_takeParts_107 : DC b_Pl_takeParts 107 (.if_icmp .ge 32) 3 110 := ⟨by decide +kernel, rfl⟩
theorem x_Pl_takeParts_110 : DC b_Pl_takeParts 110 (.aload_n 0) 1 111 := ⟨by decide +kernel, rfl⟩
theorem x_Pl_takeParts_111 : DC b_Pl_takeParts 111 (.getfield 32) 3 114 := ⟨by decide +kernel, rfl⟩
theorem x_Pl_takeParts_114 : DC b_Pl_takeParts 114 (.iload 5) 2 116 := ⟨by decide +kernel, rfl⟩
theorem x_Pl_takeParts_116 : DC b_Pl_takeParts 116 (.bipush 20) 2 118 := ⟨by decide +kernel, rfl⟩
theorem x_Pl_takeParts_118 : DC b_Pl_takeParts 118 (.imul) 1 119 := ⟨by decide +kernel, rfl⟩
theorem x_Pl_takeParts_119 : DC b_Pl_takeParts 119 (.iload 6) 2 121 := ⟨by decide +kernel, rfl⟩
theorem x_Pl_takeParts_121 : DC b_Pl_takeParts 121 (.iadd) 1 122 := ⟨by decide +kernel, rfl⟩
theorem x_Pl_takeParts_122 : DC b_Pl_takeParts 122 (.dup2) 1 123 := ⟨by decide +kernel, rfl⟩
theorem x_Pl_takeParts_123 : DC b_Pl_takeParts 123 (.laload) 1 124 := ⟨by decide +kernel, rfl⟩
theorem x_Pl_takeParts_124 : DC b_Pl_takeParts 124 (.aload_n 0) 1 125 := ⟨by decide +kernel, rfl⟩
theorem x_Pl_takeParts_125 : DC b_Pl_takeParts 125 (.getfield 45) 3 128 := ⟨by decide +kernel, rfl⟩
theorem x_Pl_takeParts_128 : DC b_Pl_takeParts 128 (.iload 6) 2 130 := ⟨by decide +kernel, rfl⟩
theorem x_Pl_takeParts_130 : DC b_Pl_takeParts 130 (.laload) 1 131 := ⟨by decide +kernel, rfl⟩
theorem x_Pl_takeParts_131 : DC b_Pl_takeParts 131 (.lsub) 1 132 := ⟨by decide +kernel, rfl⟩
theorem x_Pl_takeParts_132 : DC b_Pl_takeParts 132 (.lastore) 1 133 := ⟨by decide +kernel, rfl⟩
theorem x_Pl_takeParts_133 : DC b_Pl_takeParts 133 (.iinc 6 1) 3 136 := ⟨by decide +kernel, rfl⟩
theorem x_Pl_takeParts_136 : DC b_Pl_takeParts 136 (.goto (-33)) 3 139 := ⟨by decide +kernel, rfl⟩
theorem x_Pl_takeParts_139 : DC b_Pl_takeParts 139 (.return_) 1 140 := ⟨by decide +kernel, rfl⟩
def k_Pl_takeParts_103 (R103 : Int → Int → Mem → Res) (a5 a6 : Int) (M : Mem) : Res := if w32 a6 < 20 then (chk (0 ≤ w32 ((a5 * 20) + a6) ∧ w32 ((a5 * 20) + a6) < 2400) <| blet (M 82 (ix ((a5 * 20) + a6))) fun v3 => chk (0 ≤ w32 a6 ∧ w32 a6 < 20) <| blet (M 86 (ix a6)) fun v5 => chk (0 ≤ w32 ((a5 * 20) + a6) ∧ w32 ((a5 * 20) + a6) < 2400) <| blet (sto M 82 (ix ((a5 * 20) + a6)) (v3 - v5)) fun M7 => blet (a6 + 1) fun v8 => R103 a5 v8 M7) else (some (0, M))
theorem z_Pl_takeParts_103 (C : Cx p s m args meth c G b_Pl_takeParts 7 "PrairiePool$Play" none) (hlev : 2 ≤ lev) {r : Int × Mem} {R103 : Int → Int → Mem → Res} (hR103 : ∀ (a5 a6 : Int) (M : Mem), R103 a5 a6 M = some r → Z p l e lev s m args below meth c G 7 (MQ below (Qm G 0 r) args s 0 0 (Ab G)) M 103 [(0, .ref (G.1 + 75)), (5, vi a5), (6, vi a6)] []) {a5 a6 : Int} {M : Mem} (h : k_Pl_takeParts_103 R103 a5 a6 M = some r) : Z p l e lev s m args below meth c G 7 (MQ below (Qm G 0 r) args s 0 0 (Ab G)) M 103 [(0, .ref (G.1 + 75)), (5, vi a5), (6, vi a6)] [] := by
  unfold k_Pl_takeParts_103 at h
  refine z_iload C 2 x_Pl_takeParts_103 rfl ?_
  refine z_bipush C rfl x_Pl_takeParts_105 ?_
  rcases ite_e h with ⟨c1, h⟩ | ⟨c1, h⟩
  · refine z_icmp_ge_f (tgt := 139) C x_Pl_takeParts_107 rfl c1 ?_
    refine z_aload_n C 0 x_Pl_takeParts_110 rfl ?_
    refine z_getR (j := 11) C x_Pl_takeParts_111 nk_75 ck_75 cw_6 (i_lt rfl) rfl rf_75_11 rfl fl_Pl_32 ?_
    refine z_iload C 1 x_Pl_takeParts_114 rfl ?_
    refine z_bipush C rfl x_Pl_takeParts_116 ?_
    refine z_imul C x_Pl_takeParts_118 ?_
    refine z_iload C 2 x_Pl_takeParts_119 rfl ?_
    refine z_iadd C x_Pl_takeParts_121 ?_
    refine z_dup2 C x_Pl_takeParts_122 rfl rfl ?_
    obtain ⟨c2, h⟩ := chk_e h
    obtain ⟨v3, ev3, h⟩ := blet_e h
    refine z_lald C x_Pl_takeParts_123 nk_82 ck_82 c2 ev3 ?_
    refine z_aload_n C 0 x_Pl_takeParts_124 rfl ?_
    refine z_getR (j := 16) C x_Pl_takeParts_125 nk_75 ck_75 cw_6 (i_lt rfl) rfl rf_75_16 rfl fl_Pl_45 ?_
    refine z_iload C 2 x_Pl_takeParts_128 rfl ?_
    obtain ⟨c4, h⟩ := chk_e h
    obtain ⟨v5, ev5, h⟩ := blet_e h
    refine z_lald C x_Pl_takeParts_130 nk_86 ck_86 c4 ev5 ?_
    refine z_lsub C x_Pl_takeParts_131 ?_
    obtain ⟨c6, h⟩ := chk_e h
    obtain ⟨M7, eM7, h⟩ := blet_e h
    refine z_last C x_Pl_takeParts_132 nk_82 ck_82 c6 eM7 ?_
    obtain ⟨v8, ev8, h⟩ := blet_e h
    refine z_iinc (lv' := [(6, vi v8), (0, .ref (G.1 + 75)), (5, vi a5)]) C 2 ev8 x_Pl_takeParts_133 rfl (i_lt rfl) rfl ?_
    refine z_goto (tgt := 103) C x_Pl_takeParts_136 rfl ?_
    exact z_sub [1, 2, 0] rfl (hR103 a5 v8 M7 h)
  · refine z_icmp_ge_t (tgt := 139) C x_Pl_takeParts_107 rfl c1 ?_
    exact z_vret C x_Pl_takeParts_139 h
theorem zl_Pl_takeParts_103 (C : Cx p s m args meth c G b_Pl_takeParts 7 "PrairiePool$Play" none) (hlev : 2 ≤ lev) {r : Int × Mem}  : ∀ (n : Nat) (a5 a6 : Int) (M : Mem), fix (fun _ _ _ => none) (k_Pl_takeParts_103) n a5 a6 M = some r → Z p l e lev s m args below meth c G 7 (MQ below (Qm G 0 r) args s 0 0 (Ab G)) M 103 [(0, .ref (G.1 + 75)), (5, vi a5), (6, vi a6)] [] := by
  intro n
  induction n with
  | zero => intro a5 a6 M h; exact nomatch (show (none : Res) = some r from h)
  | succ n ih => intro a5 a6 M h; exact z_Pl_takeParts_103 C hlev ih h
def d_Pl_takeParts (a1 a2 : Int) (M : Mem) : Res := chk (0 ≤ w32 a1 ∧ w32 a1 < 120) <| blet (M 22 (ix a1)) fun v2 => bcall (d_Pl_bushelsAt a2 (-1) M) fun v3 M4 => blet (mn32 v2 v3) fun v5 => chk (0 ≤ w32 a1 ∧ w32 a1 < 120) <| blet (sto M4 76 (ix a1) v5) fun M7 => blet (M7 75 14) fun v8 => blet (sto M7 75 14 (v8 + (v2 - v5))) fun M9 => bcall (d_Ar_fill0 86 20 0 M9) fun v10 M11 => chk (0 ≤ w32 a2 ∧ w32 a2 < 600) <| blet (M11 81 (ix a2)) fun v13 => if w32 v13 = (-1) then (some (0, M11)) else (chk ((0 : Int) ≤ w32 (v13 * 20) ∧ (0 : Int) ≤ 0 ∧ (0 : Int) ≤ 20 ∧ w32 (v13 * 20) + 20 ≤ (2400 : Int) ∧ 0 + 20 ≤ (20 : Int)) <| blet (cpy M11 82 (ix (v13 * 20)) 85 0 20) fun M16 => bcall (d_Pl_part 85 86 (w32 v5) M16) fun v17 M18 => fix (fun _ _ _ => none) (k_Pl_takeParts_103) FU v13 0 M18)
theorem t_Pl_takeParts (l : Launch) (G : GX) {lev : Nat} (hlev : 2 ≤ lev) {a1 a2 : Int} {M : Mem} {r : Int × Mem} (h : d_Pl_takeParts a1 a2 M = some r) : Mt l G y_Pl_takeParts b_Pl_takeParts 7 none lev 0 [.ref (G.1 + 75), vi a1, vi a2] M r := by
  refine Mt.of (by decide) (i_le rfl) ?_
  intro p e s m args below meth c C
  have C : Cx p s m args meth c G b_Pl_takeParts 7 "PrairiePool$Play" none := C
  unfold d_Pl_takeParts at h
  refine z_sub (lv' := [(0, .ref (G.1 + 75)), (1, vi a1), (2, vi a2)]) [0, 1, 2] rfl ?_
  refine z_aload_n C 0 x_Pl_takeParts_0 rfl ?_
  refine z_getR (j := 1) C x_Pl_takeParts_1 nk_75 ck_75 cw_6 (i_lt rfl) rfl rf_75_1 rfl fl_Pl_55 ?_
  refine z_getR (j := 8) C x_Pl_takeParts_4 nk_15 ck_15 cw_2 (i_lt rfl) rfl rf_15_8 rfl fl_Pl_164 ?_
  refine z_iload_n C 1 x_Pl_takeParts_7 rfl ?_
  obtain ⟨c1, h⟩ := chk_e h
  obtain ⟨v2, ev2, h⟩ := blet_e h
  refine z_iald C x_Pl_takeParts_8 nk_22 ck_22 c1 ev2 ?_
  refine z_istore_n (lv' := [(3, vi v2), (0, .ref (G.1 + 75)), (1, vi a1), (2, vi a2)]) C rfl x_Pl_takeParts_9 (i_lt rfl) rfl ?_
  refine z_iload_n C 0 x_Pl_takeParts_10 rfl ?_
  refine z_aload_n C 1 x_Pl_takeParts_11 rfl ?_
  refine z_iload_n C 3 x_Pl_takeParts_12 rfl ?_
  refine z_iconst C x_Pl_takeParts_13 ?_
  obtain ⟨v3, M4, fv3, h⟩ := bcall_e h
  refine z_callVi (k := 75) C x_Pl_takeParts_14 cv_Pl_167 (t_Pl_bushelsAt (lev := lev - 1) l G (by omega) fv3) nk_75 ck_75 rfl (by omega) rfl (i_le rfl) rfl ?_
  refine z_mn32 C x_Pl_takeParts_17 cs_Pl_155 (by omega) (i_le rfl) ?_
  obtain ⟨v5, ev5, h⟩ := blet_e h
  refine z_istore (lv' := [(4, vi v5), (3, vi v2), (0, .ref (G.1 + 75)), (1, vi a1), (2, vi a2)]) C ev5 x_Pl_takeParts_20 (i_lt rfl) rfl ?_
  refine z_aload_n C 2 x_Pl_takeParts_22 rfl ?_
  refine z_getR (j := 4) C x_Pl_takeParts_23 nk_75 ck_75 cw_6 (i_lt rfl) rfl rf_75_4 rfl fl_Pl_13 ?_
  refine z_iload_n C 3 x_Pl_takeParts_26 rfl ?_
  refine z_iload C 0 x_Pl_takeParts_27 rfl ?_
  obtain ⟨c6, h⟩ := chk_e h
  obtain ⟨M7, eM7, h⟩ := blet_e h
  refine z_iast C x_Pl_takeParts_29 nk_76 ck_76 c6 eM7 ?_
  refine z_aload_n C 2 x_Pl_takeParts_30 rfl ?_
  refine z_dup C x_Pl_takeParts_31 rfl ?_
  obtain ⟨v8, ev8, h⟩ := blet_e h
  refine z_getI (j := 14) C x_Pl_takeParts_32 nk_75 ck_75 cw_6 (i_lt rfl) rfl rfl fl_Pl_93 ev8 ?_
  refine z_iload_n C 1 x_Pl_takeParts_35 rfl ?_
  refine z_iload C 0 x_Pl_takeParts_36 rfl ?_
  refine z_isub C x_Pl_takeParts_38 ?_
  refine z_iadd C x_Pl_takeParts_39 ?_
  obtain ⟨M9, eM9, h⟩ := blet_e h
  refine z_putI (j := 14) C x_Pl_takeParts_40 nk_75 ck_75 cw_6 (i_lt rfl) rfl rfl rfl rfl fl_Pl_93 eM9 ?_
  refine z_aload_n C 2 x_Pl_takeParts_43 rfl ?_
  refine z_getR (j := 16) C x_Pl_takeParts_44 nk_75 ck_75 cw_6 (i_lt rfl) rfl rf_75_16 rfl fl_Pl_45 ?_
  refine z_lconst0 C x_Pl_takeParts_47 ?_
  obtain ⟨v10, M11, fv10, h⟩ := bcall_e h
  refine z_callSv C x_Pl_takeParts_48 cs_Pl_170 (t_Ar_fill0 (lev := lev - 1) l G (by omega) nk_86 ck_86 fv10) (by omega) rfl (i_le rfl) rfl ?_
  refine z_aload_n C 2 x_Pl_takeParts_51 rfl ?_
  refine z_getR (j := 9) C x_Pl_takeParts_52 nk_75 ck_75 cw_6 (i_lt rfl) rfl rf_75_9 rfl fl_Pl_29 ?_
  refine z_iload_n C 4 x_Pl_takeParts_55 rfl ?_
  obtain ⟨c12, h⟩ := chk_e h
  obtain ⟨v13, ev13, h⟩ := blet_e h
  refine z_iald C x_Pl_takeParts_56 nk_81 ck_81 c12 ev13 ?_
  refine z_istore (lv' := [(5, vi v13), (4, vi v5), (3, vi v2), (0, .ref (G.1 + 75)), (1, vi a1), (2, vi a2)]) C rfl x_Pl_takeParts_57 (i_lt rfl) rfl ?_
  refine z_iload C 0 x_Pl_takeParts_59 rfl ?_
  refine z_iconst C x_Pl_takeParts_61 ?_
  rcases ite_e h with ⟨c14, h⟩ | ⟨c14, h⟩
  · refine z_icmp_ne_f (tgt := 66) C x_Pl_takeParts_62 rfl c14 ?_
    exact z_vret C x_Pl_takeParts_65 h
  · refine z_icmp_ne_t (tgt := 66) C x_Pl_takeParts_62 rfl c14 ?_
    refine z_aload_n C 3 x_Pl_takeParts_66 rfl ?_
    refine z_getR (j := 11) C x_Pl_takeParts_67 nk_75 ck_75 cw_6 (i_lt rfl) rfl rf_75_11 rfl fl_Pl_32 ?_
    refine z_iload C 0 x_Pl_takeParts_70 rfl ?_
    refine z_bipush C rfl x_Pl_takeParts_72 ?_
    refine z_imul C x_Pl_takeParts_74 ?_
    refine z_aload_n C 3 x_Pl_takeParts_75 rfl ?_
    refine z_getR (j := 15) C x_Pl_takeParts_76 nk_75 ck_75 cw_6 (i_lt rfl) rfl rf_75_15 rfl fl_Pl_42 ?_
    refine z_iconst C x_Pl_takeParts_79 ?_
    refine z_bipush C rfl x_Pl_takeParts_80 ?_
    obtain ⟨c15, h⟩ := chk_e h
    obtain ⟨M16, eM16, h⟩ := blet_e h
    refine z_copyL C x_Pl_takeParts_82 ca_Pl_173 nk_82 ck_82 nk_85 ck_85 c15 (by omega) (i_le rfl) eM16 ?_
    refine z_aload_n C 3 x_Pl_takeParts_85 rfl ?_
    refine z_iload C 1 x_Pl_takeParts_86 rfl ?_
    refine z_i2l C x_Pl_takeParts_88 ?_
    refine z_aload_n C 3 x_Pl_takeParts_89 rfl ?_
    refine z_getR (j := 15) C x_Pl_takeParts_90 nk_75 ck_75 cw_6 (i_lt rfl) rfl rf_75_15 rfl fl_Pl_42 ?_
    refine z_aload_n C 3 x_Pl_takeParts_93 rfl ?_
    refine z_getR (j := 16) C x_Pl_takeParts_94 nk_75 ck_75 cw_6 (i_lt rfl) rfl rf_75_16 rfl fl_Pl_45 ?_
    obtain ⟨v17, M18, fv17, h⟩ := bcall_e h
    refine z_callVv (k := 75) C x_Pl_takeParts_97 cv_Pl_179 (t_Pl_part (lev := lev - 1) l G (by omega) nk_85 ck_85 nk_86 ck_86 fv17) nk_75 ck_75 rfl (by omega) rfl (i_le rfl) rfl ?_
    refine z_iconst C x_Pl_takeParts_100 ?_
    refine z_istore (lv' := [(6, vi 0), (5, vi v13), (4, vi v5), (3, vi v2), (0, .ref (G.1 + 75)), (1, vi a1), (2, vi a2)]) C rfl x_Pl_takeParts_101 (i_lt rfl) rfl ?_
    exact z_sub [4, 1, 0] rfl (zl_Pl_takeParts_103 C hlev FU v13 0 M18 h)
theorem x_Pl_slotOfPort_0 : DC b_Pl_slotOfPort 0 (.bipush 8) 2 2 := ⟨by decide +kernel, rfl⟩
theorem x_Pl_slotOfPort_2 : DC b_Pl_slotOfPort 2 (.iload_n 0) 1 3 := ⟨by decide +kernel, rfl⟩
theorem x_Pl_slotOfPort_3 : DC b_Pl_slotOfPort 3 (.iadd) 1 4 := ⟨by decide +kernel, rfl⟩
theorem x_Pl_slotOfPort_4 : DC b_Pl_slotOfPort 4 (.iload_n 1) 1 5 := ⟨by decide +kernel, rfl⟩
theorem x_Pl_slotOfPort_5 : DC b_Pl_slotOfPort 5 (.iload_n 2) 1 6 := ⟨by decide +kernel, rfl⟩
theorem x_Pl_slotOfPort_6 : DC b_Pl_slotOfPort 6 (.invokestatic 63) 3 9 := ⟨by decide +kernel, rfl⟩
theorem x_Pl_slotOfPort_9 : DC b_Pl_slotOfPort 9 (.ireturn) 1 10 := ⟨by decide +kernel, rfl⟩
def d_Pl_slotOfPort (a0 a1 a2 : Int) (M : Mem) : Res := bcall (d_Pl_slotOfBin (8 + a0) a1 a2 M) fun v1 M2 => some (v1, M2)
theorem t_Pl_slotOfPort (l : Launch) (G : GX) {lev : Nat} (hlev : 1 ≤ lev) {a0 a1 a2 : Int} {M : Mem} {r : Int × Mem} (h : d_Pl_slotOfPort a0 a1 a2 M = some r) : Mt l G y_Pl_slotOfPort b_Pl_slotOfPort 3 (some .int) lev 1 [vi a0, vi a1, vi a2] M r := by
  refine Mt.of (by decide) (i_le rfl) ?_
  intro p e s m args below meth c C
  have C : Cx p s m args meth c G b_Pl_slotOfPort 3 "PrairiePool$Play" (some .int) := C
  unfold d_Pl_slotOfPort at h
  refine z_sub (lv' := [(0, vi a0), (1, vi a1), (2, vi a2)]) [0, 1, 2] rfl ?_
  refine z_bipush C rfl x_Pl_slotOfPort_0 ?_
  refine z_iload_n C 0 x_Pl_slotOfPort_2 rfl ?_
  refine z_iadd C x_Pl_slotOfPort_3 ?_
  refine z_iload_n C 1 x_Pl_slotOfPort_4 rfl ?_
  refine z_iload_n C 2 x_Pl_slotOfPort_5 rfl ?_
  obtain ⟨v1, M2, fv1, h⟩ := bcall_e h
  refine z_callSi C x_Pl_slotOfPort_6 cs_Pl_63 (t_Pl_slotOfBin (lev := lev - 1) l G (by omega) fv1) (by omega) rfl (i_le rfl) rfl ?_
  exact z_iret C x_Pl_slotOfPort_9 h
theorem x_Pl_addParts_0 : DC b_Pl_addParts 0 (.iconst 0) 1 1 := ⟨by decide +kernel, rfl⟩
theorem x_Pl_addParts_1 : DC b_Pl_addParts 1 (.istore_n 2) 1 2 := ⟨by decide +kernel, rfl⟩
theorem x_Pl_addParts_2 : DC b_Pl_addParts 2 (.iload_n 2) 1 3 := ⟨by decide +kernel, rfl⟩
theorem x_Pl_addParts_3 : DC b_Pl_addParts 3 (.bipush 20) 2 5 := ⟨by decide +kernel, rfl⟩
theorem x_Pl_addParts_5 : DC b_Pl_addParts 5 (.if_icmp .ge 29) 3 8 := ⟨by decide +kernel, rfl⟩
theorem x_Pl_addParts_8 : DC b_Pl_addParts 8 (.aload_n 0) 1 9 := ⟨by decide +kernel, rfl⟩
theorem x_Pl_addParts_9 : DC b_Pl_addParts 9 (.getfield 32) 3 12 := ⟨by decide +kernel, rfl⟩
theorem x_Pl_addParts_12 : DC b_Pl_addParts 12 (.iload_n 1) 1 13 := ⟨by decide +kernel, rfl⟩
theorem x_Pl_addParts_13 : DC b_Pl_addParts 13 (.bipush 20) 2 15 := ⟨by decide +kernel, rfl⟩
theorem x_Pl_addParts_15 : DC b_Pl_addParts 15 (.imul) 1 16 := ⟨by decide +kernel, rfl⟩
theorem x_Pl_addParts_16 : DC b_Pl_addParts 16 (.iload_n 2) 1 17 := ⟨by decide +kernel, rfl⟩
theorem x_Pl_addParts_17 : DC b_Pl_addParts 17 (.iadd) 1 18 := ⟨by decide +kernel, rfl⟩
theorem x_Pl_addParts_18 : DC b_Pl_addParts 18 (.dup2) 1 19 := ⟨by decide +kernel, rfl⟩
theorem x_Pl_addParts_19 : DC b_Pl_addParts 19 (.laload) 1 20 := ⟨by decide +kernel, rfl⟩
theorem x_Pl_addParts_20 : DC b_Pl_addParts 20 (.aload_n 0) 1 21 := ⟨by decide +kernel, rfl⟩
theorem x_Pl_addParts_21 : DC b_Pl_addParts 21 (.getfield 45) 3 24 := ⟨by decide +kernel, rfl⟩
theorem x_Pl_addParts_24 : DC b_Pl_addParts 24 (.iload_n 2) 1 25 := ⟨by decide +kernel, rfl⟩
theorem x_Pl_addParts_25 : DC b_Pl_addParts 25 (.laload) 1 26 := ⟨by decide +kernel, rfl⟩
theorem x_Pl_addParts_26 : DC b_Pl_addParts 26 (.ladd) 1 27 := ⟨by decide +kernel, rfl⟩
theorem x_Pl_addParts_27 : DC b_Pl_addParts 27 (.lastore) 1 28 := ⟨by decide +kernel, rfl⟩
theorem x_Pl_addParts_28 : DC b_Pl_addParts 28 (.iinc 2 1) 3 31 := ⟨by decide +kernel, rfl⟩
theorem x_Pl_addParts_31 : DC b_Pl_addParts 31 (.goto (-29)) 3 34 := ⟨by decide +kernel, rfl⟩
theorem x_Pl_addParts_34 : DC b_Pl_addParts 34 (.return_) 1 35 := ⟨by decide +kernel, rfl⟩
def k_Pl_addParts_2 (R2 : Int → Int → Mem → Res) (a1 a2 : Int) (M : Mem) : Res := if w32 a2 < 20 then (chk (0 ≤ w32 ((a1 * 20) + a2) ∧ w32 ((a1 * 20) + a2) < 2400) <| blet (M 82 (ix ((a1 * 20) + a2))) fun v3 => chk (0 ≤ w32 a2 ∧ w32 a2 < 20) <| blet (M 86 (ix a2)) fun v5 => chk (0 ≤ w32 ((a1 * 20) + a2) ∧ w32 ((a1 * 20) + a2) < 2400) <| blet (sto M 82 (ix ((a1 * 20) + a2)) (v3 + v5)) fun M7 => blet (a2 + 1) fun v8 => R2 a1 v8 M7) else (some (0, M))
theorem z_Pl_addParts_2 (C : Cx p s m args meth c G b_Pl_addParts 3 "PrairiePool$Play" none) (hlev : 0 ≤ lev) {r : Int × Mem} {R2 : Int → Int → Mem → Res} (hR2 : ∀ (a1 a2 : Int) (M : Mem), R2 a1 a2 M = some r → Z p l e lev s m args below meth c G 3 (MQ below (Qm G 0 r) args s 0 0 (Ab G)) M 2 [(0, .ref (G.1 + 75)), (1, vi a1), (2, vi a2)] []) {a1 a2 : Int} {M : Mem} (h : k_Pl_addParts_2 R2 a1 a2 M = some r) : Z p l e lev s m args below meth c G 3 (MQ below (Qm G 0 r) args s 0 0 (Ab G)) M 2 [(0, .ref (G.1 + 75)), (1, vi a1), (2, vi a2)] [] := by
  unfold k_Pl_addParts_2 at h
  refine z_iload_n C 2 x_Pl_addParts_2 rfl ?_
  refine z_bipush C rfl x_Pl_addParts_3 ?_
  rcases ite_e h with ⟨c1, h⟩ | ⟨c1, h⟩
  · refine z_icmp_ge_f (tgt := 34) C x_Pl_addParts_5 rfl c1 ?_
    refine z_aload_n C 0 x_Pl_addParts_8 rfl ?_
    refine z_getR (j := 11) C x_Pl_addParts_9 nk_75 ck_75 cw_6 (i_lt rfl) rfl rf_75_11 rfl fl_Pl_32 ?_
    refine z_iload_n C 1 x_Pl_addParts_12 rfl ?_
    refine z_bipush C rfl x_Pl_addParts_13 ?_
    refine z_imul C x_Pl_addParts_15 ?_
    refine z_iload_n C 2 x_Pl_addParts_16 rfl ?_
    refine z_iadd C x_Pl_addParts_17 ?_
    refine z_dup2 C x_Pl_addParts_18 rfl rfl ?_
    obtain ⟨c2, h⟩ := chk_e h
    obtain ⟨v3, ev3, h⟩ := blet_e h
    refine z_lald C x_Pl_addParts_19 nk_82 ck_82 c2 ev3 ?_
    refine z_aload_n C 0 x_Pl_addParts_20 rfl ?_
    refine z_getR (j := 16) C x_Pl_addParts_21 nk_75 ck_75 cw_6 (i_lt rfl) rfl rf_75_16 rfl fl_Pl_45 ?_
    refine z_iload_n C 2 x_Pl_addParts_24 rfl ?_
    obtain ⟨c4, h⟩ := chk_e h
    obtain ⟨v5, ev5, h⟩ := blet_e h
    refine z_lald C x_Pl_addParts_25 nk_86 ck_86 c4 ev5 ?_
    refine z_ladd C x_Pl_addParts_26 ?_
    obtain ⟨c6, h⟩ := chk_e h
    obtain ⟨M7, eM7, h⟩ := blet_e h
    refine z_last C x_Pl_addParts_27 nk_82 ck_82 c6 eM7 ?_
    obtain ⟨v8, ev8, h⟩ := blet_e h
    refine z_iinc (lv' := [(2, vi v8), (0, .ref (G.1 + 75)), (1, vi a1)]) C 2 ev8 x_Pl_addParts_28 rfl (i_lt rfl) rfl ?_
    refine z_goto (tgt := 2) C x_Pl_addParts_31 rfl ?_
    exact z_sub [1, 2, 0] rfl (hR2 a1 v8 M7 h)
  · refine z_icmp_ge_t (tgt := 34) C x_Pl_addParts_5 rfl c1 ?_
    exact z_vret C x_Pl_addParts_34 h
theorem zl_Pl_addParts_2 (C : Cx p s m args meth c G b_Pl_addParts 3 "PrairiePool$Play" none) (hlev : 0 ≤ lev) {r : Int × Mem}  : ∀ (n : Nat) (a1 a2 : Int) (M : Mem), fix (fun _ _ _ => none) (k_Pl_addParts_2) n a1 a2 M = some r → Z p l e lev s m args below meth c G 3 (MQ below (Qm G 0 r) args s 0 0 (Ab G)) M 2 [(0, .ref (G.1 + 75)), (1, vi a1), (2, vi a2)] [] := by
  intro n
  induction n with
  | zero => intro a1 a2 M h; exact nomatch (show (none : Res) = some r from h)
  | succ n ih => intro a1 a2 M h; exact z_Pl_addParts_2 C hlev ih h
def d_Pl_addParts (a1 : Int) (M : Mem) : Res := fix (fun _ _ _ => none) (k_Pl_addParts_2) FU a1 0 M
theorem t_Pl_addParts (l : Launch) (G : GX) {lev : Nat} (hlev : 0 ≤ lev) {a1 : Int} {M : Mem} {r : Int × Mem} (h : d_Pl_addParts a1 M = some r) : Mt l G y_Pl_addParts b_Pl_addParts 3 none lev 0 [.ref (G.1 + 75), vi a1] M r := by
  refine Mt.of (by decide) (i_le rfl) ?_
  intro p e s m args below meth c C
  have C : Cx p s m args meth c G b_Pl_addParts 3 "PrairiePool$Play" none := C
  unfold d_Pl_addParts at h
  refine z_sub (lv' := [(0, .ref (G.1 + 75)), (1, vi a1)]) [0, 1] rfl ?_
  refine z_iconst C x_Pl_addParts_0 ?_
  refine z_istore_n (lv' := [(2, vi 0), (0, .ref (G.1 + 75)), (1, vi a1)]) C rfl x_Pl_addParts_1 (i_lt rfl) rfl ?_
  exact z_sub [1, 2, 0] rfl (zl_Pl_addParts_2 C hlev FU a1 0 M h)
theorem x_Pl_countParts_0 : DC b_Pl_countParts 0 (.iconst 0) 1 1 := ⟨by decide +kernel, rfl⟩
theorem x_Pl_countParts_1 : DC b_Pl_countParts 1 (.istore_n 2) 1 2 := ⟨by decide +kernel, rfl⟩
theorem x_Pl_countParts_2 : DC b_Pl_countParts 2 (.iload_n 2) 1 3 := ⟨by decide +kernel, rfl⟩
theorem x_Pl_countParts_3 : DC b_Pl_countParts 3 (.bipush 20) 2 5 := ⟨by decide +kernel, rfl⟩
theorem x_Pl_countParts_5 : DC b_Pl_countParts 5 (.if_icmp .ge 30) 3 8 := ⟨by decide +kernel, rfl⟩
theorem x_Pl_countParts_8 : DC b_Pl_countParts 8 (.aload_n 0) 1 9 := ⟨by decide +kernel, rfl⟩
theorem x_Pl_countParts_9 : DC b_Pl_countParts 9 (.getfield 39) 3 12 := ⟨by decide +kernel, rfl⟩
theorem x_Pl_countParts_12 : DC b_Pl_countParts 12 (.iload_n 1) 1 13 := ⟨by decide +kernel, rfl⟩
theorem x_Pl_countParts_13 : DC b_Pl_countParts 13 (.bipush 20) 2 15 := ⟨by decide +kernel, rfl⟩
theorem x_Pl_countParts_15 : DC b_Pl_countParts 15 (.imul) 1 16 := ⟨by decide +kernel, rfl⟩
theorem x_Pl_countParts_16 : DC b_Pl_countParts 16 (.iload_n 2) 1 17 := ⟨by decide +kernel, rfl⟩
theorem x_Pl_countParts_17 : DC b_Pl_countParts 17 (.iadd) 1 18 := ⟨by decide +kernel, rfl⟩
theorem x_Pl_countParts_18 : DC b_Pl_countParts 18 (.dup2) 1 19 := ⟨by decide +kernel, rfl⟩
theorem x_Pl_countParts_19 : DC b_Pl_countParts 19 (.iaload) 1 20 := ⟨by decide +kernel, rfl⟩
theorem x_Pl_countParts_20 : DC b_Pl_countParts 20 (.aload_n 0) 1 21 := ⟨by decide +kernel, rfl⟩
theorem x_Pl_countParts_21 : DC b_Pl_countParts 21 (.getfield 45) 3 24 := ⟨by decide +kernel, rfl⟩
theorem x_Pl_countParts_24 : DC b_Pl_countParts 24 (.iload_n 2) 1 25 := ⟨by decide +kernel, rfl⟩
theorem x_Pl_countParts_25 : DC b_Pl_countParts 25 (.laload) 1 26 := ⟨by decide +kernel, rfl⟩
theorem x_Pl_countParts_26 : DC b_Pl_countParts 26 (.l2i) 1 27 := ⟨by decide +kernel, rfl⟩
theorem x_Pl_countParts_27 : DC b_Pl_countParts 27 (.iadd) 1 28 := ⟨by decide +kernel, rfl⟩
theorem x_Pl_countParts_28 : DC b_Pl_countParts 28 (.iastore) 1 29 := ⟨by decide +kernel, rfl⟩
theorem x_Pl_countParts_29 : DC b_Pl_countParts 29 (.iinc 2 1) 3 32 := ⟨by decide +kernel, rfl⟩
theorem x_Pl_countParts_32 : DC b_Pl_countParts 32 (.goto (-30)) 3 35 := ⟨by decide +kernel, rfl⟩
theorem x_Pl_countParts_35 : DC b_Pl_countParts 35 (.return_) 1 36 := ⟨by decide +kernel, rfl⟩
def k_Pl_countParts_2 (R2 : Int → Int → Mem → Res) (a1 a2 : Int) (M : Mem) : Res := if w32 a2 < 20 then (chk (0 ≤ w32 ((a1 * 20) + a2) ∧ w32 ((a1 * 20) + a2) < 80) <| blet (M 84 (ix ((a1 * 20) + a2))) fun v3 => chk (0 ≤ w32 a2 ∧ w32 a2 < 20) <| blet (M 86 (ix a2)) fun v5 => chk (0 ≤ w32 ((a1 * 20) + a2) ∧ w32 ((a1 * 20) + a2) < 80) <| blet (sto M 84 (ix ((a1 * 20) + a2)) (v3 + v5)) fun M7 => blet (a2 + 1) fun v8 => R2 a1 v8 M7) else (some (0, M))
theorem z_Pl_countParts_2 (C : Cx p s m args meth c G b_Pl_countParts 3 "PrairiePool$Play" none) (hlev : 0 ≤ lev) {r : Int × Mem} {R2 : Int → Int → Mem → Res} (hR2 : ∀ (a1 a2 : Int) (M : Mem), R2 a1 a2 M = some r → Z p l e lev s m args below meth c G 3 (MQ below (Qm G 0 r) args s 0 0 (Ab G)) M 2 [(0, .ref (G.1 + 75)), (1, vi a1), (2, vi a2)] []) {a1 a2 : Int} {M : Mem} (h : k_Pl_countParts_2 R2 a1 a2 M = some r) : Z p l e lev s m args below meth c G 3 (MQ below (Qm G 0 r) args s 0 0 (Ab G)) M 2 [(0, .ref (G.1 + 75)), (1, vi a1), (2, vi a2)] [] := by
  unfold k_Pl_countParts_2 at h
  refine z_iload_n C 2 x_Pl_countParts_2 rfl ?_
  refine z_bipush C rfl x_Pl_countParts_3 ?_
  rcases ite_e h with ⟨c1, h⟩ | ⟨c1, h⟩
  · refine z_icmp_ge_f (tgt := 35) C x_Pl_countParts_5 rfl c1 ?_
    refine z_aload_n C 0 x_Pl_countParts_8 rfl ?_
    refine z_getR (j := 13) C x_Pl_countParts_9 nk_75 ck_75 cw_6 (i_lt rfl) rfl rf_75_13 rfl fl_Pl_39 ?_
    refine z_iload_n C 1 x_Pl_countParts_12 rfl ?_
    refine z_bipush C rfl x_Pl_countParts_13 ?_
    refine z_imul C x_Pl_countParts_15 ?_
    refine z_iload_n C 2 x_Pl_countParts_16 rfl ?_
    refine z_iadd C x_Pl_countParts_17 ?_
    refine z_dup2 C x_Pl_countParts_18 rfl rfl ?_
    obtain ⟨c2, h⟩ := chk_e h
    obtain ⟨v3, ev3, h⟩ := blet_e h
    refine z_iald C x_Pl_countParts_19 nk_84 ck_84 c2 ev3 ?_
    refine z_aload_n C 0 x_Pl_countParts_20 rfl ?_
    refine z_getR (j := 16) C x_Pl_countParts_21 nk_75 ck_75 cw_6 (i_lt rfl) rfl rf_75_16 rfl fl_Pl_45 ?_
    refine z_iload_n C 2 x_Pl_countParts_24 rfl ?_
    obtain ⟨c4, h⟩ := chk_e h
    obtain ⟨v5, ev5, h⟩ := blet_e h
    refine z_lald C x_Pl_countParts_25 nk_86 ck_86 c4 ev5 ?_
    refine z_l2i C x_Pl_countParts_26 ?_
    refine z_iadd C x_Pl_countParts_27 ?_
    obtain ⟨c6, h⟩ := chk_e h
    obtain ⟨M7, eM7, h⟩ := blet_e h
    refine z_iast C x_Pl_countParts_28 nk_84 ck_84 c6 eM7 ?_
    obtain ⟨v8, ev8, h⟩ := blet_e h
    refine z_iinc (lv' := [(2, vi v8), (0, .ref (G.1 + 75)), (1, vi a1)]) C 2 ev8 x_Pl_countParts_29 rfl (i_lt rfl) rfl ?_
    refine z_goto (tgt := 2) C x_Pl_countParts_32 rfl ?_
    exact z_sub [1, 2, 0] rfl (hR2 a1 v8 M7 h)
  · refine z_icmp_ge_t (tgt := 35) C x_Pl_countParts_5 rfl c1 ?_
    exact z_vret C x_Pl_countParts_35 h
theorem zl_Pl_countParts_2 (C : Cx p s m args meth c G b_Pl_countParts 3 "PrairiePool$Play" none) (hlev : 0 ≤ lev) {r : Int × Mem}  : ∀ (n : Nat) (a1 a2 : Int) (M : Mem), fix (fun _ _ _ => none) (k_Pl_countParts_2) n a1 a2 M = some r → Z p l e lev s m args below meth c G 3 (MQ below (Qm G 0 r) args s 0 0 (Ab G)) M 2 [(0, .ref (G.1 + 75)), (1, vi a1), (2, vi a2)] [] := by
  intro n
  induction n with
  | zero => intro a1 a2 M h; exact nomatch (show (none : Res) = some r from h)
  | succ n ih => intro a1 a2 M h; exact z_Pl_countParts_2 C hlev ih h
def d_Pl_countParts (a1 : Int) (M : Mem) : Res := fix (fun _ _ _ => none) (k_Pl_countParts_2) FU a1 0 M
theorem t_Pl_countParts (l : Launch) (G : GX) {lev : Nat} (hlev : 0 ≤ lev) {a1 : Int} {M : Mem} {r : Int × Mem} (h : d_Pl_countParts a1 M = some r) : Mt l G y_Pl_countParts b_Pl_countParts 3 none lev 0 [.ref (G.1 + 75), vi a1] M r := by
  refine Mt.of (by decide) (i_le rfl) ?_
  intro p e s m args below meth c C
  have C : Cx p s m args meth c G b_Pl_countParts 3 "PrairiePool$Play" none := C
  unfold d_Pl_countParts at h
  refine z_sub (lv' := [(0, .ref (G.1 + 75)), (1, vi a1)]) [0, 1] rfl ?_
  refine z_iconst C x_Pl_countParts_0 ?_
  refine z_istore_n (lv' := [(2, vi 0), (0, .ref (G.1 + 75)), (1, vi a1)]) C rfl x_Pl_countParts_1 (i_lt rfl) rfl ?_
  exact z_sub [1, 2, 0] rfl (zl_Pl_countParts_2 C hlev FU a1 0 M h)
theorem x_Pl_playEvent_0 : DC b_Pl_playEvent 0 (.aload_n 0) 1 1 := ⟨by decide +kernel, rfl⟩
theorem x_Pl_playEvent_1 : DC b_Pl_playEvent 1 (.getfield 55) 3 4 := ⟨by decide +kernel, rfl⟩
theorem x_Pl_playEvent_4 : DC b_Pl_playEvent 4 (.getfield 110) 3 7 := ⟨by decide +kernel, rfl⟩
theorem x_Pl_playEvent_7 : DC b_Pl_playEvent 7 (.iload_n 1) 1 8 := ⟨by decide +kernel, rfl⟩
theorem x_Pl_playEvent_8 : DC b_Pl_playEvent 8 (.iaload) 1 9 := ⟨by decide +kernel, rfl⟩
theorem x_Pl_playEvent_9 : DC b_Pl_playEvent 9 (.istore_n 2) 1 10 := ⟨by decide +kernel, rfl⟩
theorem x_Pl_playEvent_10 : DC b_Pl_playEvent 10 (.aload_n 0) 1 11 := ⟨by decide +kernel, rfl⟩
theorem x_Pl_playEvent_11 : DC b_Pl_playEvent 11 (.getfield 55) 3 14 := ⟨by decide +kernel, rfl⟩
theorem x_Pl_playEvent_14 : DC b_Pl_playEvent 14 (.getfield 113) 3 17 := ⟨by decide +kernel, rfl⟩
theorem x_Pl_playEvent_17 : DC b_Pl_playEvent 17 (.iload_n 1) 1 18 := ⟨by decide +kernel, rfl⟩
theorem x_Pl_playEvent_18 : DC b_Pl_playEvent 18 (.iaload) 1 19 := ⟨by decide +kernel, rfl⟩
theorem x_Pl_playEvent_19 : DC b_Pl_playEvent 19 (.istore_n 3) 1 20 := ⟨by decide +kernel, rfl⟩
theorem x_Pl_playEvent_20 : DC b_Pl_playEvent 20 (.aload_n 0) 1 21 := ⟨by decide +kernel, rfl⟩
theorem x_Pl_playEvent_21 : DC b_Pl_playEvent 21 (.getfield 55) 3 24 := ⟨by decide +kernel, rfl⟩
theorem x_Pl_playEvent_24 : DC b_Pl_playEvent 24 (.getfield 116) 3 27 := ⟨by decide +kernel, rfl⟩
theorem x_Pl_playEvent_27 : DC b_Pl_playEvent 27 (.iload_n 1) 1 28 := ⟨by decide +kernel, rfl⟩
theorem x_Pl_playEvent_28 : DC b_Pl_playEvent 28 (.iaload) 1 29 := ⟨by decide +kernel, rfl⟩
theorem x_Pl_playEvent_29 : DC b_Pl_playEvent 29 (.istore 4) 2 31 := ⟨by decide +kernel, rfl⟩
theorem x_Pl_playEvent_31 : DC b_Pl_playEvent 31 (.aload_n 0) 1 32 := ⟨by decide +kernel, rfl⟩
theorem x_Pl_playEvent_32 : DC b_Pl_playEvent 32 (.getfield 55) 3 35 := ⟨by decide +kernel, rfl⟩
theorem x_Pl_playEvent_35 : DC b_Pl_playEvent 35 (.getfield 119) 3 38 := ⟨by decide +kernel, rfl⟩
theorem x_Pl_playEvent_38 : DC b_Pl_playEvent 38 (.iload_n 1) 1 39 := ⟨by decide +kernel, rfl⟩
theorem x_Pl_playEvent_39 : DC b_Pl_playEvent 39 (.iaload) 1 40 := ⟨by decide +kernel, rfl⟩
theorem x_Pl_playEvent_40 : DC b_Pl_playEvent 40 (.istore 5) 2 42 := ⟨by decide +kernel, rfl⟩
theorem x_Pl_playEvent_42 : DC b_Pl_playEvent 42 (.aload_n 0) 1 43 := ⟨by decide +kernel, rfl⟩
theorem x_Pl_playEvent_43 : DC b_Pl_playEvent 43 (.getfield 55) 3 46 := ⟨by decide +kernel, rfl⟩
theorem x_Pl_playEvent_46 : DC b_Pl_playEvent 46 (.getfield 122) 3 49 := ⟨by decide +kernel, rfl⟩
theorem x_Pl_playEvent_49 : DC b_Pl_playEvent 49 (.iload_n 1) 1 50 := ⟨by decide +kernel, rfl⟩
theorem x_Pl_playEvent_50 : DC b_Pl_playEvent 50 (.iaload) 1 51 := ⟨by decide +kernel, rfl⟩
theorem x_Pl_playEvent_51 : DC b_Pl_playEvent 51 (.tableswitch 101 0 2 #[25, 35, 81]) 25 76 := ⟨by decide +kernel, rfl⟩
theorem x_Pl_playEvent_76 : DC b_Pl_playEvent 76 (.aload_n 0) 1 77 := ⟨by decide +kernel, rfl⟩
theorem x_Pl_playEvent_77 : DC b_Pl_playEvent 77 (.iload_n 1) 1 78 := ⟨by decide +kernel, rfl⟩
theorem x_Pl_playEvent_78 : DC b_Pl_playEvent 78 (.iload 4) 2 80 := ⟨by decide +kernel, rfl⟩
theorem x_Pl_playEvent_80 : DC b_Pl_playEvent 80 (.invokevirtual 125) 3 83 := ⟨by decide +kernel, rfl⟩
theorem x_Pl_playEvent_83 : DC b_Pl_playEvent 83 (.goto 102) 3 86 := ⟨by decide +kernel, rfl⟩
theorem x_Pl_playEvent_86 : DC b_Pl_playEvent 86 (.aload_n 0) 1 87 := ⟨by decide +kernel, rfl⟩
theorem x_Pl_playEvent_87 : DC b_Pl_playEvent 87 (.iload_n 1) 1 88 := ⟨by decide +kernel, rfl⟩
theorem x_Pl_playEvent_88 : DC b_Pl_playEvent 88 (.iload 4) 2 90 := ⟨by decide +kernel, rfl⟩
theorem x_Pl_playEvent_90 : DC b_Pl_playEvent 90 (.iload_n 2) 1 91 := ⟨by decide +kernel, rfl⟩
theorem x_Pl_playEvent_91 : DC b_Pl_playEvent 91 (.iload_n 3) 1 92 := ⟨by decide +kernel, rfl⟩
theorem x_Pl_playEvent_92 : DC b_Pl_playEvent 92 (.invokestatic 63) 3 95 := ⟨by decide +kernel, rfl⟩
theorem x_Pl_playEvent_95 : DC b_Pl_playEvent 95 (.invokevirtual 129) 3 98 := ⟨by decide +kernel, rfl⟩
theorem x_Pl_playEvent_98 : DC b_Pl_playEvent 98 (.aload_n 0) 1 99 := ⟨by decide +kernel, rfl⟩
theorem x_Pl_playEvent_99 : DC b_Pl_playEvent 99 (.getfield 36) 3 102 := ⟨by decide +kernel, rfl⟩
theorem x_Pl_playEvent_102 : DC b_Pl_playEvent 102 (.iload 4) 2 104 := ⟨by decide +kernel, rfl⟩
theorem x_Pl_playEvent_104 : DC b_Pl_playEvent 104 (.dup2) 1 105 := ⟨by decide +kernel, rfl⟩
theorem x_Pl_playEvent_105 : DC b_Pl_playEvent 105 (.iaload) 1 106 := ⟨by decide +kernel, rfl⟩
theorem x_Pl_playEvent_106 : DC b_Pl_playEvent 106 (.aload_n 0) 1 107 := ⟨by decide +kernel, rfl⟩
theorem x_Pl_playEvent_107 : DC b_Pl_playEvent 107 (.getfield 13) 3 110 := ⟨by decide +kernel, rfl⟩
theorem x_Pl_playEvent_110 : DC b_Pl_playEvent 110 (.iload_n 1) 1 111 := ⟨by decide +kernel, rfl⟩
theorem x_Pl_playEvent_111 : DC b_Pl_playEvent 111 (.iaload) 1 112 := ⟨by decide +kernel, rfl⟩
theorem x_Pl_playEvent_112 : DC b_Pl_playEvent 112 (.isub) 1 113 := ⟨by decide +kernel, rfl⟩
theorem x_Pl_playEvent_113 : DC b_Pl_playEvent 113 (.iastore) 1 114 := ⟨by decide +kernel, rfl⟩
theorem x_Pl_playEvent_114 : DC b_Pl_playEvent 114 (.aload_n 0) 1 115 := ⟨by decide +kernel, rfl⟩
theorem x_Pl_playEvent_115 : DC b_Pl_playEvent 115 (.aload_n 0) 1 116 := ⟨by decide +kernel, rfl⟩
theorem x_Pl_playEvent_116 : DC b_Pl_playEvent 116 (.iload 5) 2 118 := ⟨by decide +kernel, rfl⟩
theorem x_Pl_playEvent_118 : DC b_Pl_playEvent 118 (.iload_n 2) 1 119 := ⟨by decide +kernel, rfl⟩
theorem x_Pl_playEvent_119 : DC b_Pl_playEvent 119 (.iload_n 3) 1 120 := ⟨by decide +kernel, rfl⟩
theorem x_Pl_playEvent_120 : DC b_Pl_playEvent 120 (.invokestatic 132) 3 123 := ⟨by decide +kernel, rfl⟩
theorem x_Pl_playEvent_123 : DC b_Pl_playEvent 123 (.invokevirtual 135) 3 126 := ⟨by decide +kernel, rfl⟩
theorem x_Pl_playEvent_126 : DC b_Pl_playEvent 126 (.invokevirtual 138) 3 129 := ⟨by decide +kernel, rfl⟩
theorem x_Pl_playEvent_129 : DC b_Pl_playEvent 129 (.goto 56) 3 132 := ⟨by decide +kernel, rfl⟩
theorem x_Pl_playEvent_132 : DC b_Pl_playEvent 132 (.aload_n 0) 1 133 := ⟨by decide +kernel, rfl⟩
theorem x_Pl_playEvent_133 : DC b_Pl_playEvent 133 (.iload_n 1) 1 134 := ⟨by decide +kernel, rfl⟩
theorem x_Pl_playEvent_134 : DC b_Pl_playEvent 134 (.iload 5) 2 136 := ⟨by decide +kernel, rfl⟩
theorem x_Pl_playEvent_136 : DC b_Pl_playEvent 136 (.iload_n 2) 1 137 := ⟨by decide +kernel, rfl⟩
theorem x_Pl_playEvent_137 : DC b_Pl_playEvent 137 (.iload_n 3) 1 138 := ⟨by decide +kernel, rfl⟩
theorem x_Pl_playEvent_138 : DC b_Pl_playEvent 138 (.invokestatic 132) 3 141 := ⟨by decide +kernel, rfl⟩
theorem x_Pl_playEvent_141 : DC b_Pl_playEvent 141 (.invokevirtual 129) 3 144 := ⟨by decide +kernel, rfl⟩
theorem x_Pl_playEvent_144 : DC b_Pl_playEvent 144 (.aload_n 0) 1 145 := ⟨by decide +kernel, rfl⟩
theorem x_Pl_playEvent_145 : DC b_Pl_playEvent 145 (.iconst 2) 1 146 := ⟨by decide +kernel, rfl⟩
theorem x_Pl_playEvent_146 : DC b_Pl_playEvent 146 (.invokevirtual 141) 3 149 := ⟨by decide +kernel, rfl⟩
theorem x_Pl_playEvent_149 : DC b_Pl_playEvent 149 (.goto 36) 3 152 := ⟨by decide +kernel, rfl⟩
theorem x_Pl_playEvent_152 : DC b_Pl_playEvent 152 (.aload_n 0) 1 153 := ⟨by decide +kernel, rfl⟩
theorem x_Pl_playEvent_153 : DC b_Pl_playEvent 153 (.iload_n 1) 1 154 := ⟨by decide +kernel, rfl⟩
theorem x_Pl_playEvent_154 : DC b_Pl_playEvent 154 (.iload 4) 2 156 := ⟨by decide +kernel, rfl⟩
theorem x_Pl_playEvent_156 : DC b_Pl_playEvent 156 (.iload_n 2) 1 157 := ⟨by decide +kernel, rfl⟩
theorem x_Pl_playEvent_157 : DC b_Pl_playEvent 157 (.iload_n 3) 1 158 := ⟨by decide +kernel, rfl⟩
theorem x_Pl_playEvent_158 : DC b_Pl_playEvent 158 (.invokestatic 63) 3 161 := ⟨by decide +kernel, rfl⟩
theorem x_Pl_playEvent_161 : DC b_Pl_playEvent 161 (.invokevirtual 129) 3 164 := ⟨by decide +kernel, rfl⟩
theorem x_Pl_playEvent_164 : DC b_Pl_playEvent 164 (.aload_n 0) 1 165 := ⟨by decide +kernel, rfl⟩
theorem x_Pl_playEvent_165 : DC b_Pl_playEvent 165 (.getfield 36) 3 168 := ⟨by decide +kernel, rfl⟩
theorem x_Pl_playEvent_168 : DC b_Pl_playEvent 168 (.iload 4) 2 170 := ⟨by decide +kernel, rfl⟩
theorem x_Pl_playEvent_170 : DC b_Pl_playEvent 170 (.dup2) 1 171 := ⟨by decide +kernel, rfl⟩
theorem x_Pl_playEvent_171 : DC b_Pl_playEvent 171 (.iaload) 1 172 := ⟨by decide +kernel, rfl⟩
theorem x_Pl_playEvent_172 : DC b_Pl_playEvent 172 (.aload_n 0) 1 173 := ⟨by decide +kernel, rfl⟩
theorem x_Pl_playEvent_173 : DC b_Pl_playEvent 173 (.getfield 13) 3 176 := ⟨by decide +kernel, rfl⟩
theorem x_Pl_playEvent_176 : DC b_Pl_playEvent 176 (.iload_n 1) 1 177 := ⟨by decide +kernel, rfl⟩
theorem x_Pl_playEvent_177 : DC b_Pl_playEvent 177 (.iaload) 1 178 := ⟨by decide +kernel, rfl⟩
theorem x_Pl_playEvent_178 : DC b_Pl_playEvent 178 (.isub) 1 179 := ⟨by decide +kernel, rfl⟩
theorem x_Pl_playEvent_179 : DC b_Pl_playEvent 179 (.iastore) 1 180 := ⟨by decide +kernel, rfl⟩
theorem x_Pl_playEvent_180 : DC b_Pl_playEvent 180 (.aload_n 0) 1 181 := ⟨by decide +kernel, rfl⟩
theorem x_Pl_playEvent_181 : DC b_Pl_playEvent 181 (.iconst 3) 1 182 := ⟨by decide +kernel, rfl⟩
theorem x_Pl_playEvent_182 : DC b_Pl_playEvent 182 (.invokevirtual 141) 3 185 := ⟨by decide +kernel, rfl⟩
theorem x_Pl_playEvent_185 : DC b_Pl_playEvent 185 (.return_) 1 186 := ⟨by decide +kernel, rfl⟩
def d_Pl_playEvent (a1 : Int) (M : Mem) : Res := chk (0 ≤ w32 a1 ∧ w32 a1 < 120) <| blet (M 20 (ix a1)) fun v2 => chk (0 ≤ w32 a1 ∧ w32 a1 < 120) <| blet (M 21 (ix a1)) fun v4 => chk (0 ≤ w32 a1 ∧ w32 a1 < 120) <| blet (M 18 (ix a1)) fun v6 => chk (0 ≤ w32 a1 ∧ w32 a1 < 120) <| blet (M 19 (ix a1)) fun v8 => chk (0 ≤ w32 a1 ∧ w32 a1 < 120) <| blet (M 16 (ix a1)) fun v10 => if w32 v10 = 0 then (bcall (d_Pl_bring a1 v6 M) fun v12 M13 => some (0, M13)) else (if w32 v10 = 1 then (bcall (d_Pl_slotOfBin v6 v2 v4 M) fun v15 M16 => bcall (d_Pl_takeParts a1 v15 M16) fun v17 M18 => chk (0 ≤ w32 v6 ∧ w32 v6 < 8) <| blet (M18 83 (ix v6)) fun v20 => chk (0 ≤ w32 a1 ∧ w32 a1 < 120) <| blet (M18 76 (ix a1)) fun v22 => chk (0 ≤ w32 v6 ∧ w32 v6 < 8) <| blet (sto M18 83 (ix v6) (v20 - v22)) fun M24 => bcall (d_Pl_slotOfPort v8 v2 v4 M24) fun v25 M26 => bcall (d_Pl_openRow v25 M26) fun v27 M28 => bcall (d_Pl_addParts v27 M28) fun v29 M30 => some (0, M30)) else (if w32 v10 = 2 then (bcall (d_Pl_slotOfPort v8 v2 v4 M) fun v32 M33 => bcall (d_Pl_takeParts a1 v32 M33) fun v34 M35 => bcall (d_Pl_countParts 2 M35) fun v36 M37 => some (0, M37)) else (bcall (d_Pl_slotOfBin v6 v2 v4 M) fun v38 M39 => bcall (d_Pl_takeParts a1 v38 M39) fun v40 M41 => chk (0 ≤ w32 v6 ∧ w32 v6 < 8) <| blet (M41 83 (ix v6)) fun v43 => chk (0 ≤ w32 a1 ∧ w32 a1 < 120) <| blet (M41 76 (ix a1)) fun v45 => chk (0 ≤ w32 v6 ∧ w32 v6 < 8) <| blet (sto M41 83 (ix v6) (v43 - v45)) fun M47 => bcall (d_Pl_countParts 3 M47) fun v48 M49 => some (0, M49))))
theorem t_Pl_playEvent (l : Launch) (G : GX) {lev : Nat} (hlev : 3 ≤ lev) {a1 : Int} {M : Mem} {r : Int × Mem} (h : d_Pl_playEvent a1 M = some r) : Mt l G y_Pl_playEvent b_Pl_playEvent 6 none lev 0 [.ref (G.1 + 75), vi a1] M r := by
  refine Mt.of (by decide) (i_le rfl) ?_
  intro p e s m args below meth c C
  have C : Cx p s m args meth c G b_Pl_playEvent 6 "PrairiePool$Play" none := C
  unfold d_Pl_playEvent at h
  refine z_sub (lv' := [(0, .ref (G.1 + 75)), (1, vi a1)]) [0, 1] rfl ?_
  refine z_aload_n C 0 x_Pl_playEvent_0 rfl ?_
  refine z_getR (j := 1) C x_Pl_playEvent_1 nk_75 ck_75 cw_6 (i_lt rfl) rfl rf_75_1 rfl fl_Pl_55 ?_
  refine z_getR (j := 6) C x_Pl_playEvent_4 nk_15 ck_15 cw_2 (i_lt rfl) rfl rf_15_6 rfl fl_Pl_110 ?_
  refine z_iload_n C 1 x_Pl_playEvent_7 rfl ?_
  obtain ⟨c1, h⟩ := chk_e h
  obtain ⟨v2, ev2, h⟩ := blet_e h
  refine z_iald C x_Pl_playEvent_8 nk_20 ck_20 c1 ev2 ?_
  refine z_istore_n (lv' := [(2, vi v2), (0, .ref (G.1 + 75)), (1, vi a1)]) C rfl x_Pl_playEvent_9 (i_lt rfl) rfl ?_
  refine z_aload_n C 1 x_Pl_playEvent_10 rfl ?_
  refine z_getR (j := 1) C x_Pl_playEvent_11 nk_75 ck_75 cw_6 (i_lt rfl) rfl rf_75_1 rfl fl_Pl_55 ?_
  refine z_getR (j := 7) C x_Pl_playEvent_14 nk_15 ck_15 cw_2 (i_lt rfl) rfl rf_15_7 rfl fl_Pl_113 ?_
  refine z_iload_n C 2 x_Pl_playEvent_17 rfl ?_
  obtain ⟨c3, h⟩ := chk_e h
  obtain ⟨v4, ev4, h⟩ := blet_e h
  refine z_iald C x_Pl_playEvent_18 nk_21 ck_21 c3 ev4 ?_
  refine z_istore_n (lv' := [(3, vi v4), (2, vi v2), (0, .ref (G.1 + 75)), (1, vi a1)]) C rfl x_Pl_playEvent_19 (i_lt rfl) rfl ?_
  refine z_aload_n C 2 x_Pl_playEvent_20 rfl ?_
  refine z_getR (j := 1) C x_Pl_playEvent_21 nk_75 ck_75 cw_6 (i_lt rfl) rfl rf_75_1 rfl fl_Pl_55 ?_
  refine z_getR (j := 4) C x_Pl_playEvent_24 nk_15 ck_15 cw_2 (i_lt rfl) rfl rf_15_4 rfl fl_Pl_116 ?_
  refine z_iload_n C 3 x_Pl_playEvent_27 rfl ?_
  obtain ⟨c5, h⟩ := chk_e h
  obtain ⟨v6, ev6, h⟩ := blet_e h
  refine z_iald C x_Pl_playEvent_28 nk_18 ck_18 c5 ev6 ?_
  refine z_istore (lv' := [(4, vi v6), (3, vi v4), (2, vi v2), (0, .ref (G.1 + 75)), (1, vi a1)]) C rfl x_Pl_playEvent_29 (i_lt rfl) rfl ?_
  refine z_aload_n C 3 x_Pl_playEvent_31 rfl ?_
  refine z_getR (j := 1) C x_Pl_playEvent_32 nk_75 ck_75 cw_6 (i_lt rfl) rfl rf_75_1 rfl fl_Pl_55 ?_
  refine z_getR (j := 5) C x_Pl_playEvent_35 nk_15 ck_15 cw_2 (i_lt rfl) rfl rf_15_5 rfl fl_Pl_119 ?_
  refine z_iload_n C 4 x_Pl_playEvent_38 rfl ?_
  obtain ⟨c7, h⟩ := chk_e h
  obtain ⟨v8, ev8, h⟩ := blet_e h
  refine z_iald C x_Pl_playEvent_39 nk_19 ck_19 c7 ev8 ?_
  refine z_istore (lv' := [(5, vi v8), (4, vi v6), (3, vi v4), (2, vi v2), (0, .ref (G.1 + 75)), (1, vi a1)]) C rfl x_Pl_playEvent_40 (i_lt rfl) rfl ?_
  refine z_aload_n C 4 x_Pl_playEvent_42 rfl ?_
  refine z_getR (j := 1) C x_Pl_playEvent_43 nk_75 ck_75 cw_6 (i_lt rfl) rfl rf_75_1 rfl fl_Pl_55 ?_
  refine z_getR (j := 2) C x_Pl_playEvent_46 nk_15 ck_15 cw_2 (i_lt rfl) rfl rf_15_2 rfl fl_Pl_122 ?_
  refine z_iload_n C 5 x_Pl_playEvent_49 rfl ?_
  obtain ⟨c9, h⟩ := chk_e h
  obtain ⟨v10, ev10, h⟩ := blet_e h
  refine z_iald C x_Pl_playEvent_50 nk_16 ck_16 c9 ev10 ?_
  rcases ite_e h with ⟨c11, h⟩ | ⟨c11, h⟩
  · refine z_tableIn (tgt := 76) C x_Pl_playEvent_51 c11 (by decide) rfl rfl ?_
    refine z_aload_n C 4 x_Pl_playEvent_76 rfl ?_
    refine z_iload_n C 5 x_Pl_playEvent_77 rfl ?_
    refine z_iload C 1 x_Pl_playEvent_78 rfl ?_
    obtain ⟨v12, M13, fv12, h⟩ := bcall_e h
    refine z_callVv (k := 75) C x_Pl_playEvent_80 cv_Pl_125 (t_Pl_bring (lev := lev - 1) l G (by omega) fv12) nk_75 ck_75 rfl (by omega) rfl (i_le rfl) rfl ?_
    refine z_goto (tgt := 185) C x_Pl_playEvent_83 rfl ?_
    exact z_vret C x_Pl_playEvent_185 h
  · rcases ite_e h with ⟨c14, h⟩ | ⟨c14, h⟩
    · refine z_tableIn (tgt := 86) C x_Pl_playEvent_51 c14 (by decide) rfl rfl ?_
      refine z_aload_n C 4 x_Pl_playEvent_86 rfl ?_
      refine z_iload_n C 5 x_Pl_playEvent_87 rfl ?_
      refine z_iload C 1 x_Pl_playEvent_88 rfl ?_
      refine z_iload_n C 3 x_Pl_playEvent_90 rfl ?_
      refine z_iload_n C 2 x_Pl_playEvent_91 rfl ?_
      obtain ⟨v15, M16, fv15, h⟩ := bcall_e h
      refine z_callSi C x_Pl_playEvent_92 cs_Pl_63 (t_Pl_slotOfBin (lev := lev - 1) l G (by omega) fv15) (by omega) rfl (i_le rfl) rfl ?_
      obtain ⟨v17, M18, fv17, h⟩ := bcall_e h
      refine z_callVv (k := 75) C x_Pl_playEvent_95 cv_Pl_129 (t_Pl_takeParts (lev := lev - 1) l G (by omega) fv17) nk_75 ck_75 rfl (by omega) rfl (i_le rfl) rfl ?_
      refine z_aload_n C 4 x_Pl_playEvent_98 rfl ?_
      refine z_getR (j := 12) C x_Pl_playEvent_99 nk_75 ck_75 cw_6 (i_lt rfl) rfl rf_75_12 rfl fl_Pl_36 ?_
      refine z_iload C 1 x_Pl_playEvent_102 rfl ?_
      refine z_dup2 C x_Pl_playEvent_104 rfl rfl ?_
      obtain ⟨c19, h⟩ := chk_e h
      obtain ⟨v20, ev20, h⟩ := blet_e h
      refine z_iald C x_Pl_playEvent_105 nk_83 ck_83 c19 ev20 ?_
      refine z_aload_n C 4 x_Pl_playEvent_106 rfl ?_
      refine z_getR (j := 4) C x_Pl_playEvent_107 nk_75 ck_75 cw_6 (i_lt rfl) rfl rf_75_4 rfl fl_Pl_13 ?_
      refine z_iload_n C 5 x_Pl_playEvent_110 rfl ?_
      obtain ⟨c21, h⟩ := chk_e h
      obtain ⟨v22, ev22, h⟩ := blet_e h
      refine z_iald C x_Pl_playEvent_111 nk_76 ck_76 c21 ev22 ?_
      refine z_isub C x_Pl_playEvent_112 ?_
      obtain ⟨c23, h⟩ := chk_e h
      obtain ⟨M24, eM24, h⟩ := blet_e h
      refine z_iast C x_Pl_playEvent_113 nk_83 ck_83 c23 eM24 ?_
      refine z_aload_n C 4 x_Pl_playEvent_114 rfl ?_
      refine z_aload_n C 4 x_Pl_playEvent_115 rfl ?_
      refine z_iload C 0 x_Pl_playEvent_116 rfl ?_
      refine z_iload_n C 3 x_Pl_playEvent_118 rfl ?_
      refine z_iload_n C 2 x_Pl_playEvent_119 rfl ?_
      obtain ⟨v25, M26, fv25, h⟩ := bcall_e h
      refine z_callSi C x_Pl_playEvent_120 cs_Pl_132 (t_Pl_slotOfPort (lev := lev - 1) l G (by omega) fv25) (by omega) rfl (i_le rfl) rfl ?_
      obtain ⟨v27, M28, fv27, h⟩ := bcall_e h
      refine z_callVi (k := 75) C x_Pl_playEvent_123 cv_Pl_135 (t_Pl_openRow (lev := lev - 1) l G (by omega) fv27) nk_75 ck_75 rfl (by omega) rfl (i_le rfl) rfl ?_
      obtain ⟨v29, M30, fv29, h⟩ := bcall_e h
      refine z_callVv (k := 75) C x_Pl_playEvent_126 cv_Pl_138 (t_Pl_addParts (lev := lev - 1) l G (by omega) fv29) nk_75 ck_75 rfl (by omega) rfl (i_le rfl) rfl ?_
      refine z_goto (tgt := 185) C x_Pl_playEvent_129 rfl ?_
      exact z_vret C x_Pl_playEvent_185 h
    · rcases ite_e h with ⟨c31, h⟩ | ⟨c31, h⟩
      · refine z_tableIn (tgt := 132) C x_Pl_playEvent_51 c31 (by decide) rfl rfl ?_
        refine z_aload_n C 4 x_Pl_playEvent_132 rfl ?_
        refine z_iload_n C 5 x_Pl_playEvent_133 rfl ?_
        refine z_iload C 0 x_Pl_playEvent_134 rfl ?_
        refine z_iload_n C 3 x_Pl_playEvent_136 rfl ?_
        refine z_iload_n C 2 x_Pl_playEvent_137 rfl ?_
        obtain ⟨v32, M33, fv32, h⟩ := bcall_e h
        refine z_callSi C x_Pl_playEvent_138 cs_Pl_132 (t_Pl_slotOfPort (lev := lev - 1) l G (by omega) fv32) (by omega) rfl (i_le rfl) rfl ?_
        obtain ⟨v34, M35, fv34, h⟩ := bcall_e h
        refine z_callVv (k := 75) C x_Pl_playEvent_141 cv_Pl_129 (t_Pl_takeParts (lev := lev - 1) l G (by omega) fv34) nk_75 ck_75 rfl (by omega) rfl (i_le rfl) rfl ?_
        refine z_aload_n C 4 x_Pl_playEvent_144 rfl ?_
        refine z_iconst C x_Pl_playEvent_145 ?_
        obtain ⟨v36, M37, fv36, h⟩ := bcall_e h
        refine z_callVv (k := 75) C x_Pl_playEvent_146 cv_Pl_141 (t_Pl_countParts (lev := lev - 1) l G (by omega) fv36) nk_75 ck_75 rfl (by omega) rfl (i_le rfl) rfl ?_
        refine z_goto (tgt := 185) C x_Pl_playEvent_149 rfl ?_
        exact z_vret C x_Pl_playEvent_185 h
      · refine z_tableOut (tgt := 152) C x_Pl_playEvent_51 (by omega) rfl ?_
        refine z_aload_n C 4 x_Pl_playEvent_152 rfl ?_
        refine z_iload_n C 5 x_Pl_playEvent_153 rfl ?_
        refine z_iload C 1 x_Pl_playEvent_154 rfl ?_
        refine z_iload_n C 3 x_Pl_playEvent_156 rfl ?_
        refine z_iload_n C 2 x_Pl_playEvent_157 rfl ?_
        obtain ⟨v38, M39, fv38, h⟩ := bcall_e h
        refine z_callSi C x_Pl_playEvent_158 cs_Pl_63 (t_Pl_slotOfBin (lev := lev - 1) l G (by omega) fv38) (by omega) rfl (i_le rfl) rfl ?_
        obtain ⟨v40, M41, fv40, h⟩ := bcall_e h
        refine z_callVv (k := 75) C x_Pl_playEvent_161 cv_Pl_129 (t_Pl_takeParts (lev := lev - 1) l G (by omega) fv40) nk_75 ck_75 rfl (by omega) rfl (i_le rfl) rfl ?_
        refine z_aload_n C 4 x_Pl_playEvent_164 rfl ?_
        refine z_getR (j := 12) C x_Pl_playEvent_165 nk_75 ck_75 cw_6 (i_lt rfl) rfl rf_75_12 rfl fl_Pl_36 ?_
        refine z_iload C 1 x_Pl_playEvent_168 rfl ?_
        refine z_dup2 C x_Pl_playEvent_170 rfl rfl ?_
        obtain ⟨c42, h⟩ := chk_e h
        obtain ⟨v43, ev43, h⟩ := blet_e h
        refine z_iald C x_Pl_playEvent_171 nk_83 ck_83 c42 ev43 ?_
        refine z_aload_n C 4 x_Pl_playEvent_172 rfl ?_
        refine z_getR (j := 4) C x_Pl_playEvent_173 nk_75 ck_75 cw_6 (i_lt rfl) rfl rf_75_4 rfl fl_Pl_13 ?_
        refine z_iload_n C 5 x_Pl_playEvent_176 rfl ?_
        obtain ⟨c44, h⟩ := chk_e h
        obtain ⟨v45, ev45, h⟩ := blet_e h
        refine z_iald C x_Pl_playEvent_177 nk_76 ck_76 c44 ev45 ?_
        refine z_isub C x_Pl_playEvent_178 ?_
        obtain ⟨c46, h⟩ := chk_e h
        obtain ⟨M47, eM47, h⟩ := blet_e h
        refine z_iast C x_Pl_playEvent_179 nk_83 ck_83 c46 eM47 ?_
        refine z_aload_n C 4 x_Pl_playEvent_180 rfl ?_
        refine z_iconst C x_Pl_playEvent_181 ?_
        obtain ⟨v48, M49, fv48, h⟩ := bcall_e h
        refine z_callVv (k := 75) C x_Pl_playEvent_182 cv_Pl_141 (t_Pl_countParts (lev := lev - 1) l G (by omega) fv48) nk_75 ck_75 rfl (by omega) rfl (i_le rfl) rfl ?_
        exact z_vret C x_Pl_playEvent_185 h
theorem x_Pl_replay_0 : DC b_Pl_replay 0 (.aload_n 0) 1 1 := ⟨by decide +kernel, rfl⟩
theorem x_Pl_replay_1 : DC b_Pl_replay 1 (.getfield 29) 3 4 := ⟨by decide +kernel, rfl⟩
theorem x_Pl_replay_4 : DC b_Pl_replay 4 (.iconst (-1)) 1 5 := ⟨by decide +kernel, rfl⟩
theorem x_Pl_replay_5 : DC b_Pl_replay 5 (.invokestatic 67) 3 8 := ⟨by decide +kernel, rfl⟩
theorem x_Pl_replay_8 : DC b_Pl_replay 8 (.aload_n 0) 1 9 := ⟨by decide +kernel, rfl⟩
theorem x_Pl_replay_9 : DC b_Pl_replay 9 (.iconst 0) 1 10 := ⟨by decide +kernel, rfl⟩
theorem x_Pl_replay_10 : DC b_Pl_replay 10 (.putfield 90) 3 13 := ⟨by decide +kernel, rfl⟩
theorem x_Pl_replay_13 : DC b_Pl_replay 13 (.aload_n 0) 1 14 := ⟨by decide +kernel, rfl⟩
theorem x_Pl_replay_14 : DC b_Pl_replay 14 (.getfield 36) 3 17 := ⟨by decide +kernel, rfl⟩
theorem x_Pl_replay_17 : DC b_Pl_replay 17 (.iconst 0) 1 18 := ⟨by decide +kernel, rfl⟩
theorem x_Pl_replay_18 : DC b_Pl_replay 18 (.invokestatic 67) 3 21 := ⟨by decide +kernel, rfl⟩
theorem x_Pl_replay_21 : DC b_Pl_replay 21 (.aload_n 0) 1 22 := ⟨by decide +kernel, rfl⟩
theorem x_Pl_replay_22 : DC b_Pl_replay 22 (.getfield 39) 3 25 := ⟨by decide +kernel, rfl⟩
theorem x_Pl_replay_25 : DC b_Pl_replay 25 (.iconst 0) 1 26 := ⟨by decide +kernel, rfl⟩
theorem x_Pl_replay_26 : DC b_Pl_replay 26 (.invokestatic 67) 3 29 := ⟨by decide +kernel, rfl⟩
theorem x_Pl_replay_29 : DC b_Pl_replay 29 (.aload_n 0) 1 30 := ⟨by decide +kernel, rfl⟩
theorem x_Pl_replay_30 : DC b_Pl_replay 30 (.iconst 0) 1 31 := ⟨by decide +kernel, rfl⟩
theorem x_Pl_replay_31 : DC b_Pl_replay 31 (.putfield 93) 3 34 := ⟨by decide +kernel, rfl⟩
theorem x_Pl_replay_34 : DC b_Pl_replay 34 (.aload_n 0) 1 35 := ⟨by decide +kernel, rfl⟩
theorem x_Pl_replay_35 : DC b_Pl_replay 35 (.iload_n 1) 1 36 := ⟨by decide +kernel, rfl⟩
theorem x_Pl_replay_36 : DC b_Pl_replay 36 (.invokevirtual 96) 3 39 := ⟨by decide +kernel, rfl⟩
theorem x_Pl_replay_39 : DC b_Pl_replay 39 (.aload_n 0) 1 40 := ⟨by decide +kernel, rfl⟩
theorem x_Pl_replay_40 : DC b_Pl_replay 40 (.aload_n 0) 1 41 := ⟨by decide +kernel, rfl⟩
theorem x_Pl_replay_41 : DC b_Pl_replay 41 (.getfield 55) 3 44 := ⟨by decide +kernel, rfl⟩
theorem x_Pl_replay_44 : DC b_Pl_replay 44 (.iload_n 1) 1 45 := ⟨by decide +kernel, rfl⟩
theorem x_Pl_replay_45 : DC b_Pl_replay 45 (.invokevirtual 100) 3 48 := ⟨by decide +kernel, rfl⟩
theorem x_Pl_replay_48 : DC b_Pl_replay 48 (.putfield 104) 3 51 := ⟨by decide +kernel, rfl⟩
theorem x_Pl_replay_51 : DC b_Pl_replay 51 (.iconst 0) 1 52 := ⟨by decide +kernel, rfl⟩
theorem x_Pl_replay_52 : DC b_Pl_replay 52 (.istore_n 2) 1 53 := ⟨by decide +kernel, rfl⟩
theorem x_Pl_replay_53 : DC b_Pl_replay 53 (.iload_n 2) 1 54 := ⟨by decide +kernel, rfl⟩
theorem x_Pl_replay_54 : DC b_Pl_replay 54 (.aload_n 0) 1 55 := ⟨by decide +kernel, rfl⟩
theorem x_Pl_replay_55 : DC b_Pl_replay 55 (.getfield 104) 3 58 := ⟨by decide +kernel, rfl⟩
theorem x_Pl_replay_58 : DC b_Pl_replay 58 (.if_icmp .ge 14) 3 61 := ⟨by decide +kernel, rfl⟩
theorem x_Pl_replay_61 : DC b_Pl_replay 61 (.aload_n 0) 1 62 := ⟨by decide +kernel, rfl⟩
theorem x_Pl_replay_62 : DC b_Pl_replay 62 (.iload_n 2) 1 63 := ⟨by decide +kernel, rfl⟩
theorem x_Pl_replay_63 : DC b_Pl_replay 63 (.invokevirtual 107) 3 66 := ⟨by decide +kernel, rfl⟩
theorem x_Pl_replay_66 : DC b_Pl_replay 66 (.iinc 2 1) 3 69 := ⟨by decide +kernel, rfl⟩
theorem x_Pl_replay_69 : DC b_Pl_replay 69 (.goto (-16)) 3 72 := ⟨by decide +kernel, rfl⟩
theorem x_Pl_replay_72 : DC b_Pl_replay 72 (.return_) 1 73 := ⟨by decide +kernel, rfl⟩
def k_Pl_replay_53 (R53 : Int → Mem → Res) (a2 : Int) (M : Mem) : Res := blet (M 75 3) fun v1 => if w32 a2 < w32 v1 then (bcall (d_Pl_playEvent a2 M) fun v3 M4 => blet (a2 + 1) fun v5 => R53 v5 M4) else (some (0, M))
theorem z_Pl_replay_53 (C : Cx p s m args meth c G b_Pl_replay 3 "PrairiePool$Play" none) (hlev : 4 ≤ lev) {r : Int × Mem} {R53 : Int → Mem → Res} (hR53 : ∀ (a2 : Int) (M : Mem), R53 a2 M = some r → Z p l e lev s m args below meth c G 3 (MQ below (Qm G 0 r) args s 0 0 (Ab G)) M 53 [(0, .ref (G.1 + 75)), (2, vi a2)] []) {a2 : Int} {M : Mem} (h : k_Pl_replay_53 R53 a2 M = some r) : Z p l e lev s m args below meth c G 3 (MQ below (Qm G 0 r) args s 0 0 (Ab G)) M 53 [(0, .ref (G.1 + 75)), (2, vi a2)] [] := by
  unfold k_Pl_replay_53 at h
  refine z_iload_n C 1 x_Pl_replay_53 rfl ?_
  refine z_aload_n C 0 x_Pl_replay_54 rfl ?_
  obtain ⟨v1, ev1, h⟩ := blet_e h
  refine z_getI (j := 3) C x_Pl_replay_55 nk_75 ck_75 cw_6 (i_lt rfl) rfl rfl fl_Pl_104 ev1 ?_
  rcases ite_e h with ⟨c2, h⟩ | ⟨c2, h⟩
  · refine z_icmp_ge_f (tgt := 72) C x_Pl_replay_58 rfl c2 ?_
    refine z_aload_n C 0 x_Pl_replay_61 rfl ?_
    refine z_iload_n C 1 x_Pl_replay_62 rfl ?_
    obtain ⟨v3, M4, fv3, h⟩ := bcall_e h
    refine z_callVv (k := 75) C x_Pl_replay_63 cv_Pl_107 (t_Pl_playEvent (lev := lev - 1) l G (by omega) fv3) nk_75 ck_75 rfl (by omega) rfl (i_le rfl) rfl ?_
    obtain ⟨v5, ev5, h⟩ := blet_e h
    refine z_iinc (lv' := [(2, vi v5), (0, .ref (G.1 + 75))]) C 1 ev5 x_Pl_replay_66 rfl (i_lt rfl) rfl ?_
    refine z_goto (tgt := 53) C x_Pl_replay_69 rfl ?_
    exact z_sub [1, 0] rfl (hR53 v5 M4 h)
  · refine z_icmp_ge_t (tgt := 72) C x_Pl_replay_58 rfl c2 ?_
    exact z_vret C x_Pl_replay_72 h
theorem zl_Pl_replay_53 (C : Cx p s m args meth c G b_Pl_replay 3 "PrairiePool$Play" none) (hlev : 4 ≤ lev) {r : Int × Mem}  : ∀ (n : Nat) (a2 : Int) (M : Mem), fix (fun _ _ => none) (k_Pl_replay_53) n a2 M = some r → Z p l e lev s m args below meth c G 3 (MQ below (Qm G 0 r) args s 0 0 (Ab G)) M 53 [(0, .ref (G.1 + 75)), (2, vi a2)] [] := by
  intro n
  induction n with
  | zero => intro a2 M h; exact nomatch (show (none : Res) = some r from h)
  | succ n ih => intro a2 M h; exact z_Pl_replay_53 C hlev ih h
def d_Pl_replay (a1 : Int) (M : Mem) : Res := bcall (d_Ar_fill1 81 600 (-1) M) fun v1 M2 => blet (sto M2 75 10 0) fun M3 => bcall (d_Ar_fill1 83 8 0 M3) fun v4 M5 => bcall (d_Ar_fill1 84 80 0 M5) fun v6 M7 => blet (sto M7 75 14 0) fun M8 => bcall (d_Pl_judge a1 M8) fun v9 M10 => bcall (d_Jo_countKnownBy a1 M10) fun v11 M12 => blet (sto M12 75 3 v11) fun M13 => fix (fun _ _ => none) (k_Pl_replay_53) FU 0 M13
theorem t_Pl_replay (l : Launch) (G : GX) {lev : Nat} (hlev : 4 ≤ lev) {a1 : Int} {M : Mem} {r : Int × Mem} (h : d_Pl_replay a1 M = some r) : Mt l G y_Pl_replay b_Pl_replay 3 none lev 0 [.ref (G.1 + 75), vi a1] M r := by
  refine Mt.of (by decide) (i_le rfl) ?_
  intro p e s m args below meth c C
  have C : Cx p s m args meth c G b_Pl_replay 3 "PrairiePool$Play" none := C
  unfold d_Pl_replay at h
  refine z_sub (lv' := [(0, .ref (G.1 + 75)), (1, vi a1)]) [0, 1] rfl ?_
  refine z_aload_n C 0 x_Pl_replay_0 rfl ?_
  refine z_getR (j := 9) C x_Pl_replay_1 nk_75 ck_75 cw_6 (i_lt rfl) rfl rf_75_9 rfl fl_Pl_29 ?_
  refine z_iconst C x_Pl_replay_4 ?_
  obtain ⟨v1, M2, fv1, h⟩ := bcall_e h
  refine z_callSv C x_Pl_replay_5 cs_Pl_67 (t_Ar_fill1 (lev := lev - 1) l G (by omega) nk_81 ck_81 fv1) (by omega) rfl (i_le rfl) rfl ?_
  refine z_aload_n C 0 x_Pl_replay_8 rfl ?_
  refine z_iconst C x_Pl_replay_9 ?_
  obtain ⟨M3, eM3, h⟩ := blet_e h
  refine z_putI (j := 10) C x_Pl_replay_10 nk_75 ck_75 cw_6 (i_lt rfl) rfl rfl rfl rfl fl_Pl_90 eM3 ?_
  refine z_aload_n C 0 x_Pl_replay_13 rfl ?_
  refine z_getR (j := 12) C x_Pl_replay_14 nk_75 ck_75 cw_6 (i_lt rfl) rfl rf_75_12 rfl fl_Pl_36 ?_
  refine z_iconst C x_Pl_replay_17 ?_
  obtain ⟨v4, M5, fv4, h⟩ := bcall_e h
  refine z_callSv C x_Pl_replay_18 cs_Pl_67 (t_Ar_fill1 (lev := lev - 1) l G (by omega) nk_83 ck_83 fv4) (by omega) rfl (i_le rfl) rfl ?_
  refine z_aload_n C 0 x_Pl_replay_21 rfl ?_
  refine z_getR (j := 13) C x_Pl_replay_22 nk_75 ck_75 cw_6 (i_lt rfl) rfl rf_75_13 rfl fl_Pl_39 ?_
  refine z_iconst C x_Pl_replay_25 ?_
  obtain ⟨v6, M7, fv6, h⟩ := bcall_e h
  refine z_callSv C x_Pl_replay_26 cs_Pl_67 (t_Ar_fill1 (lev := lev - 1) l G (by omega) nk_84 ck_84 fv6) (by omega) rfl (i_le rfl) rfl ?_
  refine z_aload_n C 0 x_Pl_replay_29 rfl ?_
  refine z_iconst C x_Pl_replay_30 ?_
  obtain ⟨M8, eM8, h⟩ := blet_e h
  refine z_putI (j := 14) C x_Pl_replay_31 nk_75 ck_75 cw_6 (i_lt rfl) rfl rfl rfl rfl fl_Pl_93 eM8 ?_
  refine z_aload_n C 0 x_Pl_replay_34 rfl ?_
  refine z_iload_n C 1 x_Pl_replay_35 rfl ?_
  obtain ⟨v9, M10, fv9, h⟩ := bcall_e h
  refine z_callVv (k := 75) C x_Pl_replay_36 cv_Pl_96 (t_Pl_judge (lev := lev - 1) l G (by omega) fv9) nk_75 ck_75 rfl (by omega) rfl (i_le rfl) rfl ?_
  refine z_aload_n C 0 x_Pl_replay_39 rfl ?_
  refine z_aload_n C 0 x_Pl_replay_40 rfl ?_
  refine z_getR (j := 1) C x_Pl_replay_41 nk_75 ck_75 cw_6 (i_lt rfl) rfl rf_75_1 rfl fl_Pl_55 ?_
  refine z_iload_n C 1 x_Pl_replay_44 rfl ?_
  obtain ⟨v11, M12, fv11, h⟩ := bcall_e h
  refine z_callVi (k := 15) C x_Pl_replay_45 cv_Pl_100 (t_Jo_countKnownBy (lev := lev - 1) l G (by omega) fv11) nk_15 ck_15 rfl (by omega) rfl (i_le rfl) rfl ?_
  obtain ⟨M13, eM13, h⟩ := blet_e h
  refine z_putI (j := 3) C x_Pl_replay_48 nk_75 ck_75 cw_6 (i_lt rfl) rfl rfl rfl rfl fl_Pl_104 eM13 ?_
  refine z_iconst C x_Pl_replay_51 ?_
  refine z_istore_n (lv' := [(2, vi 0), (0, .ref (G.1 + 75)), (1, vi a1)]) C rfl x_Pl_replay_52 (i_lt rfl) rfl ?_
  exact z_sub [1, 0] rfl (zl_Pl_replay_53 C hlev FU 0 M13 h)
theorem x_Pl_totalOf_0 : DC b_Pl_totalOf 0 (.iload_n 1) 1 1 := ⟨by decide +kernel, rfl⟩
theorem x_Pl_totalOf_1 : DC b_Pl_totalOf 1 (.iconst 4) 1 2 := ⟨by decide +kernel, rfl⟩
theorem x_Pl_totalOf_2 : DC b_Pl_totalOf 2 (.if_icmp .ne 8) 3 5 := ⟨by decide +kernel, rfl⟩
theorem x_Pl_totalOf_5 : DC b_Pl_totalOf 5 (.aload_n 0) 1 6 := ⟨by decide +kernel, rfl⟩
theorem x_Pl_totalOf_6 : DC b_Pl_totalOf 6 (.getfield 93) 3 9 := ⟨by decide +kernel, rfl⟩
theorem x_Pl_totalOf_9 : DC b_Pl_totalOf 9 (.ireturn) 1 10 := ⟨by decide +kernel, rfl⟩
theorem x_Pl_totalOf_10 : DC b_Pl_totalOf 10 (.iload_n 2) 1 11 := ⟨by decide +kernel, rfl⟩
theorem x_Pl_totalOf_11 : DC b_Pl_totalOf 11 (.iconst (-1)) 1 12 := ⟨by decide +kernel, rfl⟩
theorem x_Pl_totalOf_12 : DC b_Pl_totalOf 12 (.if_icmp .eq 15) 3 15 := ⟨by decide +kernel, rfl⟩
theorem x_Pl_totalOf_15 : DC b_Pl_totalOf 15 (.aload_n 0) 1 16 := ⟨by decide +kernel, rfl⟩
theorem x_Pl_totalOf_16 : DC b_Pl_totalOf 16 (.getfield 39) 3 19 := ⟨by decide +kernel, rfl⟩
theorem x_Pl_totalOf_19 : DC b_Pl_totalOf 19 (.iload_n 1) 1 20 := ⟨by decide +kernel, rfl⟩
theorem x_Pl_totalOf_20 : DC b_Pl_totalOf 20 (.bipush 20) 2 22 := ⟨by decide +kernel, rfl⟩
theorem x_Pl_totalOf_22 : DC b_Pl_totalOf 22 (.imul) 1 23 := ⟨by decide +kernel, rfl⟩
theorem x_Pl_totalOf_23 : DC b_Pl_totalOf 23 (.iload_n 2) 1 24 := ⟨by decide +kernel, rfl⟩
theorem x_Pl_totalOf_24 : DC b_Pl_totalOf 24 (.iadd) 1 25 := ⟨by decide +kernel, rfl⟩
theorem x_Pl_totalOf_25 : DC b_Pl_totalOf 25 (.iaload) 1 26 := ⟨by decide +kernel, rfl⟩
theorem x_Pl_totalOf_26 : DC b_Pl_totalOf 26 (.ireturn) 1 27 := ⟨by decide +kernel, rfl⟩
theorem x_Pl_totalOf_27 : DC b_Pl_totalOf 27 (.iconst 0) 1 28 := ⟨by decide +kernel, rfl⟩
theorem x_Pl_totalOf_28 : DC b_Pl_totalOf 28 (.istore_n 3) 1 29 := ⟨by decide +kernel, rfl⟩
theorem x_Pl_totalOf_29 : DC b_Pl_totalOf 29 (.iconst 0) 1 30 := ⟨by decide +kernel, rfl⟩
theorem x_Pl_totalOf_30 : DC b_Pl_totalOf 30 (.istore 4) 2 32 := ⟨by decide +kernel, rfl⟩
theorem x_Pl_totalOf_32 : DC b_Pl_totalOf 32 (.iload 4) 2 34 := ⟨by decide +kernel, rfl⟩
theorem x_Pl_totalOf_34 : DC b_Pl_totalOf 34 (.bipush 20) 2 36 := ⟨by decide +kernel, rfl⟩
theorem x_Pl_totalOf_36 : DC b_Pl_totalOf 36 (.if_icmp .ge 24) 3 39 := ⟨by decide +kernel, rfl⟩
theorem x_Pl_totalOf_39 : DC b_Pl_totalOf 39 (.iload_n 3) 1 40 := ⟨by decide +kernel, rfl⟩
theorem x_Pl_totalOf_40 : DC b_Pl_totalOf 40 (.aload_n 0) 1 41 := ⟨by decide +kernel, rfl⟩
theorem x_Pl_totalOf_41 : DC b_Pl_totalOf 41 (.getfield 39) 3 44 := ⟨by decide +kernel, rfl⟩
theorem x_Pl_totalOf_44 : DC b_Pl_totalOf 44 (.iload_n 1) 1 45 := ⟨by decide +kernel, rfl⟩
theorem x_Pl_totalOf_45 : DC b_Pl_totalOf 45 (.bipush 20) 2 47 := ⟨by decide +kernel, rfl⟩
theorem x_Pl_totalOf_47 : DC b_Pl_totalOf 47 (.imul) 1 48 := ⟨by decide +kernel, rfl⟩
theorem x_Pl_totalOf_48 : DC b_Pl_totalOf 48 (.iload 4) 2 50 := ⟨by decide +kernel, rfl⟩
theorem x_Pl_totalOf_50 : DC b_Pl_totalOf 50 (.iadd) 1 51 := ⟨by decide +kernel, rfl⟩
theorem x_Pl_totalOf_51 : DC b_Pl_totalOf 51 (.iaload) 1 52 := ⟨by decide +kernel, rfl⟩
theorem x_Pl_totalOf_52 : DC b_Pl_totalOf 52 (.iadd) 1 53 := ⟨by decide +kernel, rfl⟩
theorem x_Pl_totalOf_53 : DC b_Pl_totalOf 53 (.istore_n 3) 1 54 := ⟨by decide +kernel, rfl⟩
theorem x_Pl_totalOf_54 : DC b_Pl_totalOf 54 (.iinc 4 1) 3 57 := ⟨by decide +kernel, rfl⟩
theorem x_Pl_totalOf_57 : DC b_Pl_totalOf 57 (.goto (-25)) 3 60 := ⟨by decide +kernel, rfl⟩
theorem x_Pl_totalOf_60 : DC b_Pl_totalOf 60 (.iload_n 3) 1 61 := ⟨by decide +kernel, rfl⟩
theorem x_Pl_totalOf_61 : DC b_Pl_totalOf 61 (.ireturn) 1 62 := ⟨by decide +kernel, rfl⟩
def k_Pl_totalOf_32 (R32 : Int → Int → Int → Mem → Res) (a1 a3 a4 : Int) (M : Mem) : Res := if w32 a4 < 20 then (chk (0 ≤ w32 ((a1 * 20) + a4) ∧ w32 ((a1 * 20) + a4) < 80) <| blet (M 84 (ix ((a1 * 20) + a4))) fun v3 => blet (a3 + v3) fun v4 => blet (a4 + 1) fun v5 => R32 a1 v4 v5 M) else (some (a3, M))
theorem z_Pl_totalOf_32 (C : Cx p s m args meth c G b_Pl_totalOf 5 "PrairiePool$Play" (some .int)) (hlev : 0 ≤ lev) {r : Int × Mem} {R32 : Int → Int → Int → Mem → Res} (hR32 : ∀ (a1 a3 a4 : Int) (M : Mem), R32 a1 a3 a4 M = some r → Z p l e lev s m args below meth c G 5 (MQ below (Qm G 1 r) args s 0 0 (Ab G)) M 32 [(0, .ref (G.1 + 75)), (1, vi a1), (3, vi a3), (4, vi a4)] []) {a1 a3 a4 : Int} {M : Mem} (h : k_Pl_totalOf_32 R32 a1 a3 a4 M = some r) : Z p l e lev s m args below meth c G 5 (MQ below (Qm G 1 r) args s 0 0 (Ab G)) M 32 [(0, .ref (G.1 + 75)), (1, vi a1), (3, vi a3), (4, vi a4)] [] := by
  unfold k_Pl_totalOf_32 at h
  refine z_iload C 3 x_Pl_totalOf_32 rfl ?_
  refine z_bipush C rfl x_Pl_totalOf_34 ?_
  rcases ite_e h with ⟨c1, h⟩ | ⟨c1, h⟩
  · refine z_icmp_ge_f (tgt := 60) C x_Pl_totalOf_36 rfl c1 ?_
    refine z_iload_n C 2 x_Pl_totalOf_39 rfl ?_
    refine z_aload_n C 0 x_Pl_totalOf_40 rfl ?_
    refine z_getR (j := 13) C x_Pl_totalOf_41 nk_75 ck_75 cw_6 (i_lt rfl) rfl rf_75_13 rfl fl_Pl_39 ?_
    refine z_iload_n C 1 x_Pl_totalOf_44 rfl ?_
    refine z_bipush C rfl x_Pl_totalOf_45 ?_
    refine z_imul C x_Pl_totalOf_47 ?_
    refine z_iload C 3 x_Pl_totalOf_48 rfl ?_
    refine z_iadd C x_Pl_totalOf_50 ?_
    obtain ⟨c2, h⟩ := chk_e h
    obtain ⟨v3, ev3, h⟩ := blet_e h
    refine z_iald C x_Pl_totalOf_51 nk_84 ck_84 c2 ev3 ?_
    refine z_iadd C x_Pl_totalOf_52 ?_
    obtain ⟨v4, ev4, h⟩ := blet_e h
    refine z_istore_n (lv' := [(3, vi v4), (0, .ref (G.1 + 75)), (1, vi a1), (4, vi a4)]) C ev4 x_Pl_totalOf_53 (i_lt rfl) rfl ?_
    obtain ⟨v5, ev5, h⟩ := blet_e h
    refine z_iinc (lv' := [(4, vi v5), (3, vi v4), (0, .ref (G.1 + 75)), (1, vi a1)]) C 3 ev5 x_Pl_totalOf_54 rfl (i_lt rfl) rfl ?_
    refine z_goto (tgt := 32) C x_Pl_totalOf_57 rfl ?_
    exact z_sub [2, 3, 1, 0] rfl (hR32 a1 v4 v5 M h)
  · refine z_icmp_ge_t (tgt := 60) C x_Pl_totalOf_36 rfl c1 ?_
    refine z_iload_n C 2 x_Pl_totalOf_60 rfl ?_
    exact z_iret C x_Pl_totalOf_61 h
theorem zl_Pl_totalOf_32 (C : Cx p s m args meth c G b_Pl_totalOf 5 "PrairiePool$Play" (some .int)) (hlev : 0 ≤ lev) {r : Int × Mem}  : ∀ (n : Nat) (a1 a3 a4 : Int) (M : Mem), fix (fun _ _ _ _ => none) (k_Pl_totalOf_32) n a1 a3 a4 M = some r → Z p l e lev s m args below meth c G 5 (MQ below (Qm G 1 r) args s 0 0 (Ab G)) M 32 [(0, .ref (G.1 + 75)), (1, vi a1), (3, vi a3), (4, vi a4)] [] := by
  intro n
  induction n with
  | zero => intro a1 a3 a4 M h; exact nomatch (show (none : Res) = some r from h)
  | succ n ih => intro a1 a3 a4 M h; exact z_Pl_totalOf_32 C hlev ih h
def d_Pl_totalOf (a1 a2 : Int) (M : Mem) : Res := if w32 a1 = 4 then (blet (M 75 14) fun v2 => some (v2, M)) else (if w32 a2 = (-1) then (fix (fun _ _ _ _ => none) (k_Pl_totalOf_32) FU a1 0 0 M) else (chk (0 ≤ w32 ((a1 * 20) + a2) ∧ w32 ((a1 * 20) + a2) < 80) <| blet (M 84 (ix ((a1 * 20) + a2))) fun v5 => some (v5, M)))
theorem t_Pl_totalOf (l : Launch) (G : GX) {lev : Nat} (hlev : 0 ≤ lev) {a1 a2 : Int} {M : Mem} {r : Int × Mem} (h : d_Pl_totalOf a1 a2 M = some r) : Mt l G y_Pl_totalOf b_Pl_totalOf 5 (some .int) lev 1 [.ref (G.1 + 75), vi a1, vi a2] M r := by
  refine Mt.of (by decide) (i_le rfl) ?_
  intro p e s m args below meth c C
  have C : Cx p s m args meth c G b_Pl_totalOf 5 "PrairiePool$Play" (some .int) := C
  unfold d_Pl_totalOf at h
  refine z_sub (lv' := [(0, .ref (G.1 + 75)), (1, vi a1), (2, vi a2)]) [0, 1, 2] rfl ?_
  refine z_iload_n C 1 x_Pl_totalOf_0 rfl ?_
  refine z_iconst C x_Pl_totalOf_1 ?_
  rcases ite_e h with ⟨c1, h⟩ | ⟨c1, h⟩
  · refine z_icmp_ne_f (tgt := 10) C x_Pl_totalOf_2 rfl c1 ?_
    refine z_aload_n C 0 x_Pl_totalOf_5 rfl ?_
    obtain ⟨v2, ev2, h⟩ := blet_e h
    refine z_getI (j := 14) C x_Pl_totalOf_6 nk_75 ck_75 cw_6 (i_lt rfl) rfl rfl fl_Pl_93 ev2 ?_
    exact z_iret C x_Pl_totalOf_9 h
  · refine z_icmp_ne_t (tgt := 10) C x_Pl_totalOf_2 rfl c1 ?_
    refine z_iload_n C 2 x_Pl_totalOf_10 rfl ?_
    refine z_iconst C x_Pl_totalOf_11 ?_
    rcases ite_e h with ⟨c3, h⟩ | ⟨c3, h⟩
    · refine z_icmp_eq_t (tgt := 27) C x_Pl_totalOf_12 rfl c3 ?_
      refine z_iconst C x_Pl_totalOf_27 ?_
      refine z_istore_n (lv' := [(3, vi 0), (0, .ref (G.1 + 75)), (1, vi a1), (2, vi a2)]) C rfl x_Pl_totalOf_28 (i_lt rfl) rfl ?_
      refine z_iconst C x_Pl_totalOf_29 ?_
      refine z_istore (lv' := [(4, vi 0), (3, vi 0), (0, .ref (G.1 + 75)), (1, vi a1), (2, vi a2)]) C rfl x_Pl_totalOf_30 (i_lt rfl) rfl ?_
      exact z_sub [2, 3, 1, 0] rfl (zl_Pl_totalOf_32 C hlev FU a1 0 0 M h)
    · refine z_icmp_eq_f (tgt := 27) C x_Pl_totalOf_12 rfl c3 ?_
      refine z_aload_n C 0 x_Pl_totalOf_15 rfl ?_
      refine z_getR (j := 13) C x_Pl_totalOf_16 nk_75 ck_75 cw_6 (i_lt rfl) rfl rf_75_13 rfl fl_Pl_39 ?_
      refine z_iload_n C 1 x_Pl_totalOf_19 rfl ?_
      refine z_bipush C rfl x_Pl_totalOf_20 ?_
      refine z_imul C x_Pl_totalOf_22 ?_
      refine z_iload_n C 2 x_Pl_totalOf_23 rfl ?_
      refine z_iadd C x_Pl_totalOf_24 ?_
      obtain ⟨c4, h⟩ := chk_e h
      obtain ⟨v5, ev5, h⟩ := blet_e h
      refine z_iald C x_Pl_totalOf_25 nk_84 ck_84 c4 ev5 ?_
      exact z_iret C x_Pl_totalOf_26 h
theorem x_Pl_waitsAt_0 : DC b_Pl_waitsAt 0 (.iconst 0) 1 1 := ⟨by decide +kernel, rfl⟩
theorem x_Pl_waitsAt_1 : DC b_Pl_waitsAt 1 (.aload_n 0) 1 2 := ⟨by decide +kernel, rfl⟩
theorem x_Pl_waitsAt_2 : DC b_Pl_waitsAt 2 (.getfield 36) 3 5 := ⟨by decide +kernel, rfl⟩
theorem x_Pl_waitsAt_5 : DC b_Pl_waitsAt 5 (.iload_n 1) 1 6 := ⟨by decide +kernel, rfl⟩
theorem x_Pl_waitsAt_6 : DC b_Pl_waitsAt 6 (.iaload) 1 7 := ⟨by decide +kernel, rfl⟩
theorem x_Pl_waitsAt_7 : DC b_Pl_waitsAt 7 (.sipush 1000) 3 10 := ⟨by decide +kernel, rfl⟩
theorem x_Pl_waitsAt_10 : DC b_Pl_waitsAt 10 (.aload_n 0) 1 11 := ⟨by decide +kernel, rfl⟩
theorem x_Pl_waitsAt_11 : DC b_Pl_waitsAt 11 (.getfield 23) 3 14 := ⟨by decide +kernel, rfl⟩
theorem x_Pl_waitsAt_14 : DC b_Pl_waitsAt 14 (.iload_n 1) 1 15 := ⟨by decide +kernel, rfl⟩
theorem x_Pl_waitsAt_15 : DC b_Pl_waitsAt 15 (.iaload) 1 16 := ⟨by decide +kernel, rfl⟩
theorem x_Pl_waitsAt_16 : DC b_Pl_waitsAt 16 (.imul) 1 17 := ⟨by decide +kernel, rfl⟩
theorem x_Pl_waitsAt_17 : DC b_Pl_waitsAt 17 (.isub) 1 18 := ⟨by decide +kernel, rfl⟩
theorem x_Pl_waitsAt_18 : DC b_Pl_waitsAt 18 (.invokestatic 210) 3 21 := ⟨by decide +kernel, rfl⟩
theorem x_Pl_waitsAt_21 : DC b_Pl_waitsAt 21 (.ireturn) 1 22 := ⟨by decide +kernel, rfl⟩
def d_Pl_waitsAt (a1 : Int) (M : Mem) : Res := chk (0 ≤ w32 a1 ∧ w32 a1 < 8) <| blet (M 83 (ix a1)) fun v2 => chk (0 ≤ w32 a1 ∧ w32 a1 < 8) <| blet (M 79 (ix a1)) fun v4 => some (mx32 0 (v2 - (1000 * v4)), M)
theorem t_Pl_waitsAt (l : Launch) (G : GX) {lev : Nat} (hlev : 1 ≤ lev) {a1 : Int} {M : Mem} {r : Int × Mem} (h : d_Pl_waitsAt a1 M = some r) : Mt l G y_Pl_waitsAt b_Pl_waitsAt 2 (some .int) lev 1 [.ref (G.1 + 75), vi a1] M r := by
  refine Mt.of (by decide) (i_le rfl) ?_
  intro p e s m args below meth c C
  have C : Cx p s m args meth c G b_Pl_waitsAt 2 "PrairiePool$Play" (some .int) := C
  unfold d_Pl_waitsAt at h
  refine z_sub (lv' := [(0, .ref (G.1 + 75)), (1, vi a1)]) [0, 1] rfl ?_
  refine z_iconst C x_Pl_waitsAt_0 ?_
  refine z_aload_n C 0 x_Pl_waitsAt_1 rfl ?_
  refine z_getR (j := 12) C x_Pl_waitsAt_2 nk_75 ck_75 cw_6 (i_lt rfl) rfl rf_75_12 rfl fl_Pl_36 ?_
  refine z_iload_n C 1 x_Pl_waitsAt_5 rfl ?_
  obtain ⟨c1, h⟩ := chk_e h
  obtain ⟨v2, ev2, h⟩ := blet_e h
  refine z_iald C x_Pl_waitsAt_6 nk_83 ck_83 c1 ev2 ?_
  refine z_sipush C rfl x_Pl_waitsAt_7 ?_
  refine z_aload_n C 0 x_Pl_waitsAt_10 rfl ?_
  refine z_getR (j := 7) C x_Pl_waitsAt_11 nk_75 ck_75 cw_6 (i_lt rfl) rfl rf_75_7 rfl fl_Pl_23 ?_
  refine z_iload_n C 1 x_Pl_waitsAt_14 rfl ?_
  obtain ⟨c3, h⟩ := chk_e h
  obtain ⟨v4, ev4, h⟩ := blet_e h
  refine z_iald C x_Pl_waitsAt_15 nk_79 ck_79 c3 ev4 ?_
  refine z_imul C x_Pl_waitsAt_16 ?_
  refine z_isub C x_Pl_waitsAt_17 ?_
  refine z_mx32 C x_Pl_waitsAt_18 cs_Pl_210 (by omega) (i_le rfl) ?_
  exact z_iret C x_Pl_waitsAt_21 h
theorem x_Pl_turnOf_0 : DC b_Pl_turnOf 0 (.aload_n 0) 1 1 := ⟨by decide +kernel, rfl⟩
theorem x_Pl_turnOf_1 : DC b_Pl_turnOf 1 (.getfield 59) 3 4 := ⟨by decide +kernel, rfl⟩
theorem x_Pl_turnOf_4 : DC b_Pl_turnOf 4 (.bipush 8) 2 6 := ⟨by decide +kernel, rfl⟩
theorem x_Pl_turnOf_6 : DC b_Pl_turnOf 6 (.aload_n 0) 1 7 := ⟨by decide +kernel, rfl⟩
theorem x_Pl_turnOf_7 : DC b_Pl_turnOf 7 (.getfield 23) 3 10 := ⟨by decide +kernel, rfl⟩
theorem x_Pl_turnOf_10 : DC b_Pl_turnOf 10 (.iload_n 1) 1 11 := ⟨by decide +kernel, rfl⟩
theorem x_Pl_turnOf_11 : DC b_Pl_turnOf 11 (.iaload) 1 12 := ⟨by decide +kernel, rfl⟩
theorem x_Pl_turnOf_12 : DC b_Pl_turnOf 12 (.i2l) 1 13 := ⟨by decide +kernel, rfl⟩
theorem x_Pl_turnOf_13 : DC b_Pl_turnOf 13 (.invokevirtual 213) 3 16 := ⟨by decide +kernel, rfl⟩
theorem x_Pl_turnOf_16 : DC b_Pl_turnOf 16 (.aload_n 0) 1 17 := ⟨by decide +kernel, rfl⟩
theorem x_Pl_turnOf_17 : DC b_Pl_turnOf 17 (.getfield 59) 3 20 := ⟨by decide +kernel, rfl⟩
theorem x_Pl_turnOf_20 : DC b_Pl_turnOf 20 (.bipush 9) 2 22 := ⟨by decide +kernel, rfl⟩
theorem x_Pl_turnOf_22 : DC b_Pl_turnOf 22 (.aload_n 0) 1 23 := ⟨by decide +kernel, rfl⟩
theorem x_Pl_turnOf_23 : DC b_Pl_turnOf 23 (.iload_n 1) 1 24 := ⟨by decide +kernel, rfl⟩
theorem x_Pl_turnOf_24 : DC b_Pl_turnOf 24 (.invokevirtual 207) 3 27 := ⟨by decide +kernel, rfl⟩
theorem x_Pl_turnOf_27 : DC b_Pl_turnOf 27 (.i2l) 1 28 := ⟨by decide +kernel, rfl⟩
theorem x_Pl_turnOf_28 : DC b_Pl_turnOf 28 (.invokevirtual 213) 3 31 := ⟨by decide +kernel, rfl⟩
theorem x_Pl_turnOf_31 : DC b_Pl_turnOf 31 (.aload_n 0) 1 32 := ⟨by decide +kernel, rfl⟩
theorem x_Pl_turnOf_32 : DC b_Pl_turnOf 32 (.getfield 59) 3 35 := ⟨by decide +kernel, rfl⟩
theorem x_Pl_turnOf_35 : DC b_Pl_turnOf 35 (.bipush 7) 2 37 := ⟨by decide +kernel, rfl⟩
theorem x_Pl_turnOf_37 : DC b_Pl_turnOf 37 (.aload_n 0) 1 38 := ⟨by decide +kernel, rfl⟩
theorem x_Pl_turnOf_38 : DC b_Pl_turnOf 38 (.getfield 51) 3 41 := ⟨by decide +kernel, rfl⟩
theorem x_Pl_turnOf_41 : DC b_Pl_turnOf 41 (.getfield 217) 3 44 := ⟨by decide +kernel, rfl⟩
theorem x_Pl_turnOf_44 : DC b_Pl_turnOf 44 (.iload_n 1) 1 45 := ⟨by decide +kernel, rfl⟩
theorem x_Pl_turnOf_45 : DC b_Pl_turnOf 45 (.iaload) 1 46 := ⟨by decide +kernel, rfl⟩
theorem x_Pl_turnOf_46 : DC b_Pl_turnOf 46 (.i2l) 1 47 := ⟨by decide +kernel, rfl⟩
theorem x_Pl_turnOf_47 : DC b_Pl_turnOf 47 (.invokevirtual 213) 3 50 := ⟨by decide +kernel, rfl⟩
theorem x_Pl_turnOf_50 : DC b_Pl_turnOf 50 (.aload_n 0) 1 51 := ⟨by decide +kernel, rfl⟩
theorem x_Pl_turnOf_51 : DC b_Pl_turnOf 51 (.getfield 59) 3 54 := ⟨by decide +kernel, rfl⟩
theorem x_Pl_turnOf_54 : DC b_Pl_turnOf 54 (.iconst 5) 1 55 := ⟨by decide +kernel, rfl⟩
theorem x_Pl_turnOf_55 : DC b_Pl_turnOf 55 (.invokevirtual 220) 3 58 := ⟨by decide +kernel, rfl⟩
theorem x_Pl_turnOf_58 : DC b_Pl_turnOf 58 (.ireturn) 1 59 := ⟨by decide +kernel, rfl⟩
def d_Pl_turnOf (a1 : Int) (M : Mem) : Res := chk (0 ≤ w32 a1 ∧ w32 a1 < 8) <| blet (M 79 (ix a1)) fun v2 => bcall (d_As_tell 8 (w32 v2) M) fun v3 M4 => bcall (d_Pl_waitsAt a1 M4) fun v5 M6 => bcall (d_As_tell 9 (w32 v5) M6) fun v7 M8 => chk (0 ≤ w32 a1 ∧ w32 a1 < 8) <| blet (M8 13 (ix a1)) fun v10 => bcall (d_As_tell 7 (w32 v10) M8) fun v11 M12 => bcall (d_As_ask 5 M12) fun v13 M14 => some (v13, M14)
theorem t_Pl_turnOf (l : Launch) (G : GX) {lev : Nat} (hlev : 5 ≤ lev) {a1 : Int} {M : Mem} {r : Int × Mem} (h : d_Pl_turnOf a1 M = some r) : Mt l G y_Pl_turnOf b_Pl_turnOf 2 (some .int) lev 1 [.ref (G.1 + 75), vi a1] M r := by
  refine Mt.of (by decide) (i_le rfl) ?_
  intro p e s m args below meth c C
  have C : Cx p s m args meth c G b_Pl_turnOf 2 "PrairiePool$Play" (some .int) := C
  unfold d_Pl_turnOf at h
  refine z_sub (lv' := [(0, .ref (G.1 + 75)), (1, vi a1)]) [0, 1] rfl ?_
  refine z_aload_n C 0 x_Pl_turnOf_0 rfl ?_
  refine z_getR (j := 2) C x_Pl_turnOf_1 nk_75 ck_75 cw_6 (i_lt rfl) rfl rf_75_2 rfl fl_Pl_59 ?_
  refine z_bipush C rfl x_Pl_turnOf_4 ?_
  refine z_aload_n C 0 x_Pl_turnOf_6 rfl ?_
  refine z_getR (j := 7) C x_Pl_turnOf_7 nk_75 ck_75 cw_6 (i_lt rfl) rfl rf_75_7 rfl fl_Pl_23 ?_
  refine z_iload_n C 1 x_Pl_turnOf_10 rfl ?_
  obtain ⟨c1, h⟩ := chk_e h
  obtain ⟨v2, ev2, h⟩ := blet_e h
  refine z_iald C x_Pl_turnOf_11 nk_79 ck_79 c1 ev2 ?_
  refine z_i2l C x_Pl_turnOf_12 ?_
  obtain ⟨v3, M4, fv3, h⟩ := bcall_e h
  refine z_callVv (k := 32) C x_Pl_turnOf_13 cv_Pl_213 (t_As_tell (lev := lev - 1) l G (by omega) fv3) nk_32 ck_32 rfl (by omega) rfl (i_le rfl) rfl ?_
  refine z_aload_n C 0 x_Pl_turnOf_16 rfl ?_
  refine z_getR (j := 2) C x_Pl_turnOf_17 nk_75 ck_75 cw_6 (i_lt rfl) rfl rf_75_2 rfl fl_Pl_59 ?_
  refine z_bipush C rfl x_Pl_turnOf_20 ?_
  refine z_aload_n C 0 x_Pl_turnOf_22 rfl ?_
  refine z_iload_n C 1 x_Pl_turnOf_23 rfl ?_
  obtain ⟨v5, M6, fv5, h⟩ := bcall_e h
  refine z_callVi (k := 75) C x_Pl_turnOf_24 cv_Pl_207 (t_Pl_waitsAt (lev := lev - 1) l G (by omega) fv5) nk_75 ck_75 rfl (by omega) rfl (i_le rfl) rfl ?_
  refine z_i2l C x_Pl_turnOf_27 ?_
  obtain ⟨v7, M8, fv7, h⟩ := bcall_e h
  refine z_callVv (k := 32) C x_Pl_turnOf_28 cv_Pl_213 (t_As_tell (lev := lev - 1) l G (by omega) fv7) nk_32 ck_32 rfl (by omega) rfl (i_le rfl) rfl ?_
  refine z_aload_n C 0 x_Pl_turnOf_31 rfl ?_
  refine z_getR (j := 2) C x_Pl_turnOf_32 nk_75 ck_75 cw_6 (i_lt rfl) rfl rf_75_2 rfl fl_Pl_59 ?_
  refine z_bipush C rfl x_Pl_turnOf_35 ?_
  refine z_aload_n C 0 x_Pl_turnOf_37 rfl ?_
  refine z_getR (j := 0) C x_Pl_turnOf_38 nk_75 ck_75 cw_6 (i_lt rfl) rfl rf_75_0 rfl fl_Pl_51 ?_
  refine z_getR (j := 9) C x_Pl_turnOf_41 nk_5 ck_5 cw_7 (i_lt rfl) rfl rf_5_9 rfl fl_Pl_217 ?_
  refine z_iload_n C 1 x_Pl_turnOf_44 rfl ?_
  obtain ⟨c9, h⟩ := chk_e h
  obtain ⟨v10, ev10, h⟩ := blet_e h
  refine z_iald C x_Pl_turnOf_45 nk_13 ck_13 c9 ev10 ?_
  refine z_i2l C x_Pl_turnOf_46 ?_
  obtain ⟨v11, M12, fv11, h⟩ := bcall_e h
  refine z_callVv (k := 32) C x_Pl_turnOf_47 cv_Pl_213 (t_As_tell (lev := lev - 1) l G (by omega) fv11) nk_32 ck_32 rfl (by omega) rfl (i_le rfl) rfl ?_
  refine z_aload_n C 0 x_Pl_turnOf_50 rfl ?_
  refine z_getR (j := 2) C x_Pl_turnOf_51 nk_75 ck_75 cw_6 (i_lt rfl) rfl rf_75_2 rfl fl_Pl_59 ?_
  refine z_iconst C x_Pl_turnOf_54 ?_
  obtain ⟨v13, M14, fv13, h⟩ := bcall_e h
  refine z_callVi (k := 32) C x_Pl_turnOf_55 cv_Pl_220 (t_As_ask (lev := lev - 1) l G (by omega) fv13) nk_32 ck_32 rfl (by omega) rfl (i_le rfl) rfl ?_
  exact z_iret C x_Pl_turnOf_58 h
theorem x_Pl_nextForCar_0 : DC b_Pl_nextForCar 0 (.iconst (-1)) 1 1 := ⟨by decide +kernel, rfl⟩
theorem x_Pl_nextForCar_1 : DC b_Pl_nextForCar 1 (.istore_n 1) 1 2 := ⟨by decide +kernel, rfl⟩
theorem x_Pl_nextForCar_2 : DC b_Pl_nextForCar 2 (.iconst 0) 1 3 := ⟨by decide +kernel, rfl⟩
theorem x_Pl_nextForCar_3 : DC b_Pl_nextForCar 3 (.istore_n 2) 1 4 := ⟨by decide +kernel, rfl⟩
theorem x_Pl_nextForCar_4 : DC b_Pl_nextForCar 4 (.iload_n 2) 1 5 := ⟨by decide +kernel, rfl⟩
theorem x_Pl_nextForCar_5 : DC b_Pl_nextForCar 5 (.aload_n 0) 1 6 := ⟨by decide +kernel, rfl⟩
theorem x_Pl_nextForCar_6 : DC b_Pl_nextForCar 6 (.getfield 51) 3 9 := ⟨by decide +kernel, rfl⟩
theorem x_Pl_nextForCar_9 : DC b_Pl_nextForCar 9 (.getfield 197) 3 12 := ⟨by decide +kernel, rfl⟩
theorem x_Pl_nextForCar_12 : DC b_Pl_nextForCar 12 (.if_icmp .ge 39) 3 15 := ⟨by decide +kernel, rfl⟩
theorem x_Pl_nextForCar_15 : DC b_Pl_nextForCar 15 (.aload_n 0) 1 16 := ⟨by decide +kernel, rfl⟩
theorem x_Pl_nextForCar_16 : DC b_Pl_nextForCar 16 (.iload_n 2) 1 17 := ⟨by decide +kernel, rfl⟩
theorem x_Pl_nextForCar_17 : DC b_Pl_nextForCar 17 (.invokevirtual 207) 3 20 := ⟨by decide +kernel, rfl⟩
theorem x_Pl_nextForCar_20 : DC b_Pl_nextForCar 20 (.ifCond .le 25) 3 23 := ⟨by decide +kernel, rfl⟩
theorem x_Pl_nextForCar_23 : DC b_Pl_nextForCar 23 (.iload_n 1) 1 24 := ⟨by decide +kernel, rfl⟩
theorem x_Pl_nextForCar_24 : DC b_Pl_nextForCar 24 (.iconst (-1)) 1 25 := ⟨by decide +kernel, rfl⟩
theorem x_Pl_nextForCar_25 : DC b_Pl_nextForCar 25 (.if_icmp .eq 18) 3 28 := ⟨by decide +kernel, rfl⟩
theorem x_Pl_nextForCar_28 : DC b_Pl_nextForCar 28 (.aload_n 0) 1 29 := ⟨by decide +kernel, rfl⟩
theorem x_Pl_nextForCar_29 : DC b_Pl_nextForCar 29 (.getfield 26) 3 32 := ⟨by decide +kernel, rfl⟩
theorem x_Pl_nextForCar_32 : DC b_Pl_nextForCar 32 (.iload_n 2) 1 33 := ⟨by decide +kernel, rfl⟩
theorem x_Pl_nextForCar_33 : DC b_Pl_nextForCar 33 (.iaload) 1 34 := ⟨by decide +kernel, rfl⟩
theorem x_Pl_nextForCar_34 : DC b_Pl_nextForCar 34 (.aload_n 0) 1 35 := ⟨by decide +kernel, rfl⟩
theorem x_Pl_nextForCar_35 : DC b_Pl_nextForCar 35 (.getfield 26) 3 38 := ⟨by decide +kernel, rfl⟩
theorem x_Pl_nextForCar_38 : DC b_Pl_nextForCar 38 (.iload_n 1) 1 39 := ⟨by decide +kernel, rfl⟩
theorem x_Pl_nextForCar_39 : DC b_Pl_nextForCar 39 (.iaload) 1 40 := ⟨by decide +kernel, rfl⟩
theorem x_Pl_nextForCar_40 : DC b_Pl_nextForCar 40 (.if_icmp .le 5) 3 43 := ⟨by decide +kernel, rfl⟩
theorem x_Pl_nextForCar_43 : DC b_Pl_nextForCar 43 (.iload_n 2) 1 44 := ⟨by decide +kernel, rfl⟩
theorem x_Pl_nextForCar_44 : DC b_Pl_nextForCar 44 (.istore_n 1) 1 45 := ⟨by decide +kernel, rfl⟩
theorem x_Pl_nextForCar_45 : DC b_Pl_nextForCar 45 (.iinc 2 1) 3 48 := ⟨by decide +kernel, rfl⟩
theorem x_Pl_nextForCar_48 : DC b_Pl_nextForCar 48 (.goto (-44)) 3 51 := ⟨by decide +kernel, rfl⟩
theorem x_Pl_nextForCar_51 : DC b_Pl_nextForCar 51 (.iload_n 1) 1 52 := ⟨by decide +kernel, rfl⟩
theorem x_Pl_nextForCar_52 : DC b_Pl_nextForCar 52 (.ireturn) 1 53 := ⟨by decide +kernel, rfl⟩
def k_Pl_nextForCar_45 (R4 : Int → Int → Mem → Res) (a1 a2 : Int) (M : Mem) : Res := blet (a2 + 1) fun v1 => R4 a1 v1 M
theorem z_Pl_nextForCar_45 (C : Cx p s m args meth c G b_Pl_nextForCar 3 "PrairiePool$Play" (some .int)) (hlev : 2 ≤ lev) {r : Int × Mem} {R4 : Int → Int → Mem → Res} (hR4 : ∀ (a1 a2 : Int) (M : Mem), R4 a1 a2 M = some r → Z p l e lev s m args below meth c G 3 (MQ below (Qm G 1 r) args s 0 0 (Ab G)) M 4 [(0, .ref (G.1 + 75)), (1, vi a1), (2, vi a2)] []) {a1 a2 : Int} {M : Mem} (h : k_Pl_nextForCar_45 R4 a1 a2 M = some r) : Z p l e lev s m args below meth c G 3 (MQ below (Qm G 1 r) args s 0 0 (Ab G)) M 45 [(0, .ref (G.1 + 75)), (1, vi a1), (2, vi a2)] [] := by
  unfold k_Pl_nextForCar_45 at h
  obtain ⟨v1, ev1, h⟩ := blet_e h
  refine z_iinc (lv' := [(2, vi v1), (0, .ref (G.1 + 75)), (1, vi a1)]) C 2 ev1 x_Pl_nextForCar_45 rfl (i_lt rfl) rfl ?_
  refine z_goto (tgt := 4) C x_Pl_nextForCar_48 rfl ?_
  exact z_sub [1, 2, 0] rfl (hR4 a1 v1 M h)
def k_Pl_nextForCar_43 (R4 : Int → Int → Mem → Res) (a2 : Int) (M : Mem) : Res := k_Pl_nextForCar_45 R4 a2 a2 M
theorem z_Pl_nextForCar_43 (C : Cx p s m args meth c G b_Pl_nextForCar 3 "PrairiePool$Play" (some .int)) (hlev : 2 ≤ lev) {r : Int × Mem} {R4 : Int → Int → Mem → Res} (hR4 : ∀ (a1 a2 : Int) (M : Mem), R4 a1 a2 M = some r → Z p l e lev s m args below meth c G 3 (MQ below (Qm G 1 r) args s 0 0 (Ab G)) M 4 [(0, .ref (G.1 + 75)), (1, vi a1), (2, vi a2)] []) {a2 : Int} {M : Mem} (h : k_Pl_nextForCar_43 R4 a2 M = some r) : Z p l e lev s m args below meth c G 3 (MQ below (Qm G 1 r) args s 0 0 (Ab G)) M 43 [(0, .ref (G.1 + 75)), (2, vi a2)] [] := by
  unfold k_Pl_nextForCar_43 at h
  refine z_iload_n C 1 x_Pl_nextForCar_43 rfl ?_
  refine z_istore_n (lv' := [(1, vi a2), (0, .ref (G.1 + 75)), (2, vi a2)]) C rfl x_Pl_nextForCar_44 (i_lt rfl) rfl ?_
  exact z_sub [1, 0, 2] rfl (z_Pl_nextForCar_45 C hlev hR4 h)
def k_Pl_nextForCar_4 (R4 : Int → Int → Mem → Res) (a1 a2 : Int) (M : Mem) : Res := blet (M 5 8) fun v1 => if w32 a2 < w32 v1 then (bcall (d_Pl_waitsAt a2 M) fun v3 M4 => if 0 < w32 v3 then (if w32 a1 = (-1) then (k_Pl_nextForCar_43 R4 a2 M4) else (chk (0 ≤ w32 a2 ∧ w32 a2 < 8) <| blet (M4 80 (ix a2)) fun v8 => chk (0 ≤ w32 a1 ∧ w32 a1 < 8) <| blet (M4 80 (ix a1)) fun v10 => if w32 v10 < w32 v8 then (k_Pl_nextForCar_43 R4 a2 M4) else (k_Pl_nextForCar_45 R4 a1 a2 M4))) else (k_Pl_nextForCar_45 R4 a1 a2 M4)) else (some (a1, M))
theorem z_Pl_nextForCar_4 (C : Cx p s m args meth c G b_Pl_nextForCar 3 "PrairiePool$Play" (some .int)) (hlev : 2 ≤ lev) {r : Int × Mem} {R4 : Int → Int → Mem → Res} (hR4 : ∀ (a1 a2 : Int) (M : Mem), R4 a1 a2 M = some r → Z p l e lev s m args below meth c G 3 (MQ below (Qm G 1 r) args s 0 0 (Ab G)) M 4 [(0, .ref (G.1 + 75)), (1, vi a1), (2, vi a2)] []) {a1 a2 : Int} {M : Mem} (h : k_Pl_nextForCar_4 R4 a1 a2 M = some r) : Z p l e lev s m args below meth c G 3 (MQ below (Qm G 1 r) args s 0 0 (Ab G)) M 4 [(0, .ref (G.1 + 75)), (1, vi a1), (2, vi a2)] [] := by
  unfold k_Pl_nextForCar_4 at h
  refine z_iload_n C 2 x_Pl_nextForCar_4 rfl ?_
  refine z_aload_n C 0 x_Pl_nextForCar_5 rfl ?_
  refine z_getR (j := 0) C x_Pl_nextForCar_6 nk_75 ck_75 cw_6 (i_lt rfl) rfl rf_75_0 rfl fl_Pl_51 ?_
  obtain ⟨v1, ev1, h⟩ := blet_e h
  refine z_getI (j := 8) C x_Pl_nextForCar_9 nk_5 ck_5 cw_7 (i_lt rfl) rfl rfl fl_Pl_197 ev1 ?_
  rcases ite_e h with ⟨c2, h⟩ | ⟨c2, h⟩
  · refine z_icmp_ge_f (tgt := 51) C x_Pl_nextForCar_12 rfl c2 ?_
    refine z_aload_n C 0 x_Pl_nextForCar_15 rfl ?_
    refine z_iload_n C 2 x_Pl_nextForCar_16 rfl ?_
    obtain ⟨v3, M4, fv3, h⟩ := bcall_e h
    refine z_callVi (k := 75) C x_Pl_nextForCar_17 cv_Pl_207 (t_Pl_waitsAt (lev := lev - 1) l G (by omega) fv3) nk_75 ck_75 rfl (by omega) rfl (i_le rfl) rfl ?_
    rcases ite_e h with ⟨c5, h⟩ | ⟨c5, h⟩
    · refine z_if_le_f (tgt := 45) C x_Pl_nextForCar_20 rfl c5 ?_
      refine z_iload_n C 1 x_Pl_nextForCar_23 rfl ?_
      refine z_iconst C x_Pl_nextForCar_24 ?_
      rcases ite_e h with ⟨c6, h⟩ | ⟨c6, h⟩
      · refine z_icmp_eq_t (tgt := 43) C x_Pl_nextForCar_25 rfl c6 ?_
        exact z_sub [0, 2] rfl (z_Pl_nextForCar_43 C hlev hR4 h)
      · refine z_icmp_eq_f (tgt := 43) C x_Pl_nextForCar_25 rfl c6 ?_
        refine z_aload_n C 0 x_Pl_nextForCar_28 rfl ?_
        refine z_getR (j := 8) C x_Pl_nextForCar_29 nk_75 ck_75 cw_6 (i_lt rfl) rfl rf_75_8 rfl fl_Pl_26 ?_
        refine z_iload_n C 2 x_Pl_nextForCar_32 rfl ?_
        obtain ⟨c7, h⟩ := chk_e h
        obtain ⟨v8, ev8, h⟩ := blet_e h
        refine z_iald C x_Pl_nextForCar_33 nk_80 ck_80 c7 ev8 ?_
        refine z_aload_n C 0 x_Pl_nextForCar_34 rfl ?_
        refine z_getR (j := 8) C x_Pl_nextForCar_35 nk_75 ck_75 cw_6 (i_lt rfl) rfl rf_75_8 rfl fl_Pl_26 ?_
        refine z_iload_n C 1 x_Pl_nextForCar_38 rfl ?_
        obtain ⟨c9, h⟩ := chk_e h
        obtain ⟨v10, ev10, h⟩ := blet_e h
        refine z_iald C x_Pl_nextForCar_39 nk_80 ck_80 c9 ev10 ?_
        rcases ite_e h with ⟨c11, h⟩ | ⟨c11, h⟩
        · refine z_icmp_le_f (tgt := 45) C x_Pl_nextForCar_40 rfl c11 ?_
          exact z_sub [0, 2] rfl (z_Pl_nextForCar_43 C hlev hR4 h)
        · refine z_icmp_le_t (tgt := 45) C x_Pl_nextForCar_40 rfl c11 ?_
          exact z_sub [0, 1, 2] rfl (z_Pl_nextForCar_45 C hlev hR4 h)
    · refine z_if_le_t (tgt := 45) C x_Pl_nextForCar_20 rfl c5 ?_
      exact z_sub [0, 1, 2] rfl (z_Pl_nextForCar_45 C hlev hR4 h)
  · refine z_icmp_ge_t (tgt := 51) C x_Pl_nextForCar_12 rfl c2 ?_
    refine z_iload_n C 1 x_Pl_nextForCar_51 rfl ?_
    exact z_iret C x_Pl_nextForCar_52 h
theorem zl_Pl_nextForCar_4 (C : Cx p s m args meth c G b_Pl_nextForCar 3 "PrairiePool$Play" (some .int)) (hlev : 2 ≤ lev) {r : Int × Mem}  : ∀ (n : Nat) (a1 a2 : Int) (M : Mem), fix (fun _ _ _ => none) (k_Pl_nextForCar_4) n a1 a2 M = some r → Z p l e lev s m args below meth c G 3 (MQ below (Qm G 1 r) args s 0 0 (Ab G)) M 4 [(0, .ref (G.1 + 75)), (1, vi a1), (2, vi a2)] [] := by
  intro n
  induction n with
  | zero => intro a1 a2 M h; exact nomatch (show (none : Res) = some r from h)
  | succ n ih => intro a1 a2 M h; exact z_Pl_nextForCar_4 C hlev ih h
def d_Pl_nextForCar (M : Mem) : Res := fix (fun _ _ _ => none) (k_Pl_nextForCar_4) FU (-1) 0 M
theorem t_Pl_nextForCar (l : Launch) (G : GX) {lev : Nat} (hlev : 2 ≤ lev) {M : Mem} {r : Int × Mem} (h : d_Pl_nextForCar M = some r) : Mt l G y_Pl_nextForCar b_Pl_nextForCar 3 (some .int) lev 1 [.ref (G.1 + 75)] M r := by
  refine Mt.of (by decide) (i_le rfl) ?_
  intro p e s m args below meth c C
  have C : Cx p s m args meth c G b_Pl_nextForCar 3 "PrairiePool$Play" (some .int) := C
  unfold d_Pl_nextForCar at h
  refine z_sub (lv' := [(0, .ref (G.1 + 75))]) [0] rfl ?_
  refine z_iconst C x_Pl_nextForCar_0 ?_
  refine z_istore_n (lv' := [(1, vi (-1)), (0, .ref (G.1 + 75))]) C rfl x_Pl_nextForCar_1 (i_lt rfl) rfl ?_
  refine z_iconst C x_Pl_nextForCar_2 ?_
  refine z_istore_n (lv' := [(2, vi 0), (1, vi (-1)), (0, .ref (G.1 + 75))]) C rfl x_Pl_nextForCar_3 (i_lt rfl) rfl ?_
  exact z_sub [2, 1, 0] rfl (zl_Pl_nextForCar_4 C hlev FU (-1) 0 M h)
theorem x_Pl_giveCars_0 : DC b_Pl_giveCars 0 (.aload_n 0) 1 1 := ⟨by decide +kernel, rfl⟩
theorem x_Pl_giveCars_1 : DC b_Pl_giveCars 1 (.getfield 23) 3 4 := ⟨by decide +kernel, rfl⟩
theorem x_Pl_giveCars_4 : DC b_Pl_giveCars 4 (.iconst 0) 1 5 := ⟨by decide +kernel, rfl⟩
theorem x_Pl_giveCars_5 : DC b_Pl_giveCars 5 (.invokestatic 67) 3 8 := ⟨by decide +kernel, rfl⟩
theorem x_Pl_giveCars_8 : DC b_Pl_giveCars 8 (.aload_n 0) 1 9 := ⟨by decide +kernel, rfl⟩
theorem x_Pl_giveCars_9 : DC b_Pl_giveCars 9 (.getfield 59) 3 12 := ⟨by decide +kernel, rfl⟩
theorem x_Pl_giveCars_12 : DC b_Pl_giveCars 12 (.iload_n 1) 1 13 := ⟨by decide +kernel, rfl⟩
theorem x_Pl_giveCars_13 : DC b_Pl_giveCars 13 (.invokevirtual 189) 3 16 := ⟨by decide +kernel, rfl⟩
theorem x_Pl_giveCars_16 : DC b_Pl_giveCars 16 (.aload_n 0) 1 17 := ⟨by decide +kernel, rfl⟩
theorem x_Pl_giveCars_17 : DC b_Pl_giveCars 17 (.getfield 59) 3 20 := ⟨by decide +kernel, rfl⟩
theorem x_Pl_giveCars_20 : DC b_Pl_giveCars 20 (.iload_n 1) 1 21 := ⟨by decide +kernel, rfl⟩
theorem x_Pl_giveCars_21 : DC b_Pl_giveCars 21 (.invokevirtual 194) 3 24 := ⟨by decide +kernel, rfl⟩
theorem x_Pl_giveCars_24 : DC b_Pl_giveCars 24 (.iconst 0) 1 25 := ⟨by decide +kernel, rfl⟩
theorem x_Pl_giveCars_25 : DC b_Pl_giveCars 25 (.istore_n 3) 1 26 := ⟨by decide +kernel, rfl⟩
theorem x_Pl_giveCars_26 : DC b_Pl_giveCars 26 (.iload_n 3) 1 27 := ⟨by decide +kernel, rfl⟩
theorem x_Pl_giveCars_27 : DC b_Pl_giveCars 27 (.aload_n 0) 1 28 := ⟨by decide +kernel, rfl⟩
theorem x_Pl_giveCars_28 : DC b_Pl_giveCars 28 (.getfield 51) 3 31 := ⟨by decide +kernel, rfl⟩
theorem x_Pl_giveCars_31 : DC b_Pl_giveCars 31 (.getfield 197) 3 34 := ⟨by decide +kernel, rfl⟩
theorem x_Pl_giveCars_34 : DC b_Pl_giveCars 34 (.if_icmp .ge 20) 3 37 := ⟨by decide +kernel, rfl⟩
theorem x_Pl_giveCars_37 : DC b_Pl_giveCars 37 (.aload_n 0) 1 38 := ⟨by decide +kernel, rfl⟩
theorem x_Pl_giveCars_38 : DC b_Pl_giveCars 38 (.getfield 26) 3 41 := ⟨by decide +kernel, rfl⟩
theorem x_Pl_giveCars_41 : DC b_Pl_giveCars 41 (.iload_n 3) 1 42 := ⟨by decide +kernel, rfl⟩
theorem x_Pl_giveCars_42 : DC b_Pl_giveCars 42 (.aload_n 0) 1 43 := ⟨by decide +kernel, rfl⟩
theorem x_Pl_giveCars_43 : DC b_Pl_giveCars 43 (.iload_n 3) 1 44 := ⟨by decide +kernel, rfl⟩
theorem x_Pl_giveCars_44 : DC b_Pl_giveCars 44 (.invokevirtual 200) 3 47 := ⟨by decide +kernel, rfl⟩
theorem x_Pl_giveCars_47 : DC b_Pl_giveCars 47 (.iastore) 1 48 := ⟨by decide +kernel, rfl⟩
theorem x_Pl_giveCars_48 : DC b_Pl_giveCars 48 (.iinc 3 1) 3 51 := ⟨by decide +kernel, rfl⟩
theorem x_Pl_giveCars_51 : DC b_Pl_giveCars 51 (.goto (-25)) 3 54 := ⟨by decide +kernel, rfl⟩
theorem x_Pl_giveCars_54 : DC b_Pl_giveCars 54 (.iconst 0) 1 55 := ⟨by decide +kernel, rfl⟩
theorem x_Pl_giveCars_55 : DC b_Pl_giveCars 55 (.istore_n 3) 1 56 := ⟨by decide +kernel, rfl⟩
theorem x_Pl_giveCars_56 : DC b_Pl_giveCars 56 (.iload_n 3) 1 57 := ⟨by decide +kernel, rfl⟩
theorem x_Pl_giveCars_57 : DC b_Pl_giveCars 57 (.iload_n 2) 1 58 := ⟨by decide +kernel, rfl⟩
theorem x_Pl_giveCars_58 : DC b_Pl_giveCars 58 (.if_icmp .ge 46) 3 61 := ⟨by decide +kernel, rfl⟩
theorem x_Pl_giveCars_61 : DC b_Pl_giveCars 61 (.aload_n 0) 1 62 := ⟨by decide +kernel, rfl⟩
theorem x_Pl_giveCars_62 : DC b_Pl_giveCars 62 (.invokevirtual 203) 3 65 := ⟨by decide +kernel, rfl⟩
theorem x_Pl_giveCars_65 : DC b_Pl_giveCars 65 (.istore 4) 2 67 := ⟨by decide +kernel, rfl⟩
theorem x_Pl_giveCars_67 : DC b_Pl_giveCars 67 (.iload 4) 2 69 := ⟨by decide +kernel, rfl⟩
theorem x_Pl_giveCars_69 : DC b_Pl_giveCars 69 (.iconst (-1)) 1 70 := ⟨by decide +kernel, rfl⟩
theorem x_Pl_giveCars_70 : DC b_Pl_giveCars 70 (.if_icmp .ne 4) 3 73 := ⟨by decide +kernel, rfl⟩
theorem x_Pl_giveCars_73 : DC b_Pl_giveCars 73 (.return_) 1 74 := ⟨by decide +kernel, rfl⟩
theorem x_Pl_giveCars_74 : DC b_Pl_giveCars 74 (.aload_n 0) 1 75 := ⟨by decide +kernel, rfl⟩
theorem x_Pl_giveCars_75 : DC b_Pl_giveCars 75 (.getfield 23) 3 78 := ⟨by decide +kernel, rfl⟩
theorem x_Pl_giveCars_78 : DC b_Pl_giveCars 78 (.iload 4) 2 80 := ⟨by decide +kernel, rfl⟩
theorem x_Pl_giveCars_80 : DC b_Pl_giveCars 80 (.dup2) 1 81 := ⟨by decide +kernel, rfl⟩
theorem x_Pl_giveCars_81 : DC b_Pl_giveCars 81 (.iaload) 1 82 := ⟨by decide +kernel, rfl⟩
theorem x_Pl_giveCars_82 : DC b_Pl_giveCars 82 (.iconst 1) 1 83 := ⟨by decide +kernel, rfl⟩
theorem x_Pl_giveCars_83 : DC b_Pl_giveCars 83 (.iadd) 1 84 := ⟨by decide +kernel, rfl⟩
theorem x_Pl_giveCars_84 : DC b_Pl_giveCars 84 (.iastore) 1 85 := ⟨by decide +kernel, rfl⟩
theorem x_Pl_giveCars_85 : DC b_Pl_giveCars 85 (.aload_n 0) 1 86 := ⟨by decide +kernel, rfl⟩
theorem x_Pl_giveCars_86 : DC b_Pl_giveCars 86 (.getfield 26) 3 89 := ⟨by decide +kernel, rfl⟩
theorem x_Pl_giveCars_89 : DC b_Pl_giveCars 89 (.iload 4) 2 91 := ⟨by decide +kernel, rfl⟩
theorem x_Pl_giveCars_91 : DC b_Pl_giveCars 91 (.aload_n 0) 1 92 := ⟨by decide +kernel, rfl⟩
theorem x_Pl_giveCars_92 : DC b_Pl_giveCars 92 (.iload 4) 2 94 := ⟨by decide +kernel, rfl⟩
theorem x_Pl_giveCars_94 : DC b_Pl_giveCars 94 (.invokevirtual 200) 3 97 := ⟨by decide +kernel, rfl⟩
theorem x_Pl_giveCars_97 : DC b_Pl_giveCars 97 (.iastore) 1 98 := ⟨by decide +kernel, rfl⟩
theorem x_Pl_giveCars_98 : DC b_Pl_giveCars 98 (.iinc 3 1) 3 101 := ⟨by decide +kernel, rfl⟩
theorem x_Pl_giveCars_101 : DC b_Pl_giveCars 101 (.goto (-45)) 3 104 := ⟨by decide +kernel, rfl⟩
theorem x_Pl_giveCars_104 : DC b_Pl_giveCars 104 (.return_) 1 105 := ⟨by decide +kernel, rfl⟩
def k_Pl_giveCars_56 (R56 : Int → Int → Mem → Res) (a2 a3 : Int) (M : Mem) : Res := if w32 a3 < w32 a2 then (bcall (d_Pl_nextForCar M) fun v2 M3 => if w32 v2 = (-1) then (some (0, M3)) else (chk (0 ≤ w32 v2 ∧ w32 v2 < 8) <| blet (M3 79 (ix v2)) fun v6 => chk (0 ≤ w32 v2 ∧ w32 v2 < 8) <| blet (sto M3 79 (ix v2) (v6 + 1)) fun M8 => bcall (d_Pl_turnOf v2 M8) fun v9 M10 => chk (0 ≤ w32 v2 ∧ w32 v2 < 8) <| blet (sto M10 80 (ix v2) v9) fun M12 => blet (a3 + 1) fun v13 => R56 a2 v13 M12)) else (some (0, M))
theorem z_Pl_giveCars_56 (C : Cx p s m args meth c G b_Pl_giveCars 5 "PrairiePool$Play" none) (hlev : 6 ≤ lev) {r : Int × Mem} {R56 : Int → Int → Mem → Res} (hR56 : ∀ (a2 a3 : Int) (M : Mem), R56 a2 a3 M = some r → Z p l e lev s m args below meth c G 5 (MQ below (Qm G 0 r) args s 0 0 (Ab G)) M 56 [(0, .ref (G.1 + 75)), (2, vi a2), (3, vi a3)] []) {a2 a3 : Int} {M : Mem} (h : k_Pl_giveCars_56 R56 a2 a3 M = some r) : Z p l e lev s m args below meth c G 5 (MQ below (Qm G 0 r) args s 0 0 (Ab G)) M 56 [(0, .ref (G.1 + 75)), (2, vi a2), (3, vi a3)] [] := by
  unfold k_Pl_giveCars_56 at h
  refine z_iload_n C 2 x_Pl_giveCars_56 rfl ?_
  refine z_iload_n C 1 x_Pl_giveCars_57 rfl ?_
  rcases ite_e h with ⟨c1, h⟩ | ⟨c1, h⟩
  · refine z_icmp_ge_f (tgt := 104) C x_Pl_giveCars_58 rfl c1 ?_
    refine z_aload_n C 0 x_Pl_giveCars_61 rfl ?_
    obtain ⟨v2, M3, fv2, h⟩ := bcall_e h
    refine z_callVi (k := 75) C x_Pl_giveCars_62 cv_Pl_203 (t_Pl_nextForCar (lev := lev - 1) l G (by omega) fv2) nk_75 ck_75 rfl (by omega) rfl (i_le rfl) rfl ?_
    refine z_istore (lv' := [(4, vi v2), (0, .ref (G.1 + 75)), (2, vi a2), (3, vi a3)]) C rfl x_Pl_giveCars_65 (i_lt rfl) rfl ?_
    refine z_iload C 0 x_Pl_giveCars_67 rfl ?_
    refine z_iconst C x_Pl_giveCars_69 ?_
    rcases ite_e h with ⟨c4, h⟩ | ⟨c4, h⟩
    · refine z_icmp_ne_f (tgt := 74) C x_Pl_giveCars_70 rfl c4 ?_
      exact z_vret C x_Pl_giveCars_73 h
    · refine z_icmp_ne_t (tgt := 74) C x_Pl_giveCars_70 rfl c4 ?_
      refine z_aload_n C 1 x_Pl_giveCars_74 rfl ?_
      refine z_getR (j := 7) C x_Pl_giveCars_75 nk_75 ck_75 cw_6 (i_lt rfl) rfl rf_75_7 rfl fl_Pl_23 ?_
      refine z_iload C 0 x_Pl_giveCars_78 rfl ?_
      refine z_dup2 C x_Pl_giveCars_80 rfl rfl ?_
      obtain ⟨c5, h⟩ := chk_e h
      obtain ⟨v6, ev6, h⟩ := blet_e h
      refine z_iald C x_Pl_giveCars_81 nk_79 ck_79 c5 ev6 ?_
      refine z_iconst C x_Pl_giveCars_82 ?_
      refine z_iadd C x_Pl_giveCars_83 ?_
      obtain ⟨c7, h⟩ := chk_e h
      obtain ⟨M8, eM8, h⟩ := blet_e h
      refine z_iast C x_Pl_giveCars_84 nk_79 ck_79 c7 eM8 ?_
      refine z_aload_n C 1 x_Pl_giveCars_85 rfl ?_
      refine z_getR (j := 8) C x_Pl_giveCars_86 nk_75 ck_75 cw_6 (i_lt rfl) rfl rf_75_8 rfl fl_Pl_26 ?_
      refine z_iload C 0 x_Pl_giveCars_89 rfl ?_
      refine z_aload_n C 1 x_Pl_giveCars_91 rfl ?_
      refine z_iload C 0 x_Pl_giveCars_92 rfl ?_
      obtain ⟨v9, M10, fv9, h⟩ := bcall_e h
      refine z_callVi (k := 75) C x_Pl_giveCars_94 cv_Pl_200 (t_Pl_turnOf (lev := lev - 1) l G (by omega) fv9) nk_75 ck_75 rfl (by omega) rfl (i_le rfl) rfl ?_
      obtain ⟨c11, h⟩ := chk_e h
      obtain ⟨M12, eM12, h⟩ := blet_e h
      refine z_iast C x_Pl_giveCars_97 nk_80 ck_80 c11 eM12 ?_
      obtain ⟨v13, ev13, h⟩ := blet_e h
      refine z_iinc (lv' := [(3, vi v13), (4, vi v2), (0, .ref (G.1 + 75)), (2, vi a2)]) C 3 ev13 x_Pl_giveCars_98 rfl (i_lt rfl) rfl ?_
      refine z_goto (tgt := 56) C x_Pl_giveCars_101 rfl ?_
      exact z_sub [2, 3, 0] rfl (hR56 a2 v13 M12 h)
  · refine z_icmp_ge_t (tgt := 104) C x_Pl_giveCars_58 rfl c1 ?_
    exact z_vret C x_Pl_giveCars_104 h
theorem zl_Pl_giveCars_56 (C : Cx p s m args meth c G b_Pl_giveCars 5 "PrairiePool$Play" none) (hlev : 6 ≤ lev) {r : Int × Mem}  : ∀ (n : Nat) (a2 a3 : Int) (M : Mem), fix (fun _ _ _ => none) (k_Pl_giveCars_56) n a2 a3 M = some r → Z p l e lev s m args below meth c G 5 (MQ below (Qm G 0 r) args s 0 0 (Ab G)) M 56 [(0, .ref (G.1 + 75)), (2, vi a2), (3, vi a3)] [] := by
  intro n
  induction n with
  | zero => intro a2 a3 M h; exact nomatch (show (none : Res) = some r from h)
  | succ n ih => intro a2 a3 M h; exact z_Pl_giveCars_56 C hlev ih h
def k_Pl_giveCars_26 (R26 : Int → Int → Mem → Res) (a2 a3 : Int) (M : Mem) : Res := blet (M 5 8) fun v1 => if w32 a3 < w32 v1 then (bcall (d_Pl_turnOf a3 M) fun v3 M4 => chk (0 ≤ w32 a3 ∧ w32 a3 < 8) <| blet (sto M4 80 (ix a3) v3) fun M6 => blet (a3 + 1) fun v7 => R26 a2 v7 M6) else (fix (fun _ _ _ => none) (k_Pl_giveCars_56) FU a2 0 M)
theorem z_Pl_giveCars_26 (C : Cx p s m args meth c G b_Pl_giveCars 5 "PrairiePool$Play" none) (hlev : 6 ≤ lev) {r : Int × Mem} {R26 : Int → Int → Mem → Res} (hR26 : ∀ (a2 a3 : Int) (M : Mem), R26 a2 a3 M = some r → Z p l e lev s m args below meth c G 5 (MQ below (Qm G 0 r) args s 0 0 (Ab G)) M 26 [(0, .ref (G.1 + 75)), (2, vi a2), (3, vi a3)] []) {a2 a3 : Int} {M : Mem} (h : k_Pl_giveCars_26 R26 a2 a3 M = some r) : Z p l e lev s m args below meth c G 5 (MQ below (Qm G 0 r) args s 0 0 (Ab G)) M 26 [(0, .ref (G.1 + 75)), (2, vi a2), (3, vi a3)] [] := by
  unfold k_Pl_giveCars_26 at h
  refine z_iload_n C 2 x_Pl_giveCars_26 rfl ?_
  refine z_aload_n C 0 x_Pl_giveCars_27 rfl ?_
  refine z_getR (j := 0) C x_Pl_giveCars_28 nk_75 ck_75 cw_6 (i_lt rfl) rfl rf_75_0 rfl fl_Pl_51 ?_
  obtain ⟨v1, ev1, h⟩ := blet_e h
  refine z_getI (j := 8) C x_Pl_giveCars_31 nk_5 ck_5 cw_7 (i_lt rfl) rfl rfl fl_Pl_197 ev1 ?_
  rcases ite_e h with ⟨c2, h⟩ | ⟨c2, h⟩
  · refine z_icmp_ge_f (tgt := 54) C x_Pl_giveCars_34 rfl c2 ?_
    refine z_aload_n C 0 x_Pl_giveCars_37 rfl ?_
    refine z_getR (j := 8) C x_Pl_giveCars_38 nk_75 ck_75 cw_6 (i_lt rfl) rfl rf_75_8 rfl fl_Pl_26 ?_
    refine z_iload_n C 2 x_Pl_giveCars_41 rfl ?_
    refine z_aload_n C 0 x_Pl_giveCars_42 rfl ?_
    refine z_iload_n C 2 x_Pl_giveCars_43 rfl ?_
    obtain ⟨v3, M4, fv3, h⟩ := bcall_e h
    refine z_callVi (k := 75) C x_Pl_giveCars_44 cv_Pl_200 (t_Pl_turnOf (lev := lev - 1) l G (by omega) fv3) nk_75 ck_75 rfl (by omega) rfl (i_le rfl) rfl ?_
    obtain ⟨c5, h⟩ := chk_e h
    obtain ⟨M6, eM6, h⟩ := blet_e h
    refine z_iast C x_Pl_giveCars_47 nk_80 ck_80 c5 eM6 ?_
    obtain ⟨v7, ev7, h⟩ := blet_e h
    refine z_iinc (lv' := [(3, vi v7), (0, .ref (G.1 + 75)), (2, vi a2)]) C 2 ev7 x_Pl_giveCars_48 rfl (i_lt rfl) rfl ?_
    refine z_goto (tgt := 26) C x_Pl_giveCars_51 rfl ?_
    exact z_sub [1, 2, 0] rfl (hR26 a2 v7 M6 h)
  · refine z_icmp_ge_t (tgt := 54) C x_Pl_giveCars_34 rfl c2 ?_
    refine z_iconst C x_Pl_giveCars_54 ?_
    refine z_istore_n (lv' := [(3, vi 0), (0, .ref (G.1 + 75)), (2, vi a2)]) C rfl x_Pl_giveCars_55 (i_lt rfl) rfl ?_
    exact z_sub [1, 2, 0] rfl (zl_Pl_giveCars_56 C hlev FU a2 0 M h)
theorem zl_Pl_giveCars_26 (C : Cx p s m args meth c G b_Pl_giveCars 5 "PrairiePool$Play" none) (hlev : 6 ≤ lev) {r : Int × Mem}  : ∀ (n : Nat) (a2 a3 : Int) (M : Mem), fix (fun _ _ _ => none) (k_Pl_giveCars_26) n a2 a3 M = some r → Z p l e lev s m args below meth c G 5 (MQ below (Qm G 0 r) args s 0 0 (Ab G)) M 26 [(0, .ref (G.1 + 75)), (2, vi a2), (3, vi a3)] [] := by
  intro n
  induction n with
  | zero => intro a2 a3 M h; exact nomatch (show (none : Res) = some r from h)
  | succ n ih => intro a2 a3 M h; exact z_Pl_giveCars_26 C hlev ih h
def d_Pl_giveCars (a1 a2 : Int) (M : Mem) : Res := bcall (d_Ar_fill1 79 8 0 M) fun v1 M2 => bcall (d_As_begin a1 M2) fun v3 M4 => bcall (d_As_tellWeek a1 M4) fun v5 M6 => fix (fun _ _ _ => none) (k_Pl_giveCars_26) FU a2 0 M6
theorem t_Pl_giveCars (l : Launch) (G : GX) {lev : Nat} (hlev : 6 ≤ lev) {a1 a2 : Int} {M : Mem} {r : Int × Mem} (h : d_Pl_giveCars a1 a2 M = some r) : Mt l G y_Pl_giveCars b_Pl_giveCars 5 none lev 0 [.ref (G.1 + 75), vi a1, vi a2] M r := by
  refine Mt.of (by decide) (i_le rfl) ?_
  intro p e s m args below meth c C
  have C : Cx p s m args meth c G b_Pl_giveCars 5 "PrairiePool$Play" none := C
  unfold d_Pl_giveCars at h
  refine z_sub (lv' := [(0, .ref (G.1 + 75)), (1, vi a1), (2, vi a2)]) [0, 1, 2] rfl ?_
  refine z_aload_n C 0 x_Pl_giveCars_0 rfl ?_
  refine z_getR (j := 7) C x_Pl_giveCars_1 nk_75 ck_75 cw_6 (i_lt rfl) rfl rf_75_7 rfl fl_Pl_23 ?_
  refine z_iconst C x_Pl_giveCars_4 ?_
  obtain ⟨v1, M2, fv1, h⟩ := bcall_e h
  refine z_callSv C x_Pl_giveCars_5 cs_Pl_67 (t_Ar_fill1 (lev := lev - 1) l G (by omega) nk_79 ck_79 fv1) (by omega) rfl (i_le rfl) rfl ?_
  refine z_aload_n C 0 x_Pl_giveCars_8 rfl ?_
  refine z_getR (j := 2) C x_Pl_giveCars_9 nk_75 ck_75 cw_6 (i_lt rfl) rfl rf_75_2 rfl fl_Pl_59 ?_
  refine z_iload_n C 1 x_Pl_giveCars_12 rfl ?_
  obtain ⟨v3, M4, fv3, h⟩ := bcall_e h
  refine z_callVv (k := 32) C x_Pl_giveCars_13 cv_Pl_189 (t_As_begin (lev := lev - 1) l G (by omega) fv3) nk_32 ck_32 rfl (by omega) rfl (i_le rfl) rfl ?_
  refine z_aload_n C 0 x_Pl_giveCars_16 rfl ?_
  refine z_getR (j := 2) C x_Pl_giveCars_17 nk_75 ck_75 cw_6 (i_lt rfl) rfl rf_75_2 rfl fl_Pl_59 ?_
  refine z_iload_n C 1 x_Pl_giveCars_20 rfl ?_
  obtain ⟨v5, M6, fv5, h⟩ := bcall_e h
  refine z_callVv (k := 32) C x_Pl_giveCars_21 cv_Pl_194 (t_As_tellWeek (lev := lev - 1) l G (by omega) fv5) nk_32 ck_32 rfl (by omega) rfl (i_le rfl) rfl ?_
  refine z_iconst C x_Pl_giveCars_24 ?_
  refine z_istore_n (lv' := [(3, vi 0), (0, .ref (G.1 + 75)), (1, vi a1), (2, vi a2)]) C rfl x_Pl_giveCars_25 (i_lt rfl) rfl ?_
  exact z_sub [1, 3, 0] rfl (zl_Pl_giveCars_26 C hlev FU a2 0 M6 h)
end
