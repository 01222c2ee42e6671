section
variable {p : Program} {l : Launch} {e : Env} {lev : Nat} {s : State} {m : MethodId} {args : Array Value} {below : List Frame} {meth : Method} {c : Code} {G : GX}
theorem x_Pr_addFarm_0 : DC b_Pr_addFarm 0 (.aload_n 0) 1 1 := ⟨by decide +kernel, rfl⟩
theorem x_Pr_addFarm_1 : DC b_Pr_addFarm 1 (.getfield 40) 3 4 := ⟨by decide +kernel, rfl⟩
theorem x_Pr_addFarm_4 : DC b_Pr_addFarm 4 (.istore 4) 2 6 := ⟨by decide +kernel, rfl⟩
theorem x_Pr_addFarm_6 : DC b_Pr_addFarm 6 (.aload_n 0) 1 7 := ⟨by decide +kernel, rfl⟩
theorem x_Pr_addFarm_7 : DC b_Pr_addFarm 7 (.getfield 9) 3 10 := ⟨by decide +kernel, rfl⟩
theorem x_Pr_addFarm_10 : DC b_Pr_addFarm 10 (.iload 4) 2 12 := ⟨by decide +kernel, rfl⟩
theorem x_Pr_addFarm_12 : DC b_Pr_addFarm 12 (.iload_n 1) 1 13 := ⟨by decide +kernel, rfl⟩
theorem x_Pr_addFarm_13 : DC b_Pr_addFarm 13 (.iastore) 1 14 := ⟨by decide +kernel, rfl⟩
theorem x_Pr_addFarm_14 : DC b_Pr_addFarm 14 (.aload_n 0) 1 15 := ⟨by decide +kernel, rfl⟩
theorem x_Pr_addFarm_15 : DC b_Pr_addFarm 15 (.getfield 15) 3 18 := ⟨by decide +kernel, rfl⟩
theorem x_Pr_addFarm_18 : DC b_Pr_addFarm 18 (.iload 4) 2 20 := ⟨by decide +kernel, rfl⟩
theorem x_Pr_addFarm_20 : DC b_Pr_addFarm 20 (.iload_n 2) 1 21 := ⟨by decide +kernel, rfl⟩
theorem x_Pr_addFarm_21 : DC b_Pr_addFarm 21 (.iastore) 1 22 := ⟨by decide +kernel, rfl⟩
theorem x_Pr_addFarm_22 : DC b_Pr_addFarm 22 (.aload_n 0) 1 23 := ⟨by decide +kernel, rfl⟩
theorem x_Pr_addFarm_23 : DC b_Pr_addFarm 23 (.getfield 18) 3 26 := ⟨by decide +kernel, rfl⟩
theorem x_Pr_addFarm_26 : DC b_Pr_addFarm 26 (.iload 4) 2 28 := ⟨by decide +kernel, rfl⟩
theorem x_Pr_addFarm_28 : DC b_Pr_addFarm 28 (.iload_n 3) 1 29 := ⟨by decide +kernel, rfl⟩
theorem x_Pr_addFarm_29 : DC b_Pr_addFarm 29 (.iastore) 1 30 := ⟨by decide +kernel, rfl⟩
theorem x_Pr_addFarm_30 : DC b_Pr_addFarm 30 (.aload_n 0) 1 31 := ⟨by decide +kernel, rfl⟩
theorem x_Pr_addFarm_31 : DC b_Pr_addFarm 31 (.getfield 21) 3 34 := ⟨by decide +kernel, rfl⟩
theorem x_Pr_addFarm_34 : DC b_Pr_addFarm 34 (.iload 4) 2 36 := ⟨by decide +kernel, rfl⟩
theorem x_Pr_addFarm_36 : DC b_Pr_addFarm 36 (.bipush 10) 2 38 := ⟨by decide +kernel, rfl⟩
theorem x_Pr_addFarm_38 : DC b_Pr_addFarm 38 (.iastore) 1 39 := ⟨by decide +kernel, rfl⟩
theorem x_Pr_addFarm_39 : DC b_Pr_addFarm 39 (.aload_n 0) 1 40 := ⟨by decide +kernel, rfl⟩
theorem x_Pr_addFarm_40 : DC b_Pr_addFarm 40 (.getfield 24) 3 43 := ⟨by decide +kernel, rfl⟩
theorem x_Pr_addFarm_43 : DC b_Pr_addFarm 43 (.iload 4) 2 45 := ⟨by decide +kernel, rfl⟩
theorem x_Pr_addFarm_45 : DC b_Pr_addFarm 45 (.iconst (-1)) 1 46 := ⟨by decide +kernel, rfl⟩
theorem x_Pr_addFarm_46 : DC b_Pr_addFarm 46 (.iastore) 1 47 := ⟨by decide +kernel, rfl⟩
theorem x_Pr_addFarm_47 : DC b_Pr_addFarm 47 (.aload_n 0) 1 48 := ⟨by decide +kernel, rfl⟩
theorem x_Pr_addFarm_48 : DC b_Pr_addFarm 48 (.getfield 31) 3 51 := ⟨by decide +kernel, rfl⟩
theorem x_Pr_addFarm_51 : DC b_Pr_addFarm 51 (.iload 4) 2 53 := ⟨by decide +kernel, rfl⟩
theorem x_Pr_addFarm_53 : DC b_Pr_addFarm 53 (.iconst (-1)) 1 54 := ⟨by decide +kernel, rfl⟩
theorem x_Pr_addFarm_54 : DC b_Pr_addFarm 54 (.iastore) 1 55 := ⟨by decide +kernel, rfl⟩
theorem x_Pr_addFarm_55 : DC b_Pr_addFarm 55 (.aload_n 0) 1 56 := ⟨by decide +kernel, rfl⟩
theorem x_Pr_addFarm_56 : DC b_Pr_addFarm 56 (.dup) 1 57 := ⟨by decide +kernel, rfl⟩
theorem x_Pr_addFarm_57 : DC b_Pr_addFarm 57 (.getfield 40) 3 60 := ⟨by decide +kernel, rfl⟩
theorem x_Pr_addFarm_60 : DC b_Pr_addFarm 60 (.iconst 1) 1 61 := ⟨by decide +kernel, rfl⟩
theorem x_Pr_addFarm_61 : DC b_Pr_addFarm 61 (.iadd) 1 62 := ⟨by decide +kernel, rfl⟩
theorem x_Pr_addFarm_62 : DC b_Pr_addFarm 62 (.putfield 40) 3 65 := ⟨by decide +kernel, rfl⟩
theorem x_Pr_addFarm_65 : DC b_Pr_addFarm 65 (.iload 4) 2 67 := ⟨by decide +kernel, rfl⟩
theorem x_Pr_addFarm_67 : DC b_Pr_addFarm 67 (.ireturn) 1 68 := ⟨by decide +kernel, rfl⟩
def d_Pr_addFarm (a1 a2 a3 : Int) (M : Mem) : Res := blet (M 5 0) fun v1 => chk (0 ≤ w32 v1 ∧ w32 v1 < 20) <| blet (sto M 6 (ix v1) a1) fun M3 => chk (0 ≤ w32 v1 ∧ w32 v1 < 20) <| blet (sto M3 7 (ix v1) a2) fun M5 => chk (0 ≤ w32 v1 ∧ w32 v1 < 20) <| blet (sto M5 8 (ix v1) a3) fun M7 => chk (0 ≤ w32 v1 ∧ w32 v1 < 20) <| blet (sto M7 9 (ix v1) 10) fun M9 => chk (0 ≤ w32 v1 ∧ w32 v1 < 20) <| blet (sto M9 10 (ix v1) (-1)) fun M11 => chk (0 ≤ w32 v1 ∧ w32 v1 < 20) <| blet (sto M11 12 (ix v1) (-1)) fun M13 => blet (M13 5 0) fun v14 => blet (sto M13 5 0 (v14 + 1)) fun M15 => some (v1, M15)
theorem t_Pr_addFarm (l : Launch) (G : GX) {lev : Nat} (hlev : 0 ≤ lev) {a1 a2 a3 : Int} {M : Mem} {r : Int × Mem} (h : d_Pr_addFarm a1 a2 a3 M = some r) : Mt l G y_Pr_addFarm b_Pr_addFarm 5 (some .int) lev 1 [.ref (G.1 + 5), vi a1, vi a2, vi a3] M r := by
  refine Mt.of (by decide) (i_le rfl) ?_
  intro p e s m args below meth c C
  have C : Cx p s m args meth c G b_Pr_addFarm 5 "PrairiePool$Prairie" (some .int) := C
  unfold d_Pr_addFarm at h
  refine z_sub (lv' := [(0, .ref (G.1 + 5)), (1, vi a1), (2, vi a2), (3, vi a3)]) [0, 1, 2, 3] rfl ?_
  refine z_aload_n C 0 x_Pr_addFarm_0 rfl ?_
  obtain ⟨v1, ev1, h⟩ := blet_e h
  refine z_getI (j := 0) C x_Pr_addFarm_1 nk_5 ck_5 cw_7 (i_lt rfl) rfl rfl fl_Pr_40 ev1 ?_
  refine z_istore (lv' := [(4, vi v1), (0, .ref (G.1 + 5)), (1, vi a1), (2, vi a2), (3, vi a3)]) C rfl x_Pr_addFarm_4 (i_lt rfl) rfl ?_
  refine z_aload_n C 1 x_Pr_addFarm_6 rfl ?_
  refine z_getR (j := 1) C x_Pr_addFarm_7 nk_5 ck_5 cw_7 (i_lt rfl) rfl rf_5_1 rfl fl_Pr_9 ?_
  refine z_iload C 0 x_Pr_addFarm_10 rfl ?_
  refine z_iload_n C 2 x_Pr_addFarm_12 rfl ?_
  obtain ⟨c2, h⟩ := chk_e h
  obtain ⟨M3, eM3, h⟩ := blet_e h
  refine z_iast C x_Pr_addFarm_13 nk_6 ck_6 c2 eM3 ?_
  refine z_aload_n C 1 x_Pr_addFarm_14 rfl ?_
  refine z_getR (j := 2) C x_Pr_addFarm_15 nk_5 ck_5 cw_7 (i_lt rfl) rfl rf_5_2 rfl fl_Pr_15 ?_
  refine z_iload C 0 x_Pr_addFarm_18 rfl ?_
  refine z_iload_n C 3 x_Pr_addFarm_20 rfl ?_
  obtain ⟨c4, h⟩ := chk_e h
  obtain ⟨M5, eM5, h⟩ := blet_e h
  refine z_iast C x_Pr_addFarm_21 nk_7 ck_7 c4 eM5 ?_
  refine z_aload_n C 1 x_Pr_addFarm_22 rfl ?_
  refine z_getR (j := 3) C x_Pr_addFarm_23 nk_5 ck_5 cw_7 (i_lt rfl) rfl rf_5_3 rfl fl_Pr_18 ?_
  refine z_iload C 0 x_Pr_addFarm_26 rfl ?_
  refine z_iload_n C 4 x_Pr_addFarm_28 rfl ?_
  obtain ⟨c6, h⟩ := chk_e h
  obtain ⟨M7, eM7, h⟩ := blet_e h
  refine z_iast C x_Pr_addFarm_29 nk_8 ck_8 c6 eM7 ?_
  refine z_aload_n C 1 x_Pr_addFarm_30 rfl ?_
  refine z_getR (j := 4) C x_Pr_addFarm_31 nk_5 ck_5 cw_7 (i_lt rfl) rfl rf_5_4 rfl fl_Pr_21 ?_
  refine z_iload C 0 x_Pr_addFarm_34 rfl ?_
  refine z_bipush C rfl x_Pr_addFarm_36 ?_
  obtain ⟨c8, h⟩ := chk_e h
  obtain ⟨M9, eM9, h⟩ := blet_e h
  refine z_iast C x_Pr_addFarm_38 nk_9 ck_9 c8 eM9 ?_
  refine z_aload_n C 1 x_Pr_addFarm_39 rfl ?_
  refine z_getR (j := 5) C x_Pr_addFarm_40 nk_5 ck_5 cw_7 (i_lt rfl) rfl rf_5_5 rfl fl_Pr_24 ?_
  refine z_iload C 0 x_Pr_addFarm_43 rfl ?_
  refine z_iconst C x_Pr_addFarm_45 ?_
  obtain ⟨c10, h⟩ := chk_e h
  obtain ⟨M11, eM11, h⟩ := blet_e h
  refine z_iast C x_Pr_addFarm_46 nk_10 ck_10 c10 eM11 ?_
  refine z_aload_n C 1 x_Pr_addFarm_47 rfl ?_
  refine z_getR (j := 7) C x_Pr_addFarm_48 nk_5 ck_5 cw_7 (i_lt rfl) rfl rf_5_7 rfl fl_Pr_31 ?_
  refine z_iload C 0 x_Pr_addFarm_51 rfl ?_
  refine z_iconst C x_Pr_addFarm_53 ?_
  obtain ⟨c12, h⟩ := chk_e h
  obtain ⟨M13, eM13, h⟩ := blet_e h
  refine z_iast C x_Pr_addFarm_54 nk_12 ck_12 c12 eM13 ?_
  refine z_aload_n C 1 x_Pr_addFarm_55 rfl ?_
  refine z_dup C x_Pr_addFarm_56 rfl ?_
  obtain ⟨v14, ev14, h⟩ := blet_e h
  refine z_getI (j := 0) C x_Pr_addFarm_57 nk_5 ck_5 cw_7 (i_lt rfl) rfl rfl fl_Pr_40 ev14 ?_
  refine z_iconst C x_Pr_addFarm_60 ?_
  refine z_iadd C x_Pr_addFarm_61 ?_
  obtain ⟨M15, eM15, h⟩ := blet_e h
  refine z_putI (j := 0) C x_Pr_addFarm_62 nk_5 ck_5 cw_7 (i_lt rfl) rfl rfl rfl rfl fl_Pr_40 eM15 ?_
  refine z_iload C 0 x_Pr_addFarm_65 rfl ?_
  exact z_iret C x_Pr_addFarm_67 h
theorem x_Pr_addElevator_0 : DC b_Pr_addElevator 0 (.aload_n 0) 1 1 := ⟨by decide +kernel, rfl⟩
theorem x_Pr_addElevator_1 : DC b_Pr_addElevator 1 (.getfield 44) 3 4 := ⟨by decide +kernel, rfl⟩
theorem x_Pr_addElevator_4 : DC b_Pr_addElevator 4 (.istore_n 3) 1 5 := ⟨by decide +kernel, rfl⟩
theorem x_Pr_addElevator_5 : DC b_Pr_addElevator 5 (.aload_n 0) 1 6 := ⟨by decide +kernel, rfl⟩
theorem x_Pr_addElevator_6 : DC b_Pr_addElevator 6 (.getfield 34) 3 9 := ⟨by decide +kernel, rfl⟩
theorem x_Pr_addElevator_9 : DC b_Pr_addElevator 9 (.iload_n 3) 1 10 := ⟨by decide +kernel, rfl⟩
theorem x_Pr_addElevator_10 : DC b_Pr_addElevator 10 (.iload_n 1) 1 11 := ⟨by decide +kernel, rfl⟩
theorem x_Pr_addElevator_11 : DC b_Pr_addElevator 11 (.iastore) 1 12 := ⟨by decide +kernel, rfl⟩
theorem x_Pr_addElevator_12 : DC b_Pr_addElevator 12 (.aload_n 0) 1 13 := ⟨by decide +kernel, rfl⟩
theorem x_Pr_addElevator_13 : DC b_Pr_addElevator 13 (.getfield 37) 3 16 := ⟨by decide +kernel, rfl⟩
theorem x_Pr_addElevator_16 : DC b_Pr_addElevator 16 (.iload_n 3) 1 17 := ⟨by decide +kernel, rfl⟩
theorem x_Pr_addElevator_17 : DC b_Pr_addElevator 17 (.iload_n 2) 1 18 := ⟨by decide +kernel, rfl⟩
theorem x_Pr_addElevator_18 : DC b_Pr_addElevator 18 (.iastore) 1 19 := ⟨by decide +kernel, rfl⟩
theorem x_Pr_addElevator_19 : DC b_Pr_addElevator 19 (.aload_n 0) 1 20 := ⟨by decide +kernel, rfl⟩
theorem x_Pr_addElevator_20 : DC b_Pr_addElevator 20 (.dup) 1 21 := ⟨by decide +kernel, rfl⟩
theorem x_Pr_addElevator_21 : DC b_Pr_addElevator 21 (.getfield 44) 3 24 := ⟨by decide +kernel, rfl⟩
theorem x_Pr_addElevator_24 : DC b_Pr_addElevator 24 (.iconst 1) 1 25 := ⟨by decide +kernel, rfl⟩
theorem x_Pr_addElevator_25 : DC b_Pr_addElevator 25 (.iadd) 1 26 := ⟨by decide +kernel, rfl⟩
theorem x_Pr_addElevator_26 : DC b_Pr_addElevator 26 (.putfield 44) 3 29 := ⟨by decide +kernel, rfl⟩
theorem x_Pr_addElevator_29 : DC b_Pr_addElevator 29 (.iload_n 3) 1 30 := ⟨by decide +kernel, rfl⟩
theorem x_Pr_addElevator_30 : DC b_Pr_addElevator 30 (.ireturn) 1 31 := ⟨by decide +kernel, rfl⟩
def d_Pr_addElevator (a1 a2 : Int) (M : Mem) : Res := blet (M 5 8) fun v1 => chk (0 ≤ w32 v1 ∧ w32 v1 < 8) <| blet (sto M 13 (ix v1) a1) fun M3 => chk (0 ≤ w32 v1 ∧ w32 v1 < 8) <| blet (sto M3 14 (ix v1) a2) fun M5 => blet (M5 5 8) fun v6 => blet (sto M5 5 8 (v6 + 1)) fun M7 => some (v1, M7)
theorem t_Pr_addElevator (l : Launch) (G : GX) {lev : Nat} (hlev : 0 ≤ lev) {a1 a2 : Int} {M : Mem} {r : Int × Mem} (h : d_Pr_addElevator a1 a2 M = some r) : Mt l G y_Pr_addElevator b_Pr_addElevator 4 (some .int) lev 1 [.ref (G.1 + 5), vi a1, vi a2] M r := by
  refine Mt.of (by decide) (i_le rfl) ?_
  intro p e s m args below meth c C
  have C : Cx p s m args meth c G b_Pr_addElevator 4 "PrairiePool$Prairie" (some .int) := C
  unfold d_Pr_addElevator at h
  refine z_sub (lv' := [(0, .ref (G.1 + 5)), (1, vi a1), (2, vi a2)]) [0, 1, 2] rfl ?_
  refine z_aload_n C 0 x_Pr_addElevator_0 rfl ?_
  obtain ⟨v1, ev1, h⟩ := blet_e h
  refine z_getI (j := 8) C x_Pr_addElevator_1 nk_5 ck_5 cw_7 (i_lt rfl) rfl rfl fl_Pr_44 ev1 ?_
  refine z_istore_n (lv' := [(3, vi v1), (0, .ref (G.1 + 5)), (1, vi a1), (2, vi a2)]) C rfl x_Pr_addElevator_4 (i_lt rfl) rfl ?_
  refine z_aload_n C 1 x_Pr_addElevator_5 rfl ?_
  refine z_getR (j := 9) C x_Pr_addElevator_6 nk_5 ck_5 cw_7 (i_lt rfl) rfl rf_5_9 rfl fl_Pr_34 ?_
  refine z_iload_n C 0 x_Pr_addElevator_9 rfl ?_
  refine z_iload_n C 2 x_Pr_addElevator_10 rfl ?_
  obtain ⟨c2, h⟩ := chk_e h
  obtain ⟨M3, eM3, h⟩ := blet_e h
  refine z_iast C x_Pr_addElevator_11 nk_13 ck_13 c2 eM3 ?_
  refine z_aload_n C 1 x_Pr_addElevator_12 rfl ?_
  refine z_getR (j := 10) C x_Pr_addElevator_13 nk_5 ck_5 cw_7 (i_lt rfl) rfl rf_5_10 rfl fl_Pr_37 ?_
  refine z_iload_n C 0 x_Pr_addElevator_16 rfl ?_
  refine z_iload_n C 3 x_Pr_addElevator_17 rfl ?_
  obtain ⟨c4, h⟩ := chk_e h
  obtain ⟨M5, eM5, h⟩ := blet_e h
  refine z_iast C x_Pr_addElevator_18 nk_14 ck_14 c4 eM5 ?_
  refine z_aload_n C 1 x_Pr_addElevator_19 rfl ?_
  refine z_dup C x_Pr_addElevator_20 rfl ?_
  obtain ⟨v6, ev6, h⟩ := blet_e h
  refine z_getI (j := 8) C x_Pr_addElevator_21 nk_5 ck_5 cw_7 (i_lt rfl) rfl rfl fl_Pr_44 ev6 ?_
  refine z_iconst C x_Pr_addElevator_24 ?_
  refine z_iadd C x_Pr_addElevator_25 ?_
  obtain ⟨M7, eM7, h⟩ := blet_e h
  refine z_putI (j := 8) C x_Pr_addElevator_26 nk_5 ck_5 cw_7 (i_lt rfl) rfl rfl rfl rfl fl_Pr_44 eM7 ?_
  refine z_iload_n C 0 x_Pr_addElevator_29 rfl ?_
  exact z_iret C x_Pr_addElevator_30 h
theorem x_Jo_isGone_0 : DC b_Jo_isGone 0 (.aload_n 0) 1 1 := ⟨by decide +kernel, rfl⟩
theorem x_Jo_isGone_1 : DC b_Jo_isGone 1 (.getfield 58) 3 4 := ⟨by decide +kernel, rfl⟩
theorem x_Jo_isGone_4 : DC b_Jo_isGone 4 (.ifCond .le 22) 3 7 := ⟨by decide +kernel, rfl⟩
theorem x_Jo_isGone_7 : DC b_Jo_isGone 7 (.iload_n 1) 1 8 := ⟨by decide +kernel, rfl⟩
theorem x_Jo_isGone_8 : DC b_Jo_isGone 8 (.aload_n 0) 1 9 := ⟨by decide +kernel, rfl⟩
theorem x_Jo_isGone_9 : DC b_Jo_isGone 9 (.getfield 37) 3 12 := ⟨by decide +kernel, rfl⟩
theorem x_Jo_isGone_12 : DC b_Jo_isGone 12 (.aload_n 0) 1 13 := ⟨by decide +kernel, rfl⟩
theorem x_Jo_isGone_13 : DC b_Jo_isGone 13 (.getfield 58) 3 16 := ⟨by decide +kernel, rfl⟩
theorem x_Jo_isGone_16 : DC b_Jo_isGone 16 (.iconst 1) 1 17 := ⟨by decide +kernel, rfl⟩
theorem x_Jo_isGone_17 : DC b_Jo_isGone 17 (.isub) 1 18 := ⟨by decide +kernel, rfl⟩
theorem x_Jo_isGone_18 : DC b_Jo_isGone 18 (.iaload) 1 19 := ⟨by decide +kernel, rfl⟩
theorem x_Jo_isGone_19 : DC b_Jo_isGone 19 (.if_icmp .ge 7) 3 22 := ⟨by decide +kernel, rfl⟩
theorem x_Jo_isGone_22 : DC b_Jo_isGone 22 (.iconst 1) 1 23 := ⟨by decide +kernel, rfl⟩
theorem x_Jo_isGone_23 : DC b_Jo_isGone 23 (.goto 4) 3 26 := ⟨by decide +kernel, rfl⟩
theorem x_Jo_isGone_26 : DC b_Jo_isGone 26 (.iconst 0) 1 27 := ⟨by decide +kernel, rfl⟩
theorem x_Jo_isGone_27 : DC b_Jo_isGone 27 (.istore_n 3) 1 28 := ⟨by decide +kernel, rfl⟩
theorem x_Jo_isGone_28 : DC b_Jo_isGone 28 (.iload_n 3) 1 29 := ⟨by decide +kernel, rfl⟩
theorem x_Jo_isGone_29 : DC b_Jo_isGone 29 (.ifCond .ne 11) 3 32 := ⟨by decide +kernel, rfl⟩
theorem x_Jo_isGone_32 : DC b_Jo_isGone 32 (.iload_n 2) 1 33 := ⟨by decide +kernel, rfl⟩
theorem x_Jo_isGone_33 : DC b_Jo_isGone 33 (.aload_n 0) 1 34 := ⟨by decide +kernel, rfl⟩
theorem x_Jo_isGone_34 : DC b_Jo_isGone 34 (.getfield 68) 3 37 := ⟨by decide +kernel, rfl⟩
theorem x_Jo_isGone_37 : DC b_Jo_isGone 37 (.if_icmp .ge 7) 3 40 := ⟨by decide +kernel, rfl⟩
theorem x_Jo_isGone_40 : DC b_Jo_isGone 40 (.iconst 1) 1 41 := ⟨by decide +kernel, rfl⟩
theorem x_Jo_isGone_41 : DC b_Jo_isGone 41 (.goto 4) 3 44 := ⟨by decide +kernel, rfl⟩
theorem x_Jo_isGone_44 : DC b_Jo_isGone 44 (.iconst 0) 1 45 := ⟨by decide +kernel, rfl⟩
theorem x_Jo_isGone_45 : DC b_Jo_isGone 45 (.ireturn) 1 46 := ⟨by decide +kernel, rfl⟩
def k_Jo_isGone_40 (M : Mem) : Res := some (1, M)
theorem z_Jo_isGone_40 (C : Cx p s m args meth c G b_Jo_isGone 4 "PrairiePool$Journal" (some .boolean)) (hlev : 0 ≤ lev) {r : Int × Mem}  {M : Mem} (h : k_Jo_isGone_40 M = some r) : Z p l e lev s m args below meth c G 4 (MQ below (Qm G 1 r) args s 0 0 (Ab G)) M 40 [] [] := by
  unfold k_Jo_isGone_40 at h
  refine z_iconst C x_Jo_isGone_40 ?_
  refine z_goto (tgt := 45) C x_Jo_isGone_41 rfl ?_
  exact z_zret C x_Jo_isGone_45 (by decide) h
def k_Jo_isGone_27 (a2 s0 : Int) (M : Mem) : Res := if w32 s0 = 0 then (blet (M 15 1) fun v2 => if w32 a2 < w32 v2 then (k_Jo_isGone_40 M) else (some (0, M))) else (k_Jo_isGone_40 M)
theorem z_Jo_isGone_27 (C : Cx p s m args meth c G b_Jo_isGone 4 "PrairiePool$Journal" (some .boolean)) (hlev : 0 ≤ lev) {r : Int × Mem}  {a2 s0 : Int} {M : Mem} (h : k_Jo_isGone_27 a2 s0 M = some r) : Z p l e lev s m args below meth c G 4 (MQ below (Qm G 1 r) args s 0 0 (Ab G)) M 27 [(0, .ref (G.1 + 15)), (2, vi a2)] [vi s0] := by
  unfold k_Jo_isGone_27 at h
  refine z_istore_n (lv' := [(3, vi s0), (0, .ref (G.1 + 15)), (2, vi a2)]) C rfl x_Jo_isGone_27 (i_lt rfl) rfl ?_
  refine z_iload_n C 0 x_Jo_isGone_28 rfl ?_
  rcases ite_e h with ⟨c1, h⟩ | ⟨c1, h⟩
  · refine z_if_ne_f (tgt := 40) C x_Jo_isGone_29 rfl c1 ?_
    refine z_iload_n C 2 x_Jo_isGone_32 rfl ?_
    refine z_aload_n C 1 x_Jo_isGone_33 rfl ?_
    obtain ⟨v2, ev2, h⟩ := blet_e h
    refine z_getI (j := 1) C x_Jo_isGone_34 nk_15 ck_15 cw_2 (i_lt rfl) rfl rfl fl_Jo_68 ev2 ?_
    rcases ite_e h with ⟨c3, h⟩ | ⟨c3, h⟩
    · refine z_icmp_ge_f (tgt := 44) C x_Jo_isGone_37 rfl c3 ?_
      exact z_sub [] rfl (z_Jo_isGone_40 C hlev h)
    · refine z_icmp_ge_t (tgt := 44) C x_Jo_isGone_37 rfl c3 ?_
      refine z_iconst C x_Jo_isGone_44 ?_
      exact z_zret C x_Jo_isGone_45 (by decide) h
  · refine z_if_ne_t (tgt := 40) C x_Jo_isGone_29 rfl c1 ?_
    exact z_sub [] rfl (z_Jo_isGone_40 C hlev h)
def k_Jo_isGone_26 (a2 : Int) (M : Mem) : Res := k_Jo_isGone_27 a2 0 M
theorem z_Jo_isGone_26 (C : Cx p s m args meth c G b_Jo_isGone 4 "PrairiePool$Journal" (some .boolean)) (hlev : 0 ≤ lev) {r : Int × Mem}  {a2 : Int} {M : Mem} (h : k_Jo_isGone_26 a2 M = some r) : Z p l e lev s m args below meth c G 4 (MQ below (Qm G 1 r) args s 0 0 (Ab G)) M 26 [(0, .ref (G.1 + 15)), (2, vi a2)] [] := by
  unfold k_Jo_isGone_26 at h
  refine z_iconst C x_Jo_isGone_26 ?_
  exact z_sub [0, 1] rfl (z_Jo_isGone_27 C hlev h)
def d_Jo_isGone (a1 a2 : Int) (M : Mem) : Res := blet (M 15 0) fun v1 => if 0 < w32 v1 then (blet (M 15 0) fun v3 => chk (0 ≤ w32 (v3 - 1) ∧ w32 (v3 - 1) < 120) <| blet (M 25 (ix (v3 - 1))) fun v5 => if w32 a1 < w32 v5 then (k_Jo_isGone_27 a2 1 M) else (k_Jo_isGone_26 a2 M)) else (k_Jo_isGone_26 a2 M)
theorem t_Jo_isGone (l : Launch) (G : GX) {lev : Nat} (hlev : 0 ≤ lev) {a1 a2 : Int} {M : Mem} {r : Int × Mem} (h : d_Jo_isGone a1 a2 M = some r) : Mt l G y_Jo_isGone b_Jo_isGone 4 (some .boolean) lev 1 [.ref (G.1 + 15), vi a1, vi a2] M r := by
  refine Mt.of (by decide) (i_le rfl) ?_
  intro p e s m args below meth c C
  have C : Cx p s m args meth c G b_Jo_isGone 4 "PrairiePool$Journal" (some .boolean) := C
  unfold d_Jo_isGone at h
  refine z_sub (lv' := [(0, .ref (G.1 + 15)), (1, vi a1), (2, vi a2)]) [0, 1, 2] rfl ?_
  refine z_aload_n C 0 x_Jo_isGone_0 rfl ?_
  obtain ⟨v1, ev1, h⟩ := blet_e h
  refine z_getI (j := 0) C x_Jo_isGone_1 nk_15 ck_15 cw_2 (i_lt rfl) rfl rfl fl_Jo_58 ev1 ?_
  rcases ite_e h with ⟨c2, h⟩ | ⟨c2, h⟩
  · refine z_if_le_f (tgt := 26) C x_Jo_isGone_4 rfl c2 ?_
    refine z_iload_n C 1 x_Jo_isGone_7 rfl ?_
    refine z_aload_n C 0 x_Jo_isGone_8 rfl ?_
    refine z_getR (j := 11) C x_Jo_isGone_9 nk_15 ck_15 cw_2 (i_lt rfl) rfl rf_15_11 rfl fl_Jo_37 ?_
    refine z_aload_n C 0 x_Jo_isGone_12 rfl ?_
    obtain ⟨v3, ev3, h⟩ := blet_e h
    refine z_getI (j := 0) C x_Jo_isGone_13 nk_15 ck_15 cw_2 (i_lt rfl) rfl rfl fl_Jo_58 ev3 ?_
    refine z_iconst C x_Jo_isGone_16 ?_
    refine z_isub C x_Jo_isGone_17 ?_
    obtain ⟨c4, h⟩ := chk_e h
    obtain ⟨v5, ev5, h⟩ := blet_e h
    refine z_iald C x_Jo_isGone_18 nk_25 ck_25 c4 ev5 ?_
    rcases ite_e h with ⟨c6, h⟩ | ⟨c6, h⟩
    · refine z_icmp_ge_f (tgt := 26) C x_Jo_isGone_19 rfl c6 ?_
      refine z_iconst C x_Jo_isGone_22 ?_
      refine z_goto (tgt := 27) C x_Jo_isGone_23 rfl ?_
      exact z_sub [0, 2] rfl (z_Jo_isGone_27 C hlev h)
    · refine z_icmp_ge_t (tgt := 26) C x_Jo_isGone_19 rfl c6 ?_
      exact z_sub [0, 2] rfl (z_Jo_isGone_26 C hlev h)
  · refine z_if_le_t (tgt := 26) C x_Jo_isGone_4 rfl c2 ?_
    exact z_sub [0, 2] rfl (z_Jo_isGone_26 C hlev h)
theorem x_Jo_enter_0 : DC b_Jo_enter 0 (.aload_n 0) 1 1 := ⟨by decide +kernel, rfl⟩
theorem x_Jo_enter_1 : DC b_Jo_enter 1 (.getfield 58) 3 4 := ⟨by decide +kernel, rfl⟩
theorem x_Jo_enter_4 : DC b_Jo_enter 4 (.istore 4) 2 6 := ⟨by decide +kernel, rfl⟩
theorem x_Jo_enter_6 : DC b_Jo_enter 6 (.aload_n 0) 1 7 := ⟨by decide +kernel, rfl⟩
theorem x_Jo_enter_7 : DC b_Jo_enter 7 (.getfield 9) 3 10 := ⟨by decide +kernel, rfl⟩
theorem x_Jo_enter_10 : DC b_Jo_enter 10 (.iload 4) 2 12 := ⟨by decide +kernel, rfl⟩
theorem x_Jo_enter_12 : DC b_Jo_enter 12 (.iload_n 1) 1 13 := ⟨by decide +kernel, rfl⟩
theorem x_Jo_enter_13 : DC b_Jo_enter 13 (.iastore) 1 14 := ⟨by decide +kernel, rfl⟩
theorem x_Jo_enter_14 : DC b_Jo_enter 14 (.aload_n 0) 1 15 := ⟨by decide +kernel, rfl⟩
theorem x_Jo_enter_15 : DC b_Jo_enter 15 (.getfield 37) 3 18 := ⟨by decide +kernel, rfl⟩
theorem x_Jo_enter_18 : DC b_Jo_enter 18 (.iload 4) 2 20 := ⟨by decide +kernel, rfl⟩
theorem x_Jo_enter_20 : DC b_Jo_enter 20 (.iload_n 2) 1 21 := ⟨by decide +kernel, rfl⟩
theorem x_Jo_enter_21 : DC b_Jo_enter 21 (.iastore) 1 22 := ⟨by decide +kernel, rfl⟩
theorem x_Jo_enter_22 : DC b_Jo_enter 22 (.aload_n 0) 1 23 := ⟨by decide +kernel, rfl⟩
theorem x_Jo_enter_23 : DC b_Jo_enter 23 (.getfield 40) 3 26 := ⟨by decide +kernel, rfl⟩
theorem x_Jo_enter_26 : DC b_Jo_enter 26 (.iload 4) 2 28 := ⟨by decide +kernel, rfl⟩
theorem x_Jo_enter_28 : DC b_Jo_enter 28 (.iload_n 3) 1 29 := ⟨by decide +kernel, rfl⟩
theorem x_Jo_enter_29 : DC b_Jo_enter 29 (.iastore) 1 30 := ⟨by decide +kernel, rfl⟩
theorem x_Jo_enter_30 : DC b_Jo_enter 30 (.aload_n 0) 1 31 := ⟨by decide +kernel, rfl⟩
theorem x_Jo_enter_31 : DC b_Jo_enter 31 (.iload_n 3) 1 32 := ⟨by decide +kernel, rfl⟩
theorem x_Jo_enter_32 : DC b_Jo_enter 32 (.putfield 68) 3 35 := ⟨by decide +kernel, rfl⟩
theorem x_Jo_enter_35 : DC b_Jo_enter 35 (.aload_n 0) 1 36 := ⟨by decide +kernel, rfl⟩
theorem x_Jo_enter_36 : DC b_Jo_enter 36 (.dup) 1 37 := ⟨by decide +kernel, rfl⟩
theorem x_Jo_enter_37 : DC b_Jo_enter 37 (.getfield 58) 3 40 := ⟨by decide +kernel, rfl⟩
theorem x_Jo_enter_40 : DC b_Jo_enter 40 (.iconst 1) 1 41 := ⟨by decide +kernel, rfl⟩
theorem x_Jo_enter_41 : DC b_Jo_enter 41 (.iadd) 1 42 := ⟨by decide +kernel, rfl⟩
theorem x_Jo_enter_42 : DC b_Jo_enter 42 (.putfield 58) 3 45 := ⟨by decide +kernel, rfl⟩
theorem x_Jo_enter_45 : DC b_Jo_enter 45 (.iload 4) 2 47 := ⟨by decide +kernel, rfl⟩
theorem x_Jo_enter_47 : DC b_Jo_enter 47 (.ireturn) 1 48 := ⟨by decide +kernel, rfl⟩
def d_Jo_enter (a1 a2 a3 : Int) (M : Mem) : Res := blet (M 15 0) fun v1 => chk (0 ≤ w32 v1 ∧ w32 v1 < 120) <| blet (sto M 16 (ix v1) a1) fun M3 => chk (0 ≤ w32 v1 ∧ w32 v1 < 120) <| blet (sto M3 25 (ix v1) a2) fun M5 => chk (0 ≤ w32 v1 ∧ w32 v1 < 120) <| blet (sto M5 26 (ix v1) a3) fun M7 => blet (sto M7 15 1 a3) fun M8 => blet (M8 15 0) fun v9 => blet (sto M8 15 0 (v9 + 1)) fun M10 => some (v1, M10)
theorem t_Jo_enter (l : Launch) (G : GX) {lev : Nat} (hlev : 0 ≤ lev) {a1 a2 a3 : Int} {M : Mem} {r : Int × Mem} (h : d_Jo_enter a1 a2 a3 M = some r) : Mt l G y_Jo_enter b_Jo_enter 5 (some .int) lev 1 [.ref (G.1 + 15), vi a1, vi a2, vi a3] M r := by
  refine Mt.of (by decide) (i_le rfl) ?_
  intro p e s m args below meth c C
  have C : Cx p s m args meth c G b_Jo_enter 5 "PrairiePool$Journal" (some .int) := C
  unfold d_Jo_enter at h
  refine z_sub (lv' := [(0, .ref (G.1 + 15)), (1, vi a1), (2, vi a2), (3, vi a3)]) [0, 1, 2, 3] rfl ?_
  refine z_aload_n C 0 x_Jo_enter_0 rfl ?_
  obtain ⟨v1, ev1, h⟩ := blet_e h
  refine z_getI (j := 0) C x_Jo_enter_1 nk_15 ck_15 cw_2 (i_lt rfl) rfl rfl fl_Jo_58 ev1 ?_
  refine z_istore (lv' := [(4, vi v1), (0, .ref (G.1 + 15)), (1, vi a1), (2, vi a2), (3, vi a3)]) C rfl x_Jo_enter_4 (i_lt rfl) rfl ?_
  refine z_aload_n C 1 x_Jo_enter_6 rfl ?_
  refine z_getR (j := 2) C x_Jo_enter_7 nk_15 ck_15 cw_2 (i_lt rfl) rfl rf_15_2 rfl fl_Jo_9 ?_
  refine z_iload C 0 x_Jo_enter_10 rfl ?_
  refine z_iload_n C 2 x_Jo_enter_12 rfl ?_
  obtain ⟨c2, h⟩ := chk_e h
  obtain ⟨M3, eM3, h⟩ := blet_e h
  refine z_iast C x_Jo_enter_13 nk_16 ck_16 c2 eM3 ?_
  refine z_aload_n C 1 x_Jo_enter_14 rfl ?_
  refine z_getR (j := 11) C x_Jo_enter_15 nk_15 ck_15 cw_2 (i_lt rfl) rfl rf_15_11 rfl fl_Jo_37 ?_
  refine z_iload C 0 x_Jo_enter_18 rfl ?_
  refine z_iload_n C 3 x_Jo_enter_20 rfl ?_
  obtain ⟨c4, h⟩ := chk_e h
  obtain ⟨M5, eM5, h⟩ := blet_e h
  refine z_iast C x_Jo_enter_21 nk_25 ck_25 c4 eM5 ?_
  refine z_aload_n C 1 x_Jo_enter_22 rfl ?_
  refine z_getR (j := 12) C x_Jo_enter_23 nk_15 ck_15 cw_2 (i_lt rfl) rfl rf_15_12 rfl fl_Jo_40 ?_
  refine z_iload C 0 x_Jo_enter_26 rfl ?_
  refine z_iload_n C 4 x_Jo_enter_28 rfl ?_
  obtain ⟨c6, h⟩ := chk_e h
  obtain ⟨M7, eM7, h⟩ := blet_e h
  refine z_iast C x_Jo_enter_29 nk_26 ck_26 c6 eM7 ?_
  refine z_aload_n C 1 x_Jo_enter_30 rfl ?_
  refine z_iload_n C 4 x_Jo_enter_31 rfl ?_
  obtain ⟨M8, eM8, h⟩ := blet_e h
  refine z_putI (j := 1) C x_Jo_enter_32 nk_15 ck_15 cw_2 (i_lt rfl) rfl rfl rfl rfl fl_Jo_68 eM8 ?_
  refine z_aload_n C 1 x_Jo_enter_35 rfl ?_
  refine z_dup C x_Jo_enter_36 rfl ?_
  obtain ⟨v9, ev9, h⟩ := blet_e h
  refine z_getI (j := 0) C x_Jo_enter_37 nk_15 ck_15 cw_2 (i_lt rfl) rfl rfl fl_Jo_58 ev9 ?_
  refine z_iconst C x_Jo_enter_40 ?_
  refine z_iadd C x_Jo_enter_41 ?_
  obtain ⟨M10, eM10, h⟩ := blet_e h
  refine z_putI (j := 0) C x_Jo_enter_42 nk_15 ck_15 cw_2 (i_lt rfl) rfl rfl rfl rfl fl_Jo_58 eM10 ?_
  refine z_iload C 0 x_Jo_enter_45 rfl ?_
  exact z_iret C x_Jo_enter_47 h
theorem x_Jo_tellWhat_0 : DC b_Jo_tellWhat 0 (.aload_n 0) 1 1 := ⟨by decide +kernel, rfl⟩
theorem x_Jo_tellWhat_1 : DC b_Jo_tellWhat 1 (.getfield 22) 3 4 := ⟨by decide +kernel, rfl⟩
theorem x_Jo_tellWhat_4 : DC b_Jo_tellWhat 4 (.iload_n 1) 1 5 := ⟨by decide +kernel, rfl⟩
theorem x_Jo_tellWhat_5 : DC b_Jo_tellWhat 5 (.iload_n 2) 1 6 := ⟨by decide +kernel, rfl⟩
theorem x_Jo_tellWhat_6 : DC b_Jo_tellWhat 6 (.iastore) 1 7 := ⟨by decide +kernel, rfl⟩
theorem x_Jo_tellWhat_7 : DC b_Jo_tellWhat 7 (.aload_n 0) 1 8 := ⟨by decide +kernel, rfl⟩
theorem x_Jo_tellWhat_8 : DC b_Jo_tellWhat 8 (.getfield 25) 3 11 := ⟨by decide +kernel, rfl⟩
theorem x_Jo_tellWhat_11 : DC b_Jo_tellWhat 11 (.iload_n 1) 1 12 := ⟨by decide +kernel, rfl⟩
theorem x_Jo_tellWhat_12 : DC b_Jo_tellWhat 12 (.iload_n 3) 1 13 := ⟨by decide +kernel, rfl⟩
theorem x_Jo_tellWhat_13 : DC b_Jo_tellWhat 13 (.iastore) 1 14 := ⟨by decide +kernel, rfl⟩
theorem x_Jo_tellWhat_14 : DC b_Jo_tellWhat 14 (.aload_n 0) 1 15 := ⟨by decide +kernel, rfl⟩
theorem x_Jo_tellWhat_15 : DC b_Jo_tellWhat 15 (.getfield 28) 3 18 := ⟨by decide +kernel, rfl⟩
theorem x_Jo_tellWhat_18 : DC b_Jo_tellWhat 18 (.iload_n 1) 1 19 := ⟨by decide +kernel, rfl⟩
theorem x_Jo_tellWhat_19 : DC b_Jo_tellWhat 19 (.iload 4) 2 21 := ⟨by decide +kernel, rfl⟩
theorem x_Jo_tellWhat_21 : DC b_Jo_tellWhat 21 (.iastore) 1 22 := ⟨by decide +kernel, rfl⟩
theorem x_Jo_tellWhat_22 : DC b_Jo_tellWhat 22 (.return_) 1 23 := ⟨by decide +kernel, rfl⟩
def d_Jo_tellWhat (a1 a2 a3 a4 : Int) (M : Mem) : Res := chk (0 ≤ w32 a1 ∧ w32 a1 < 120) <| blet (sto M 20 (ix a1) a2) fun M2 => chk (0 ≤ w32 a1 ∧ w32 a1 < 120) <| blet (sto M2 21 (ix a1) a3) fun M4 => chk (0 ≤ w32 a1 ∧ w32 a1 < 120) <| blet (sto M4 22 (ix a1) a4) fun M6 => some (0, M6)
theorem t_Jo_tellWhat (l : Launch) (G : GX) {lev : Nat} (hlev : 0 ≤ lev) {a1 a2 a3 a4 : Int} {M : Mem} {r : Int × Mem} (h : d_Jo_tellWhat a1 a2 a3 a4 M = some r) : Mt l G y_Jo_tellWhat b_Jo_tellWhat 5 none lev 0 [.ref (G.1 + 15), vi a1, vi a2, vi a3, vi a4] M r := by
  refine Mt.of (by decide) (i_le rfl) ?_
  intro p e s m args below meth c C
  have C : Cx p s m args meth c G b_Jo_tellWhat 5 "PrairiePool$Journal" none := C
  unfold d_Jo_tellWhat at h
  refine z_sub (lv' := [(0, .ref (G.1 + 15)), (1, vi a1), (2, vi a2), (3, vi a3), (4, vi a4)]) [0, 1, 2, 3, 4] rfl ?_
  refine z_aload_n C 0 x_Jo_tellWhat_0 rfl ?_
  refine z_getR (j := 6) C x_Jo_tellWhat_1 nk_15 ck_15 cw_2 (i_lt rfl) rfl rf_15_6 rfl fl_Jo_22 ?_
  refine z_iload_n C 1 x_Jo_tellWhat_4 rfl ?_
  refine z_iload_n C 2 x_Jo_tellWhat_5 rfl ?_
  obtain ⟨c1, h⟩ := chk_e h
  obtain ⟨M2, eM2, h⟩ := blet_e h
  refine z_iast C x_Jo_tellWhat_6 nk_20 ck_20 c1 eM2 ?_
  refine z_aload_n C 0 x_Jo_tellWhat_7 rfl ?_
  refine z_getR (j := 7) C x_Jo_tellWhat_8 nk_15 ck_15 cw_2 (i_lt rfl) rfl rf_15_7 rfl fl_Jo_25 ?_
  refine z_iload_n C 1 x_Jo_tellWhat_11 rfl ?_
  refine z_iload_n C 3 x_Jo_tellWhat_12 rfl ?_
  obtain ⟨c3, h⟩ := chk_e h
  obtain ⟨M4, eM4, h⟩ := blet_e h
  refine z_iast C x_Jo_tellWhat_13 nk_21 ck_21 c3 eM4 ?_
  refine z_aload_n C 0 x_Jo_tellWhat_14 rfl ?_
  refine z_getR (j := 8) C x_Jo_tellWhat_15 nk_15 ck_15 cw_2 (i_lt rfl) rfl rf_15_8 rfl fl_Jo_28 ?_
  refine z_iload_n C 1 x_Jo_tellWhat_18 rfl ?_
  refine z_iload C 4 x_Jo_tellWhat_19 rfl ?_
  obtain ⟨c5, h⟩ := chk_e h
  obtain ⟨M6, eM6, h⟩ := blet_e h
  refine z_iast C x_Jo_tellWhat_21 nk_22 ck_22 c5 eM6 ?_
  exact z_vret C x_Jo_tellWhat_22 h
theorem x_Jo_enterGrading_0 : DC b_Jo_enterGrading 0 (.aload_n 0) 1 1 := ⟨by decide +kernel, rfl⟩
theorem x_Jo_enterGrading_1 : DC b_Jo_enterGrading 1 (.getfield 71) 3 4 := ⟨by decide +kernel, rfl⟩
theorem x_Jo_enterGrading_4 : DC b_Jo_enterGrading 4 (.istore 5) 2 6 := ⟨by decide +kernel, rfl⟩
theorem x_Jo_enterGrading_6 : DC b_Jo_enterGrading 6 (.aload_n 0) 1 7 := ⟨by decide +kernel, rfl⟩
theorem x_Jo_enterGrading_7 : DC b_Jo_enterGrading 7 (.getfield 43) 3 10 := ⟨by decide +kernel, rfl⟩
theorem x_Jo_enterGrading_10 : DC b_Jo_enterGrading 10 (.iload 5) 2 12 := ⟨by decide +kernel, rfl⟩
theorem x_Jo_enterGrading_12 : DC b_Jo_enterGrading 12 (.iload_n 1) 1 13 := ⟨by decide +kernel, rfl⟩
theorem x_Jo_enterGrading_13 : DC b_Jo_enterGrading 13 (.iastore) 1 14 := ⟨by decide +kernel, rfl⟩
theorem x_Jo_enterGrading_14 : DC b_Jo_enterGrading 14 (.aload_n 0) 1 15 := ⟨by decide +kernel, rfl⟩
theorem x_Jo_enterGrading_15 : DC b_Jo_enterGrading 15 (.getfield 46) 3 18 := ⟨by decide +kernel, rfl⟩
theorem x_Jo_enterGrading_18 : DC b_Jo_enterGrading 18 (.iload 5) 2 20 := ⟨by decide +kernel, rfl⟩
theorem x_Jo_enterGrading_20 : DC b_Jo_enterGrading 20 (.iload_n 2) 1 21 := ⟨by decide +kernel, rfl⟩
theorem x_Jo_enterGrading_21 : DC b_Jo_enterGrading 21 (.iastore) 1 22 := ⟨by decide +kernel, rfl⟩
theorem x_Jo_enterGrading_22 : DC b_Jo_enterGrading 22 (.aload_n 0) 1 23 := ⟨by decide +kernel, rfl⟩
theorem x_Jo_enterGrading_23 : DC b_Jo_enterGrading 23 (.getfield 49) 3 26 := ⟨by decide +kernel, rfl⟩
theorem x_Jo_enterGrading_26 : DC b_Jo_enterGrading 26 (.iload 5) 2 28 := ⟨by decide +kernel, rfl⟩
theorem x_Jo_enterGrading_28 : DC b_Jo_enterGrading 28 (.iload_n 3) 1 29 := ⟨by decide +kernel, rfl⟩
theorem x_Jo_enterGrading_29 : DC b_Jo_enterGrading 29 (.iastore) 1 30 := ⟨by decide +kernel, rfl⟩
theorem x_Jo_enterGrading_30 : DC b_Jo_enterGrading 30 (.aload_n 0) 1 31 := ⟨by decide +kernel, rfl⟩
theorem x_Jo_enterGrading_31 : DC b_Jo_enterGrading 31 (.getfield 55) 3 34 := ⟨by decide +kernel, rfl⟩
theorem x_Jo_enterGrading_34 : DC b_Jo_enterGrading 34 (.iload 5) 2 36 := ⟨by decide +kernel, rfl⟩
theorem x_Jo_enterGrading_36 : DC b_Jo_enterGrading 36 (.iload 4) 2 38 := ⟨by decide +kernel, rfl⟩
theorem x_Jo_enterGrading_38 : DC b_Jo_enterGrading 38 (.iastore) 1 39 := ⟨by decide +kernel, rfl⟩
theorem x_Jo_enterGrading_39 : DC b_Jo_enterGrading 39 (.aload_n 0) 1 40 := ⟨by decide +kernel, rfl⟩
theorem x_Jo_enterGrading_40 : DC b_Jo_enterGrading 40 (.iload 4) 2 42 := ⟨by decide +kernel, rfl⟩
theorem x_Jo_enterGrading_42 : DC b_Jo_enterGrading 42 (.putfield 68) 3 45 := ⟨by decide +kernel, rfl⟩
theorem x_Jo_enterGrading_45 : DC b_Jo_enterGrading 45 (.aload_n 0) 1 46 := ⟨by decide +kernel, rfl⟩
theorem x_Jo_enterGrading_46 : DC b_Jo_enterGrading 46 (.dup) 1 47 := ⟨by decide +kernel, rfl⟩
theorem x_Jo_enterGrading_47 : DC b_Jo_enterGrading 47 (.getfield 71) 3 50 := ⟨by decide +kernel, rfl⟩
theorem x_Jo_enterGrading_50 : DC b_Jo_enterGrading 50 (.iconst 1) 1 51 := ⟨by decide +kernel, rfl⟩
theorem x_Jo_enterGrading_51 : DC b_Jo_enterGrading 51 (.iadd) 1 52 := ⟨by decide +kernel, rfl⟩
theorem x_Jo_enterGrading_52 : DC b_Jo_enterGrading 52 (.putfield 71) 3 55 := ⟨by decide +kernel, rfl⟩
theorem x_Jo_enterGrading_55 : DC b_Jo_enterGrading 55 (.iload 5) 2 57 := ⟨by decide +kernel, rfl⟩
theorem x_Jo_enterGrading_57 : DC b_Jo_enterGrading 57 (.ireturn) 1 58 := ⟨by decide +kernel, rfl⟩
def d_Jo_enterGrading (a1 a2 a3 a4 : Int) (M : Mem) : Res := blet (M 15 13) fun v1 => chk (0 ≤ w32 v1 ∧ w32 v1 < 100) <| blet (sto M 27 (ix v1) a1) fun M3 => chk (0 ≤ w32 v1 ∧ w32 v1 < 100) <| blet (sto M3 28 (ix v1) a2) fun M5 => chk (0 ≤ w32 v1 ∧ w32 v1 < 100) <| blet (sto M5 29 (ix v1) a3) fun M7 => chk (0 ≤ w32 v1 ∧ w32 v1 < 100) <| blet (sto M7 31 (ix v1) a4) fun M9 => blet (sto M9 15 1 a4) fun M10 => blet (M10 15 13) fun v11 => blet (sto M10 15 13 (v11 + 1)) fun M12 => some (v1, M12)
theorem t_Jo_enterGrading (l : Launch) (G : GX) {lev : Nat} (hlev : 0 ≤ lev) {a1 a2 a3 a4 : Int} {M : Mem} {r : Int × Mem} (h : d_Jo_enterGrading a1 a2 a3 a4 M = some r) : Mt l G y_Jo_enterGrading b_Jo_enterGrading 6 (some .int) lev 1 [.ref (G.1 + 15), vi a1, vi a2, vi a3, vi a4] M r := by
  refine Mt.of (by decide) (i_le rfl) ?_
  intro p e s m args below meth c C
  have C : Cx p s m args meth c G b_Jo_enterGrading 6 "PrairiePool$Journal" (some .int) := C
  unfold d_Jo_enterGrading at h
  refine z_sub (lv' := [(0, .ref (G.1 + 15)), (1, vi a1), (2, vi a2), (3, vi a3), (4, vi a4)]) [0, 1, 2, 3, 4] rfl ?_
  refine z_aload_n C 0 x_Jo_enterGrading_0 rfl ?_
  obtain ⟨v1, ev1, h⟩ := blet_e h
  refine z_getI (j := 13) C x_Jo_enterGrading_1 nk_15 ck_15 cw_2 (i_lt rfl) rfl rfl fl_Jo_71 ev1 ?_
  refine z_istore (lv' := [(5, vi v1), (0, .ref (G.1 + 15)), (1, vi a1), (2, vi a2), (3, vi a3), (4, vi a4)]) C rfl x_Jo_enterGrading_4 (i_lt rfl) rfl ?_
  refine z_aload_n C 1 x_Jo_enterGrading_6 rfl ?_
  refine z_getR (j := 14) C x_Jo_enterGrading_7 nk_15 ck_15 cw_2 (i_lt rfl) rfl rf_15_14 rfl fl_Jo_43 ?_
  refine z_iload C 0 x_Jo_enterGrading_10 rfl ?_
  refine z_iload_n C 2 x_Jo_enterGrading_12 rfl ?_
  obtain ⟨c2, h⟩ := chk_e h
  obtain ⟨M3, eM3, h⟩ := blet_e h
  refine z_iast C x_Jo_enterGrading_13 nk_27 ck_27 c2 eM3 ?_
  refine z_aload_n C 1 x_Jo_enterGrading_14 rfl ?_
  refine z_getR (j := 15) C x_Jo_enterGrading_15 nk_15 ck_15 cw_2 (i_lt rfl) rfl rf_15_15 rfl fl_Jo_46 ?_
  refine z_iload C 0 x_Jo_enterGrading_18 rfl ?_
  refine z_iload_n C 3 x_Jo_enterGrading_20 rfl ?_
  obtain ⟨c4, h⟩ := chk_e h
  obtain ⟨M5, eM5, h⟩ := blet_e h
  refine z_iast C x_Jo_enterGrading_21 nk_28 ck_28 c4 eM5 ?_
  refine z_aload_n C 1 x_Jo_enterGrading_22 rfl ?_
  refine z_getR (j := 16) C x_Jo_enterGrading_23 nk_15 ck_15 cw_2 (i_lt rfl) rfl rf_15_16 rfl fl_Jo_49 ?_
  refine z_iload C 0 x_Jo_enterGrading_26 rfl ?_
  refine z_iload_n C 4 x_Jo_enterGrading_28 rfl ?_
  obtain ⟨c6, h⟩ := chk_e h
  obtain ⟨M7, eM7, h⟩ := blet_e h
  refine z_iast C x_Jo_enterGrading_29 nk_29 ck_29 c6 eM7 ?_
  refine z_aload_n C 1 x_Jo_enterGrading_30 rfl ?_
  refine z_getR (j := 18) C x_Jo_enterGrading_31 nk_15 ck_15 cw_2 (i_lt rfl) rfl rf_15_18 rfl fl_Jo_55 ?_
  refine z_iload C 0 x_Jo_enterGrading_34 rfl ?_
  refine z_iload C 5 x_Jo_enterGrading_36 rfl ?_
  obtain ⟨c8, h⟩ := chk_e h
  obtain ⟨M9, eM9, h⟩ := blet_e h
  refine z_iast C x_Jo_enterGrading_38 nk_31 ck_31 c8 eM9 ?_
  refine z_aload_n C 1 x_Jo_enterGrading_39 rfl ?_
  refine z_iload C 5 x_Jo_enterGrading_40 rfl ?_
  obtain ⟨M10, eM10, h⟩ := blet_e h
  refine z_putI (j := 1) C x_Jo_enterGrading_42 nk_15 ck_15 cw_2 (i_lt rfl) rfl rfl rfl rfl fl_Jo_68 eM10 ?_
  refine z_aload_n C 1 x_Jo_enterGrading_45 rfl ?_
  refine z_dup C x_Jo_enterGrading_46 rfl ?_
  obtain ⟨v11, ev11, h⟩ := blet_e h
  refine z_getI (j := 13) C x_Jo_enterGrading_47 nk_15 ck_15 cw_2 (i_lt rfl) rfl rfl fl_Jo_71 ev11 ?_
  refine z_iconst C x_Jo_enterGrading_50 ?_
  refine z_iadd C x_Jo_enterGrading_51 ?_
  obtain ⟨M12, eM12, h⟩ := blet_e h
  refine z_putI (j := 13) C x_Jo_enterGrading_52 nk_15 ck_15 cw_2 (i_lt rfl) rfl rfl rfl rfl fl_Jo_71 eM12 ?_
  refine z_iload C 0 x_Jo_enterGrading_55 rfl ?_
  exact z_iret C x_Jo_enterGrading_57 h
theorem x_Jo_netOf_0 : DC b_Jo_netOf 0 (.aload_n 0) 1 1 := ⟨by decide +kernel, rfl⟩
theorem x_Jo_netOf_1 : DC b_Jo_netOf 1 (.getfield 28) 3 4 := ⟨by decide +kernel, rfl⟩
theorem x_Jo_netOf_4 : DC b_Jo_netOf 4 (.iload_n 1) 1 5 := ⟨by decide +kernel, rfl⟩
theorem x_Jo_netOf_5 : DC b_Jo_netOf 5 (.iaload) 1 6 := ⟨by decide +kernel, rfl⟩
theorem x_Jo_netOf_6 : DC b_Jo_netOf 6 (.aload_n 0) 1 7 := ⟨by decide +kernel, rfl⟩
theorem x_Jo_netOf_7 : DC b_Jo_netOf 7 (.getfield 31) 3 10 := ⟨by decide +kernel, rfl⟩
theorem x_Jo_netOf_10 : DC b_Jo_netOf 10 (.iload_n 1) 1 11 := ⟨by decide +kernel, rfl⟩
theorem x_Jo_netOf_11 : DC b_Jo_netOf 11 (.iaload) 1 12 := ⟨by decide +kernel, rfl⟩
theorem x_Jo_netOf_12 : DC b_Jo_netOf 12 (.isub) 1 13 := ⟨by decide +kernel, rfl⟩
theorem x_Jo_netOf_13 : DC b_Jo_netOf 13 (.ireturn) 1 14 := ⟨by decide +kernel, rfl⟩
def d_Jo_netOf (a1 : Int) (M : Mem) : Res := chk (0 ≤ w32 a1 ∧ w32 a1 < 120) <| blet (M 22 (ix a1)) fun v2 => chk (0 ≤ w32 a1 ∧ w32 a1 < 120) <| blet (M 23 (ix a1)) fun v4 => some (v2 - v4, M)
theorem t_Jo_netOf (l : Launch) (G : GX) {lev : Nat} (hlev : 0 ≤ lev) {a1 : Int} {M : Mem} {r : Int × Mem} (h : d_Jo_netOf a1 M = some r) : Mt l G y_Jo_netOf b_Jo_netOf 2 (some .int) lev 1 [.ref (G.1 + 15), vi a1] M r := by
  refine Mt.of (by decide) (i_le rfl) ?_
  intro p e s m args below meth c C
  have C : Cx p s m args meth c G b_Jo_netOf 2 "PrairiePool$Journal" (some .int) := C
  unfold d_Jo_netOf at h
  refine z_sub (lv' := [(0, .ref (G.1 + 15)), (1, vi a1)]) [0, 1] rfl ?_
  refine z_aload_n C 0 x_Jo_netOf_0 rfl ?_
  refine z_getR (j := 8) C x_Jo_netOf_1 nk_15 ck_15 cw_2 (i_lt rfl) rfl rf_15_8 rfl fl_Jo_28 ?_
  refine z_iload_n C 1 x_Jo_netOf_4 rfl ?_
  obtain ⟨c1, h⟩ := chk_e h
  obtain ⟨v2, ev2, h⟩ := blet_e h
  refine z_iald C x_Jo_netOf_5 nk_22 ck_22 c1 ev2 ?_
  refine z_aload_n C 0 x_Jo_netOf_6 rfl ?_
  refine z_getR (j := 9) C x_Jo_netOf_7 nk_15 ck_15 cw_2 (i_lt rfl) rfl rf_15_9 rfl fl_Jo_31 ?_
  refine z_iload_n C 1 x_Jo_netOf_10 rfl ?_
  obtain ⟨c3, h⟩ := chk_e h
  obtain ⟨v4, ev4, h⟩ := blet_e h
  refine z_iald C x_Jo_netOf_11 nk_23 ck_23 c3 ev4 ?_
  refine z_isub C x_Jo_netOf_12 ?_
  exact z_iret C x_Jo_netOf_13 h
theorem x_Jo_countKnownBy_0 : DC b_Jo_countKnownBy 0 (.iconst 0) 1 1 := ⟨by decide +kernel, rfl⟩
theorem x_Jo_countKnownBy_1 : DC b_Jo_countKnownBy 1 (.istore_n 2) 1 2 := ⟨by decide +kernel, rfl⟩
theorem x_Jo_countKnownBy_2 : DC b_Jo_countKnownBy 2 (.iload_n 2) 1 3 := ⟨by decide +kernel, rfl⟩
theorem x_Jo_countKnownBy_3 : DC b_Jo_countKnownBy 3 (.aload_n 0) 1 4 := ⟨by decide +kernel, rfl⟩
theorem x_Jo_countKnownBy_4 : DC b_Jo_countKnownBy 4 (.getfield 58) 3 7 := ⟨by decide +kernel, rfl⟩
theorem x_Jo_countKnownBy_7 : DC b_Jo_countKnownBy 7 (.if_icmp .ge 19) 3 10 := ⟨by decide +kernel, rfl⟩
theorem x_Jo_countKnownBy_10 : DC b_Jo_countKnownBy 10 (.aload_n 0) 1 11 := ⟨by decide +kernel, rfl⟩
theorem x_Jo_countKnownBy_11 : DC b_Jo_countKnownBy 11 (.getfield 40) 3 14 := ⟨by decide +kernel, rfl⟩
theorem x_Jo_countKnownBy_14 : DC b_Jo_countKnownBy 14 (.iload_n 2) 1 15 := ⟨by decide +kernel, rfl⟩
theorem x_Jo_countKnownBy_15 : DC b_Jo_countKnownBy 15 (.iaload) 1 16 := ⟨by decide +kernel, rfl⟩
theorem x_Jo_countKnownBy_16 : DC b_Jo_countKnownBy 16 (.iload_n 1) 1 17 := ⟨by decide +kernel, rfl⟩
theorem x_Jo_countKnownBy_17 : DC b_Jo_countKnownBy 17 (.if_icmp .gt 9) 3 20 := ⟨by decide +kernel, rfl⟩
theorem x_Jo_countKnownBy_20 : DC b_Jo_countKnownBy 20 (.iinc 2 1) 3 23 := ⟨by decide +kernel, rfl⟩
theorem x_Jo_countKnownBy_23 : DC b_Jo_countKnownBy 23 (.goto (-21)) 3 26 := ⟨by decide +kernel, rfl⟩
theorem x_Jo_countKnownBy_26 : DC b_Jo_countKnownBy 26 (.iload_n 2) 1 27 := ⟨by decide +kernel, rfl⟩
theorem x_Jo_countKnownBy_27 : DC b_Jo_countKnownBy 27 (.ireturn) 1 28 := ⟨by decide +kernel, rfl⟩
def k_Jo_countKnownBy_2 (R2 : Int → Int → Mem → Res) (a1 a2 : Int) (M : Mem) : Res := blet (M 15 0) fun v1 => if w32 a2 < w32 v1 then (chk (0 ≤ w32 a2 ∧ w32 a2 < 120) <| blet (M 26 (ix a2)) fun v4 => if w32 a1 < w32 v4 then (some (a2, M)) else (blet (a2 + 1) fun v6 => R2 a1 v6 M)) else (some (a2, M))
theorem z_Jo_countKnownBy_2 (C : Cx p s m args meth c G b_Jo_countKnownBy 3 "PrairiePool$Journal" (some .int)) (hlev : 0 ≤ lev) {r : Int × Mem} {R2 : Int → Int → Mem → Res} (hR2 : ∀ (a1 a2 : Int) (M : Mem), R2 a1 a2 M = some r → Z p l e lev s m args below meth c G 3 (MQ below (Qm G 1 r) args s 0 0 (Ab G)) M 2 [(0, .ref (G.1 + 15)), (1, vi a1), (2, vi a2)] []) {a1 a2 : Int} {M : Mem} (h : k_Jo_countKnownBy_2 R2 a1 a2 M = some r) : Z p l e lev s m args below meth c G 3 (MQ below (Qm G 1 r) args s 0 0 (Ab G)) M 2 [(0, .ref (G.1 + 15)), (1, vi a1), (2, vi a2)] [] := by
  unfold k_Jo_countKnownBy_2 at h
  refine z_iload_n C 2 x_Jo_countKnownBy_2 rfl ?_
  refine z_aload_n C 0 x_Jo_countKnownBy_3 rfl ?_
  obtain ⟨v1, ev1, h⟩ := blet_e h
  refine z_getI (j := 0) C x_Jo_countKnownBy_4 nk_15 ck_15 cw_2 (i_lt rfl) rfl rfl fl_Jo_58 ev1 ?_
  rcases ite_e h with ⟨c2, h⟩ | ⟨c2, h⟩
  · refine z_icmp_ge_f (tgt := 26) C x_Jo_countKnownBy_7 rfl c2 ?_
    refine z_aload_n C 0 x_Jo_countKnownBy_10 rfl ?_
    refine z_getR (j := 12) C x_Jo_countKnownBy_11 nk_15 ck_15 cw_2 (i_lt rfl) rfl rf_15_12 rfl fl_Jo_40 ?_
    refine z_iload_n C 2 x_Jo_countKnownBy_14 rfl ?_
    obtain ⟨c3, h⟩ := chk_e h
    obtain ⟨v4, ev4, h⟩ := blet_e h
    refine z_iald C x_Jo_countKnownBy_15 nk_26 ck_26 c3 ev4 ?_
    refine z_iload_n C 1 x_Jo_countKnownBy_16 rfl ?_
    rcases ite_e h with ⟨c5, h⟩ | ⟨c5, h⟩
    · refine z_icmp_gt_t (tgt := 26) C x_Jo_countKnownBy_17 rfl c5 ?_
      refine z_iload_n C 2 x_Jo_countKnownBy_26 rfl ?_
      exact z_iret C x_Jo_countKnownBy_27 h
    · refine z_icmp_gt_f (tgt := 26) C x_Jo_countKnownBy_17 rfl c5 ?_
      obtain ⟨v6, ev6, h⟩ := blet_e h
      refine z_iinc (lv' := [(2, vi v6), (0, .ref (G.1 + 15)), (1, vi a1)]) C 2 ev6 x_Jo_countKnownBy_20 rfl (i_lt rfl) rfl ?_
      refine z_goto (tgt := 2) C x_Jo_countKnownBy_23 rfl ?_
      exact z_sub [1, 2, 0] rfl (hR2 a1 v6 M h)
  · refine z_icmp_ge_t (tgt := 26) C x_Jo_countKnownBy_7 rfl c2 ?_
    refine z_iload_n C 2 x_Jo_countKnownBy_26 rfl ?_
    exact z_iret C x_Jo_countKnownBy_27 h
theorem zl_Jo_countKnownBy_2 (C : Cx p s m args meth c G b_Jo_countKnownBy 3 "PrairiePool$Journal" (some .int)) (hlev : 0 ≤ lev) {r : Int × Mem}  : ∀ (n : Nat) (a1 a2 : Int) (M : Mem), fix (fun _ _ _ => none) (k_Jo_countKnownBy_2) n a1 a2 M = some r → Z p l e lev s m args below meth c G 3 (MQ below (Qm G 1 r) args s 0 0 (Ab G)) M 2 [(0, .ref (G.1 + 15)), (1, vi a1), (2, vi a2)] [] := by
  intro n
  induction n with
  | zero => intro a1 a2 M h; exact nomatch (show (none : Res) = some r from h)
  | succ n ih => intro a1 a2 M h; exact z_Jo_countKnownBy_2 C hlev ih h
def d_Jo_countKnownBy (a1 : Int) (M : Mem) : Res := fix (fun _ _ _ => none) (k_Jo_countKnownBy_2) FU a1 0 M
theorem t_Jo_countKnownBy (l : Launch) (G : GX) {lev : Nat} (hlev : 0 ≤ lev) {a1 : Int} {M : Mem} {r : Int × Mem} (h : d_Jo_countKnownBy a1 M = some r) : Mt l G y_Jo_countKnownBy b_Jo_countKnownBy 3 (some .int) lev 1 [.ref (G.1 + 15), vi a1] M r := by
  refine Mt.of (by decide) (i_le rfl) ?_
  intro p e s m args below meth c C
  have C : Cx p s m args meth c G b_Jo_countKnownBy 3 "PrairiePool$Journal" (some .int) := C
  unfold d_Jo_countKnownBy at h
  refine z_sub (lv' := [(0, .ref (G.1 + 15)), (1, vi a1)]) [0, 1] rfl ?_
  refine z_iconst C x_Jo_countKnownBy_0 ?_
  refine z_istore_n (lv' := [(2, vi 0), (0, .ref (G.1 + 15)), (1, vi a1)]) C rfl x_Jo_countKnownBy_1 (i_lt rfl) rfl ?_
  exact z_sub [1, 2, 0] rfl (zl_Jo_countKnownBy_2 C hlev FU a1 0 M h)
theorem x_Pr_hasFarm_0 : DC b_Pr_hasFarm 0 (.iload_n 1) 1 1 := ⟨by decide +kernel, rfl⟩
theorem x_Pr_hasFarm_1 : DC b_Pr_hasFarm 1 (.iconst 0) 1 2 := ⟨by decide +kernel, rfl⟩
theorem x_Pr_hasFarm_2 : DC b_Pr_hasFarm 2 (.aload_n 0) 1 3 := ⟨by decide +kernel, rfl⟩
theorem x_Pr_hasFarm_3 : DC b_Pr_hasFarm 3 (.getfield 40) 3 6 := ⟨by decide +kernel, rfl⟩
theorem x_Pr_hasFarm_6 : DC b_Pr_hasFarm 6 (.iconst 1) 1 7 := ⟨by decide +kernel, rfl⟩
theorem x_Pr_hasFarm_7 : DC b_Pr_hasFarm 7 (.isub) 1 8 := ⟨by decide +kernel, rfl⟩
theorem x_Pr_hasFarm_8 : DC b_Pr_hasFarm 8 (.invokestatic 47) 3 11 := ⟨by decide +kernel, rfl⟩
theorem x_Pr_hasFarm_11 : DC b_Pr_hasFarm 11 (.ireturn) 1 12 := ⟨by decide +kernel, rfl⟩
def d_Pr_hasFarm (a1 : Int) (M : Mem) : Res := blet (M 5 0) fun v1 => bcall (d_PP_isIn a1 0 (v1 - 1) M) fun v2 M3 => chk (w32 v2 = 0 ∨ w32 v2 = 1) <| some (v2, M3)
theorem t_Pr_hasFarm (l : Launch) (G : GX) {lev : Nat} (hlev : 1 ≤ lev) {a1 : Int} {M : Mem} {r : Int × Mem} (h : d_Pr_hasFarm a1 M = some r) : Mt l G y_Pr_hasFarm b_Pr_hasFarm 2 (some .boolean) lev 1 [.ref (G.1 + 5), vi a1] M r := by
  refine Mt.of (by decide) (i_le rfl) ?_
  intro p e s m args below meth c C
  have C : Cx p s m args meth c G b_Pr_hasFarm 2 "PrairiePool$Prairie" (some .boolean) := C
  unfold d_Pr_hasFarm at h
  refine z_sub (lv' := [(0, .ref (G.1 + 5)), (1, vi a1)]) [0, 1] rfl ?_
  refine z_iload_n C 1 x_Pr_hasFarm_0 rfl ?_
  refine z_iconst C x_Pr_hasFarm_1 ?_
  refine z_aload_n C 0 x_Pr_hasFarm_2 rfl ?_
  obtain ⟨v1, ev1, h⟩ := blet_e h
  refine z_getI (j := 0) C x_Pr_hasFarm_3 nk_5 ck_5 cw_7 (i_lt rfl) rfl rfl fl_Pr_40 ev1 ?_
  refine z_iconst C x_Pr_hasFarm_6 ?_
  refine z_isub C x_Pr_hasFarm_7 ?_
  obtain ⟨v2, M3, fv2, h⟩ := bcall_e h
  refine z_callNi C x_Pr_hasFarm_8 cn_Pr_47 (t_PP_isIn (lev := lev - 1) l G (by omega) fv2) (by omega) rfl (i_le rfl) rfl ?_
  obtain ⟨c4, h⟩ := chk_e h
  exact z_zret C x_Pr_hasFarm_11 c4 h
theorem x_Pr_hasElevator_0 : DC b_Pr_hasElevator 0 (.iload_n 1) 1 1 := ⟨by decide +kernel, rfl⟩
theorem x_Pr_hasElevator_1 : DC b_Pr_hasElevator 1 (.iconst 0) 1 2 := ⟨by decide +kernel, rfl⟩
theorem x_Pr_hasElevator_2 : DC b_Pr_hasElevator 2 (.aload_n 0) 1 3 := ⟨by decide +kernel, rfl⟩
theorem x_Pr_hasElevator_3 : DC b_Pr_hasElevator 3 (.getfield 44) 3 6 := ⟨by decide +kernel, rfl⟩
theorem x_Pr_hasElevator_6 : DC b_Pr_hasElevator 6 (.iconst 1) 1 7 := ⟨by decide +kernel, rfl⟩
theorem x_Pr_hasElevator_7 : DC b_Pr_hasElevator 7 (.isub) 1 8 := ⟨by decide +kernel, rfl⟩
theorem x_Pr_hasElevator_8 : DC b_Pr_hasElevator 8 (.invokestatic 47) 3 11 := ⟨by decide +kernel, rfl⟩
theorem x_Pr_hasElevator_11 : DC b_Pr_hasElevator 11 (.ireturn) 1 12 := ⟨by decide +kernel, rfl⟩
def d_Pr_hasElevator (a1 : Int) (M : Mem) : Res := blet (M 5 8) fun v1 => bcall (d_PP_isIn a1 0 (v1 - 1) M) fun v2 M3 => chk (w32 v2 = 0 ∨ w32 v2 = 1) <| some (v2, M3)
theorem t_Pr_hasElevator (l : Launch) (G : GX) {lev : Nat} (hlev : 1 ≤ lev) {a1 : Int} {M : Mem} {r : Int × Mem} (h : d_Pr_hasElevator a1 M = some r) : Mt l G y_Pr_hasElevator b_Pr_hasElevator 2 (some .boolean) lev 1 [.ref (G.1 + 5), vi a1] M r := by
  refine Mt.of (by decide) (i_le rfl) ?_
  intro p e s m args below meth c C
  have C : Cx p s m args meth c G b_Pr_hasElevator 2 "PrairiePool$Prairie" (some .boolean) := C
  unfold d_Pr_hasElevator at h
  refine z_sub (lv' := [(0, .ref (G.1 + 5)), (1, vi a1)]) [0, 1] rfl ?_
  refine z_iload_n C 1 x_Pr_hasElevator_0 rfl ?_
  refine z_iconst C x_Pr_hasElevator_1 ?_
  refine z_aload_n C 0 x_Pr_hasElevator_2 rfl ?_
  obtain ⟨v1, ev1, h⟩ := blet_e h
  refine z_getI (j := 8) C x_Pr_hasElevator_3 nk_5 ck_5 cw_7 (i_lt rfl) rfl rfl fl_Pr_44 ev1 ?_
  refine z_iconst C x_Pr_hasElevator_6 ?_
  refine z_isub C x_Pr_hasElevator_7 ?_
  obtain ⟨v2, M3, fv2, h⟩ := bcall_e h
  refine z_callNi C x_Pr_hasElevator_8 cn_Pr_47 (t_PP_isIn (lev := lev - 1) l G (by omega) fv2) (by omega) rfl (i_le rfl) rfl ?_
  obtain ⟨c4, h⟩ := chk_e h
  exact z_zret C x_Pr_hasElevator_11 c4 h
theorem x_Jo_hasLoad_0 : DC b_Jo_hasLoad 0 (.iload_n 1) 1 1 := ⟨by decide +kernel, rfl⟩
theorem x_Jo_hasLoad_1 : DC b_Jo_hasLoad 1 (.iconst 0) 1 2 := ⟨by decide +kernel, rfl⟩
theorem x_Jo_hasLoad_2 : DC b_Jo_hasLoad 2 (.aload_n 0) 1 3 := ⟨by decide +kernel, rfl⟩
theorem x_Jo_hasLoad_3 : DC b_Jo_hasLoad 3 (.getfield 58) 3 6 := ⟨by decide +kernel, rfl⟩
theorem x_Jo_hasLoad_6 : DC b_Jo_hasLoad 6 (.iconst 1) 1 7 := ⟨by decide +kernel, rfl⟩
theorem x_Jo_hasLoad_7 : DC b_Jo_hasLoad 7 (.isub) 1 8 := ⟨by decide +kernel, rfl⟩
theorem x_Jo_hasLoad_8 : DC b_Jo_hasLoad 8 (.invokestatic 62) 3 11 := ⟨by decide +kernel, rfl⟩
theorem x_Jo_hasLoad_11 : DC b_Jo_hasLoad 11 (.ifCond .eq 16) 3 14 := ⟨by decide +kernel, rfl⟩
theorem x_Jo_hasLoad_14 : DC b_Jo_hasLoad 14 (.aload_n 0) 1 15 := ⟨by decide +kernel, rfl⟩
theorem x_Jo_hasLoad_15 : DC b_Jo_hasLoad 15 (.getfield 9) 3 18 := ⟨by decide +kernel, rfl⟩
theorem x_Jo_hasLoad_18 : DC b_Jo_hasLoad 18 (.iload_n 1) 1 19 := ⟨by decide +kernel, rfl⟩
theorem x_Jo_hasLoad_19 : DC b_Jo_hasLoad 19 (.iaload) 1 20 := ⟨by decide +kernel, rfl⟩
theorem x_Jo_hasLoad_20 : DC b_Jo_hasLoad 20 (.ifCond .ne 7) 3 23 := ⟨by decide +kernel, rfl⟩
theorem x_Jo_hasLoad_23 : DC b_Jo_hasLoad 23 (.iconst 1) 1 24 := ⟨by decide +kernel, rfl⟩
theorem x_Jo_hasLoad_24 : DC b_Jo_hasLoad 24 (.goto 4) 3 27 := ⟨by decide +kernel, rfl⟩
theorem x_Jo_hasLoad_27 : DC b_Jo_hasLoad 27 (.iconst 0) 1 28 := ⟨by decide +kernel, rfl⟩
theorem x_Jo_hasLoad_28 : DC b_Jo_hasLoad 28 (.ireturn) 1 29 := ⟨by decide +kernel, rfl⟩
def d_Jo_hasLoad (a1 : Int) (M : Mem) : Res := blet (M 15 0) fun v1 => bcall (d_PP_isIn a1 0 (v1 - 1) M) fun v2 M3 => if w32 v2 = 0 then (some (0, M3)) else (chk (0 ≤ w32 a1 ∧ w32 a1 < 120) <| blet (M3 16 (ix a1)) fun v6 => if w32 v6 = 0 then (some (1, M3)) else (some (0, M3)))
theorem t_Jo_hasLoad (l : Launch) (G : GX) {lev : Nat} (hlev : 1 ≤ lev) {a1 : Int} {M : Mem} {r : Int × Mem} (h : d_Jo_hasLoad a1 M = some r) : Mt l G y_Jo_hasLoad b_Jo_hasLoad 2 (some .boolean) lev 1 [.ref (G.1 + 15), vi a1] M r := by
  refine Mt.of (by decide) (i_le rfl) ?_
  intro p e s m args below meth c C
  have C : Cx p s m args meth c G b_Jo_hasLoad 2 "PrairiePool$Journal" (some .boolean) := C
  unfold d_Jo_hasLoad at h
  refine z_sub (lv' := [(0, .ref (G.1 + 15)), (1, vi a1)]) [0, 1] rfl ?_
  refine z_iload_n C 1 x_Jo_hasLoad_0 rfl ?_
  refine z_iconst C x_Jo_hasLoad_1 ?_
  refine z_aload_n C 0 x_Jo_hasLoad_2 rfl ?_
  obtain ⟨v1, ev1, h⟩ := blet_e h
  refine z_getI (j := 0) C x_Jo_hasLoad_3 nk_15 ck_15 cw_2 (i_lt rfl) rfl rfl fl_Jo_58 ev1 ?_
  refine z_iconst C x_Jo_hasLoad_6 ?_
  refine z_isub C x_Jo_hasLoad_7 ?_
  obtain ⟨v2, M3, fv2, h⟩ := bcall_e h
  refine z_callNi C x_Jo_hasLoad_8 cn_Jo_62 (t_PP_isIn (lev := lev - 1) l G (by omega) fv2) (by omega) rfl (i_le rfl) rfl ?_
  rcases ite_e h with ⟨c4, h⟩ | ⟨c4, h⟩
  · refine z_if_eq_t (tgt := 27) C x_Jo_hasLoad_11 rfl c4 ?_
    refine z_iconst C x_Jo_hasLoad_27 ?_
    exact z_zret C x_Jo_hasLoad_28 (by decide) h
  · refine z_if_eq_f (tgt := 27) C x_Jo_hasLoad_11 rfl c4 ?_
    refine z_aload_n C 0 x_Jo_hasLoad_14 rfl ?_
    refine z_getR (j := 2) C x_Jo_hasLoad_15 nk_15 ck_15 cw_2 (i_lt rfl) rfl rf_15_2 rfl fl_Jo_9 ?_
    refine z_iload_n C 1 x_Jo_hasLoad_18 rfl ?_
    obtain ⟨c5, h⟩ := chk_e h
    obtain ⟨v6, ev6, h⟩ := blet_e h
    refine z_iald C x_Jo_hasLoad_19 nk_16 ck_16 c5 ev6 ?_
    rcases ite_e h with ⟨c7, h⟩ | ⟨c7, h⟩
    · refine z_if_ne_f (tgt := 27) C x_Jo_hasLoad_20 rfl c7 ?_
      refine z_iconst C x_Jo_hasLoad_23 ?_
      refine z_goto (tgt := 28) C x_Jo_hasLoad_24 rfl ?_
      exact z_zret C x_Jo_hasLoad_28 (by decide) h
    · refine z_if_ne_t (tgt := 27) C x_Jo_hasLoad_20 rfl c7 ?_
      refine z_iconst C x_Jo_hasLoad_27 ?_
      exact z_zret C x_Jo_hasLoad_28 (by decide) h
theorem x_Pr_isBound_0 : DC b_Pr_isBound 0 (.iload_n 2) 1 1 := ⟨by decide +kernel, rfl⟩
theorem x_Pr_isBound_1 : DC b_Pr_isBound 1 (.aload_n 0) 1 2 := ⟨by decide +kernel, rfl⟩
theorem x_Pr_isBound_2 : DC b_Pr_isBound 2 (.getfield 21) 3 5 := ⟨by decide +kernel, rfl⟩
theorem x_Pr_isBound_5 : DC b_Pr_isBound 5 (.iload_n 1) 1 6 := ⟨by decide +kernel, rfl⟩
theorem x_Pr_isBound_6 : DC b_Pr_isBound 6 (.iaload) 1 7 := ⟨by decide +kernel, rfl⟩
theorem x_Pr_isBound_7 : DC b_Pr_isBound 7 (.aload_n 0) 1 8 := ⟨by decide +kernel, rfl⟩
theorem x_Pr_isBound_8 : DC b_Pr_isBound 8 (.getfield 24) 3 11 := ⟨by decide +kernel, rfl⟩
theorem x_Pr_isBound_11 : DC b_Pr_isBound 11 (.iload_n 1) 1 12 := ⟨by decide +kernel, rfl⟩
theorem x_Pr_isBound_12 : DC b_Pr_isBound 12 (.iaload) 1 13 := ⟨by decide +kernel, rfl⟩
theorem x_Pr_isBound_13 : DC b_Pr_isBound 13 (.invokestatic 47) 3 16 := ⟨by decide +kernel, rfl⟩
theorem x_Pr_isBound_16 : DC b_Pr_isBound 16 (.ifCond .eq 21) 3 19 := ⟨by decide +kernel, rfl⟩
theorem x_Pr_isBound_19 : DC b_Pr_isBound 19 (.aload_n 0) 1 20 := ⟨by decide +kernel, rfl⟩
theorem x_Pr_isBound_20 : DC b_Pr_isBound 20 (.getfield 27) 3 23 := ⟨by decide +kernel, rfl⟩
theorem x_Pr_isBound_23 : DC b_Pr_isBound 23 (.iload_n 1) 1 24 := ⟨by decide +kernel, rfl⟩
theorem x_Pr_isBound_24 : DC b_Pr_isBound 24 (.bipush 10) 2 26 := ⟨by decide +kernel, rfl⟩
theorem x_Pr_isBound_26 : DC b_Pr_isBound 26 (.imul) 1 27 := ⟨by decide +kernel, rfl⟩
theorem x_Pr_isBound_27 : DC b_Pr_isBound 27 (.iload_n 2) 1 28 := ⟨by decide +kernel, rfl⟩
theorem x_Pr_isBound_28 : DC b_Pr_isBound 28 (.iadd) 1 29 := ⟨by decide +kernel, rfl⟩
theorem x_Pr_isBound_29 : DC b_Pr_isBound 29 (.baload) 1 30 := ⟨by decide +kernel, rfl⟩
theorem x_Pr_isBound_30 : DC b_Pr_isBound 30 (.ifCond .ne 7) 3 33 := ⟨by decide +kernel, rfl⟩
theorem x_Pr_isBound_33 : DC b_Pr_isBound 33 (.iconst 1) 1 34 := ⟨by decide +kernel, rfl⟩
theorem x_Pr_isBound_34 : DC b_Pr_isBound 34 (.goto 4) 3 37 := ⟨by decide +kernel, rfl⟩
theorem x_Pr_isBound_37 : DC b_Pr_isBound 37 (.iconst 0) 1 38 := ⟨by decide +kernel, rfl⟩
theorem x_Pr_isBound_38 : DC b_Pr_isBound 38 (.ireturn) 1 39 := ⟨by decide +kernel, rfl⟩
def d_Pr_isBound (a1 a2 : Int) (M : Mem) : Res := chk (0 ≤ w32 a1 ∧ w32 a1 < 20) <| blet (M 9 (ix a1)) fun v2 => chk (0 ≤ w32 a1 ∧ w32 a1 < 20) <| blet (M 10 (ix a1)) fun v4 => bcall (d_PP_isIn a2 v2 v4 M) fun v5 M6 => if w32 v5 = 0 then (some (0, M6)) else (chk (0 ≤ w32 ((a1 * 10) + a2) ∧ w32 ((a1 * 10) + a2) < 200) <| blet (M6 11 (ix ((a1 * 10) + a2)) % 2) fun v9 => if w32 v9 = 0 then (some (1, M6)) else (some (0, M6)))
theorem t_Pr_isBound (l : Launch) (G : GX) {lev : Nat} (hlev : 1 ≤ lev) {a1 a2 : Int} {M : Mem} {r : Int × Mem} (h : d_Pr_isBound a1 a2 M = some r) : Mt l G y_Pr_isBound b_Pr_isBound 3 (some .boolean) lev 1 [.ref (G.1 + 5), vi a1, vi a2] M r := by
  refine Mt.of (by decide) (i_le rfl) ?_
  intro p e s m args below meth c C
  have C : Cx p s m args meth c G b_Pr_isBound 3 "PrairiePool$Prairie" (some .boolean) := C
  unfold d_Pr_isBound at h
  refine z_sub (lv' := [(0, .ref (G.1 + 5)), (1, vi a1), (2, vi a2)]) [0, 1, 2] rfl ?_
  refine z_iload_n C 2 x_Pr_isBound_0 rfl ?_
  refine z_aload_n C 0 x_Pr_isBound_1 rfl ?_
  refine z_getR (j := 4) C x_Pr_isBound_2 nk_5 ck_5 cw_7 (i_lt rfl) rfl rf_5_4 rfl fl_Pr_21 ?_
  refine z_iload_n C 1 x_Pr_isBound_5 rfl ?_
  obtain ⟨c1, h⟩ := chk_e h
  obtain ⟨v2, ev2, h⟩ := blet_e h
  refine z_iald C x_Pr_isBound_6 nk_9 ck_9 c1 ev2 ?_
  refine z_aload_n C 0 x_Pr_isBound_7 rfl ?_
  refine z_getR (j := 5) C x_Pr_isBound_8 nk_5 ck_5 cw_7 (i_lt rfl) rfl rf_5_5 rfl fl_Pr_24 ?_
  refine z_iload_n C 1 x_Pr_isBound_11 rfl ?_
  obtain ⟨c3, h⟩ := chk_e h
  obtain ⟨v4, ev4, h⟩ := blet_e h
  refine z_iald C x_Pr_isBound_12 nk_10 ck_10 c3 ev4 ?_
  obtain ⟨v5, M6, fv5, h⟩ := bcall_e h
  refine z_callNi C x_Pr_isBound_13 cn_Pr_47 (t_PP_isIn (lev := lev - 1) l G (by omega) fv5) (by omega) rfl (i_le rfl) rfl ?_
  rcases ite_e h with ⟨c7, h⟩ | ⟨c7, h⟩
  · refine z_if_eq_t (tgt := 37) C x_Pr_isBound_16 rfl c7 ?_
    refine z_iconst C x_Pr_isBound_37 ?_
    exact z_zret C x_Pr_isBound_38 (by decide) h
  · refine z_if_eq_f (tgt := 37) C x_Pr_isBound_16 rfl c7 ?_
    refine z_aload_n C 0 x_Pr_isBound_19 rfl ?_
    refine z_getR (j := 6) C x_Pr_isBound_20 nk_5 ck_5 cw_7 (i_lt rfl) rfl rf_5_6 rfl fl_Pr_27 ?_
    refine z_iload_n C 1 x_Pr_isBound_23 rfl ?_
    refine z_bipush C rfl x_Pr_isBound_24 ?_
    refine z_imul C x_Pr_isBound_26 ?_
    refine z_iload_n C 2 x_Pr_isBound_27 rfl ?_
    refine z_iadd C x_Pr_isBound_28 ?_
    obtain ⟨c8, h⟩ := chk_e h
    obtain ⟨v9, ev9, h⟩ := blet_e h
    refine z_zald C x_Pr_isBound_29 nk_11 ck_11 c8 ev9 ?_
    rcases ite_e h with ⟨c10, h⟩ | ⟨c10, h⟩
    · refine z_if_ne_f (tgt := 37) C x_Pr_isBound_30 rfl c10 ?_
      refine z_iconst C x_Pr_isBound_33 ?_
      refine z_goto (tgt := 38) C x_Pr_isBound_34 rfl ?_
      exact z_zret C x_Pr_isBound_38 (by decide) h
    · refine z_if_ne_t (tgt := 37) C x_Pr_isBound_30 rfl c10 ?_
      refine z_iconst C x_Pr_isBound_37 ?_
      exact z_zret C x_Pr_isBound_38 (by decide) h
end
