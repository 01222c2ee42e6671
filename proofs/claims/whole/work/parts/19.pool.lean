section
variable {p : Program} {l : Launch} {e : Env} {lev : Nat} {s : State} {m : MethodId} {args : Array Value} {below : List Frame} {meth : Method} {c : Code} {G : GX}
theorem x_PP_status_0 : DC b_PP_status 0 (.aload_n 0) 1 1 := ⟨by decide +kernel, rfl⟩
theorem x_PP_status_1 : DC b_PP_status 1 (.getfield 85) 3 4 := ⟨by decide +kernel, rfl⟩
theorem x_PP_status_4 : DC b_PP_status 4 (.ireturn) 1 5 := ⟨by decide +kernel, rfl⟩
def d_PP_status (M : Mem) : Res := blet (M 0 0) fun v1 => some (v1, M)
theorem t_PP_status (l : Launch) (G : GX) {lev : Nat} (hlev : 0 ≤ lev) {M : Mem} {r : Int × Mem} (h : d_PP_status M = some r) : Mt l G y_PP_status b_PP_status 1 (some .int) lev 1 [.ref (G.1 + 0)] M r := by
  refine Mt.of (by decide) (i_le rfl) ?_
  intro p e s m args below meth c C
  have C : Cx p s m args meth c G b_PP_status 1 "PrairiePool" (some .int) := C
  unfold d_PP_status at h
  refine z_sub (lv' := [(0, .ref (G.1 + 0))]) [0] rfl ?_
  refine z_aload_n C 0 x_PP_status_0 rfl ?_
  obtain ⟨v1, ev1, h⟩ := blet_e h
  refine z_getI (j := 0) C x_PP_status_1 nk_0 ck_0 cw_11 (i_lt rfl) rfl rfl fl_PP_85 ev1 ?_
  exact z_iret C x_PP_status_4 h
theorem x_PP_tray_0 : DC b_PP_tray 0 (.iload_n 1) 1 1 := ⟨by decide +kernel, rfl⟩
theorem x_PP_tray_1 : DC b_PP_tray 1 (.iconst 0) 1 2 := ⟨by decide +kernel, rfl⟩
theorem x_PP_tray_2 : DC b_PP_tray 2 (.iconst 3) 1 3 := ⟨by decide +kernel, rfl⟩
theorem x_PP_tray_3 : DC b_PP_tray 3 (.invokestatic 89) 3 6 := ⟨by decide +kernel, rfl⟩
theorem x_PP_tray_6 : DC b_PP_tray 6 (.ifCond .eq 16) 3 9 := ⟨by decide +kernel, rfl⟩
theorem x_PP_tray_9 : DC b_PP_tray 9 (.iload_n 2) 1 10 := ⟨by decide +kernel, rfl⟩
theorem x_PP_tray_10 : DC b_PP_tray 10 (.iconst 0) 1 11 := ⟨by decide +kernel, rfl⟩
theorem x_PP_tray_11 : DC b_PP_tray 11 (.iconst 3) 1 12 := ⟨by decide +kernel, rfl⟩
theorem x_PP_tray_12 : DC b_PP_tray 12 (.invokestatic 89) 3 15 := ⟨by decide +kernel, rfl⟩
theorem x_PP_tray_15 : DC b_PP_tray 15 (.ifCond .eq 7) 3 18 := ⟨by decide +kernel, rfl⟩
theorem x_PP_tray_18 : DC b_PP_tray 18 (.iconst 1) 1 19 := ⟨by decide +kernel, rfl⟩
theorem x_PP_tray_19 : DC b_PP_tray 19 (.goto 4) 3 22 := ⟨by decide +kernel, rfl⟩
theorem x_PP_tray_22 : DC b_PP_tray 22 (.iconst 0) 1 23 := ⟨by decide +kernel, rfl⟩
theorem x_PP_tray_23 : DC b_PP_tray 23 (.istore 4) 2 25 := ⟨by decide +kernel, rfl⟩
theorem x_PP_tray_25 : DC b_PP_tray 25 (.aload_n 0) 1 26 := ⟨by decide +kernel, rfl⟩
theorem x_PP_tray_26 : DC b_PP_tray 26 (.iload 4) 2 28 := ⟨by decide +kernel, rfl⟩
theorem x_PP_tray_28 : DC b_PP_tray 28 (.ifCond .ne 7) 3 31 := ⟨by decide +kernel, rfl⟩
theorem x_PP_tray_31 : DC b_PP_tray 31 (.iconst 1) 1 32 := ⟨by decide +kernel, rfl⟩
theorem x_PP_tray_32 : DC b_PP_tray 32 (.goto 23) 3 35 := ⟨by decide +kernel, rfl⟩
theorem x_PP_tray_35 : DC b_PP_tray 35 (.iload_n 3) 1 36 := ⟨by decide +kernel, rfl⟩
theorem x_PP_tray_36 : DC b_PP_tray 36 (.bipush 40) 2 38 := ⟨by decide +kernel, rfl⟩
theorem x_PP_tray_38 : DC b_PP_tray 38 (.if_icmp .le 7) 3 41 := ⟨by decide +kernel, rfl⟩
theorem x_PP_tray_41 : DC b_PP_tray 41 (.iconst 5) 1 42 := ⟨by decide +kernel, rfl⟩
theorem x_PP_tray_42 : DC b_PP_tray 42 (.goto 13) 3 45 := ⟨by decide +kernel, rfl⟩
theorem x_PP_tray_45 : DC b_PP_tray 45 (.iload_n 3) 1 46 := ⟨by decide +kernel, rfl⟩
theorem x_PP_tray_46 : DC b_PP_tray 46 (.ifCond .ge 8) 3 49 := ⟨by decide +kernel, rfl⟩
theorem x_PP_tray_49 : DC b_PP_tray 49 (.bipush 6) 2 51 := ⟨by decide +kernel, rfl⟩
theorem x_PP_tray_51 : DC b_PP_tray 51 (.goto 4) 3 54 := ⟨by decide +kernel, rfl⟩
theorem x_PP_tray_54 : DC b_PP_tray 54 (.iconst 0) 1 55 := ⟨by decide +kernel, rfl⟩
theorem x_PP_tray_55 : DC b_PP_tray 55 (.putfield 85) 3 58 := ⟨by decide +kernel, rfl⟩
theorem x_PP_tray_58 : DC b_PP_tray 58 (.aload_n 0) 1 59 := ⟨by decide +kernel, rfl⟩
theorem x_PP_tray_59 : DC b_PP_tray 59 (.getfield 85) 3 62 := ⟨by decide +kernel, rfl⟩
theorem x_PP_tray_62 : DC b_PP_tray 62 (.ifCond .eq 5) 3 65 := ⟨by decide +kernel, rfl⟩
theorem x_PP_tray_65 : DC b_PP_tray 65 (.iconst 0) 1 66 := ⟨by decide +kernel, rfl⟩
theorem x_PP_tray_66 : DC b_PP_tray 66 (.ireturn) 1 67 := ⟨by decide +kernel, rfl⟩
theorem x_PP_tray_67 : DC b_PP_tray 67 (.aload_n 0) 1 68 := ⟨by decide +kernel, rfl⟩
theorem x_PP_tray_68 : DC b_PP_tray 68 (.getfield 10) 3 71 := ⟨by decide +kernel, rfl⟩
theorem x_PP_tray_71 : DC b_PP_tray 71 (.iload_n 1) 1 72 := ⟨by decide +kernel, rfl⟩
theorem x_PP_tray_72 : DC b_PP_tray 72 (.iload_n 2) 1 73 := ⟨by decide +kernel, rfl⟩
theorem x_PP_tray_73 : DC b_PP_tray 73 (.iload_n 3) 1 74 := ⟨by decide +kernel, rfl⟩
theorem x_PP_tray_74 : DC b_PP_tray 74 (.invokevirtual 93) 3 77 := ⟨by decide +kernel, rfl⟩
theorem x_PP_tray_77 : DC b_PP_tray 77 (.iconst 1) 1 78 := ⟨by decide +kernel, rfl⟩
theorem x_PP_tray_78 : DC b_PP_tray 78 (.ireturn) 1 79 := ⟨by decide +kernel, rfl⟩
def k_PP_tray_55 (a1 a2 a3 s1 : Int) (M : Mem) : Res := blet (sto M 0 0 s1) fun M1 => blet (M1 0 0) fun v2 => if w32 v2 = 0 then (bcall (d_Tr_make a1 a2 a3 M1) fun v4 M5 => some (1, M5)) else (some (0, M1))
theorem z_PP_tray_55 (C : Cx p s m args meth c G b_PP_tray 5 "PrairiePool" (some .boolean)) (hlev : 1 ≤ lev) {r : Int × Mem}  {a1 a2 a3 s1 : Int} {M : Mem} (h : k_PP_tray_55 a1 a2 a3 s1 M = some r) : Z p l e lev s m args below meth c G 5 (MQ below (Qm G 1 r) args s 0 0 (Ab G)) M 55 [(0, .ref (G.1 + 0)), (1, vi a1), (2, vi a2), (3, vi a3)] [vi s1, .ref (G.1 + 0)] := by
  unfold k_PP_tray_55 at h
  obtain ⟨M1, eM1, h⟩ := blet_e h
  refine z_putI (j := 0) C x_PP_tray_55 nk_0 ck_0 cw_11 (i_lt rfl) rfl rfl rfl rfl fl_PP_85 eM1 ?_
  refine z_aload_n C 0 x_PP_tray_58 rfl ?_
  obtain ⟨v2, ev2, h⟩ := blet_e h
  refine z_getI (j := 0) C x_PP_tray_59 nk_0 ck_0 cw_11 (i_lt rfl) rfl rfl fl_PP_85 ev2 ?_
  rcases ite_e h with ⟨c3, h⟩ | ⟨c3, h⟩
  · refine z_if_eq_t (tgt := 67) C x_PP_tray_62 rfl c3 ?_
    refine z_aload_n C 0 x_PP_tray_67 rfl ?_
    refine z_getR (j := 1) C x_PP_tray_68 nk_0 ck_0 cw_11 (i_lt rfl) rfl rf_0_1 rfl fl_PP_10 ?_
    refine z_iload_n C 1 x_PP_tray_71 rfl ?_
    refine z_iload_n C 2 x_PP_tray_72 rfl ?_
    refine z_iload_n C 3 x_PP_tray_73 rfl ?_
    obtain ⟨v4, M5, fv4, h⟩ := bcall_e h
    refine z_callVv (k := 1) C x_PP_tray_74 cv_PP_93 (t_Tr_make (lev := lev - 1) l G (by omega) fv4) nk_1 ck_1 rfl (by omega) rfl (i_le rfl) rfl ?_
    refine z_iconst C x_PP_tray_77 ?_
    exact z_zret C x_PP_tray_78 (by decide) h
  · refine z_if_eq_f (tgt := 67) C x_PP_tray_62 rfl c3 ?_
    refine z_iconst C x_PP_tray_65 ?_
    exact z_zret C x_PP_tray_66 (by decide) h
def k_PP_tray_23 (a1 a2 a3 s0 : Int) (M : Mem) : Res := if w32 s0 = 0 then (k_PP_tray_55 a1 a2 a3 1 M) else (if 40 < w32 a3 then (k_PP_tray_55 a1 a2 a3 5 M) else (if w32 a3 < 0 then (k_PP_tray_55 a1 a2 a3 6 M) else (k_PP_tray_55 a1 a2 a3 0 M)))
theorem z_PP_tray_23 (C : Cx p s m args meth c G b_PP_tray 5 "PrairiePool" (some .boolean)) (hlev : 1 ≤ lev) {r : Int × Mem}  {a1 a2 a3 s0 : Int} {M : Mem} (h : k_PP_tray_23 a1 a2 a3 s0 M = some r) : Z p l e lev s m args below meth c G 5 (MQ below (Qm G 1 r) args s 0 0 (Ab G)) M 23 [(0, .ref (G.1 + 0)), (1, vi a1), (2, vi a2), (3, vi a3)] [vi s0] := by
  unfold k_PP_tray_23 at h
  refine z_istore (lv' := [(4, vi s0), (0, .ref (G.1 + 0)), (1, vi a1), (2, vi a2), (3, vi a3)]) C rfl x_PP_tray_23 (i_lt rfl) rfl ?_
  refine z_aload_n C 1 x_PP_tray_25 rfl ?_
  refine z_iload C 0 x_PP_tray_26 rfl ?_
  rcases ite_e h with ⟨c1, h⟩ | ⟨c1, h⟩
  · refine z_if_ne_f (tgt := 35) C x_PP_tray_28 rfl c1 ?_
    refine z_iconst C x_PP_tray_31 ?_
    refine z_goto (tgt := 55) C x_PP_tray_32 rfl ?_
    exact z_sub [1, 2, 3, 4] rfl (z_PP_tray_55 C hlev h)
  · refine z_if_ne_t (tgt := 35) C x_PP_tray_28 rfl c1 ?_
    refine z_iload_n C 4 x_PP_tray_35 rfl ?_
    refine z_bipush C rfl x_PP_tray_36 ?_
    rcases ite_e h with ⟨c2, h⟩ | ⟨c2, h⟩
    · refine z_icmp_le_f (tgt := 45) C x_PP_tray_38 rfl c2 ?_
      refine z_iconst C x_PP_tray_41 ?_
      refine z_goto (tgt := 55) C x_PP_tray_42 rfl ?_
      exact z_sub [1, 2, 3, 4] rfl (z_PP_tray_55 C hlev h)
    · refine z_icmp_le_t (tgt := 45) C x_PP_tray_38 rfl c2 ?_
      refine z_iload_n C 4 x_PP_tray_45 rfl ?_
      rcases ite_e h with ⟨c3, h⟩ | ⟨c3, h⟩
      · refine z_if_ge_f (tgt := 54) C x_PP_tray_46 rfl c3 ?_
        refine z_bipush C rfl x_PP_tray_49 ?_
        refine z_goto (tgt := 55) C x_PP_tray_51 rfl ?_
        exact z_sub [1, 2, 3, 4] rfl (z_PP_tray_55 C hlev h)
      · refine z_if_ge_t (tgt := 54) C x_PP_tray_46 rfl c3 ?_
        refine z_iconst C x_PP_tray_54 ?_
        exact z_sub [1, 2, 3, 4] rfl (z_PP_tray_55 C hlev h)
def k_PP_tray_22 (a1 a2 a3 : Int) (M : Mem) : Res := k_PP_tray_23 a1 a2 a3 0 M
theorem z_PP_tray_22 (C : Cx p s m args meth c G b_PP_tray 5 "PrairiePool" (some .boolean)) (hlev : 1 ≤ lev) {r : Int × Mem}  {a1 a2 a3 : Int} {M : Mem} (h : k_PP_tray_22 a1 a2 a3 M = some r) : Z p l e lev s m args below meth c G 5 (MQ below (Qm G 1 r) args s 0 0 (Ab G)) M 22 [(0, .ref (G.1 + 0)), (1, vi a1), (2, vi a2), (3, vi a3)] [] := by
  unfold k_PP_tray_22 at h
  refine z_iconst C x_PP_tray_22 ?_
  exact z_sub [0, 1, 2, 3] rfl (z_PP_tray_23 C hlev h)
def d_PP_tray (a1 a2 a3 : Int) (M : Mem) : Res := bcall (d_PP_isIn a1 0 3 M) fun v1 M2 => if w32 v1 = 0 then (k_PP_tray_22 a1 a2 a3 M2) else (bcall (d_PP_isIn a2 0 3 M2) fun v4 M5 => if w32 v4 = 0 then (k_PP_tray_22 a1 a2 a3 M5) else (k_PP_tray_23 a1 a2 a3 1 M5))
theorem t_PP_tray (l : Launch) (G : GX) {lev : Nat} (hlev : 1 ≤ lev) {a1 a2 a3 : Int} {M : Mem} {r : Int × Mem} (h : d_PP_tray a1 a2 a3 M = some r) : Mt l G y_PP_tray b_PP_tray 5 (some .boolean) lev 1 [.ref (G.1 + 0), vi a1, vi a2, vi a3] M r := by
  refine Mt.of (by decide) (i_le rfl) ?_
  intro p e s m args below meth c C
  have C : Cx p s m args meth c G b_PP_tray 5 "PrairiePool" (some .boolean) := C
  unfold d_PP_tray at h
  refine z_sub (lv' := [(0, .ref (G.1 + 0)), (1, vi a1), (2, vi a2), (3, vi a3)]) [0, 1, 2, 3] rfl ?_
  refine z_iload_n C 1 x_PP_tray_0 rfl ?_
  refine z_iconst C x_PP_tray_1 ?_
  refine z_iconst C x_PP_tray_2 ?_
  obtain ⟨v1, M2, fv1, h⟩ := bcall_e h
  refine z_callSi C x_PP_tray_3 cs_PP_89 (t_PP_isIn (lev := lev - 1) l G (by omega) fv1) (by omega) rfl (i_le rfl) rfl ?_
  rcases ite_e h with ⟨c3, h⟩ | ⟨c3, h⟩
  · refine z_if_eq_t (tgt := 22) C x_PP_tray_6 rfl c3 ?_
    exact z_sub [0, 1, 2, 3] rfl (z_PP_tray_22 C hlev h)
  · refine z_if_eq_f (tgt := 22) C x_PP_tray_6 rfl c3 ?_
    refine z_iload_n C 2 x_PP_tray_9 rfl ?_
    refine z_iconst C x_PP_tray_10 ?_
    refine z_iconst C x_PP_tray_11 ?_
    obtain ⟨v4, M5, fv4, h⟩ := bcall_e h
    refine z_callSi C x_PP_tray_12 cs_PP_89 (t_PP_isIn (lev := lev - 1) l G (by omega) fv4) (by omega) rfl (i_le rfl) rfl ?_
    rcases ite_e h with ⟨c6, h⟩ | ⟨c6, h⟩
    · refine z_if_eq_t (tgt := 22) C x_PP_tray_15 rfl c6 ?_
      exact z_sub [0, 1, 2, 3] rfl (z_PP_tray_22 C hlev h)
    · refine z_if_eq_f (tgt := 22) C x_PP_tray_15 rfl c6 ?_
      refine z_iconst C x_PP_tray_18 ?_
      refine z_goto (tgt := 23) C x_PP_tray_19 rfl ?_
      exact z_sub [0, 1, 2, 3] rfl (z_PP_tray_23 C hlev h)
theorem x_PP_write_0 : DC b_PP_write 0 (.aload_n 0) 1 1 := ⟨by decide +kernel, rfl⟩
theorem x_PP_write_1 : DC b_PP_write 1 (.aload_n 0) 1 2 := ⟨by decide +kernel, rfl⟩
theorem x_PP_write_2 : DC b_PP_write 2 (.getfield 10) 3 5 := ⟨by decide +kernel, rfl⟩
theorem x_PP_write_5 : DC b_PP_write 5 (.iload_n 1) 1 6 := ⟨by decide +kernel, rfl⟩
theorem x_PP_write_6 : DC b_PP_write 6 (.iload_n 2) 1 7 := ⟨by decide +kernel, rfl⟩
theorem x_PP_write_7 : DC b_PP_write 7 (.invokevirtual 97) 3 10 := ⟨by decide +kernel, rfl⟩
theorem x_PP_write_10 : DC b_PP_write 10 (.putfield 85) 3 13 := ⟨by decide +kernel, rfl⟩
theorem x_PP_write_13 : DC b_PP_write 13 (.aload_n 0) 1 14 := ⟨by decide +kernel, rfl⟩
theorem x_PP_write_14 : DC b_PP_write 14 (.getfield 85) 3 17 := ⟨by decide +kernel, rfl⟩
theorem x_PP_write_17 : DC b_PP_write 17 (.ifCond .eq 5) 3 20 := ⟨by decide +kernel, rfl⟩
theorem x_PP_write_20 : DC b_PP_write 20 (.iconst 0) 1 21 := ⟨by decide +kernel, rfl⟩
theorem x_PP_write_21 : DC b_PP_write 21 (.ireturn) 1 22 := ⟨by decide +kernel, rfl⟩
theorem x_PP_write_22 : DC b_PP_write 22 (.aload_n 0) 1 23 := ⟨by decide +kernel, rfl⟩
theorem x_PP_write_23 : DC b_PP_write 23 (.getfield 10) 3 26 := ⟨by decide +kernel, rfl⟩
theorem x_PP_write_26 : DC b_PP_write 26 (.iload_n 1) 1 27 := ⟨by decide +kernel, rfl⟩
theorem x_PP_write_27 : DC b_PP_write 27 (.iload_n 2) 1 28 := ⟨by decide +kernel, rfl⟩
theorem x_PP_write_28 : DC b_PP_write 28 (.lload_n 3) 1 29 := ⟨by decide +kernel, rfl⟩
theorem x_PP_write_29 : DC b_PP_write 29 (.invokevirtual 101) 3 32 := ⟨by decide +kernel, rfl⟩
theorem x_PP_write_32 : DC b_PP_write 32 (.iconst 1) 1 33 := ⟨by decide +kernel, rfl⟩
theorem x_PP_write_33 : DC b_PP_write 33 (.ireturn) 1 34 := ⟨by decide +kernel, rfl⟩
def d_PP_write (a1 a2 a3 : Int) (M : Mem) : Res := bcall (d_Tr_statusOfPlace a1 a2 M) fun v1 M2 => blet (sto M2 0 0 v1) fun M3 => blet (M3 0 0) fun v4 => if w32 v4 = 0 then (bcall (d_Tr_put a1 a2 a3 M3) fun v6 M7 => some (1, M7)) else (some (0, M3))
theorem t_PP_write (l : Launch) (G : GX) {lev : Nat} (hlev : 4 ≤ lev) {a1 a2 a3 : Int} {M : Mem} {r : Int × Mem} (h : d_PP_write a1 a2 a3 M = some r) : Mt l G y_PP_write b_PP_write 5 (some .boolean) lev 1 [.ref (G.1 + 0), vi a1, vi a2, vl a3] M r := by
  refine Mt.of (by decide) (i_le rfl) ?_
  intro p e s m args below meth c C
  have C : Cx p s m args meth c G b_PP_write 5 "PrairiePool" (some .boolean) := C
  unfold d_PP_write at h
  refine z_sub (lv' := [(0, .ref (G.1 + 0)), (1, vi a1), (2, vi a2), (3, vl a3)]) [0, 1, 2, 3] rfl ?_
  refine z_aload_n C 0 x_PP_write_0 rfl ?_
  refine z_aload_n C 0 x_PP_write_1 rfl ?_
  refine z_getR (j := 1) C x_PP_write_2 nk_0 ck_0 cw_11 (i_lt rfl) rfl rf_0_1 rfl fl_PP_10 ?_
  refine z_iload_n C 1 x_PP_write_5 rfl ?_
  refine z_iload_n C 2 x_PP_write_6 rfl ?_
  obtain ⟨v1, M2, fv1, h⟩ := bcall_e h
  refine z_callVi (k := 1) C x_PP_write_7 cv_PP_97 (t_Tr_statusOfPlace (lev := lev - 1) l G (by omega) fv1) nk_1 ck_1 rfl (by omega) rfl (i_le rfl) rfl ?_
  obtain ⟨M3, eM3, h⟩ := blet_e h
  refine z_putI (j := 0) C x_PP_write_10 nk_0 ck_0 cw_11 (i_lt rfl) rfl rfl rfl rfl fl_PP_85 eM3 ?_
  refine z_aload_n C 0 x_PP_write_13 rfl ?_
  obtain ⟨v4, ev4, h⟩ := blet_e h
  refine z_getI (j := 0) C x_PP_write_14 nk_0 ck_0 cw_11 (i_lt rfl) rfl rfl fl_PP_85 ev4 ?_
  rcases ite_e h with ⟨c5, h⟩ | ⟨c5, h⟩
  · refine z_if_eq_t (tgt := 22) C x_PP_write_17 rfl c5 ?_
    refine z_aload_n C 0 x_PP_write_22 rfl ?_
    refine z_getR (j := 1) C x_PP_write_23 nk_0 ck_0 cw_11 (i_lt rfl) rfl rf_0_1 rfl fl_PP_10 ?_
    refine z_iload_n C 1 x_PP_write_26 rfl ?_
    refine z_iload_n C 2 x_PP_write_27 rfl ?_
    refine z_lload_n C 3 x_PP_write_28 rfl ?_
    obtain ⟨v6, M7, fv6, h⟩ := bcall_e h
    refine z_callVv (k := 1) C x_PP_write_29 cv_PP_101 (t_Tr_put (lev := lev - 1) l G (by omega) fv6) nk_1 ck_1 rfl (by omega) rfl (i_le rfl) rfl ?_
    refine z_iconst C x_PP_write_32 ?_
    exact z_zret C x_PP_write_33 (by decide) h
  · refine z_if_eq_f (tgt := 22) C x_PP_write_17 rfl c5 ?_
    refine z_iconst C x_PP_write_20 ?_
    exact z_zret C x_PP_write_21 (by decide) h
theorem x_PP_read_0 : DC b_PP_read 0 (.aload_n 0) 1 1 := ⟨by decide +kernel, rfl⟩
theorem x_PP_read_1 : DC b_PP_read 1 (.aload_n 0) 1 2 := ⟨by decide +kernel, rfl⟩
theorem x_PP_read_2 : DC b_PP_read 2 (.getfield 10) 3 5 := ⟨by decide +kernel, rfl⟩
theorem x_PP_read_5 : DC b_PP_read 5 (.iload_n 1) 1 6 := ⟨by decide +kernel, rfl⟩
theorem x_PP_read_6 : DC b_PP_read 6 (.iload_n 2) 1 7 := ⟨by decide +kernel, rfl⟩
theorem x_PP_read_7 : DC b_PP_read 7 (.invokevirtual 97) 3 10 := ⟨by decide +kernel, rfl⟩
theorem x_PP_read_10 : DC b_PP_read 10 (.putfield 85) 3 13 := ⟨by decide +kernel, rfl⟩
theorem x_PP_read_13 : DC b_PP_read 13 (.aload_n 0) 1 14 := ⟨by decide +kernel, rfl⟩
theorem x_PP_read_14 : DC b_PP_read 14 (.getfield 85) 3 17 := ⟨by decide +kernel, rfl⟩
theorem x_PP_read_17 : DC b_PP_read 17 (.ifCond .eq 9) 3 20 := ⟨by decide +kernel, rfl⟩
theorem x_PP_read_20 : DC b_PP_read 20 (.ldc2_w 105) 3 23 := ⟨by decide +kernel, rfl⟩
theorem x_PP_read_23 : DC b_PP_read 23 (.goto 12) 3 26 := ⟨by decide +kernel, rfl⟩
theorem x_PP_read_26 : DC b_PP_read 26 (.aload_n 0) 1 27 := ⟨by decide +kernel, rfl⟩
theorem x_PP_read_27 : DC b_PP_read 27 (.getfield 10) 3 30 := ⟨by decide +kernel, rfl⟩
theorem x_PP_read_30 : DC b_PP_read 30 (.iload_n 1) 1 31 := ⟨by decide +kernel, rfl⟩
theorem x_PP_read_31 : DC b_PP_read 31 (.iload_n 2) 1 32 := ⟨by decide +kernel, rfl⟩
theorem x_PP_read_32 : DC b_PP_read 32 (.invokevirtual 107) 3 35 := ⟨by decide +kernel, rfl⟩
theorem x_PP_read_35 : DC b_PP_read 35 (.lreturn) 1 36 := ⟨by decide +kernel, rfl⟩
def d_PP_read (a1 a2 : Int) (M : Mem) : Res := bcall (d_Tr_statusOfPlace a1 a2 M) fun v1 M2 => blet (sto M2 0 0 v1) fun M3 => blet (M3 0 0) fun v4 => if w32 v4 = 0 then (bcall (d_Tr_get a1 a2 M3) fun v6 M7 => some (v6, M7)) else (some ((-1), M3))
theorem t_PP_read (l : Launch) (G : GX) {lev : Nat} (hlev : 4 ≤ lev) {a1 a2 : Int} {M : Mem} {r : Int × Mem} (h : d_PP_read a1 a2 M = some r) : Mt l G y_PP_read b_PP_read 3 (some .long) lev 2 [.ref (G.1 + 0), vi a1, vi a2] M r := by
  refine Mt.of (by decide) (i_le rfl) ?_
  intro p e s m args below meth c C
  have C : Cx p s m args meth c G b_PP_read 3 "PrairiePool" (some .long) := C
  unfold d_PP_read at h
  refine z_sub (lv' := [(0, .ref (G.1 + 0)), (1, vi a1), (2, vi a2)]) [0, 1, 2] rfl ?_
  refine z_aload_n C 0 x_PP_read_0 rfl ?_
  refine z_aload_n C 0 x_PP_read_1 rfl ?_
  refine z_getR (j := 1) C x_PP_read_2 nk_0 ck_0 cw_11 (i_lt rfl) rfl rf_0_1 rfl fl_PP_10 ?_
  refine z_iload_n C 1 x_PP_read_5 rfl ?_
  refine z_iload_n C 2 x_PP_read_6 rfl ?_
  obtain ⟨v1, M2, fv1, h⟩ := bcall_e h
  refine z_callVi (k := 1) C x_PP_read_7 cv_PP_97 (t_Tr_statusOfPlace (lev := lev - 1) l G (by omega) fv1) nk_1 ck_1 rfl (by omega) rfl (i_le rfl) rfl ?_
  obtain ⟨M3, eM3, h⟩ := blet_e h
  refine z_putI (j := 0) C x_PP_read_10 nk_0 ck_0 cw_11 (i_lt rfl) rfl rfl rfl rfl fl_PP_85 eM3 ?_
  refine z_aload_n C 0 x_PP_read_13 rfl ?_
  obtain ⟨v4, ev4, h⟩ := blet_e h
  refine z_getI (j := 0) C x_PP_read_14 nk_0 ck_0 cw_11 (i_lt rfl) rfl rfl fl_PP_85 ev4 ?_
  rcases ite_e h with ⟨c5, h⟩ | ⟨c5, h⟩
  · refine z_if_eq_t (tgt := 26) C x_PP_read_17 rfl c5 ?_
    refine z_aload_n C 0 x_PP_read_26 rfl ?_
    refine z_getR (j := 1) C x_PP_read_27 nk_0 ck_0 cw_11 (i_lt rfl) rfl rf_0_1 rfl fl_PP_10 ?_
    refine z_iload_n C 1 x_PP_read_30 rfl ?_
    refine z_iload_n C 2 x_PP_read_31 rfl ?_
    obtain ⟨v6, M7, fv6, h⟩ := bcall_e h
    refine z_callVl (k := 1) C x_PP_read_32 cv_PP_107 (t_Tr_get (lev := lev - 1) l G (by omega) fv6) nk_1 ck_1 rfl (by omega) rfl (i_le rfl) rfl ?_
    exact z_lret C x_PP_read_35 h
  · refine z_if_eq_f (tgt := 26) C x_PP_read_17 rfl c5 ?_
    refine z_ldc2 C kl_PP_105 x_PP_read_20 ?_
    refine z_goto (tgt := 35) C x_PP_read_23 rfl ?_
    exact z_lret C x_PP_read_35 h
theorem x_PP_pour_0 : DC b_PP_pour 0 (.aload_n 0) 1 1 := ⟨by decide +kernel, rfl⟩
theorem x_PP_pour_1 : DC b_PP_pour 1 (.aload_n 0) 1 2 := ⟨by decide +kernel, rfl⟩
theorem x_PP_pour_2 : DC b_PP_pour 2 (.getfield 10) 3 5 := ⟨by decide +kernel, rfl⟩
theorem x_PP_pour_5 : DC b_PP_pour 5 (.iload_n 1) 1 6 := ⟨by decide +kernel, rfl⟩
theorem x_PP_pour_6 : DC b_PP_pour 6 (.iload_n 3) 1 7 := ⟨by decide +kernel, rfl⟩
theorem x_PP_pour_7 : DC b_PP_pour 7 (.invokevirtual 111) 3 10 := ⟨by decide +kernel, rfl⟩
theorem x_PP_pour_10 : DC b_PP_pour 10 (.putfield 85) 3 13 := ⟨by decide +kernel, rfl⟩
theorem x_PP_pour_13 : DC b_PP_pour 13 (.aload_n 0) 1 14 := ⟨by decide +kernel, rfl⟩
theorem x_PP_pour_14 : DC b_PP_pour 14 (.getfield 85) 3 17 := ⟨by decide +kernel, rfl⟩
theorem x_PP_pour_17 : DC b_PP_pour 17 (.ifCond .ne 21) 3 20 := ⟨by decide +kernel, rfl⟩
theorem x_PP_pour_20 : DC b_PP_pour 20 (.aload_n 0) 1 21 := ⟨by decide +kernel, rfl⟩
theorem x_PP_pour_21 : DC b_PP_pour 21 (.aload_n 0) 1 22 := ⟨by decide +kernel, rfl⟩
theorem x_PP_pour_22 : DC b_PP_pour 22 (.getfield 10) 3 25 := ⟨by decide +kernel, rfl⟩
theorem x_PP_pour_25 : DC b_PP_pour 25 (.iload_n 1) 1 26 := ⟨by decide +kernel, rfl⟩
theorem x_PP_pour_26 : DC b_PP_pour 26 (.iload_n 2) 1 27 := ⟨by decide +kernel, rfl⟩
theorem x_PP_pour_27 : DC b_PP_pour 27 (.iload_n 3) 1 28 := ⟨by decide +kernel, rfl⟩
theorem x_PP_pour_28 : DC b_PP_pour 28 (.iload 4) 2 30 := ⟨by decide +kernel, rfl⟩
theorem x_PP_pour_30 : DC b_PP_pour 30 (.iload 5) 2 32 := ⟨by decide +kernel, rfl⟩
theorem x_PP_pour_32 : DC b_PP_pour 32 (.invokevirtual 114) 3 35 := ⟨by decide +kernel, rfl⟩
theorem x_PP_pour_35 : DC b_PP_pour 35 (.putfield 85) 3 38 := ⟨by decide +kernel, rfl⟩
theorem x_PP_pour_38 : DC b_PP_pour 38 (.aload_n 0) 1 39 := ⟨by decide +kernel, rfl⟩
theorem x_PP_pour_39 : DC b_PP_pour 39 (.getfield 85) 3 42 := ⟨by decide +kernel, rfl⟩
theorem x_PP_pour_42 : DC b_PP_pour 42 (.ifCond .eq 5) 3 45 := ⟨by decide +kernel, rfl⟩
theorem x_PP_pour_45 : DC b_PP_pour 45 (.iconst 0) 1 46 := ⟨by decide +kernel, rfl⟩
theorem x_PP_pour_46 : DC b_PP_pour 46 (.ireturn) 1 47 := ⟨by decide +kernel, rfl⟩
theorem x_PP_pour_47 : DC b_PP_pour 47 (.aload_n 0) 1 48 := ⟨by decide +kernel, rfl⟩
theorem x_PP_pour_48 : DC b_PP_pour 48 (.getfield 10) 3 51 := ⟨by decide +kernel, rfl⟩
theorem x_PP_pour_51 : DC b_PP_pour 51 (.iload_n 1) 1 52 := ⟨by decide +kernel, rfl⟩
theorem x_PP_pour_52 : DC b_PP_pour 52 (.iload_n 2) 1 53 := ⟨by decide +kernel, rfl⟩
theorem x_PP_pour_53 : DC b_PP_pour 53 (.iload_n 3) 1 54 := ⟨by decide +kernel, rfl⟩
theorem x_PP_pour_54 : DC b_PP_pour 54 (.iload 4) 2 56 := ⟨by decide +kernel, rfl⟩
theorem x_PP_pour_56 : DC b_PP_pour 56 (.iload 5) 2 58 := ⟨by decide +kernel, rfl⟩
theorem x_PP_pour_58 : DC b_PP_pour 58 (.invokevirtual 118) 3 61 := ⟨by decide +kernel, rfl⟩
theorem x_PP_pour_61 : DC b_PP_pour 61 (.iconst 1) 1 62 := ⟨by decide +kernel, rfl⟩
theorem x_PP_pour_62 : DC b_PP_pour 62 (.ireturn) 1 63 := ⟨by decide +kernel, rfl⟩
def k_PP_pour_38 (a1 a2 a3 a4 a5 : Int) (M : Mem) : Res := blet (M 0 0) fun v1 => if w32 v1 = 0 then (bcall (d_Tr_move a1 a2 a3 a4 a5 M) fun v3 M4 => some (1, M4)) else (some (0, M))
theorem z_PP_pour_38 (C : Cx p s m args meth c G b_PP_pour 6 "PrairiePool" (some .boolean)) (hlev : 3 ≤ lev) {r : Int × Mem}  {a1 a2 a3 a4 a5 : Int} {M : Mem} (h : k_PP_pour_38 a1 a2 a3 a4 a5 M = some r) : Z p l e lev s m args below meth c G 6 (MQ below (Qm G 1 r) args s 0 0 (Ab G)) M 38 [(0, .ref (G.1 + 0)), (1, vi a1), (2, vi a2), (3, vi a3), (4, vi a4), (5, vi a5)] [] := by
  unfold k_PP_pour_38 at h
  refine z_aload_n C 0 x_PP_pour_38 rfl ?_
  obtain ⟨v1, ev1, h⟩ := blet_e h
  refine z_getI (j := 0) C x_PP_pour_39 nk_0 ck_0 cw_11 (i_lt rfl) rfl rfl fl_PP_85 ev1 ?_
  rcases ite_e h with ⟨c2, h⟩ | ⟨c2, h⟩
  · refine z_if_eq_t (tgt := 47) C x_PP_pour_42 rfl c2 ?_
    refine z_aload_n C 0 x_PP_pour_47 rfl ?_
    refine z_getR (j := 1) C x_PP_pour_48 nk_0 ck_0 cw_11 (i_lt rfl) rfl rf_0_1 rfl fl_PP_10 ?_
    refine z_iload_n C 1 x_PP_pour_51 rfl ?_
    refine z_iload_n C 2 x_PP_pour_52 rfl ?_
    refine z_iload_n C 3 x_PP_pour_53 rfl ?_
    refine z_iload C 4 x_PP_pour_54 rfl ?_
    refine z_iload C 5 x_PP_pour_56 rfl ?_
    obtain ⟨v3, M4, fv3, h⟩ := bcall_e h
    refine z_callVv (k := 1) C x_PP_pour_58 cv_PP_118 (t_Tr_move (lev := lev - 1) l G (by omega) fv3) nk_1 ck_1 rfl (by omega) rfl (i_le rfl) rfl ?_
    refine z_iconst C x_PP_pour_61 ?_
    exact z_zret C x_PP_pour_62 (by decide) h
  · refine z_if_eq_f (tgt := 47) C x_PP_pour_42 rfl c2 ?_
    refine z_iconst C x_PP_pour_45 ?_
    exact z_zret C x_PP_pour_46 (by decide) h
def d_PP_pour (a1 a2 a3 a4 a5 : Int) (M : Mem) : Res := bcall (d_Tr_statusOfTwo a1 a3 M) fun v1 M2 => blet (sto M2 0 0 v1) fun M3 => blet (M3 0 0) fun v4 => if w32 v4 = 0 then (bcall (d_Tr_statusOfPouring a1 a2 a3 a4 a5 M3) fun v6 M7 => blet (sto M7 0 0 v6) fun M8 => k_PP_pour_38 a1 a2 a3 a4 a5 M8) else (k_PP_pour_38 a1 a2 a3 a4 a5 M3)
theorem t_PP_pour (l : Launch) (G : GX) {lev : Nat} (hlev : 3 ≤ lev) {a1 a2 a3 a4 a5 : Int} {M : Mem} {r : Int × Mem} (h : d_PP_pour a1 a2 a3 a4 a5 M = some r) : Mt l G y_PP_pour b_PP_pour 6 (some .boolean) lev 1 [.ref (G.1 + 0), vi a1, vi a2, vi a3, vi a4, vi a5] M r := by
  refine Mt.of (by decide) (i_le rfl) ?_
  intro p e s m args below meth c C
  have C : Cx p s m args meth c G b_PP_pour 6 "PrairiePool" (some .boolean) := C
  unfold d_PP_pour at h
  refine z_sub (lv' := [(0, .ref (G.1 + 0)), (1, vi a1), (2, vi a2), (3, vi a3), (4, vi a4), (5, vi a5)]) [0, 1, 2, 3, 4, 5] rfl ?_
  refine z_aload_n C 0 x_PP_pour_0 rfl ?_
  refine z_aload_n C 0 x_PP_pour_1 rfl ?_
  refine z_getR (j := 1) C x_PP_pour_2 nk_0 ck_0 cw_11 (i_lt rfl) rfl rf_0_1 rfl fl_PP_10 ?_
  refine z_iload_n C 1 x_PP_pour_5 rfl ?_
  refine z_iload_n C 3 x_PP_pour_6 rfl ?_
  obtain ⟨v1, M2, fv1, h⟩ := bcall_e h
  refine z_callVi (k := 1) C x_PP_pour_7 cv_PP_111 (t_Tr_statusOfTwo (lev := lev - 1) l G (by omega) fv1) nk_1 ck_1 rfl (by omega) rfl (i_le rfl) rfl ?_
  obtain ⟨M3, eM3, h⟩ := blet_e h
  refine z_putI (j := 0) C x_PP_pour_10 nk_0 ck_0 cw_11 (i_lt rfl) rfl rfl rfl rfl fl_PP_85 eM3 ?_
  refine z_aload_n C 0 x_PP_pour_13 rfl ?_
  obtain ⟨v4, ev4, h⟩ := blet_e h
  refine z_getI (j := 0) C x_PP_pour_14 nk_0 ck_0 cw_11 (i_lt rfl) rfl rfl fl_PP_85 ev4 ?_
  rcases ite_e h with ⟨c5, h⟩ | ⟨c5, h⟩
  · refine z_if_ne_f (tgt := 38) C x_PP_pour_17 rfl c5 ?_
    refine z_aload_n C 0 x_PP_pour_20 rfl ?_
    refine z_aload_n C 0 x_PP_pour_21 rfl ?_
    refine z_getR (j := 1) C x_PP_pour_22 nk_0 ck_0 cw_11 (i_lt rfl) rfl rf_0_1 rfl fl_PP_10 ?_
    refine z_iload_n C 1 x_PP_pour_25 rfl ?_
    refine z_iload_n C 2 x_PP_pour_26 rfl ?_
    refine z_iload_n C 3 x_PP_pour_27 rfl ?_
    refine z_iload C 4 x_PP_pour_28 rfl ?_
    refine z_iload C 5 x_PP_pour_30 rfl ?_
    obtain ⟨v6, M7, fv6, h⟩ := bcall_e h
    refine z_callVi (k := 1) C x_PP_pour_32 cv_PP_114 (t_Tr_statusOfPouring (lev := lev - 1) l G (by omega) fv6) nk_1 ck_1 rfl (by omega) rfl (i_le rfl) rfl ?_
    obtain ⟨M8, eM8, h⟩ := blet_e h
    refine z_putI (j := 0) C x_PP_pour_35 nk_0 ck_0 cw_11 (i_lt rfl) rfl rfl rfl rfl fl_PP_85 eM8 ?_
    exact z_sub [0, 1, 2, 3, 4, 5] rfl (z_PP_pour_38 C hlev h)
  · refine z_if_ne_t (tgt := 38) C x_PP_pour_17 rfl c5 ?_
    exact z_sub [0, 1, 2, 3, 4, 5] rfl (z_PP_pour_38 C hlev h)
theorem x_PP_passes_0 : DC b_PP_passes 0 (.aload_n 0) 1 1 := ⟨by decide +kernel, rfl⟩
theorem x_PP_passes_1 : DC b_PP_passes 1 (.iload_n 1) 1 2 := ⟨by decide +kernel, rfl⟩
theorem x_PP_passes_2 : DC b_PP_passes 2 (.ifCond .ne 7) 3 5 := ⟨by decide +kernel, rfl⟩
theorem x_PP_passes_5 : DC b_PP_passes 5 (.iconst 2) 1 6 := ⟨by decide +kernel, rfl⟩
theorem x_PP_passes_6 : DC b_PP_passes 6 (.goto 12) 3 9 := ⟨by decide +kernel, rfl⟩
theorem x_PP_passes_9 : DC b_PP_passes 9 (.iload_n 2) 1 10 := ⟨by decide +kernel, rfl⟩
theorem x_PP_passes_10 : DC b_PP_passes 10 (.ifCond .ne 7) 3 13 := ⟨by decide +kernel, rfl⟩
theorem x_PP_passes_13 : DC b_PP_passes 13 (.iconst 5) 1 14 := ⟨by decide +kernel, rfl⟩
theorem x_PP_passes_14 : DC b_PP_passes 14 (.goto 4) 3 17 := ⟨by decide +kernel, rfl⟩
theorem x_PP_passes_17 : DC b_PP_passes 17 (.iconst 0) 1 18 := ⟨by decide +kernel, rfl⟩
theorem x_PP_passes_18 : DC b_PP_passes 18 (.putfield 85) 3 21 := ⟨by decide +kernel, rfl⟩
theorem x_PP_passes_21 : DC b_PP_passes 21 (.aload_n 0) 1 22 := ⟨by decide +kernel, rfl⟩
theorem x_PP_passes_22 : DC b_PP_passes 22 (.getfield 85) 3 25 := ⟨by decide +kernel, rfl⟩
theorem x_PP_passes_25 : DC b_PP_passes 25 (.ifCond .ne 7) 3 28 := ⟨by decide +kernel, rfl⟩
theorem x_PP_passes_28 : DC b_PP_passes 28 (.iconst 1) 1 29 := ⟨by decide +kernel, rfl⟩
theorem x_PP_passes_29 : DC b_PP_passes 29 (.goto 4) 3 32 := ⟨by decide +kernel, rfl⟩
theorem x_PP_passes_32 : DC b_PP_passes 32 (.iconst 0) 1 33 := ⟨by decide +kernel, rfl⟩
theorem x_PP_passes_33 : DC b_PP_passes 33 (.ireturn) 1 34 := ⟨by decide +kernel, rfl⟩
def k_PP_passes_18 (s1 : Int) (M : Mem) : Res := blet (sto M 0 0 s1) fun M1 => blet (M1 0 0) fun v2 => if w32 v2 = 0 then (some (1, M1)) else (some (0, M1))
theorem z_PP_passes_18 (C : Cx p s m args meth c G b_PP_passes 3 "PrairiePool" (some .boolean)) (hlev : 0 ≤ lev) {r : Int × Mem}  {s1 : Int} {M : Mem} (h : k_PP_passes_18 s1 M = some r) : Z p l e lev s m args below meth c G 3 (MQ below (Qm G 1 r) args s 0 0 (Ab G)) M 18 [(0, .ref (G.1 + 0))] [vi s1, .ref (G.1 + 0)] := by
  unfold k_PP_passes_18 at h
  obtain ⟨M1, eM1, h⟩ := blet_e h
  refine z_putI (j := 0) C x_PP_passes_18 nk_0 ck_0 cw_11 (i_lt rfl) rfl rfl rfl rfl fl_PP_85 eM1 ?_
  refine z_aload_n C 0 x_PP_passes_21 rfl ?_
  obtain ⟨v2, ev2, h⟩ := blet_e h
  refine z_getI (j := 0) C x_PP_passes_22 nk_0 ck_0 cw_11 (i_lt rfl) rfl rfl fl_PP_85 ev2 ?_
  rcases ite_e h with ⟨c3, h⟩ | ⟨c3, h⟩
  · refine z_if_ne_f (tgt := 32) C x_PP_passes_25 rfl c3 ?_
    refine z_iconst C x_PP_passes_28 ?_
    refine z_goto (tgt := 33) C x_PP_passes_29 rfl ?_
    exact z_zret C x_PP_passes_33 (by decide) h
  · refine z_if_ne_t (tgt := 32) C x_PP_passes_25 rfl c3 ?_
    refine z_iconst C x_PP_passes_32 ?_
    exact z_zret C x_PP_passes_33 (by decide) h
def d_PP_passes (a1 a2 : Int) (M : Mem) : Res := if w32 a1 = 0 then (k_PP_passes_18 2 M) else (if w32 a2 = 0 then (k_PP_passes_18 5 M) else (k_PP_passes_18 0 M))
theorem t_PP_passes (l : Launch) (G : GX) {lev : Nat} (hlev : 0 ≤ lev) {a1 a2 : Int} {M : Mem} {r : Int × Mem} (h : d_PP_passes a1 a2 M = some r) : Mt l G y_PP_passes b_PP_passes 3 (some .boolean) lev 1 [.ref (G.1 + 0), vi a1, vi a2] M r := by
  refine Mt.of (by decide) (i_le rfl) ?_
  intro p e s m args below meth c C
  have C : Cx p s m args meth c G b_PP_passes 3 "PrairiePool" (some .boolean) := C
  unfold d_PP_passes at h
  refine z_sub (lv' := [(0, .ref (G.1 + 0)), (1, vi a1), (2, vi a2)]) [0, 1, 2] rfl ?_
  refine z_aload_n C 0 x_PP_passes_0 rfl ?_
  refine z_iload_n C 1 x_PP_passes_1 rfl ?_
  rcases ite_e h with ⟨c1, h⟩ | ⟨c1, h⟩
  · refine z_if_ne_f (tgt := 9) C x_PP_passes_2 rfl c1 ?_
    refine z_iconst C x_PP_passes_5 ?_
    refine z_goto (tgt := 18) C x_PP_passes_6 rfl ?_
    exact z_sub [0] rfl (z_PP_passes_18 C hlev h)
  · refine z_if_ne_t (tgt := 9) C x_PP_passes_2 rfl c1 ?_
    refine z_iload_n C 2 x_PP_passes_9 rfl ?_
    rcases ite_e h with ⟨c2, h⟩ | ⟨c2, h⟩
    · refine z_if_ne_f (tgt := 17) C x_PP_passes_10 rfl c2 ?_
      refine z_iconst C x_PP_passes_13 ?_
      refine z_goto (tgt := 18) C x_PP_passes_14 rfl ?_
      exact z_sub [0] rfl (z_PP_passes_18 C hlev h)
    · refine z_if_ne_t (tgt := 17) C x_PP_passes_10 rfl c2 ?_
      refine z_iconst C x_PP_passes_17 ?_
      exact z_sub [0] rfl (z_PP_passes_18 C hlev h)
theorem x_PP_passesWithRoom_0 : DC b_PP_passesWithRoom 0 (.aload_n 0) 1 1 := ⟨by decide +kernel, rfl⟩
theorem x_PP_passesWithRoom_1 : DC b_PP_passesWithRoom 1 (.iload_n 1) 1 2 := ⟨by decide +kernel, rfl⟩
theorem x_PP_passesWithRoom_2 : DC b_PP_passesWithRoom 2 (.iload_n 2) 1 3 := ⟨by decide +kernel, rfl⟩
theorem x_PP_passesWithRoom_3 : DC b_PP_passesWithRoom 3 (.invokevirtual 219) 3 6 := ⟨by decide +kernel, rfl⟩
theorem x_PP_passesWithRoom_6 : DC b_PP_passesWithRoom 6 (.ifCond .eq 13) 3 9 := ⟨by decide +kernel, rfl⟩
theorem x_PP_passesWithRoom_9 : DC b_PP_passesWithRoom 9 (.iload_n 3) 1 10 := ⟨by decide +kernel, rfl⟩
theorem x_PP_passesWithRoom_10 : DC b_PP_passesWithRoom 10 (.ifCond .ne 9) 3 13 := ⟨by decide +kernel, rfl⟩
theorem x_PP_passesWithRoom_13 : DC b_PP_passesWithRoom 13 (.aload_n 0) 1 14 := ⟨by decide +kernel, rfl⟩
theorem x_PP_passesWithRoom_14 : DC b_PP_passesWithRoom 14 (.bipush 7) 2 16 := ⟨by decide +kernel, rfl⟩
theorem x_PP_passesWithRoom_16 : DC b_PP_passesWithRoom 16 (.putfield 85) 3 19 := ⟨by decide +kernel, rfl⟩
theorem x_PP_passesWithRoom_19 : DC b_PP_passesWithRoom 19 (.aload_n 0) 1 20 := ⟨by decide +kernel, rfl⟩
theorem x_PP_passesWithRoom_20 : DC b_PP_passesWithRoom 20 (.getfield 85) 3 23 := ⟨by decide +kernel, rfl⟩
theorem x_PP_passesWithRoom_23 : DC b_PP_passesWithRoom 23 (.ifCond .ne 7) 3 26 := ⟨by decide +kernel, rfl⟩
theorem x_PP_passesWithRoom_26 : DC b_PP_passesWithRoom 26 (.iconst 1) 1 27 := ⟨by decide +kernel, rfl⟩
theorem x_PP_passesWithRoom_27 : DC b_PP_passesWithRoom 27 (.goto 4) 3 30 := ⟨by decide +kernel, rfl⟩
theorem x_PP_passesWithRoom_30 : DC b_PP_passesWithRoom 30 (.iconst 0) 1 31 := ⟨by decide +kernel, rfl⟩
theorem x_PP_passesWithRoom_31 : DC b_PP_passesWithRoom 31 (.ireturn) 1 32 := ⟨by decide +kernel, rfl⟩
def k_PP_passesWithRoom_19 (M : Mem) : Res := blet (M 0 0) fun v1 => if w32 v1 = 0 then (some (1, M)) else (some (0, M))
theorem z_PP_passesWithRoom_19 (C : Cx p s m args meth c G b_PP_passesWithRoom 4 "PrairiePool" (some .boolean)) (hlev : 1 ≤ lev) {r : Int × Mem}  {M : Mem} (h : k_PP_passesWithRoom_19 M = some r) : Z p l e lev s m args below meth c G 4 (MQ below (Qm G 1 r) args s 0 0 (Ab G)) M 19 [(0, .ref (G.1 + 0))] [] := by
  unfold k_PP_passesWithRoom_19 at h
  refine z_aload_n C 0 x_PP_passesWithRoom_19 rfl ?_
  obtain ⟨v1, ev1, h⟩ := blet_e h
  refine z_getI (j := 0) C x_PP_passesWithRoom_20 nk_0 ck_0 cw_11 (i_lt rfl) rfl rfl fl_PP_85 ev1 ?_
  rcases ite_e h with ⟨c2, h⟩ | ⟨c2, h⟩
  · refine z_if_ne_f (tgt := 30) C x_PP_passesWithRoom_23 rfl c2 ?_
    refine z_iconst C x_PP_passesWithRoom_26 ?_
    refine z_goto (tgt := 31) C x_PP_passesWithRoom_27 rfl ?_
    exact z_zret C x_PP_passesWithRoom_31 (by decide) h
  · refine z_if_ne_t (tgt := 30) C x_PP_passesWithRoom_23 rfl c2 ?_
    refine z_iconst C x_PP_passesWithRoom_30 ?_
    exact z_zret C x_PP_passesWithRoom_31 (by decide) h
def d_PP_passesWithRoom (a1 a2 a3 : Int) (M : Mem) : Res := bcall (d_PP_passes a1 a2 M) fun v1 M2 => if w32 v1 = 0 then (k_PP_passesWithRoom_19 M2) else (if w32 a3 = 0 then (blet (sto M2 0 0 7) fun M5 => k_PP_passesWithRoom_19 M5) else (k_PP_passesWithRoom_19 M2))
theorem t_PP_passesWithRoom (l : Launch) (G : GX) {lev : Nat} (hlev : 1 ≤ lev) {a1 a2 a3 : Int} {M : Mem} {r : Int × Mem} (h : d_PP_passesWithRoom a1 a2 a3 M = some r) : Mt l G y_PP_passesWithRoom b_PP_passesWithRoom 4 (some .boolean) lev 1 [.ref (G.1 + 0), vi a1, vi a2, vi a3] M r := by
  refine Mt.of (by decide) (i_le rfl) ?_
  intro p e s m args below meth c C
  have C : Cx p s m args meth c G b_PP_passesWithRoom 4 "PrairiePool" (some .boolean) := C
  unfold d_PP_passesWithRoom at h
  refine z_sub (lv' := [(0, .ref (G.1 + 0)), (1, vi a1), (2, vi a2), (3, vi a3)]) [0, 1, 2, 3] rfl ?_
  refine z_aload_n C 0 x_PP_passesWithRoom_0 rfl ?_
  refine z_iload_n C 1 x_PP_passesWithRoom_1 rfl ?_
  refine z_iload_n C 2 x_PP_passesWithRoom_2 rfl ?_
  obtain ⟨v1, M2, fv1, h⟩ := bcall_e h
  refine z_callVi (k := 0) C x_PP_passesWithRoom_3 cv_PP_219 (t_PP_passes (lev := lev - 1) l G (by omega) fv1) nk_0 ck_0 rfl (by omega) rfl (i_le rfl) rfl ?_
  rcases ite_e h with ⟨c3, h⟩ | ⟨c3, h⟩
  · refine z_if_eq_t (tgt := 19) C x_PP_passesWithRoom_6 rfl c3 ?_
    exact z_sub [0] rfl (z_PP_passesWithRoom_19 C hlev h)
  · refine z_if_eq_f (tgt := 19) C x_PP_passesWithRoom_6 rfl c3 ?_
    refine z_iload_n C 3 x_PP_passesWithRoom_9 rfl ?_
    rcases ite_e h with ⟨c4, h⟩ | ⟨c4, h⟩
    · refine z_if_ne_f (tgt := 19) C x_PP_passesWithRoom_10 rfl c4 ?_
      refine z_aload_n C 0 x_PP_passesWithRoom_13 rfl ?_
      refine z_bipush C rfl x_PP_passesWithRoom_14 ?_
      obtain ⟨M5, eM5, h⟩ := blet_e h
      refine z_putI (j := 0) C x_PP_passesWithRoom_16 nk_0 ck_0 cw_11 (i_lt rfl) rfl rfl rfl rfl fl_PP_85 eM5 ?_
      exact z_sub [0] rfl (z_PP_passesWithRoom_19 C hlev h)
    · refine z_if_ne_t (tgt := 19) C x_PP_passesWithRoom_10 rfl c4 ?_
      exact z_sub [0] rfl (z_PP_passesWithRoom_19 C hlev h)
theorem x_PP_farm_0 : DC b_PP_farm 0 (.iload_n 2) 1 1 := ⟨by decide +kernel, rfl⟩
theorem x_PP_farm_1 : DC b_PP_farm 1 (.iconst 1) 1 2 := ⟨by decide +kernel, rfl⟩
theorem x_PP_farm_2 : DC b_PP_farm 2 (.sipush 5000) 3 5 := ⟨by decide +kernel, rfl⟩
theorem x_PP_farm_5 : DC b_PP_farm 5 (.invokestatic 89) 3 8 := ⟨by decide +kernel, rfl⟩
theorem x_PP_farm_8 : DC b_PP_farm 8 (.ifCond .eq 17) 3 11 := ⟨by decide +kernel, rfl⟩
theorem x_PP_farm_11 : DC b_PP_farm 11 (.iload_n 3) 1 12 := ⟨by decide +kernel, rfl⟩
theorem x_PP_farm_12 : DC b_PP_farm 12 (.iconst 0) 1 13 := ⟨by decide +kernel, rfl⟩
theorem x_PP_farm_13 : DC b_PP_farm 13 (.ldc 122) 2 15 := ⟨by decide +kernel, rfl⟩
theorem x_PP_farm_15 : DC b_PP_farm 15 (.invokestatic 89) 3 18 := ⟨by decide +kernel, rfl⟩
theorem x_PP_farm_18 : DC b_PP_farm 18 (.ifCond .eq 7) 3 21 := ⟨by decide +kernel, rfl⟩
theorem x_PP_farm_21 : DC b_PP_farm 21 (.iconst 1) 1 22 := ⟨by decide +kernel, rfl⟩
theorem x_PP_farm_22 : DC b_PP_farm 22 (.goto 4) 3 25 := ⟨by decide +kernel, rfl⟩
theorem x_PP_farm_25 : DC b_PP_farm 25 (.iconst 0) 1 26 := ⟨by decide +kernel, rfl⟩
theorem x_PP_farm_26 : DC b_PP_farm 26 (.istore 4) 2 28 := ⟨by decide +kernel, rfl⟩
theorem x_PP_farm_28 : DC b_PP_farm 28 (.aload_n 0) 1 29 := ⟨by decide +kernel, rfl⟩
theorem x_PP_farm_29 : DC b_PP_farm 29 (.iload_n 1) 1 30 := ⟨by decide +kernel, rfl⟩
theorem x_PP_farm_30 : DC b_PP_farm 30 (.invokestatic 123) 3 33 := ⟨by decide +kernel, rfl⟩
theorem x_PP_farm_33 : DC b_PP_farm 33 (.iload 4) 2 35 := ⟨by decide +kernel, rfl⟩
theorem x_PP_farm_35 : DC b_PP_farm 35 (.aload_n 0) 1 36 := ⟨by decide +kernel, rfl⟩
theorem x_PP_farm_36 : DC b_PP_farm 36 (.getfield 19) 3 39 := ⟨by decide +kernel, rfl⟩
theorem x_PP_farm_39 : DC b_PP_farm 39 (.getfield 127) 3 42 := ⟨by decide +kernel, rfl⟩
theorem x_PP_farm_42 : DC b_PP_farm 42 (.bipush 20) 2 44 := ⟨by decide +kernel, rfl⟩
theorem x_PP_farm_44 : DC b_PP_farm 44 (.if_icmp .ge 7) 3 47 := ⟨by decide +kernel, rfl⟩
theorem x_PP_farm_47 : DC b_PP_farm 47 (.iconst 1) 1 48 := ⟨by decide +kernel, rfl⟩
theorem x_PP_farm_48 : DC b_PP_farm 48 (.goto 4) 3 51 := ⟨by decide +kernel, rfl⟩
theorem x_PP_farm_51 : DC b_PP_farm 51 (.iconst 0) 1 52 := ⟨by decide +kernel, rfl⟩
theorem x_PP_farm_52 : DC b_PP_farm 52 (.invokevirtual 130) 3 55 := ⟨by decide +kernel, rfl⟩
theorem x_PP_farm_55 : DC b_PP_farm 55 (.ifCond .ne 5) 3 58 := ⟨by decide +kernel, rfl⟩
theorem x_PP_farm_58 : DC b_PP_farm 58 (.iconst (-1)) 1 59 := ⟨by decide +kernel, rfl⟩
theorem x_PP_farm_59 : DC b_PP_farm 59 (.ireturn) 1 60 := ⟨by decide +kernel, rfl⟩
theorem x_PP_farm_60 : DC b_PP_farm 60 (.aload_n 0) 1 61 := ⟨by decide +kernel, rfl⟩
theorem x_PP_farm_61 : DC b_PP_farm 61 (.getfield 19) 3 64 := ⟨by decide +kernel, rfl⟩
theorem x_PP_farm_64 : DC b_PP_farm 64 (.iload_n 1) 1 65 := ⟨by decide +kernel, rfl⟩
theorem x_PP_farm_65 : DC b_PP_farm 65 (.iload_n 2) 1 66 := ⟨by decide +kernel, rfl⟩
theorem x_PP_farm_66 : DC b_PP_farm 66 (.iload_n 3) 1 67 := ⟨by decide +kernel, rfl⟩
theorem x_PP_farm_67 : DC b_PP_farm 67 (.invokevirtual 134) 3 70 := ⟨by decide +kernel, rfl⟩
theorem x_PP_farm_70 : DC b_PP_farm 70 (.ireturn) 1 71 := ⟨by decide +kernel, rfl⟩
def k_PP_farm_52 (a1 a2 a3 s1 s2 s3 : Int) (M : Mem) : Res := bcall (d_PP_passesWithRoom s1 s2 s3 M) fun v1 M2 => if w32 v1 = 0 then (some ((-1), M2)) else (bcall (d_Pr_addFarm a1 a2 a3 M2) fun v4 M5 => some (v4, M5))
theorem z_PP_farm_52 (C : Cx p s m args meth c G b_PP_farm 5 "PrairiePool" (some .int)) (hlev : 2 ≤ lev) {r : Int × Mem}  {a1 a2 a3 s1 s2 s3 : Int} {M : Mem} (h : k_PP_farm_52 a1 a2 a3 s1 s2 s3 M = some r) : Z p l e lev s m args below meth c G 5 (MQ below (Qm G 1 r) args s 0 0 (Ab G)) M 52 [(0, .ref (G.1 + 0)), (1, vi a1), (2, vi a2), (3, vi a3)] [vi s3, vi s2, vi s1, .ref (G.1 + 0)] := by
  unfold k_PP_farm_52 at h
  obtain ⟨v1, M2, fv1, h⟩ := bcall_e h
  refine z_callVi (k := 0) C x_PP_farm_52 cv_PP_130 (t_PP_passesWithRoom (lev := lev - 1) l G (by omega) fv1) nk_0 ck_0 rfl (by omega) rfl (i_le rfl) rfl ?_
  rcases ite_e h with ⟨c3, h⟩ | ⟨c3, h⟩
  · refine z_if_ne_f (tgt := 60) C x_PP_farm_55 rfl c3 ?_
    refine z_iconst C x_PP_farm_58 ?_
    exact z_iret C x_PP_farm_59 h
  · refine z_if_ne_t (tgt := 60) C x_PP_farm_55 rfl c3 ?_
    refine z_aload_n C 0 x_PP_farm_60 rfl ?_
    refine z_getR (j := 2) C x_PP_farm_61 nk_0 ck_0 cw_11 (i_lt rfl) rfl rf_0_2 rfl fl_PP_19 ?_
    refine z_iload_n C 1 x_PP_farm_64 rfl ?_
    refine z_iload_n C 2 x_PP_farm_65 rfl ?_
    refine z_iload_n C 3 x_PP_farm_66 rfl ?_
    obtain ⟨v4, M5, fv4, h⟩ := bcall_e h
    refine z_callVi (k := 5) C x_PP_farm_67 cv_PP_134 (t_Pr_addFarm (lev := lev - 1) l G (by omega) fv4) nk_5 ck_5 rfl (by omega) rfl (i_le rfl) rfl ?_
    exact z_iret C x_PP_farm_70 h
def k_PP_farm_26 (a1 a2 a3 s0 : Int) (M : Mem) : Res := bcall (d_PP_isDistrict a1 M) fun v1 M2 => blet (M2 5 0) fun v3 => if w32 v3 < 20 then (k_PP_farm_52 a1 a2 a3 v1 s0 1 M2) else (k_PP_farm_52 a1 a2 a3 v1 s0 0 M2)
theorem z_PP_farm_26 (C : Cx p s m args meth c G b_PP_farm 5 "PrairiePool" (some .int)) (hlev : 2 ≤ lev) {r : Int × Mem}  {a1 a2 a3 s0 : Int} {M : Mem} (h : k_PP_farm_26 a1 a2 a3 s0 M = some r) : Z p l e lev s m args below meth c G 5 (MQ below (Qm G 1 r) args s 0 0 (Ab G)) M 26 [(0, .ref (G.1 + 0)), (1, vi a1), (2, vi a2), (3, vi a3)] [vi s0] := by
  unfold k_PP_farm_26 at h
  refine z_istore (lv' := [(4, vi s0), (0, .ref (G.1 + 0)), (1, vi a1), (2, vi a2), (3, vi a3)]) C rfl x_PP_farm_26 (i_lt rfl) rfl ?_
  refine z_aload_n C 1 x_PP_farm_28 rfl ?_
  refine z_iload_n C 2 x_PP_farm_29 rfl ?_
  obtain ⟨v1, M2, fv1, h⟩ := bcall_e h
  refine z_callSi C x_PP_farm_30 cs_PP_123 (t_PP_isDistrict (lev := lev - 1) l G (by omega) fv1) (by omega) rfl (i_le rfl) rfl ?_
  refine z_iload C 0 x_PP_farm_33 rfl ?_
  refine z_aload_n C 1 x_PP_farm_35 rfl ?_
  refine z_getR (j := 2) C x_PP_farm_36 nk_0 ck_0 cw_11 (i_lt rfl) rfl rf_0_2 rfl fl_PP_19 ?_
  obtain ⟨v3, ev3, h⟩ := blet_e h
  refine z_getI (j := 0) C x_PP_farm_39 nk_5 ck_5 cw_7 (i_lt rfl) rfl rfl fl_PP_127 ev3 ?_
  refine z_bipush C rfl x_PP_farm_42 ?_
  rcases ite_e h with ⟨c4, h⟩ | ⟨c4, h⟩
  · refine z_icmp_ge_f (tgt := 51) C x_PP_farm_44 rfl c4 ?_
    refine z_iconst C x_PP_farm_47 ?_
    refine z_goto (tgt := 52) C x_PP_farm_48 rfl ?_
    exact z_sub [1, 2, 3, 4] rfl (z_PP_farm_52 C hlev h)
  · refine z_icmp_ge_t (tgt := 51) C x_PP_farm_44 rfl c4 ?_
    refine z_iconst C x_PP_farm_51 ?_
    exact z_sub [1, 2, 3, 4] rfl (z_PP_farm_52 C hlev h)
def k_PP_farm_25 (a1 a2 a3 : Int) (M : Mem) : Res := k_PP_farm_26 a1 a2 a3 0 M
theorem z_PP_farm_25 (C : Cx p s m args meth c G b_PP_farm 5 "PrairiePool" (some .int)) (hlev : 2 ≤ lev) {r : Int × Mem}  {a1 a2 a3 : Int} {M : Mem} (h : k_PP_farm_25 a1 a2 a3 M = some r) : Z p l e lev s m args below meth c G 5 (MQ below (Qm G 1 r) args s 0 0 (Ab G)) M 25 [(0, .ref (G.1 + 0)), (1, vi a1), (2, vi a2), (3, vi a3)] [] := by
  unfold k_PP_farm_25 at h
  refine z_iconst C x_PP_farm_25 ?_
  exact z_sub [0, 1, 2, 3] rfl (z_PP_farm_26 C hlev h)
def d_PP_farm (a1 a2 a3 : Int) (M : Mem) : Res := bcall (d_PP_isIn a2 1 5000 M) fun v1 M2 => if w32 v1 = 0 then (k_PP_farm_25 a1 a2 a3 M2) else (bcall (d_PP_isIn a3 0 100000 M2) fun v4 M5 => if w32 v4 = 0 then (k_PP_farm_25 a1 a2 a3 M5) else (k_PP_farm_26 a1 a2 a3 1 M5))
theorem t_PP_farm (l : Launch) (G : GX) {lev : Nat} (hlev : 2 ≤ lev) {a1 a2 a3 : Int} {M : Mem} {r : Int × Mem} (h : d_PP_farm a1 a2 a3 M = some r) : Mt l G y_PP_farm b_PP_farm 5 (some .int) lev 1 [.ref (G.1 + 0), vi a1, vi a2, vi a3] M r := by
  refine Mt.of (by decide) (i_le rfl) ?_
  intro p e s m args below meth c C
  have C : Cx p s m args meth c G b_PP_farm 5 "PrairiePool" (some .int) := C
  unfold d_PP_farm at h
  refine z_sub (lv' := [(0, .ref (G.1 + 0)), (1, vi a1), (2, vi a2), (3, vi a3)]) [0, 1, 2, 3] rfl ?_
  refine z_iload_n C 2 x_PP_farm_0 rfl ?_
  refine z_iconst C x_PP_farm_1 ?_
  refine z_sipush C rfl x_PP_farm_2 ?_
  obtain ⟨v1, M2, fv1, h⟩ := bcall_e h
  refine z_callSi C x_PP_farm_5 cs_PP_89 (t_PP_isIn (lev := lev - 1) l G (by omega) fv1) (by omega) rfl (i_le rfl) rfl ?_
  rcases ite_e h with ⟨c3, h⟩ | ⟨c3, h⟩
  · refine z_if_eq_t (tgt := 25) C x_PP_farm_8 rfl c3 ?_
    exact z_sub [0, 1, 2, 3] rfl (z_PP_farm_25 C hlev h)
  · refine z_if_eq_f (tgt := 25) C x_PP_farm_8 rfl c3 ?_
    refine z_iload_n C 3 x_PP_farm_11 rfl ?_
    refine z_iconst C x_PP_farm_12 ?_
    refine z_ldc C kc_PP_122 x_PP_farm_13 ?_
    obtain ⟨v4, M5, fv4, h⟩ := bcall_e h
    refine z_callSi C x_PP_farm_15 cs_PP_89 (t_PP_isIn (lev := lev - 1) l G (by omega) fv4) (by omega) rfl (i_le rfl) rfl ?_
    rcases ite_e h with ⟨c6, h⟩ | ⟨c6, h⟩
    · refine z_if_eq_t (tgt := 25) C x_PP_farm_18 rfl c6 ?_
      exact z_sub [0, 1, 2, 3] rfl (z_PP_farm_25 C hlev h)
    · refine z_if_eq_f (tgt := 25) C x_PP_farm_18 rfl c6 ?_
      refine z_iconst C x_PP_farm_21 ?_
      refine z_goto (tgt := 26) C x_PP_farm_22 rfl ?_
      exact z_sub [0, 1, 2, 3] rfl (z_PP_farm_26 C hlev h)
theorem x_PP_elevator_0 : DC b_PP_elevator 0 (.iload_n 2) 1 1 := ⟨by decide +kernel, rfl⟩
theorem x_PP_elevator_1 : DC b_PP_elevator 1 (.iconst 1) 1 2 := ⟨by decide +kernel, rfl⟩
theorem x_PP_elevator_2 : DC b_PP_elevator 2 (.ldc 138) 2 4 := ⟨by decide +kernel, rfl⟩
theorem x_PP_elevator_4 : DC b_PP_elevator 4 (.invokestatic 89) 3 7 := ⟨by decide +kernel, rfl⟩
theorem x_PP_elevator_7 : DC b_PP_elevator 7 (.istore_n 3) 1 8 := ⟨by decide +kernel, rfl⟩
theorem x_PP_elevator_8 : DC b_PP_elevator 8 (.aload_n 0) 1 9 := ⟨by decide +kernel, rfl⟩
theorem x_PP_elevator_9 : DC b_PP_elevator 9 (.iload_n 1) 1 10 := ⟨by decide +kernel, rfl⟩
theorem x_PP_elevator_10 : DC b_PP_elevator 10 (.invokestatic 123) 3 13 := ⟨by decide +kernel, rfl⟩
theorem x_PP_elevator_13 : DC b_PP_elevator 13 (.iload_n 3) 1 14 := ⟨by decide +kernel, rfl⟩
theorem x_PP_elevator_14 : DC b_PP_elevator 14 (.aload_n 0) 1 15 := ⟨by decide +kernel, rfl⟩
theorem x_PP_elevator_15 : DC b_PP_elevator 15 (.getfield 19) 3 18 := ⟨by decide +kernel, rfl⟩
theorem x_PP_elevator_18 : DC b_PP_elevator 18 (.getfield 139) 3 21 := ⟨by decide +kernel, rfl⟩
theorem x_PP_elevator_21 : DC b_PP_elevator 21 (.bipush 8) 2 23 := ⟨by decide +kernel, rfl⟩
theorem x_PP_elevator_23 : DC b_PP_elevator 23 (.if_icmp .ge 7) 3 26 := ⟨by decide +kernel, rfl⟩
theorem x_PP_elevator_26 : DC b_PP_elevator 26 (.iconst 1) 1 27 := ⟨by decide +kernel, rfl⟩
theorem x_PP_elevator_27 : DC b_PP_elevator 27 (.goto 4) 3 30 := ⟨by decide +kernel, rfl⟩
theorem x_PP_elevator_30 : DC b_PP_elevator 30 (.iconst 0) 1 31 := ⟨by decide +kernel, rfl⟩
theorem x_PP_elevator_31 : DC b_PP_elevator 31 (.invokevirtual 130) 3 34 := ⟨by decide +kernel, rfl⟩
theorem x_PP_elevator_34 : DC b_PP_elevator 34 (.ifCond .ne 5) 3 37 := ⟨by decide +kernel, rfl⟩
theorem x_PP_elevator_37 : DC b_PP_elevator 37 (.iconst (-1)) 1 38 := ⟨by decide +kernel, rfl⟩
theorem x_PP_elevator_38 : DC b_PP_elevator 38 (.ireturn) 1 39 := ⟨by decide +kernel, rfl⟩
theorem x_PP_elevator_39 : DC b_PP_elevator 39 (.aload_n 0) 1 40 := ⟨by decide +kernel, rfl⟩
theorem x_PP_elevator_40 : DC b_PP_elevator 40 (.getfield 19) 3 43 := ⟨by decide +kernel, rfl⟩
theorem x_PP_elevator_43 : DC b_PP_elevator 43 (.iload_n 1) 1 44 := ⟨by decide +kernel, rfl⟩
theorem x_PP_elevator_44 : DC b_PP_elevator 44 (.iload_n 2) 1 45 := ⟨by decide +kernel, rfl⟩
theorem x_PP_elevator_45 : DC b_PP_elevator 45 (.invokevirtual 142) 3 48 := ⟨by decide +kernel, rfl⟩
theorem x_PP_elevator_48 : DC b_PP_elevator 48 (.ireturn) 1 49 := ⟨by decide +kernel, rfl⟩
def k_PP_elevator_31 (a1 a2 s1 s2 s3 : Int) (M : Mem) : Res := bcall (d_PP_passesWithRoom s1 s2 s3 M) fun v1 M2 => if w32 v1 = 0 then (some ((-1), M2)) else (bcall (d_Pr_addElevator a1 a2 M2) fun v4 M5 => some (v4, M5))
theorem z_PP_elevator_31 (C : Cx p s m args meth c G b_PP_elevator 4 "PrairiePool" (some .int)) (hlev : 2 ≤ lev) {r : Int × Mem}  {a1 a2 s1 s2 s3 : Int} {M : Mem} (h : k_PP_elevator_31 a1 a2 s1 s2 s3 M = some r) : Z p l e lev s m args below meth c G 4 (MQ below (Qm G 1 r) args s 0 0 (Ab G)) M 31 [(0, .ref (G.1 + 0)), (1, vi a1), (2, vi a2)] [vi s3, vi s2, vi s1, .ref (G.1 + 0)] := by
  unfold k_PP_elevator_31 at h
  obtain ⟨v1, M2, fv1, h⟩ := bcall_e h
  refine z_callVi (k := 0) C x_PP_elevator_31 cv_PP_130 (t_PP_passesWithRoom (lev := lev - 1) l G (by omega) fv1) nk_0 ck_0 rfl (by omega) rfl (i_le rfl) rfl ?_
  rcases ite_e h with ⟨c3, h⟩ | ⟨c3, h⟩
  · refine z_if_ne_f (tgt := 39) C x_PP_elevator_34 rfl c3 ?_
    refine z_iconst C x_PP_elevator_37 ?_
    exact z_iret C x_PP_elevator_38 h
  · refine z_if_ne_t (tgt := 39) C x_PP_elevator_34 rfl c3 ?_
    refine z_aload_n C 0 x_PP_elevator_39 rfl ?_
    refine z_getR (j := 2) C x_PP_elevator_40 nk_0 ck_0 cw_11 (i_lt rfl) rfl rf_0_2 rfl fl_PP_19 ?_
    refine z_iload_n C 1 x_PP_elevator_43 rfl ?_
    refine z_iload_n C 2 x_PP_elevator_44 rfl ?_
    obtain ⟨v4, M5, fv4, h⟩ := bcall_e h
    refine z_callVi (k := 5) C x_PP_elevator_45 cv_PP_142 (t_Pr_addElevator (lev := lev - 1) l G (by omega) fv4) nk_5 ck_5 rfl (by omega) rfl (i_le rfl) rfl ?_
    exact z_iret C x_PP_elevator_48 h
def d_PP_elevator (a1 a2 : Int) (M : Mem) : Res := bcall (d_PP_isIn a2 1 1000000 M) fun v1 M2 => bcall (d_PP_isDistrict a1 M2) fun v3 M4 => blet (M4 5 8) fun v5 => if w32 v5 < 8 then (k_PP_elevator_31 a1 a2 v3 v1 1 M4) else (k_PP_elevator_31 a1 a2 v3 v1 0 M4)
theorem t_PP_elevator (l : Launch) (G : GX) {lev : Nat} (hlev : 2 ≤ lev) {a1 a2 : Int} {M : Mem} {r : Int × Mem} (h : d_PP_elevator a1 a2 M = some r) : Mt l G y_PP_elevator b_PP_elevator 4 (some .int) lev 1 [.ref (G.1 + 0), vi a1, vi a2] M r := by
  refine Mt.of (by decide) (i_le rfl) ?_
  intro p e s m args below meth c C
  have C : Cx p s m args meth c G b_PP_elevator 4 "PrairiePool" (some .int) := C
  unfold d_PP_elevator at h
  refine z_sub (lv' := [(0, .ref (G.1 + 0)), (1, vi a1), (2, vi a2)]) [0, 1, 2] rfl ?_
  refine z_iload_n C 2 x_PP_elevator_0 rfl ?_
  refine z_iconst C x_PP_elevator_1 ?_
  refine z_ldc C kc_PP_138 x_PP_elevator_2 ?_
  obtain ⟨v1, M2, fv1, h⟩ := bcall_e h
  refine z_callSi C x_PP_elevator_4 cs_PP_89 (t_PP_isIn (lev := lev - 1) l G (by omega) fv1) (by omega) rfl (i_le rfl) rfl ?_
  refine z_istore_n (lv' := [(3, vi v1), (0, .ref (G.1 + 0)), (1, vi a1), (2, vi a2)]) C rfl x_PP_elevator_7 (i_lt rfl) rfl ?_
  refine z_aload_n C 1 x_PP_elevator_8 rfl ?_
  refine z_iload_n C 2 x_PP_elevator_9 rfl ?_
  obtain ⟨v3, M4, fv3, h⟩ := bcall_e h
  refine z_callSi C x_PP_elevator_10 cs_PP_123 (t_PP_isDistrict (lev := lev - 1) l G (by omega) fv3) (by omega) rfl (i_le rfl) rfl ?_
  refine z_iload_n C 0 x_PP_elevator_13 rfl ?_
  refine z_aload_n C 1 x_PP_elevator_14 rfl ?_
  refine z_getR (j := 2) C x_PP_elevator_15 nk_0 ck_0 cw_11 (i_lt rfl) rfl rf_0_2 rfl fl_PP_19 ?_
  obtain ⟨v5, ev5, h⟩ := blet_e h
  refine z_getI (j := 8) C x_PP_elevator_18 nk_5 ck_5 cw_7 (i_lt rfl) rfl rfl fl_PP_139 ev5 ?_
  refine z_bipush C rfl x_PP_elevator_21 ?_
  rcases ite_e h with ⟨c6, h⟩ | ⟨c6, h⟩
  · refine z_icmp_ge_f (tgt := 30) C x_PP_elevator_23 rfl c6 ?_
    refine z_iconst C x_PP_elevator_26 ?_
    refine z_goto (tgt := 31) C x_PP_elevator_27 rfl ?_
    exact z_sub [1, 2, 3] rfl (z_PP_elevator_31 C hlev h)
  · refine z_icmp_ge_t (tgt := 30) C x_PP_elevator_23 rfl c6 ?_
    refine z_iconst C x_PP_elevator_30 ?_
    exact z_sub [1, 2, 3] rfl (z_PP_elevator_31 C hlev h)
theorem x_PP_mayCome_0 : DC b_PP_mayCome 0 (.iload_n 3) 1 1 := ⟨by decide +kernel, rfl⟩
theorem x_PP_mayCome_1 : DC b_PP_mayCome 1 (.invokestatic 199) 3 4 := ⟨by decide +kernel, rfl⟩
theorem x_PP_mayCome_4 : DC b_PP_mayCome 4 (.ifCond .eq 21) 3 7 := ⟨by decide +kernel, rfl⟩
theorem x_PP_mayCome_7 : DC b_PP_mayCome 7 (.iload 4) 2 9 := ⟨by decide +kernel, rfl⟩
theorem x_PP_mayCome_9 : DC b_PP_mayCome 9 (.invokestatic 199) 3 12 := ⟨by decide +kernel, rfl⟩
theorem x_PP_mayCome_12 : DC b_PP_mayCome 12 (.ifCond .eq 13) 3 15 := ⟨by decide +kernel, rfl⟩
theorem x_PP_mayCome_15 : DC b_PP_mayCome 15 (.iload 4) 2 17 := ⟨by decide +kernel, rfl⟩
theorem x_PP_mayCome_17 : DC b_PP_mayCome 17 (.iload_n 3) 1 18 := ⟨by decide +kernel, rfl⟩
theorem x_PP_mayCome_18 : DC b_PP_mayCome 18 (.if_icmp .lt 7) 3 21 := ⟨by decide +kernel, rfl⟩
theorem x_PP_mayCome_21 : DC b_PP_mayCome 21 (.iconst 1) 1 22 := ⟨by decide +kernel, rfl⟩
theorem x_PP_mayCome_22 : DC b_PP_mayCome 22 (.goto 4) 3 25 := ⟨by decide +kernel, rfl⟩
theorem x_PP_mayCome_25 : DC b_PP_mayCome 25 (.iconst 0) 1 26 := ⟨by decide +kernel, rfl⟩
theorem x_PP_mayCome_26 : DC b_PP_mayCome 26 (.istore 5) 2 28 := ⟨by decide +kernel, rfl⟩
theorem x_PP_mayCome_28 : DC b_PP_mayCome 28 (.aload_n 0) 1 29 := ⟨by decide +kernel, rfl⟩
theorem x_PP_mayCome_29 : DC b_PP_mayCome 29 (.getfield 26) 3 32 := ⟨by decide +kernel, rfl⟩
theorem x_PP_mayCome_32 : DC b_PP_mayCome 32 (.getfield 407) 3 35 := ⟨by decide +kernel, rfl⟩
theorem x_PP_mayCome_35 : DC b_PP_mayCome 35 (.bipush 120) 2 37 := ⟨by decide +kernel, rfl⟩
theorem x_PP_mayCome_37 : DC b_PP_mayCome 37 (.if_icmp .ge 7) 3 40 := ⟨by decide +kernel, rfl⟩
theorem x_PP_mayCome_40 : DC b_PP_mayCome 40 (.iconst 1) 1 41 := ⟨by decide +kernel, rfl⟩
theorem x_PP_mayCome_41 : DC b_PP_mayCome 41 (.goto 4) 3 44 := ⟨by decide +kernel, rfl⟩
theorem x_PP_mayCome_44 : DC b_PP_mayCome 44 (.iconst 0) 1 45 := ⟨by decide +kernel, rfl⟩
theorem x_PP_mayCome_45 : DC b_PP_mayCome 45 (.istore 6) 2 47 := ⟨by decide +kernel, rfl⟩
theorem x_PP_mayCome_47 : DC b_PP_mayCome 47 (.aload_n 0) 1 48 := ⟨by decide +kernel, rfl⟩
theorem x_PP_mayCome_48 : DC b_PP_mayCome 48 (.iload_n 1) 1 49 := ⟨by decide +kernel, rfl⟩
theorem x_PP_mayCome_49 : DC b_PP_mayCome 49 (.iload_n 2) 1 50 := ⟨by decide +kernel, rfl⟩
theorem x_PP_mayCome_50 : DC b_PP_mayCome 50 (.ifCond .eq 12) 3 53 := ⟨by decide +kernel, rfl⟩
theorem x_PP_mayCome_53 : DC b_PP_mayCome 53 (.iload 5) 2 55 := ⟨by decide +kernel, rfl⟩
theorem x_PP_mayCome_55 : DC b_PP_mayCome 55 (.ifCond .eq 7) 3 58 := ⟨by decide +kernel, rfl⟩
theorem x_PP_mayCome_58 : DC b_PP_mayCome 58 (.iconst 1) 1 59 := ⟨by decide +kernel, rfl⟩
theorem x_PP_mayCome_59 : DC b_PP_mayCome 59 (.goto 4) 3 62 := ⟨by decide +kernel, rfl⟩
theorem x_PP_mayCome_62 : DC b_PP_mayCome 62 (.iconst 0) 1 63 := ⟨by decide +kernel, rfl⟩
theorem x_PP_mayCome_63 : DC b_PP_mayCome 63 (.iload 6) 2 65 := ⟨by decide +kernel, rfl⟩
theorem x_PP_mayCome_65 : DC b_PP_mayCome 65 (.invokevirtual 130) 3 68 := ⟨by decide +kernel, rfl⟩
theorem x_PP_mayCome_68 : DC b_PP_mayCome 68 (.ifCond .eq 22) 3 71 := ⟨by decide +kernel, rfl⟩
theorem x_PP_mayCome_71 : DC b_PP_mayCome 71 (.aload_n 0) 1 72 := ⟨by decide +kernel, rfl⟩
theorem x_PP_mayCome_72 : DC b_PP_mayCome 72 (.getfield 26) 3 75 := ⟨by decide +kernel, rfl⟩
theorem x_PP_mayCome_75 : DC b_PP_mayCome 75 (.iload_n 3) 1 76 := ⟨by decide +kernel, rfl⟩
theorem x_PP_mayCome_76 : DC b_PP_mayCome 76 (.iload 4) 2 78 := ⟨by decide +kernel, rfl⟩
theorem x_PP_mayCome_78 : DC b_PP_mayCome 78 (.invokevirtual 410) 3 81 := ⟨by decide +kernel, rfl⟩
theorem x_PP_mayCome_81 : DC b_PP_mayCome 81 (.ifCond .eq 9) 3 84 := ⟨by decide +kernel, rfl⟩
theorem x_PP_mayCome_84 : DC b_PP_mayCome 84 (.aload_n 0) 1 85 := ⟨by decide +kernel, rfl⟩
theorem x_PP_mayCome_85 : DC b_PP_mayCome 85 (.bipush 12) 2 87 := ⟨by decide +kernel, rfl⟩
theorem x_PP_mayCome_87 : DC b_PP_mayCome 87 (.putfield 85) 3 90 := ⟨by decide +kernel, rfl⟩
theorem x_PP_mayCome_90 : DC b_PP_mayCome 90 (.aload_n 0) 1 91 := ⟨by decide +kernel, rfl⟩
theorem x_PP_mayCome_91 : DC b_PP_mayCome 91 (.getfield 85) 3 94 := ⟨by decide +kernel, rfl⟩
theorem x_PP_mayCome_94 : DC b_PP_mayCome 94 (.ifCond .ne 7) 3 97 := ⟨by decide +kernel, rfl⟩
theorem x_PP_mayCome_97 : DC b_PP_mayCome 97 (.iconst 1) 1 98 := ⟨by decide +kernel, rfl⟩
theorem x_PP_mayCome_98 : DC b_PP_mayCome 98 (.goto 4) 3 101 := ⟨by decide +kernel, rfl⟩
theorem x_PP_mayCome_101 : DC b_PP_mayCome 101 (.iconst 0) 1 102 := ⟨by decide +kernel, rfl⟩
theorem x_PP_mayCome_102 : DC b_PP_mayCome 102 (.ireturn) 1 103 := ⟨by decide +kernel, rfl⟩
def k_PP_mayCome_90 (M : Mem) : Res := blet (M 0 0) fun v1 => if w32 v1 = 0 then (some (1, M)) else (some (0, M))
theorem z_PP_mayCome_90 (C : Cx p s m args meth c G b_PP_mayCome 7 "PrairiePool" (some .boolean)) (hlev : 2 ≤ lev) {r : Int × Mem}  {M : Mem} (h : k_PP_mayCome_90 M = some r) : Z p l e lev s m args below meth c G 7 (MQ below (Qm G 1 r) args s 0 0 (Ab G)) M 90 [(0, .ref (G.1 + 0))] [] := by
  unfold k_PP_mayCome_90 at h
  refine z_aload_n C 0 x_PP_mayCome_90 rfl ?_
  obtain ⟨v1, ev1, h⟩ := blet_e h
  refine z_getI (j := 0) C x_PP_mayCome_91 nk_0 ck_0 cw_11 (i_lt rfl) rfl rfl fl_PP_85 ev1 ?_
  rcases ite_e h with ⟨c2, h⟩ | ⟨c2, h⟩
  · refine z_if_ne_f (tgt := 101) C x_PP_mayCome_94 rfl c2 ?_
    refine z_iconst C x_PP_mayCome_97 ?_
    refine z_goto (tgt := 102) C x_PP_mayCome_98 rfl ?_
    exact z_zret C x_PP_mayCome_102 (by decide) h
  · refine z_if_ne_t (tgt := 101) C x_PP_mayCome_94 rfl c2 ?_
    refine z_iconst C x_PP_mayCome_101 ?_
    exact z_zret C x_PP_mayCome_102 (by decide) h
def k_PP_mayCome_63 (a3 a4 a6 s1 s2 : Int) (M : Mem) : Res := bcall (d_PP_passesWithRoom s1 s2 a6 M) fun v1 M2 => if w32 v1 = 0 then (k_PP_mayCome_90 M2) else (bcall (d_Jo_isGone a3 a4 M2) fun v4 M5 => if w32 v4 = 0 then (k_PP_mayCome_90 M5) else (blet (sto M5 0 0 12) fun M7 => k_PP_mayCome_90 M7))
theorem z_PP_mayCome_63 (C : Cx p s m args meth c G b_PP_mayCome 7 "PrairiePool" (some .boolean)) (hlev : 2 ≤ lev) {r : Int × Mem}  {a3 a4 a6 s1 s2 : Int} {M : Mem} (h : k_PP_mayCome_63 a3 a4 a6 s1 s2 M = some r) : Z p l e lev s m args below meth c G 7 (MQ below (Qm G 1 r) args s 0 0 (Ab G)) M 63 [(0, .ref (G.1 + 0)), (3, vi a3), (4, vi a4), (6, vi a6)] [vi s2, vi s1, .ref (G.1 + 0)] := by
  unfold k_PP_mayCome_63 at h
  refine z_iload C 3 x_PP_mayCome_63 rfl ?_
  obtain ⟨v1, M2, fv1, h⟩ := bcall_e h
  refine z_callVi (k := 0) C x_PP_mayCome_65 cv_PP_130 (t_PP_passesWithRoom (lev := lev - 1) l G (by omega) fv1) nk_0 ck_0 rfl (by omega) rfl (i_le rfl) rfl ?_
  rcases ite_e h with ⟨c3, h⟩ | ⟨c3, h⟩
  · refine z_if_eq_t (tgt := 90) C x_PP_mayCome_68 rfl c3 ?_
    exact z_sub [0] rfl (z_PP_mayCome_90 C hlev h)
  · refine z_if_eq_f (tgt := 90) C x_PP_mayCome_68 rfl c3 ?_
    refine z_aload_n C 0 x_PP_mayCome_71 rfl ?_
    refine z_getR (j := 3) C x_PP_mayCome_72 nk_0 ck_0 cw_11 (i_lt rfl) rfl rf_0_3 rfl fl_PP_26 ?_
    refine z_iload_n C 1 x_PP_mayCome_75 rfl ?_
    refine z_iload C 2 x_PP_mayCome_76 rfl ?_
    obtain ⟨v4, M5, fv4, h⟩ := bcall_e h
    refine z_callVi (k := 15) C x_PP_mayCome_78 cv_PP_410 (t_Jo_isGone (lev := lev - 1) l G (by omega) fv4) nk_15 ck_15 rfl (by omega) rfl (i_le rfl) rfl ?_
    rcases ite_e h with ⟨c6, h⟩ | ⟨c6, h⟩
    · refine z_if_eq_t (tgt := 90) C x_PP_mayCome_81 rfl c6 ?_
      exact z_sub [0] rfl (z_PP_mayCome_90 C hlev h)
    · refine z_if_eq_f (tgt := 90) C x_PP_mayCome_81 rfl c6 ?_
      refine z_aload_n C 0 x_PP_mayCome_84 rfl ?_
      refine z_bipush C rfl x_PP_mayCome_85 ?_
      obtain ⟨M7, eM7, h⟩ := blet_e h
      refine z_putI (j := 0) C x_PP_mayCome_87 nk_0 ck_0 cw_11 (i_lt rfl) rfl rfl rfl rfl fl_PP_85 eM7 ?_
      exact z_sub [0] rfl (z_PP_mayCome_90 C hlev h)
def k_PP_mayCome_62 (a3 a4 a6 s1 : Int) (M : Mem) : Res := k_PP_mayCome_63 a3 a4 a6 s1 0 M
theorem z_PP_mayCome_62 (C : Cx p s m args meth c G b_PP_mayCome 7 "PrairiePool" (some .boolean)) (hlev : 2 ≤ lev) {r : Int × Mem}  {a3 a4 a6 s1 : Int} {M : Mem} (h : k_PP_mayCome_62 a3 a4 a6 s1 M = some r) : Z p l e lev s m args below meth c G 7 (MQ below (Qm G 1 r) args s 0 0 (Ab G)) M 62 [(0, .ref (G.1 + 0)), (3, vi a3), (4, vi a4), (6, vi a6)] [vi s1, .ref (G.1 + 0)] := by
  unfold k_PP_mayCome_62 at h
  refine z_iconst C x_PP_mayCome_62 ?_
  exact z_sub [0, 1, 2, 3] rfl (z_PP_mayCome_63 C hlev h)
def k_PP_mayCome_45 (a1 a2 a3 a4 a5 s0 : Int) (M : Mem) : Res := if w32 a2 = 0 then (k_PP_mayCome_62 a3 a4 s0 a1 M) else (if w32 a5 = 0 then (k_PP_mayCome_62 a3 a4 s0 a1 M) else (k_PP_mayCome_63 a3 a4 s0 a1 1 M))
theorem z_PP_mayCome_45 (C : Cx p s m args meth c G b_PP_mayCome 7 "PrairiePool" (some .boolean)) (hlev : 2 ≤ lev) {r : Int × Mem}  {a1 a2 a3 a4 a5 s0 : Int} {M : Mem} (h : k_PP_mayCome_45 a1 a2 a3 a4 a5 s0 M = some r) : Z p l e lev s m args below meth c G 7 (MQ below (Qm G 1 r) args s 0 0 (Ab G)) M 45 [(0, .ref (G.1 + 0)), (1, vi a1), (2, vi a2), (3, vi a3), (4, vi a4), (5, vi a5)] [vi s0] := by
  unfold k_PP_mayCome_45 at h
  refine z_istore (lv' := [(6, vi s0), (0, .ref (G.1 + 0)), (1, vi a1), (2, vi a2), (3, vi a3), (4, vi a4), (5, vi a5)]) C rfl x_PP_mayCome_45 (i_lt rfl) rfl ?_
  refine z_aload_n C 1 x_PP_mayCome_47 rfl ?_
  refine z_iload_n C 2 x_PP_mayCome_48 rfl ?_
  refine z_iload_n C 3 x_PP_mayCome_49 rfl ?_
  rcases ite_e h with ⟨c1, h⟩ | ⟨c1, h⟩
  · refine z_if_eq_t (tgt := 62) C x_PP_mayCome_50 rfl c1 ?_
    exact z_sub [1, 4, 5, 0] rfl (z_PP_mayCome_62 C hlev h)
  · refine z_if_eq_f (tgt := 62) C x_PP_mayCome_50 rfl c1 ?_
    refine z_iload C 6 x_PP_mayCome_53 rfl ?_
    rcases ite_e h with ⟨c2, h⟩ | ⟨c2, h⟩
    · refine z_if_eq_t (tgt := 62) C x_PP_mayCome_55 rfl c2 ?_
      exact z_sub [1, 4, 5, 0] rfl (z_PP_mayCome_62 C hlev h)
    · refine z_if_eq_f (tgt := 62) C x_PP_mayCome_55 rfl c2 ?_
      refine z_iconst C x_PP_mayCome_58 ?_
      refine z_goto (tgt := 63) C x_PP_mayCome_59 rfl ?_
      exact z_sub [1, 4, 5, 0] rfl (z_PP_mayCome_63 C hlev h)
def k_PP_mayCome_26 (a1 a2 a3 a4 s0 : Int) (M : Mem) : Res := blet (M 15 0) fun v1 => if w32 v1 < 120 then (k_PP_mayCome_45 a1 a2 a3 a4 s0 1 M) else (k_PP_mayCome_45 a1 a2 a3 a4 s0 0 M)
theorem z_PP_mayCome_26 (C : Cx p s m args meth c G b_PP_mayCome 7 "PrairiePool" (some .boolean)) (hlev : 2 ≤ lev) {r : Int × Mem}  {a1 a2 a3 a4 s0 : Int} {M : Mem} (h : k_PP_mayCome_26 a1 a2 a3 a4 s0 M = some r) : Z p l e lev s m args below meth c G 7 (MQ below (Qm G 1 r) args s 0 0 (Ab G)) M 26 [(0, .ref (G.1 + 0)), (1, vi a1), (2, vi a2), (3, vi a3), (4, vi a4)] [vi s0] := by
  unfold k_PP_mayCome_26 at h
  refine z_istore (lv' := [(5, vi s0), (0, .ref (G.1 + 0)), (1, vi a1), (2, vi a2), (3, vi a3), (4, vi a4)]) C rfl x_PP_mayCome_26 (i_lt rfl) rfl ?_
  refine z_aload_n C 1 x_PP_mayCome_28 rfl ?_
  refine z_getR (j := 3) C x_PP_mayCome_29 nk_0 ck_0 cw_11 (i_lt rfl) rfl rf_0_3 rfl fl_PP_26 ?_
  obtain ⟨v1, ev1, h⟩ := blet_e h
  refine z_getI (j := 0) C x_PP_mayCome_32 nk_15 ck_15 cw_2 (i_lt rfl) rfl rfl fl_PP_407 ev1 ?_
  refine z_bipush C rfl x_PP_mayCome_35 ?_
  rcases ite_e h with ⟨c2, h⟩ | ⟨c2, h⟩
  · refine z_icmp_ge_f (tgt := 44) C x_PP_mayCome_37 rfl c2 ?_
    refine z_iconst C x_PP_mayCome_40 ?_
    refine z_goto (tgt := 45) C x_PP_mayCome_41 rfl ?_
    exact z_sub [1, 2, 3, 4, 5, 0] rfl (z_PP_mayCome_45 C hlev h)
  · refine z_icmp_ge_t (tgt := 44) C x_PP_mayCome_37 rfl c2 ?_
    refine z_iconst C x_PP_mayCome_44 ?_
    exact z_sub [1, 2, 3, 4, 5, 0] rfl (z_PP_mayCome_45 C hlev h)
def k_PP_mayCome_25 (a1 a2 a3 a4 : Int) (M : Mem) : Res := k_PP_mayCome_26 a1 a2 a3 a4 0 M
theorem z_PP_mayCome_25 (C : Cx p s m args meth c G b_PP_mayCome 7 "PrairiePool" (some .boolean)) (hlev : 2 ≤ lev) {r : Int × Mem}  {a1 a2 a3 a4 : Int} {M : Mem} (h : k_PP_mayCome_25 a1 a2 a3 a4 M = some r) : Z p l e lev s m args below meth c G 7 (MQ below (Qm G 1 r) args s 0 0 (Ab G)) M 25 [(0, .ref (G.1 + 0)), (1, vi a1), (2, vi a2), (3, vi a3), (4, vi a4)] [] := by
  unfold k_PP_mayCome_25 at h
  refine z_iconst C x_PP_mayCome_25 ?_
  exact z_sub [0, 1, 2, 3, 4] rfl (z_PP_mayCome_26 C hlev h)
def d_PP_mayCome (a1 a2 a3 a4 : Int) (M : Mem) : Res := bcall (d_PP_isWeek a3 M) fun v1 M2 => if w32 v1 = 0 then (k_PP_mayCome_25 a1 a2 a3 a4 M2) else (bcall (d_PP_isWeek a4 M2) fun v4 M5 => if w32 v4 = 0 then (k_PP_mayCome_25 a1 a2 a3 a4 M5) else (if w32 a4 < w32 a3 then (k_PP_mayCome_25 a1 a2 a3 a4 M5) else (k_PP_mayCome_26 a1 a2 a3 a4 1 M5)))
theorem t_PP_mayCome (l : Launch) (G : GX) {lev : Nat} (hlev : 2 ≤ lev) {a1 a2 a3 a4 : Int} {M : Mem} {r : Int × Mem} (h : d_PP_mayCome a1 a2 a3 a4 M = some r) : Mt l G y_PP_mayCome b_PP_mayCome 7 (some .boolean) lev 1 [.ref (G.1 + 0), vi a1, vi a2, vi a3, vi a4] M r := by
  refine Mt.of (by decide) (i_le rfl) ?_
  intro p e s m args below meth c C
  have C : Cx p s m args meth c G b_PP_mayCome 7 "PrairiePool" (some .boolean) := C
  unfold d_PP_mayCome at h
  refine z_sub (lv' := [(0, .ref (G.1 + 0)), (1, vi a1), (2, vi a2), (3, vi a3), (4, vi a4)]) [0, 1, 2, 3, 4] rfl ?_
  refine z_iload_n C 3 x_PP_mayCome_0 rfl ?_
  obtain ⟨v1, M2, fv1, h⟩ := bcall_e h
  refine z_callSi C x_PP_mayCome_1 cs_PP_199 (t_PP_isWeek (lev := lev - 1) l G (by omega) fv1) (by omega) rfl (i_le rfl) rfl ?_
  rcases ite_e h with ⟨c3, h⟩ | ⟨c3, h⟩
  · refine z_if_eq_t (tgt := 25) C x_PP_mayCome_4 rfl c3 ?_
    exact z_sub [0, 1, 2, 3, 4] rfl (z_PP_mayCome_25 C hlev h)
  · refine z_if_eq_f (tgt := 25) C x_PP_mayCome_4 rfl c3 ?_
    refine z_iload C 4 x_PP_mayCome_7 rfl ?_
    obtain ⟨v4, M5, fv4, h⟩ := bcall_e h
    refine z_callSi C x_PP_mayCome_9 cs_PP_199 (t_PP_isWeek (lev := lev - 1) l G (by omega) fv4) (by omega) rfl (i_le rfl) rfl ?_
    rcases ite_e h with ⟨c6, h⟩ | ⟨c6, h⟩
    · refine z_if_eq_t (tgt := 25) C x_PP_mayCome_12 rfl c6 ?_
      exact z_sub [0, 1, 2, 3, 4] rfl (z_PP_mayCome_25 C hlev h)
    · refine z_if_eq_f (tgt := 25) C x_PP_mayCome_12 rfl c6 ?_
      refine z_iload C 4 x_PP_mayCome_15 rfl ?_
      refine z_iload_n C 3 x_PP_mayCome_17 rfl ?_
      rcases ite_e h with ⟨c7, h⟩ | ⟨c7, h⟩
      · refine z_icmp_lt_t (tgt := 25) C x_PP_mayCome_18 rfl c7 ?_
        exact z_sub [0, 1, 2, 3, 4] rfl (z_PP_mayCome_25 C hlev h)
      · refine z_icmp_lt_f (tgt := 25) C x_PP_mayCome_18 rfl c7 ?_
        refine z_iconst C x_PP_mayCome_21 ?_
        refine z_goto (tgt := 26) C x_PP_mayCome_22 rfl ?_
        exact z_sub [0, 1, 2, 3, 4] rfl (z_PP_mayCome_26 C hlev h)
theorem x_PP_load_0 : DC b_PP_load 0 (.aload_n 0) 1 1 := ⟨by decide +kernel, rfl⟩
theorem x_PP_load_1 : DC b_PP_load 1 (.getfield 19) 3 4 := ⟨by decide +kernel, rfl⟩
theorem x_PP_load_4 : DC b_PP_load 4 (.iload_n 1) 1 5 := ⟨by decide +kernel, rfl⟩
theorem x_PP_load_5 : DC b_PP_load 5 (.invokevirtual 145) 3 8 := ⟨by decide +kernel, rfl⟩
theorem x_PP_load_8 : DC b_PP_load 8 (.ifCond .eq 18) 3 11 := ⟨by decide +kernel, rfl⟩
theorem x_PP_load_11 : DC b_PP_load 11 (.aload_n 0) 1 12 := ⟨by decide +kernel, rfl⟩
theorem x_PP_load_12 : DC b_PP_load 12 (.getfield 19) 3 15 := ⟨by decide +kernel, rfl⟩
theorem x_PP_load_15 : DC b_PP_load 15 (.iload_n 2) 1 16 := ⟨by decide +kernel, rfl⟩
theorem x_PP_load_16 : DC b_PP_load 16 (.invokevirtual 148) 3 19 := ⟨by decide +kernel, rfl⟩
theorem x_PP_load_19 : DC b_PP_load 19 (.ifCond .eq 7) 3 22 := ⟨by decide +kernel, rfl⟩
theorem x_PP_load_22 : DC b_PP_load 22 (.iconst 1) 1 23 := ⟨by decide +kernel, rfl⟩
theorem x_PP_load_23 : DC b_PP_load 23 (.goto 4) 3 26 := ⟨by decide +kernel, rfl⟩
theorem x_PP_load_26 : DC b_PP_load 26 (.iconst 0) 1 27 := ⟨by decide +kernel, rfl⟩
theorem x_PP_load_27 : DC b_PP_load 27 (.istore 7) 2 29 := ⟨by decide +kernel, rfl⟩
theorem x_PP_load_29 : DC b_PP_load 29 (.iload_n 3) 1 30 := ⟨by decide +kernel, rfl⟩
theorem x_PP_load_30 : DC b_PP_load 30 (.iconst 1) 1 31 := ⟨by decide +kernel, rfl⟩
theorem x_PP_load_31 : DC b_PP_load 31 (.sipush 10000) 3 34 := ⟨by decide +kernel, rfl⟩
theorem x_PP_load_34 : DC b_PP_load 34 (.invokestatic 89) 3 37 := ⟨by decide +kernel, rfl⟩
theorem x_PP_load_37 : DC b_PP_load 37 (.ifCond .eq 19) 3 40 := ⟨by decide +kernel, rfl⟩
theorem x_PP_load_40 : DC b_PP_load 40 (.iload 4) 2 42 := ⟨by decide +kernel, rfl⟩
theorem x_PP_load_42 : DC b_PP_load 42 (.iconst 0) 1 43 := ⟨by decide +kernel, rfl⟩
theorem x_PP_load_43 : DC b_PP_load 43 (.sipush 1000) 3 46 := ⟨by decide +kernel, rfl⟩
theorem x_PP_load_46 : DC b_PP_load 46 (.invokestatic 89) 3 49 := ⟨by decide +kernel, rfl⟩
theorem x_PP_load_49 : DC b_PP_load 49 (.ifCond .eq 7) 3 52 := ⟨by decide +kernel, rfl⟩
theorem x_PP_load_52 : DC b_PP_load 52 (.iconst 1) 1 53 := ⟨by decide +kernel, rfl⟩
theorem x_PP_load_53 : DC b_PP_load 53 (.goto 4) 3 56 := ⟨by decide +kernel, rfl⟩
theorem x_PP_load_56 : DC b_PP_load 56 (.iconst 0) 1 57 := ⟨by decide +kernel, rfl⟩
theorem x_PP_load_57 : DC b_PP_load 57 (.istore 8) 2 59 := ⟨by decide +kernel, rfl⟩
theorem x_PP_load_59 : DC b_PP_load 59 (.aload_n 0) 1 60 := ⟨by decide +kernel, rfl⟩
theorem x_PP_load_60 : DC b_PP_load 60 (.iload 7) 2 62 := ⟨by decide +kernel, rfl⟩
theorem x_PP_load_62 : DC b_PP_load 62 (.iload 8) 2 64 := ⟨by decide +kernel, rfl⟩
theorem x_PP_load_64 : DC b_PP_load 64 (.iload 5) 2 66 := ⟨by decide +kernel, rfl⟩
theorem x_PP_load_66 : DC b_PP_load 66 (.iload 6) 2 68 := ⟨by decide +kernel, rfl⟩
theorem x_PP_load_68 : DC b_PP_load 68 (.invokevirtual 151) 3 71 := ⟨by decide +kernel, rfl⟩
theorem x_PP_load_71 : DC b_PP_load 71 (.ifCond .ne 5) 3 74 := ⟨by decide +kernel, rfl⟩
theorem x_PP_load_74 : DC b_PP_load 74 (.iconst (-1)) 1 75 := ⟨by decide +kernel, rfl⟩
theorem x_PP_load_75 : DC b_PP_load 75 (.ireturn) 1 76 := ⟨by decide +kernel, rfl⟩
theorem x_PP_load_76 : DC b_PP_load 76 (.aload_n 0) 1 77 := ⟨by decide +kernel, rfl⟩
theorem x_PP_load_77 : DC b_PP_load 77 (.getfield 26) 3 80 := ⟨by decide +kernel, rfl⟩
theorem x_PP_load_80 : DC b_PP_load 80 (.iconst 0) 1 81 := ⟨by decide +kernel, rfl⟩
theorem x_PP_load_81 : DC b_PP_load 81 (.iload 5) 2 83 := ⟨by decide +kernel, rfl⟩
theorem x_PP_load_83 : DC b_PP_load 83 (.iload 6) 2 85 := ⟨by decide +kernel, rfl⟩
theorem x_PP_load_85 : DC b_PP_load 85 (.invokevirtual 155) 3 88 := ⟨by decide +kernel, rfl⟩
theorem x_PP_load_88 : DC b_PP_load 88 (.istore 9) 2 90 := ⟨by decide +kernel, rfl⟩
theorem x_PP_load_90 : DC b_PP_load 90 (.aload_n 0) 1 91 := ⟨by decide +kernel, rfl⟩
theorem x_PP_load_91 : DC b_PP_load 91 (.getfield 26) 3 94 := ⟨by decide +kernel, rfl⟩
theorem x_PP_load_94 : DC b_PP_load 94 (.getfield 158) 3 97 := ⟨by decide +kernel, rfl⟩
theorem x_PP_load_97 : DC b_PP_load 97 (.iload 9) 2 99 := ⟨by decide +kernel, rfl⟩
theorem x_PP_load_99 : DC b_PP_load 99 (.iload_n 1) 1 100 := ⟨by decide +kernel, rfl⟩
theorem x_PP_load_100 : DC b_PP_load 100 (.iastore) 1 101 := ⟨by decide +kernel, rfl⟩
theorem x_PP_load_101 : DC b_PP_load 101 (.aload_n 0) 1 102 := ⟨by decide +kernel, rfl⟩
theorem x_PP_load_102 : DC b_PP_load 102 (.getfield 26) 3 105 := ⟨by decide +kernel, rfl⟩
theorem x_PP_load_105 : DC b_PP_load 105 (.getfield 162) 3 108 := ⟨by decide +kernel, rfl⟩
theorem x_PP_load_108 : DC b_PP_load 108 (.iload 9) 2 110 := ⟨by decide +kernel, rfl⟩
theorem x_PP_load_110 : DC b_PP_load 110 (.iload_n 2) 1 111 := ⟨by decide +kernel, rfl⟩
theorem x_PP_load_111 : DC b_PP_load 111 (.iastore) 1 112 := ⟨by decide +kernel, rfl⟩
theorem x_PP_load_112 : DC b_PP_load 112 (.aload_n 0) 1 113 := ⟨by decide +kernel, rfl⟩
theorem x_PP_load_113 : DC b_PP_load 113 (.getfield 26) 3 116 := ⟨by decide +kernel, rfl⟩
theorem x_PP_load_116 : DC b_PP_load 116 (.getfield 165) 3 119 := ⟨by decide +kernel, rfl⟩
theorem x_PP_load_119 : DC b_PP_load 119 (.iload 9) 2 121 := ⟨by decide +kernel, rfl⟩
theorem x_PP_load_121 : DC b_PP_load 121 (.iload 5) 2 123 := ⟨by decide +kernel, rfl⟩
theorem x_PP_load_123 : DC b_PP_load 123 (.bipush 52) 2 125 := ⟨by decide +kernel, rfl⟩
theorem x_PP_load_125 : DC b_PP_load 125 (.idiv) 1 126 := ⟨by decide +kernel, rfl⟩
theorem x_PP_load_126 : DC b_PP_load 126 (.iastore) 1 127 := ⟨by decide +kernel, rfl⟩
theorem x_PP_load_127 : DC b_PP_load 127 (.aload_n 0) 1 128 := ⟨by decide +kernel, rfl⟩
theorem x_PP_load_128 : DC b_PP_load 128 (.getfield 26) 3 131 := ⟨by decide +kernel, rfl⟩
theorem x_PP_load_131 : DC b_PP_load 131 (.getfield 168) 3 134 := ⟨by decide +kernel, rfl⟩
theorem x_PP_load_134 : DC b_PP_load 134 (.iload 9) 2 136 := ⟨by decide +kernel, rfl⟩
theorem x_PP_load_136 : DC b_PP_load 136 (.iload_n 3) 1 137 := ⟨by decide +kernel, rfl⟩
theorem x_PP_load_137 : DC b_PP_load 137 (.iastore) 1 138 := ⟨by decide +kernel, rfl⟩
theorem x_PP_load_138 : DC b_PP_load 138 (.aload_n 0) 1 139 := ⟨by decide +kernel, rfl⟩
theorem x_PP_load_139 : DC b_PP_load 139 (.getfield 26) 3 142 := ⟨by decide +kernel, rfl⟩
theorem x_PP_load_142 : DC b_PP_load 142 (.getfield 171) 3 145 := ⟨by decide +kernel, rfl⟩
theorem x_PP_load_145 : DC b_PP_load 145 (.iload 9) 2 147 := ⟨by decide +kernel, rfl⟩
theorem x_PP_load_147 : DC b_PP_load 147 (.iload_n 3) 1 148 := ⟨by decide +kernel, rfl⟩
theorem x_PP_load_148 : DC b_PP_load 148 (.iload 4) 2 150 := ⟨by decide +kernel, rfl⟩
theorem x_PP_load_150 : DC b_PP_load 150 (.imul) 1 151 := ⟨by decide +kernel, rfl⟩
theorem x_PP_load_151 : DC b_PP_load 151 (.sipush 1000) 3 154 := ⟨by decide +kernel, rfl⟩
theorem x_PP_load_154 : DC b_PP_load 154 (.idiv) 1 155 := ⟨by decide +kernel, rfl⟩
theorem x_PP_load_155 : DC b_PP_load 155 (.iastore) 1 156 := ⟨by decide +kernel, rfl⟩
theorem x_PP_load_156 : DC b_PP_load 156 (.iload 9) 2 158 := ⟨by decide +kernel, rfl⟩
theorem x_PP_load_158 : DC b_PP_load 158 (.ireturn) 1 159 := ⟨by decide +kernel, rfl⟩
def k_PP_load_57 (a1 a2 a3 a4 a5 a6 a7 s0 : Int) (M : Mem) : Res := bcall (d_PP_mayCome a7 s0 a5 a6 M) fun v1 M2 => if w32 v1 = 0 then (some ((-1), M2)) else (bcall (d_Jo_enter 0 a5 a6 M2) fun v4 M5 => chk (0 ≤ w32 v4 ∧ w32 v4 < 120) <| blet (sto M5 17 (ix v4) a1) fun M7 => chk (0 ≤ w32 v4 ∧ w32 v4 < 120) <| blet (sto M7 18 (ix v4) a2) fun M9 => chk (0 ≤ w32 v4 ∧ w32 v4 < 120) <| blet (sto M9 21 (ix v4) (dv32 a5 52)) fun M11 => chk (0 ≤ w32 v4 ∧ w32 v4 < 120) <| blet (sto M11 22 (ix v4) a3) fun M13 => chk (0 ≤ w32 v4 ∧ w32 v4 < 120) <| blet (sto M13 23 (ix v4) (dv32 (a3 * a4) 1000)) fun M15 => some (v4, M15))
theorem z_PP_load_57 (C : Cx p s m args meth c G b_PP_load 10 "PrairiePool" (some .int)) (hlev : 3 ≤ lev) {r : Int × Mem}  {a1 a2 a3 a4 a5 a6 a7 s0 : Int} {M : Mem} (h : k_PP_load_57 a1 a2 a3 a4 a5 a6 a7 s0 M = some r) : Z p l e lev s m args below meth c G 10 (MQ below (Qm G 1 r) args s 0 0 (Ab G)) M 57 [(0, .ref (G.1 + 0)), (1, vi a1), (2, vi a2), (3, vi a3), (4, vi a4), (5, vi a5), (6, vi a6), (7, vi a7)] [vi s0] := by
  unfold k_PP_load_57 at h
  refine z_istore (lv' := [(8, vi s0), (0, .ref (G.1 + 0)), (1, vi a1), (2, vi a2), (3, vi a3), (4, vi a4), (5, vi a5), (6, vi a6), (7, vi a7)]) C rfl x_PP_load_57 (i_lt rfl) rfl ?_
  refine z_aload_n C 1 x_PP_load_59 rfl ?_
  refine z_iload C 8 x_PP_load_60 rfl ?_
  refine z_iload C 0 x_PP_load_62 rfl ?_
  refine z_iload C 6 x_PP_load_64 rfl ?_
  refine z_iload C 7 x_PP_load_66 rfl ?_
  obtain ⟨v1, M2, fv1, h⟩ := bcall_e h
  refine z_callVi (k := 0) C x_PP_load_68 cv_PP_151 (t_PP_mayCome (lev := lev - 1) l G (by omega) fv1) nk_0 ck_0 rfl (by omega) rfl (i_le rfl) rfl ?_
  rcases ite_e h with ⟨c3, h⟩ | ⟨c3, h⟩
  · refine z_if_ne_f (tgt := 76) C x_PP_load_71 rfl c3 ?_
    refine z_iconst C x_PP_load_74 ?_
    exact z_iret C x_PP_load_75 h
  · refine z_if_ne_t (tgt := 76) C x_PP_load_71 rfl c3 ?_
    refine z_aload_n C 1 x_PP_load_76 rfl ?_
    refine z_getR (j := 3) C x_PP_load_77 nk_0 ck_0 cw_11 (i_lt rfl) rfl rf_0_3 rfl fl_PP_26 ?_
    refine z_iconst C x_PP_load_80 ?_
    refine z_iload C 6 x_PP_load_81 rfl ?_
    refine z_iload C 7 x_PP_load_83 rfl ?_
    obtain ⟨v4, M5, fv4, h⟩ := bcall_e h
    refine z_callVi (k := 15) C x_PP_load_85 cv_PP_155 (t_Jo_enter (lev := lev - 1) l G (by omega) fv4) nk_15 ck_15 rfl (by omega) rfl (i_le rfl) rfl ?_
    refine z_istore (lv' := [(9, vi v4), (8, vi s0), (0, .ref (G.1 + 0)), (1, vi a1), (2, vi a2), (3, vi a3), (4, vi a4), (5, vi a5), (6, vi a6), (7, vi a7)]) C rfl x_PP_load_88 (i_lt rfl) rfl ?_
    refine z_aload_n C 2 x_PP_load_90 rfl ?_
    refine z_getR (j := 3) C x_PP_load_91 nk_0 ck_0 cw_11 (i_lt rfl) rfl rf_0_3 rfl fl_PP_26 ?_
    refine z_getR (j := 3) C x_PP_load_94 nk_15 ck_15 cw_2 (i_lt rfl) rfl rf_15_3 rfl fl_PP_158 ?_
    refine z_iload C 0 x_PP_load_97 rfl ?_
    refine z_iload_n C 3 x_PP_load_99 rfl ?_
    obtain ⟨c6, h⟩ := chk_e h
    obtain ⟨M7, eM7, h⟩ := blet_e h
    refine z_iast C x_PP_load_100 nk_17 ck_17 c6 eM7 ?_
    refine z_aload_n C 2 x_PP_load_101 rfl ?_
    refine z_getR (j := 3) C x_PP_load_102 nk_0 ck_0 cw_11 (i_lt rfl) rfl rf_0_3 rfl fl_PP_26 ?_
    refine z_getR (j := 4) C x_PP_load_105 nk_15 ck_15 cw_2 (i_lt rfl) rfl rf_15_4 rfl fl_PP_162 ?_
    refine z_iload C 0 x_PP_load_108 rfl ?_
    refine z_iload_n C 4 x_PP_load_110 rfl ?_
    obtain ⟨c8, h⟩ := chk_e h
    obtain ⟨M9, eM9, h⟩ := blet_e h
    refine z_iast C x_PP_load_111 nk_18 ck_18 c8 eM9 ?_
    refine z_aload_n C 2 x_PP_load_112 rfl ?_
    refine z_getR (j := 3) C x_PP_load_113 nk_0 ck_0 cw_11 (i_lt rfl) rfl rf_0_3 rfl fl_PP_26 ?_
    refine z_getR (j := 7) C x_PP_load_116 nk_15 ck_15 cw_2 (i_lt rfl) rfl rf_15_7 rfl fl_PP_165 ?_
    refine z_iload C 0 x_PP_load_119 rfl ?_
    refine z_iload C 7 x_PP_load_121 rfl ?_
    refine z_bipush C rfl x_PP_load_123 ?_
    refine z_idiv C (by decide) x_PP_load_125 ?_
    obtain ⟨c10, h⟩ := chk_e h
    obtain ⟨M11, eM11, h⟩ := blet_e h
    refine z_iast C x_PP_load_126 nk_21 ck_21 c10 eM11 ?_
    refine z_aload_n C 2 x_PP_load_127 rfl ?_
    refine z_getR (j := 3) C x_PP_load_128 nk_0 ck_0 cw_11 (i_lt rfl) rfl rf_0_3 rfl fl_PP_26 ?_
    refine z_getR (j := 8) C x_PP_load_131 nk_15 ck_15 cw_2 (i_lt rfl) rfl rf_15_8 rfl fl_PP_168 ?_
    refine z_iload C 0 x_PP_load_134 rfl ?_
    refine z_iload_n C 5 x_PP_load_136 rfl ?_
    obtain ⟨c12, h⟩ := chk_e h
    obtain ⟨M13, eM13, h⟩ := blet_e h
    refine z_iast C x_PP_load_137 nk_22 ck_22 c12 eM13 ?_
    refine z_aload_n C 2 x_PP_load_138 rfl ?_
    refine z_getR (j := 3) C x_PP_load_139 nk_0 ck_0 cw_11 (i_lt rfl) rfl rf_0_3 rfl fl_PP_26 ?_
    refine z_getR (j := 9) C x_PP_load_142 nk_15 ck_15 cw_2 (i_lt rfl) rfl rf_15_9 rfl fl_PP_171 ?_
    refine z_iload C 0 x_PP_load_145 rfl ?_
    refine z_iload_n C 5 x_PP_load_147 rfl ?_
    refine z_iload C 6 x_PP_load_148 rfl ?_
    refine z_imul C x_PP_load_150 ?_
    refine z_sipush C rfl x_PP_load_151 ?_
    refine z_idiv C (by decide) x_PP_load_154 ?_
    obtain ⟨c14, h⟩ := chk_e h
    obtain ⟨M15, eM15, h⟩ := blet_e h
    refine z_iast C x_PP_load_155 nk_23 ck_23 c14 eM15 ?_
    refine z_iload C 0 x_PP_load_156 rfl ?_
    exact z_iret C x_PP_load_158 h
def k_PP_load_56 (a1 a2 a3 a4 a5 a6 a7 : Int) (M : Mem) : Res := k_PP_load_57 a1 a2 a3 a4 a5 a6 a7 0 M
theorem z_PP_load_56 (C : Cx p s m args meth c G b_PP_load 10 "PrairiePool" (some .int)) (hlev : 3 ≤ lev) {r : Int × Mem}  {a1 a2 a3 a4 a5 a6 a7 : Int} {M : Mem} (h : k_PP_load_56 a1 a2 a3 a4 a5 a6 a7 M = some r) : Z p l e lev s m args below meth c G 10 (MQ below (Qm G 1 r) args s 0 0 (Ab G)) M 56 [(0, .ref (G.1 + 0)), (1, vi a1), (2, vi a2), (3, vi a3), (4, vi a4), (5, vi a5), (6, vi a6), (7, vi a7)] [] := by
  unfold k_PP_load_56 at h
  refine z_iconst C x_PP_load_56 ?_
  exact z_sub [0, 1, 2, 3, 4, 5, 6, 7] rfl (z_PP_load_57 C hlev h)
def k_PP_load_27 (a1 a2 a3 a4 a5 a6 s0 : Int) (M : Mem) : Res := bcall (d_PP_isIn a3 1 10000 M) fun v1 M2 => if w32 v1 = 0 then (k_PP_load_56 a1 a2 a3 a4 a5 a6 s0 M2) else (bcall (d_PP_isIn a4 0 1000 M2) fun v4 M5 => if w32 v4 = 0 then (k_PP_load_56 a1 a2 a3 a4 a5 a6 s0 M5) else (k_PP_load_57 a1 a2 a3 a4 a5 a6 s0 1 M5))
theorem z_PP_load_27 (C : Cx p s m args meth c G b_PP_load 10 "PrairiePool" (some .int)) (hlev : 3 ≤ lev) {r : Int × Mem}  {a1 a2 a3 a4 a5 a6 s0 : Int} {M : Mem} (h : k_PP_load_27 a1 a2 a3 a4 a5 a6 s0 M = some r) : Z p l e lev s m args below meth c G 10 (MQ below (Qm G 1 r) args s 0 0 (Ab G)) M 27 [(0, .ref (G.1 + 0)), (1, vi a1), (2, vi a2), (3, vi a3), (4, vi a4), (5, vi a5), (6, vi a6)] [vi s0] := by
  unfold k_PP_load_27 at h
  refine z_istore (lv' := [(7, vi s0), (0, .ref (G.1 + 0)), (1, vi a1), (2, vi a2), (3, vi a3), (4, vi a4), (5, vi a5), (6, vi a6)]) C rfl x_PP_load_27 (i_lt rfl) rfl ?_
  refine z_iload_n C 4 x_PP_load_29 rfl ?_
  refine z_iconst C x_PP_load_30 ?_
  refine z_sipush C rfl x_PP_load_31 ?_
  obtain ⟨v1, M2, fv1, h⟩ := bcall_e h
  refine z_callSi C x_PP_load_34 cs_PP_89 (t_PP_isIn (lev := lev - 1) l G (by omega) fv1) (by omega) rfl (i_le rfl) rfl ?_
  rcases ite_e h with ⟨c3, h⟩ | ⟨c3, h⟩
  · refine z_if_eq_t (tgt := 56) C x_PP_load_37 rfl c3 ?_
    exact z_sub [1, 2, 3, 4, 5, 6, 7, 0] rfl (z_PP_load_56 C hlev h)
  · refine z_if_eq_f (tgt := 56) C x_PP_load_37 rfl c3 ?_
    refine z_iload C 5 x_PP_load_40 rfl ?_
    refine z_iconst C x_PP_load_42 ?_
    refine z_sipush C rfl x_PP_load_43 ?_
    obtain ⟨v4, M5, fv4, h⟩ := bcall_e h
    refine z_callSi C x_PP_load_46 cs_PP_89 (t_PP_isIn (lev := lev - 1) l G (by omega) fv4) (by omega) rfl (i_le rfl) rfl ?_
    rcases ite_e h with ⟨c6, h⟩ | ⟨c6, h⟩
    · refine z_if_eq_t (tgt := 56) C x_PP_load_49 rfl c6 ?_
      exact z_sub [1, 2, 3, 4, 5, 6, 7, 0] rfl (z_PP_load_56 C hlev h)
    · refine z_if_eq_f (tgt := 56) C x_PP_load_49 rfl c6 ?_
      refine z_iconst C x_PP_load_52 ?_
      refine z_goto (tgt := 57) C x_PP_load_53 rfl ?_
      exact z_sub [1, 2, 3, 4, 5, 6, 7, 0] rfl (z_PP_load_57 C hlev h)
def k_PP_load_26 (a1 a2 a3 a4 a5 a6 : Int) (M : Mem) : Res := k_PP_load_27 a1 a2 a3 a4 a5 a6 0 M
theorem z_PP_load_26 (C : Cx p s m args meth c G b_PP_load 10 "PrairiePool" (some .int)) (hlev : 3 ≤ lev) {r : Int × Mem}  {a1 a2 a3 a4 a5 a6 : Int} {M : Mem} (h : k_PP_load_26 a1 a2 a3 a4 a5 a6 M = some r) : Z p l e lev s m args below meth c G 10 (MQ below (Qm G 1 r) args s 0 0 (Ab G)) M 26 [(0, .ref (G.1 + 0)), (1, vi a1), (2, vi a2), (3, vi a3), (4, vi a4), (5, vi a5), (6, vi a6)] [] := by
  unfold k_PP_load_26 at h
  refine z_iconst C x_PP_load_26 ?_
  exact z_sub [0, 1, 2, 3, 4, 5, 6] rfl (z_PP_load_27 C hlev h)
def d_PP_load (a1 a2 a3 a4 a5 a6 : Int) (M : Mem) : Res := bcall (d_Pr_hasFarm a1 M) fun v1 M2 => if w32 v1 = 0 then (k_PP_load_26 a1 a2 a3 a4 a5 a6 M2) else (bcall (d_Pr_hasElevator a2 M2) fun v4 M5 => if w32 v4 = 0 then (k_PP_load_26 a1 a2 a3 a4 a5 a6 M5) else (k_PP_load_27 a1 a2 a3 a4 a5 a6 1 M5))
theorem t_PP_load (l : Launch) (G : GX) {lev : Nat} (hlev : 3 ≤ lev) {a1 a2 a3 a4 a5 a6 : Int} {M : Mem} {r : Int × Mem} (h : d_PP_load a1 a2 a3 a4 a5 a6 M = some r) : Mt l G y_PP_load b_PP_load 10 (some .int) lev 1 [.ref (G.1 + 0), vi a1, vi a2, vi a3, vi a4, vi a5, vi a6] M r := by
  refine Mt.of (by decide) (i_le rfl) ?_
  intro p e s m args below meth c C
  have C : Cx p s m args meth c G b_PP_load 10 "PrairiePool" (some .int) := C
  unfold d_PP_load at h
  refine z_sub (lv' := [(0, .ref (G.1 + 0)), (1, vi a1), (2, vi a2), (3, vi a3), (4, vi a4), (5, vi a5), (6, vi a6)]) [0, 1, 2, 3, 4, 5, 6] rfl ?_
  refine z_aload_n C 0 x_PP_load_0 rfl ?_
  refine z_getR (j := 2) C x_PP_load_1 nk_0 ck_0 cw_11 (i_lt rfl) rfl rf_0_2 rfl fl_PP_19 ?_
  refine z_iload_n C 1 x_PP_load_4 rfl ?_
  obtain ⟨v1, M2, fv1, h⟩ := bcall_e h
  refine z_callVi (k := 5) C x_PP_load_5 cv_PP_145 (t_Pr_hasFarm (lev := lev - 1) l G (by omega) fv1) nk_5 ck_5 rfl (by omega) rfl (i_le rfl) rfl ?_
  rcases ite_e h with ⟨c3, h⟩ | ⟨c3, h⟩
  · refine z_if_eq_t (tgt := 26) C x_PP_load_8 rfl c3 ?_
    exact z_sub [0, 1, 2, 3, 4, 5, 6] rfl (z_PP_load_26 C hlev h)
  · refine z_if_eq_f (tgt := 26) C x_PP_load_8 rfl c3 ?_
    refine z_aload_n C 0 x_PP_load_11 rfl ?_
    refine z_getR (j := 2) C x_PP_load_12 nk_0 ck_0 cw_11 (i_lt rfl) rfl rf_0_2 rfl fl_PP_19 ?_
    refine z_iload_n C 2 x_PP_load_15 rfl ?_
    obtain ⟨v4, M5, fv4, h⟩ := bcall_e h
    refine z_callVi (k := 5) C x_PP_load_16 cv_PP_148 (t_Pr_hasElevator (lev := lev - 1) l G (by omega) fv4) nk_5 ck_5 rfl (by omega) rfl (i_le rfl) rfl ?_
    rcases ite_e h with ⟨c6, h⟩ | ⟨c6, h⟩
    · refine z_if_eq_t (tgt := 26) C x_PP_load_19 rfl c6 ?_
      exact z_sub [0, 1, 2, 3, 4, 5, 6] rfl (z_PP_load_26 C hlev h)
    · refine z_if_eq_f (tgt := 26) C x_PP_load_19 rfl c6 ?_
      refine z_iconst C x_PP_load_22 ?_
      refine z_goto (tgt := 27) C x_PP_load_23 rfl ?_
      exact z_sub [0, 1, 2, 3, 4, 5, 6] rfl (z_PP_load_27 C hlev h)
theorem x_PP_car_0 : DC b_PP_car 0 (.aload_n 0) 1 1 := ⟨by decide +kernel, rfl⟩
theorem x_PP_car_1 : DC b_PP_car 1 (.getfield 19) 3 4 := ⟨by decide +kernel, rfl⟩
theorem x_PP_car_4 : DC b_PP_car 4 (.iload_n 1) 1 5 := ⟨by decide +kernel, rfl⟩
theorem x_PP_car_5 : DC b_PP_car 5 (.invokevirtual 148) 3 8 := ⟨by decide +kernel, rfl⟩
theorem x_PP_car_8 : DC b_PP_car 8 (.ifCond .eq 21) 3 11 := ⟨by decide +kernel, rfl⟩
theorem x_PP_car_11 : DC b_PP_car 11 (.iload_n 2) 1 12 := ⟨by decide +kernel, rfl⟩
theorem x_PP_car_12 : DC b_PP_car 12 (.invokestatic 174) 3 15 := ⟨by decide +kernel, rfl⟩
theorem x_PP_car_15 : DC b_PP_car 15 (.ifCond .eq 14) 3 18 := ⟨by decide +kernel, rfl⟩
theorem x_PP_car_18 : DC b_PP_car 18 (.iload_n 3) 1 19 := ⟨by decide +kernel, rfl⟩
theorem x_PP_car_19 : DC b_PP_car 19 (.invokestatic 177) 3 22 := ⟨by decide +kernel, rfl⟩
theorem x_PP_car_22 : DC b_PP_car 22 (.ifCond .eq 7) 3 25 := ⟨by decide +kernel, rfl⟩
theorem x_PP_car_25 : DC b_PP_car 25 (.iconst 1) 1 26 := ⟨by decide +kernel, rfl⟩
theorem x_PP_car_26 : DC b_PP_car 26 (.goto 4) 3 29 := ⟨by decide +kernel, rfl⟩
theorem x_PP_car_29 : DC b_PP_car 29 (.iconst 0) 1 30 := ⟨by decide +kernel, rfl⟩
theorem x_PP_car_30 : DC b_PP_car 30 (.istore 8) 2 32 := ⟨by decide +kernel, rfl⟩
theorem x_PP_car_32 : DC b_PP_car 32 (.aload_n 0) 1 33 := ⟨by decide +kernel, rfl⟩
theorem x_PP_car_33 : DC b_PP_car 33 (.iload 8) 2 35 := ⟨by decide +kernel, rfl⟩
theorem x_PP_car_35 : DC b_PP_car 35 (.iload 4) 2 37 := ⟨by decide +kernel, rfl⟩
theorem x_PP_car_37 : DC b_PP_car 37 (.invokestatic 180) 3 40 := ⟨by decide +kernel, rfl⟩
theorem x_PP_car_40 : DC b_PP_car 40 (.ifCond .eq 18) 3 43 := ⟨by decide +kernel, rfl⟩
theorem x_PP_car_43 : DC b_PP_car 43 (.iload 5) 2 45 := ⟨by decide +kernel, rfl⟩
theorem x_PP_car_45 : DC b_PP_car 45 (.iconst 1) 1 46 := ⟨by decide +kernel, rfl⟩
theorem x_PP_car_46 : DC b_PP_car 46 (.ldc 122) 2 48 := ⟨by decide +kernel, rfl⟩
theorem x_PP_car_48 : DC b_PP_car 48 (.invokestatic 89) 3 51 := ⟨by decide +kernel, rfl⟩
theorem x_PP_car_51 : DC b_PP_car 51 (.ifCond .eq 7) 3 54 := ⟨by decide +kernel, rfl⟩
theorem x_PP_car_54 : DC b_PP_car 54 (.iconst 1) 1 55 := ⟨by decide +kernel, rfl⟩
theorem x_PP_car_55 : DC b_PP_car 55 (.goto 4) 3 58 := ⟨by decide +kernel, rfl⟩
theorem x_PP_car_58 : DC b_PP_car 58 (.iconst 0) 1 59 := ⟨by decide +kernel, rfl⟩
theorem x_PP_car_59 : DC b_PP_car 59 (.iload 6) 2 61 := ⟨by decide +kernel, rfl⟩
theorem x_PP_car_61 : DC b_PP_car 61 (.iload 7) 2 63 := ⟨by decide +kernel, rfl⟩
theorem x_PP_car_63 : DC b_PP_car 63 (.invokevirtual 151) 3 66 := ⟨by decide +kernel, rfl⟩
theorem x_PP_car_66 : DC b_PP_car 66 (.ifCond .ne 5) 3 69 := ⟨by decide +kernel, rfl⟩
theorem x_PP_car_69 : DC b_PP_car 69 (.iconst (-1)) 1 70 := ⟨by decide +kernel, rfl⟩
theorem x_PP_car_70 : DC b_PP_car 70 (.ireturn) 1 71 := ⟨by decide +kernel, rfl⟩
theorem x_PP_car_71 : DC b_PP_car 71 (.aload_n 0) 1 72 := ⟨by decide +kernel, rfl⟩
theorem x_PP_car_72 : DC b_PP_car 72 (.getfield 26) 3 75 := ⟨by decide +kernel, rfl⟩
theorem x_PP_car_75 : DC b_PP_car 75 (.iconst 1) 1 76 := ⟨by decide +kernel, rfl⟩
theorem x_PP_car_76 : DC b_PP_car 76 (.iload 6) 2 78 := ⟨by decide +kernel, rfl⟩
theorem x_PP_car_78 : DC b_PP_car 78 (.iload 7) 2 80 := ⟨by decide +kernel, rfl⟩
theorem x_PP_car_80 : DC b_PP_car 80 (.invokevirtual 155) 3 83 := ⟨by decide +kernel, rfl⟩
theorem x_PP_car_83 : DC b_PP_car 83 (.istore 9) 2 85 := ⟨by decide +kernel, rfl⟩
theorem x_PP_car_85 : DC b_PP_car 85 (.aload_n 0) 1 86 := ⟨by decide +kernel, rfl⟩
theorem x_PP_car_86 : DC b_PP_car 86 (.getfield 26) 3 89 := ⟨by decide +kernel, rfl⟩
theorem x_PP_car_89 : DC b_PP_car 89 (.getfield 162) 3 92 := ⟨by decide +kernel, rfl⟩
theorem x_PP_car_92 : DC b_PP_car 92 (.iload 9) 2 94 := ⟨by decide +kernel, rfl⟩
theorem x_PP_car_94 : DC b_PP_car 94 (.iload_n 1) 1 95 := ⟨by decide +kernel, rfl⟩
theorem x_PP_car_95 : DC b_PP_car 95 (.iastore) 1 96 := ⟨by decide +kernel, rfl⟩
theorem x_PP_car_96 : DC b_PP_car 96 (.aload_n 0) 1 97 := ⟨by decide +kernel, rfl⟩
theorem x_PP_car_97 : DC b_PP_car 97 (.getfield 26) 3 100 := ⟨by decide +kernel, rfl⟩
theorem x_PP_car_100 : DC b_PP_car 100 (.getfield 183) 3 103 := ⟨by decide +kernel, rfl⟩
theorem x_PP_car_103 : DC b_PP_car 103 (.iload 9) 2 105 := ⟨by decide +kernel, rfl⟩
theorem x_PP_car_105 : DC b_PP_car 105 (.iload_n 2) 1 106 := ⟨by decide +kernel, rfl⟩
theorem x_PP_car_106 : DC b_PP_car 106 (.iastore) 1 107 := ⟨by decide +kernel, rfl⟩
theorem x_PP_car_107 : DC b_PP_car 107 (.aload_n 0) 1 108 := ⟨by decide +kernel, rfl⟩
theorem x_PP_car_108 : DC b_PP_car 108 (.getfield 26) 3 111 := ⟨by decide +kernel, rfl⟩
theorem x_PP_car_111 : DC b_PP_car 111 (.iload 9) 2 113 := ⟨by decide +kernel, rfl⟩
theorem x_PP_car_113 : DC b_PP_car 113 (.iload_n 3) 1 114 := ⟨by decide +kernel, rfl⟩
theorem x_PP_car_114 : DC b_PP_car 114 (.iload 4) 2 116 := ⟨by decide +kernel, rfl⟩
theorem x_PP_car_116 : DC b_PP_car 116 (.iload 5) 2 118 := ⟨by decide +kernel, rfl⟩
theorem x_PP_car_118 : DC b_PP_car 118 (.invokevirtual 186) 3 121 := ⟨by decide +kernel, rfl⟩
theorem x_PP_car_121 : DC b_PP_car 121 (.iload 9) 2 123 := ⟨by decide +kernel, rfl⟩
theorem x_PP_car_123 : DC b_PP_car 123 (.ireturn) 1 124 := ⟨by decide +kernel, rfl⟩
def k_PP_car_59 (a1 a2 a3 a4 a5 a6 a7 s1 s2 : Int) (M : Mem) : Res := bcall (d_PP_mayCome s1 s2 a6 a7 M) fun v1 M2 => if w32 v1 = 0 then (some ((-1), M2)) else (bcall (d_Jo_enter 1 a6 a7 M2) fun v4 M5 => chk (0 ≤ w32 v4 ∧ w32 v4 < 120) <| blet (sto M5 18 (ix v4) a1) fun M7 => chk (0 ≤ w32 v4 ∧ w32 v4 < 120) <| blet (sto M7 19 (ix v4) a2) fun M9 => bcall (d_Jo_tellWhat v4 a3 a4 a5 M9) fun v10 M11 => some (v4, M11))
theorem z_PP_car_59 (C : Cx p s m args meth c G b_PP_car 10 "PrairiePool" (some .int)) (hlev : 3 ≤ lev) {r : Int × Mem}  {a1 a2 a3 a4 a5 a6 a7 s1 s2 : Int} {M : Mem} (h : k_PP_car_59 a1 a2 a3 a4 a5 a6 a7 s1 s2 M = some r) : Z p l e lev s m args below meth c G 10 (MQ below (Qm G 1 r) args s 0 0 (Ab G)) M 59 [(0, .ref (G.1 + 0)), (1, vi a1), (2, vi a2), (3, vi a3), (4, vi a4), (5, vi a5), (6, vi a6), (7, vi a7)] [vi s2, vi s1, .ref (G.1 + 0)] := by
  unfold k_PP_car_59 at h
  refine z_iload C 6 x_PP_car_59 rfl ?_
  refine z_iload C 7 x_PP_car_61 rfl ?_
  obtain ⟨v1, M2, fv1, h⟩ := bcall_e h
  refine z_callVi (k := 0) C x_PP_car_63 cv_PP_151 (t_PP_mayCome (lev := lev - 1) l G (by omega) fv1) nk_0 ck_0 rfl (by omega) rfl (i_le rfl) rfl ?_
  rcases ite_e h with ⟨c3, h⟩ | ⟨c3, h⟩
  · refine z_if_ne_f (tgt := 71) C x_PP_car_66 rfl c3 ?_
    refine z_iconst C x_PP_car_69 ?_
    exact z_iret C x_PP_car_70 h
  · refine z_if_ne_t (tgt := 71) C x_PP_car_66 rfl c3 ?_
    refine z_aload_n C 0 x_PP_car_71 rfl ?_
    refine z_getR (j := 3) C x_PP_car_72 nk_0 ck_0 cw_11 (i_lt rfl) rfl rf_0_3 rfl fl_PP_26 ?_
    refine z_iconst C x_PP_car_75 ?_
    refine z_iload C 6 x_PP_car_76 rfl ?_
    refine z_iload C 7 x_PP_car_78 rfl ?_
    obtain ⟨v4, M5, fv4, h⟩ := bcall_e h
    refine z_callVi (k := 15) C x_PP_car_80 cv_PP_155 (t_Jo_enter (lev := lev - 1) l G (by omega) fv4) nk_15 ck_15 rfl (by omega) rfl (i_le rfl) rfl ?_
    refine z_istore (lv' := [(9, vi v4), (0, .ref (G.1 + 0)), (1, vi a1), (2, vi a2), (3, vi a3), (4, vi a4), (5, vi a5), (6, vi a6), (7, vi a7)]) C rfl x_PP_car_83 (i_lt rfl) rfl ?_
    refine z_aload_n C 1 x_PP_car_85 rfl ?_
    refine z_getR (j := 3) C x_PP_car_86 nk_0 ck_0 cw_11 (i_lt rfl) rfl rf_0_3 rfl fl_PP_26 ?_
    refine z_getR (j := 4) C x_PP_car_89 nk_15 ck_15 cw_2 (i_lt rfl) rfl rf_15_4 rfl fl_PP_162 ?_
    refine z_iload C 0 x_PP_car_92 rfl ?_
    refine z_iload_n C 2 x_PP_car_94 rfl ?_
    obtain ⟨c6, h⟩ := chk_e h
    obtain ⟨M7, eM7, h⟩ := blet_e h
    refine z_iast C x_PP_car_95 nk_18 ck_18 c6 eM7 ?_
    refine z_aload_n C 1 x_PP_car_96 rfl ?_
    refine z_getR (j := 3) C x_PP_car_97 nk_0 ck_0 cw_11 (i_lt rfl) rfl rf_0_3 rfl fl_PP_26 ?_
    refine z_getR (j := 5) C x_PP_car_100 nk_15 ck_15 cw_2 (i_lt rfl) rfl rf_15_5 rfl fl_PP_183 ?_
    refine z_iload C 0 x_PP_car_103 rfl ?_
    refine z_iload_n C 3 x_PP_car_105 rfl ?_
    obtain ⟨c8, h⟩ := chk_e h
    obtain ⟨M9, eM9, h⟩ := blet_e h
    refine z_iast C x_PP_car_106 nk_19 ck_19 c8 eM9 ?_
    refine z_aload_n C 1 x_PP_car_107 rfl ?_
    refine z_getR (j := 3) C x_PP_car_108 nk_0 ck_0 cw_11 (i_lt rfl) rfl rf_0_3 rfl fl_PP_26 ?_
    refine z_iload C 0 x_PP_car_111 rfl ?_
    refine z_iload_n C 4 x_PP_car_113 rfl ?_
    refine z_iload C 5 x_PP_car_114 rfl ?_
    refine z_iload C 6 x_PP_car_116 rfl ?_
    obtain ⟨v10, M11, fv10, h⟩ := bcall_e h
    refine z_callVv (k := 15) C x_PP_car_118 cv_PP_186 (t_Jo_tellWhat (lev := lev - 1) l G (by omega) fv10) nk_15 ck_15 rfl (by omega) rfl (i_le rfl) rfl ?_
    refine z_iload C 0 x_PP_car_121 rfl ?_
    exact z_iret C x_PP_car_123 h
def k_PP_car_58 (a1 a2 a3 a4 a5 a6 a7 s1 : Int) (M : Mem) : Res := k_PP_car_59 a1 a2 a3 a4 a5 a6 a7 s1 0 M
theorem z_PP_car_58 (C : Cx p s m args meth c G b_PP_car 10 "PrairiePool" (some .int)) (hlev : 3 ≤ lev) {r : Int × Mem}  {a1 a2 a3 a4 a5 a6 a7 s1 : Int} {M : Mem} (h : k_PP_car_58 a1 a2 a3 a4 a5 a6 a7 s1 M = some r) : Z p l e lev s m args below meth c G 10 (MQ below (Qm G 1 r) args s 0 0 (Ab G)) M 58 [(0, .ref (G.1 + 0)), (1, vi a1), (2, vi a2), (3, vi a3), (4, vi a4), (5, vi a5), (6, vi a6), (7, vi a7)] [vi s1, .ref (G.1 + 0)] := by
  unfold k_PP_car_58 at h
  refine z_iconst C x_PP_car_58 ?_
  exact z_sub [0, 1, 2, 3, 4, 5, 6, 7] rfl (z_PP_car_59 C hlev h)
def k_PP_car_30 (a1 a2 a3 a4 a5 a6 a7 s0 : Int) (M : Mem) : Res := bcall (d_PP_isYear a4 M) fun v1 M2 => if w32 v1 = 0 then (k_PP_car_58 a1 a2 a3 a4 a5 a6 a7 s0 M2) else (bcall (d_PP_isIn a5 1 100000 M2) fun v4 M5 => if w32 v4 = 0 then (k_PP_car_58 a1 a2 a3 a4 a5 a6 a7 s0 M5) else (k_PP_car_59 a1 a2 a3 a4 a5 a6 a7 s0 1 M5))
theorem z_PP_car_30 (C : Cx p s m args meth c G b_PP_car 10 "PrairiePool" (some .int)) (hlev : 3 ≤ lev) {r : Int × Mem}  {a1 a2 a3 a4 a5 a6 a7 s0 : Int} {M : Mem} (h : k_PP_car_30 a1 a2 a3 a4 a5 a6 a7 s0 M = some r) : Z p l e lev s m args below meth c G 10 (MQ below (Qm G 1 r) args s 0 0 (Ab G)) M 30 [(0, .ref (G.1 + 0)), (1, vi a1), (2, vi a2), (3, vi a3), (4, vi a4), (5, vi a5), (6, vi a6), (7, vi a7)] [vi s0] := by
  unfold k_PP_car_30 at h
  refine z_istore (lv' := [(8, vi s0), (0, .ref (G.1 + 0)), (1, vi a1), (2, vi a2), (3, vi a3), (4, vi a4), (5, vi a5), (6, vi a6), (7, vi a7)]) C rfl x_PP_car_30 (i_lt rfl) rfl ?_
  refine z_aload_n C 1 x_PP_car_32 rfl ?_
  refine z_iload C 0 x_PP_car_33 rfl ?_
  refine z_iload C 5 x_PP_car_35 rfl ?_
  obtain ⟨v1, M2, fv1, h⟩ := bcall_e h
  refine z_callSi C x_PP_car_37 cs_PP_180 (t_PP_isYear (lev := lev - 1) l G (by omega) fv1) (by omega) rfl (i_le rfl) rfl ?_
  rcases ite_e h with ⟨c3, h⟩ | ⟨c3, h⟩
  · refine z_if_eq_t (tgt := 58) C x_PP_car_40 rfl c3 ?_
    exact z_sub [1, 2, 3, 4, 5, 6, 7, 8] rfl (z_PP_car_58 C hlev h)
  · refine z_if_eq_f (tgt := 58) C x_PP_car_40 rfl c3 ?_
    refine z_iload C 6 x_PP_car_43 rfl ?_
    refine z_iconst C x_PP_car_45 ?_
    refine z_ldc C kc_PP_122 x_PP_car_46 ?_
    obtain ⟨v4, M5, fv4, h⟩ := bcall_e h
    refine z_callSi C x_PP_car_48 cs_PP_89 (t_PP_isIn (lev := lev - 1) l G (by omega) fv4) (by omega) rfl (i_le rfl) rfl ?_
    rcases ite_e h with ⟨c6, h⟩ | ⟨c6, h⟩
    · refine z_if_eq_t (tgt := 58) C x_PP_car_51 rfl c6 ?_
      exact z_sub [1, 2, 3, 4, 5, 6, 7, 8] rfl (z_PP_car_58 C hlev h)
    · refine z_if_eq_f (tgt := 58) C x_PP_car_51 rfl c6 ?_
      refine z_iconst C x_PP_car_54 ?_
      refine z_goto (tgt := 59) C x_PP_car_55 rfl ?_
      exact z_sub [1, 2, 3, 4, 5, 6, 7, 8] rfl (z_PP_car_59 C hlev h)
def k_PP_car_29 (a1 a2 a3 a4 a5 a6 a7 : Int) (M : Mem) : Res := k_PP_car_30 a1 a2 a3 a4 a5 a6 a7 0 M
theorem z_PP_car_29 (C : Cx p s m args meth c G b_PP_car 10 "PrairiePool" (some .int)) (hlev : 3 ≤ lev) {r : Int × Mem}  {a1 a2 a3 a4 a5 a6 a7 : Int} {M : Mem} (h : k_PP_car_29 a1 a2 a3 a4 a5 a6 a7 M = some r) : Z p l e lev s m args below meth c G 10 (MQ below (Qm G 1 r) args s 0 0 (Ab G)) M 29 [(0, .ref (G.1 + 0)), (1, vi a1), (2, vi a2), (3, vi a3), (4, vi a4), (5, vi a5), (6, vi a6), (7, vi a7)] [] := by
  unfold k_PP_car_29 at h
  refine z_iconst C x_PP_car_29 ?_
  exact z_sub [0, 1, 2, 3, 4, 5, 6, 7] rfl (z_PP_car_30 C hlev h)
def d_PP_car (a1 a2 a3 a4 a5 a6 a7 : Int) (M : Mem) : Res := bcall (d_Pr_hasElevator a1 M) fun v1 M2 => if w32 v1 = 0 then (k_PP_car_29 a1 a2 a3 a4 a5 a6 a7 M2) else (bcall (d_PP_isPort a2 M2) fun v4 M5 => if w32 v4 = 0 then (k_PP_car_29 a1 a2 a3 a4 a5 a6 a7 M5) else (bcall (d_PP_isGrade a3 M5) fun v7 M8 => if w32 v7 = 0 then (k_PP_car_29 a1 a2 a3 a4 a5 a6 a7 M8) else (k_PP_car_30 a1 a2 a3 a4 a5 a6 a7 1 M8)))
theorem t_PP_car (l : Launch) (G : GX) {lev : Nat} (hlev : 3 ≤ lev) {a1 a2 a3 a4 a5 a6 a7 : Int} {M : Mem} {r : Int × Mem} (h : d_PP_car a1 a2 a3 a4 a5 a6 a7 M = some r) : Mt l G y_PP_car b_PP_car 10 (some .int) lev 1 [.ref (G.1 + 0), vi a1, vi a2, vi a3, vi a4, vi a5, vi a6, vi a7] M r := by
  refine Mt.of (by decide) (i_le rfl) ?_
  intro p e s m args below meth c C
  have C : Cx p s m args meth c G b_PP_car 10 "PrairiePool" (some .int) := C
  unfold d_PP_car at h
  refine z_sub (lv' := [(0, .ref (G.1 + 0)), (1, vi a1), (2, vi a2), (3, vi a3), (4, vi a4), (5, vi a5), (6, vi a6), (7, vi a7)]) [0, 1, 2, 3, 4, 5, 6, 7] rfl ?_
  refine z_aload_n C 0 x_PP_car_0 rfl ?_
  refine z_getR (j := 2) C x_PP_car_1 nk_0 ck_0 cw_11 (i_lt rfl) rfl rf_0_2 rfl fl_PP_19 ?_
  refine z_iload_n C 1 x_PP_car_4 rfl ?_
  obtain ⟨v1, M2, fv1, h⟩ := bcall_e h
  refine z_callVi (k := 5) C x_PP_car_5 cv_PP_148 (t_Pr_hasElevator (lev := lev - 1) l G (by omega) fv1) nk_5 ck_5 rfl (by omega) rfl (i_le rfl) rfl ?_
  rcases ite_e h with ⟨c3, h⟩ | ⟨c3, h⟩
  · refine z_if_eq_t (tgt := 29) C x_PP_car_8 rfl c3 ?_
    exact z_sub [0, 1, 2, 3, 4, 5, 6, 7] rfl (z_PP_car_29 C hlev h)
  · refine z_if_eq_f (tgt := 29) C x_PP_car_8 rfl c3 ?_
    refine z_iload_n C 2 x_PP_car_11 rfl ?_
    obtain ⟨v4, M5, fv4, h⟩ := bcall_e h
    refine z_callSi C x_PP_car_12 cs_PP_174 (t_PP_isPort (lev := lev - 1) l G (by omega) fv4) (by omega) rfl (i_le rfl) rfl ?_
    rcases ite_e h with ⟨c6, h⟩ | ⟨c6, h⟩
    · refine z_if_eq_t (tgt := 29) C x_PP_car_15 rfl c6 ?_
      exact z_sub [0, 1, 2, 3, 4, 5, 6, 7] rfl (z_PP_car_29 C hlev h)
    · refine z_if_eq_f (tgt := 29) C x_PP_car_15 rfl c6 ?_
      refine z_iload_n C 3 x_PP_car_18 rfl ?_
      obtain ⟨v7, M8, fv7, h⟩ := bcall_e h
      refine z_callSi C x_PP_car_19 cs_PP_177 (t_PP_isGrade (lev := lev - 1) l G (by omega) fv7) (by omega) rfl (i_le rfl) rfl ?_
      rcases ite_e h with ⟨c9, h⟩ | ⟨c9, h⟩
      · refine z_if_eq_t (tgt := 29) C x_PP_car_22 rfl c9 ?_
        exact z_sub [0, 1, 2, 3, 4, 5, 6, 7] rfl (z_PP_car_29 C hlev h)
      · refine z_if_eq_f (tgt := 29) C x_PP_car_22 rfl c9 ?_
        refine z_iconst C x_PP_car_25 ?_
        refine z_goto (tgt := 30) C x_PP_car_26 rfl ?_
        exact z_sub [0, 1, 2, 3, 4, 5, 6, 7] rfl (z_PP_car_30 C hlev h)
theorem x_PP_sale_0 : DC b_PP_sale 0 (.iload_n 3) 1 1 := ⟨by decide +kernel, rfl⟩
theorem x_PP_sale_1 : DC b_PP_sale 1 (.invokestatic 180) 3 4 := ⟨by decide +kernel, rfl⟩
theorem x_PP_sale_4 : DC b_PP_sale 4 (.ifCond .eq 26) 3 7 := ⟨by decide +kernel, rfl⟩
theorem x_PP_sale_7 : DC b_PP_sale 7 (.iload 4) 2 9 := ⟨by decide +kernel, rfl⟩
theorem x_PP_sale_9 : DC b_PP_sale 9 (.iconst 1) 1 10 := ⟨by decide +kernel, rfl⟩
theorem x_PP_sale_10 : DC b_PP_sale 10 (.ldc 122) 2 12 := ⟨by decide +kernel, rfl⟩
theorem x_PP_sale_12 : DC b_PP_sale 12 (.invokestatic 89) 3 15 := ⟨by decide +kernel, rfl⟩
theorem x_PP_sale_15 : DC b_PP_sale 15 (.ifCond .eq 15) 3 18 := ⟨by decide +kernel, rfl⟩
theorem x_PP_sale_18 : DC b_PP_sale 18 (.iload 5) 2 20 := ⟨by decide +kernel, rfl⟩
theorem x_PP_sale_20 : DC b_PP_sale 20 (.invokestatic 190) 3 23 := ⟨by decide +kernel, rfl⟩
theorem x_PP_sale_23 : DC b_PP_sale 23 (.ifCond .eq 7) 3 26 := ⟨by decide +kernel, rfl⟩
theorem x_PP_sale_26 : DC b_PP_sale 26 (.iconst 1) 1 27 := ⟨by decide +kernel, rfl⟩
theorem x_PP_sale_27 : DC b_PP_sale 27 (.goto 4) 3 30 := ⟨by decide +kernel, rfl⟩
theorem x_PP_sale_30 : DC b_PP_sale 30 (.iconst 0) 1 31 := ⟨by decide +kernel, rfl⟩
theorem x_PP_sale_31 : DC b_PP_sale 31 (.istore 8) 2 33 := ⟨by decide +kernel, rfl⟩
theorem x_PP_sale_33 : DC b_PP_sale 33 (.aload_n 0) 1 34 := ⟨by decide +kernel, rfl⟩
theorem x_PP_sale_34 : DC b_PP_sale 34 (.iload_n 1) 1 35 := ⟨by decide +kernel, rfl⟩
theorem x_PP_sale_35 : DC b_PP_sale 35 (.invokestatic 174) 3 38 := ⟨by decide +kernel, rfl⟩
theorem x_PP_sale_38 : DC b_PP_sale 38 (.ifCond .eq 14) 3 41 := ⟨by decide +kernel, rfl⟩
theorem x_PP_sale_41 : DC b_PP_sale 41 (.iload_n 2) 1 42 := ⟨by decide +kernel, rfl⟩
theorem x_PP_sale_42 : DC b_PP_sale 42 (.invokestatic 177) 3 45 := ⟨by decide +kernel, rfl⟩
theorem x_PP_sale_45 : DC b_PP_sale 45 (.ifCond .eq 7) 3 48 := ⟨by decide +kernel, rfl⟩
theorem x_PP_sale_48 : DC b_PP_sale 48 (.iconst 1) 1 49 := ⟨by decide +kernel, rfl⟩
theorem x_PP_sale_49 : DC b_PP_sale 49 (.goto 4) 3 52 := ⟨by decide +kernel, rfl⟩
theorem x_PP_sale_52 : DC b_PP_sale 52 (.iconst 0) 1 53 := ⟨by decide +kernel, rfl⟩
theorem x_PP_sale_53 : DC b_PP_sale 53 (.iload 8) 2 55 := ⟨by decide +kernel, rfl⟩
theorem x_PP_sale_55 : DC b_PP_sale 55 (.iload 6) 2 57 := ⟨by decide +kernel, rfl⟩
theorem x_PP_sale_57 : DC b_PP_sale 57 (.iload 7) 2 59 := ⟨by decide +kernel, rfl⟩
theorem x_PP_sale_59 : DC b_PP_sale 59 (.invokevirtual 151) 3 62 := ⟨by decide +kernel, rfl⟩
theorem x_PP_sale_62 : DC b_PP_sale 62 (.ifCond .ne 5) 3 65 := ⟨by decide +kernel, rfl⟩
theorem x_PP_sale_65 : DC b_PP_sale 65 (.iconst (-1)) 1 66 := ⟨by decide +kernel, rfl⟩
theorem x_PP_sale_66 : DC b_PP_sale 66 (.ireturn) 1 67 := ⟨by decide +kernel, rfl⟩
theorem x_PP_sale_67 : DC b_PP_sale 67 (.aload_n 0) 1 68 := ⟨by decide +kernel, rfl⟩
theorem x_PP_sale_68 : DC b_PP_sale 68 (.getfield 26) 3 71 := ⟨by decide +kernel, rfl⟩
theorem x_PP_sale_71 : DC b_PP_sale 71 (.iconst 2) 1 72 := ⟨by decide +kernel, rfl⟩
theorem x_PP_sale_72 : DC b_PP_sale 72 (.iload 6) 2 74 := ⟨by decide +kernel, rfl⟩
theorem x_PP_sale_74 : DC b_PP_sale 74 (.iload 7) 2 76 := ⟨by decide +kernel, rfl⟩
theorem x_PP_sale_76 : DC b_PP_sale 76 (.invokevirtual 155) 3 79 := ⟨by decide +kernel, rfl⟩
theorem x_PP_sale_79 : DC b_PP_sale 79 (.istore 9) 2 81 := ⟨by decide +kernel, rfl⟩
theorem x_PP_sale_81 : DC b_PP_sale 81 (.aload_n 0) 1 82 := ⟨by decide +kernel, rfl⟩
theorem x_PP_sale_82 : DC b_PP_sale 82 (.getfield 26) 3 85 := ⟨by decide +kernel, rfl⟩
theorem x_PP_sale_85 : DC b_PP_sale 85 (.getfield 183) 3 88 := ⟨by decide +kernel, rfl⟩
theorem x_PP_sale_88 : DC b_PP_sale 88 (.iload 9) 2 90 := ⟨by decide +kernel, rfl⟩
theorem x_PP_sale_90 : DC b_PP_sale 90 (.iload_n 1) 1 91 := ⟨by decide +kernel, rfl⟩
theorem x_PP_sale_91 : DC b_PP_sale 91 (.iastore) 1 92 := ⟨by decide +kernel, rfl⟩
theorem x_PP_sale_92 : DC b_PP_sale 92 (.aload_n 0) 1 93 := ⟨by decide +kernel, rfl⟩
theorem x_PP_sale_93 : DC b_PP_sale 93 (.getfield 26) 3 96 := ⟨by decide +kernel, rfl⟩
theorem x_PP_sale_96 : DC b_PP_sale 96 (.getfield 193) 3 99 := ⟨by decide +kernel, rfl⟩
theorem x_PP_sale_99 : DC b_PP_sale 99 (.iload 9) 2 101 := ⟨by decide +kernel, rfl⟩
theorem x_PP_sale_101 : DC b_PP_sale 101 (.iload 5) 2 103 := ⟨by decide +kernel, rfl⟩
theorem x_PP_sale_103 : DC b_PP_sale 103 (.iastore) 1 104 := ⟨by decide +kernel, rfl⟩
theorem x_PP_sale_104 : DC b_PP_sale 104 (.aload_n 0) 1 105 := ⟨by decide +kernel, rfl⟩
theorem x_PP_sale_105 : DC b_PP_sale 105 (.getfield 26) 3 108 := ⟨by decide +kernel, rfl⟩
theorem x_PP_sale_108 : DC b_PP_sale 108 (.iload 9) 2 110 := ⟨by decide +kernel, rfl⟩
theorem x_PP_sale_110 : DC b_PP_sale 110 (.iload_n 2) 1 111 := ⟨by decide +kernel, rfl⟩
theorem x_PP_sale_111 : DC b_PP_sale 111 (.iload_n 3) 1 112 := ⟨by decide +kernel, rfl⟩
theorem x_PP_sale_112 : DC b_PP_sale 112 (.iload 4) 2 114 := ⟨by decide +kernel, rfl⟩
theorem x_PP_sale_114 : DC b_PP_sale 114 (.invokevirtual 186) 3 117 := ⟨by decide +kernel, rfl⟩
theorem x_PP_sale_117 : DC b_PP_sale 117 (.iload 9) 2 119 := ⟨by decide +kernel, rfl⟩
theorem x_PP_sale_119 : DC b_PP_sale 119 (.ireturn) 1 120 := ⟨by decide +kernel, rfl⟩
def k_PP_sale_53 (a1 a2 a3 a4 a5 a6 a7 a8 s1 : Int) (M : Mem) : Res := bcall (d_PP_mayCome s1 a8 a6 a7 M) fun v1 M2 => if w32 v1 = 0 then (some ((-1), M2)) else (bcall (d_Jo_enter 2 a6 a7 M2) fun v4 M5 => chk (0 ≤ w32 v4 ∧ w32 v4 < 120) <| blet (sto M5 19 (ix v4) a1) fun M7 => chk (0 ≤ w32 v4 ∧ w32 v4 < 120) <| blet (sto M7 24 (ix v4) a5) fun M9 => bcall (d_Jo_tellWhat v4 a2 a3 a4 M9) fun v10 M11 => some (v4, M11))
theorem z_PP_sale_53 (C : Cx p s m args meth c G b_PP_sale 10 "PrairiePool" (some .int)) (hlev : 3 ≤ lev) {r : Int × Mem}  {a1 a2 a3 a4 a5 a6 a7 a8 s1 : Int} {M : Mem} (h : k_PP_sale_53 a1 a2 a3 a4 a5 a6 a7 a8 s1 M = some r) : Z p l e lev s m args below meth c G 10 (MQ below (Qm G 1 r) args s 0 0 (Ab G)) M 53 [(0, .ref (G.1 + 0)), (1, vi a1), (2, vi a2), (3, vi a3), (4, vi a4), (5, vi a5), (6, vi a6), (7, vi a7), (8, vi a8)] [vi s1, .ref (G.1 + 0)] := by
  unfold k_PP_sale_53 at h
  refine z_iload C 8 x_PP_sale_53 rfl ?_
  refine z_iload C 6 x_PP_sale_55 rfl ?_
  refine z_iload C 7 x_PP_sale_57 rfl ?_
  obtain ⟨v1, M2, fv1, h⟩ := bcall_e h
  refine z_callVi (k := 0) C x_PP_sale_59 cv_PP_151 (t_PP_mayCome (lev := lev - 1) l G (by omega) fv1) nk_0 ck_0 rfl (by omega) rfl (i_le rfl) rfl ?_
  rcases ite_e h with ⟨c3, h⟩ | ⟨c3, h⟩
  · refine z_if_ne_f (tgt := 67) C x_PP_sale_62 rfl c3 ?_
    refine z_iconst C x_PP_sale_65 ?_
    exact z_iret C x_PP_sale_66 h
  · refine z_if_ne_t (tgt := 67) C x_PP_sale_62 rfl c3 ?_
    refine z_aload_n C 0 x_PP_sale_67 rfl ?_
    refine z_getR (j := 3) C x_PP_sale_68 nk_0 ck_0 cw_11 (i_lt rfl) rfl rf_0_3 rfl fl_PP_26 ?_
    refine z_iconst C x_PP_sale_71 ?_
    refine z_iload C 6 x_PP_sale_72 rfl ?_
    refine z_iload C 7 x_PP_sale_74 rfl ?_
    obtain ⟨v4, M5, fv4, h⟩ := bcall_e h
    refine z_callVi (k := 15) C x_PP_sale_76 cv_PP_155 (t_Jo_enter (lev := lev - 1) l G (by omega) fv4) nk_15 ck_15 rfl (by omega) rfl (i_le rfl) rfl ?_
    refine z_istore (lv' := [(9, vi v4), (0, .ref (G.1 + 0)), (1, vi a1), (2, vi a2), (3, vi a3), (4, vi a4), (5, vi a5), (6, vi a6), (7, vi a7), (8, vi a8)]) C rfl x_PP_sale_79 (i_lt rfl) rfl ?_
    refine z_aload_n C 1 x_PP_sale_81 rfl ?_
    refine z_getR (j := 3) C x_PP_sale_82 nk_0 ck_0 cw_11 (i_lt rfl) rfl rf_0_3 rfl fl_PP_26 ?_
    refine z_getR (j := 5) C x_PP_sale_85 nk_15 ck_15 cw_2 (i_lt rfl) rfl rf_15_5 rfl fl_PP_183 ?_
    refine z_iload C 0 x_PP_sale_88 rfl ?_
    refine z_iload_n C 2 x_PP_sale_90 rfl ?_
    obtain ⟨c6, h⟩ := chk_e h
    obtain ⟨M7, eM7, h⟩ := blet_e h
    refine z_iast C x_PP_sale_91 nk_19 ck_19 c6 eM7 ?_
    refine z_aload_n C 1 x_PP_sale_92 rfl ?_
    refine z_getR (j := 3) C x_PP_sale_93 nk_0 ck_0 cw_11 (i_lt rfl) rfl rf_0_3 rfl fl_PP_26 ?_
    refine z_getR (j := 10) C x_PP_sale_96 nk_15 ck_15 cw_2 (i_lt rfl) rfl rf_15_10 rfl fl_PP_193 ?_
    refine z_iload C 0 x_PP_sale_99 rfl ?_
    refine z_iload C 6 x_PP_sale_101 rfl ?_
    obtain ⟨c8, h⟩ := chk_e h
    obtain ⟨M9, eM9, h⟩ := blet_e h
    refine z_iast C x_PP_sale_103 nk_24 ck_24 c8 eM9 ?_
    refine z_aload_n C 1 x_PP_sale_104 rfl ?_
    refine z_getR (j := 3) C x_PP_sale_105 nk_0 ck_0 cw_11 (i_lt rfl) rfl rf_0_3 rfl fl_PP_26 ?_
    refine z_iload C 0 x_PP_sale_108 rfl ?_
    refine z_iload_n C 3 x_PP_sale_110 rfl ?_
    refine z_iload_n C 4 x_PP_sale_111 rfl ?_
    refine z_iload C 5 x_PP_sale_112 rfl ?_
    obtain ⟨v10, M11, fv10, h⟩ := bcall_e h
    refine z_callVv (k := 15) C x_PP_sale_114 cv_PP_186 (t_Jo_tellWhat (lev := lev - 1) l G (by omega) fv10) nk_15 ck_15 rfl (by omega) rfl (i_le rfl) rfl ?_
    refine z_iload C 0 x_PP_sale_117 rfl ?_
    exact z_iret C x_PP_sale_119 h
def k_PP_sale_52 (a1 a2 a3 a4 a5 a6 a7 a8 : Int) (M : Mem) : Res := k_PP_sale_53 a1 a2 a3 a4 a5 a6 a7 a8 0 M
theorem z_PP_sale_52 (C : Cx p s m args meth c G b_PP_sale 10 "PrairiePool" (some .int)) (hlev : 3 ≤ lev) {r : Int × Mem}  {a1 a2 a3 a4 a5 a6 a7 a8 : Int} {M : Mem} (h : k_PP_sale_52 a1 a2 a3 a4 a5 a6 a7 a8 M = some r) : Z p l e lev s m args below meth c G 10 (MQ below (Qm G 1 r) args s 0 0 (Ab G)) M 52 [(0, .ref (G.1 + 0)), (1, vi a1), (2, vi a2), (3, vi a3), (4, vi a4), (5, vi a5), (6, vi a6), (7, vi a7), (8, vi a8)] [.ref (G.1 + 0)] := by
  unfold k_PP_sale_52 at h
  refine z_iconst C x_PP_sale_52 ?_
  exact z_sub [0, 1, 2, 3, 4, 5, 6, 7, 8] rfl (z_PP_sale_53 C hlev h)
def k_PP_sale_31 (a1 a2 a3 a4 a5 a6 a7 s0 : Int) (M : Mem) : Res := bcall (d_PP_isPort a1 M) fun v1 M2 => if w32 v1 = 0 then (k_PP_sale_52 a1 a2 a3 a4 a5 a6 a7 s0 M2) else (bcall (d_PP_isGrade a2 M2) fun v4 M5 => if w32 v4 = 0 then (k_PP_sale_52 a1 a2 a3 a4 a5 a6 a7 s0 M5) else (k_PP_sale_53 a1 a2 a3 a4 a5 a6 a7 s0 1 M5))
theorem z_PP_sale_31 (C : Cx p s m args meth c G b_PP_sale 10 "PrairiePool" (some .int)) (hlev : 3 ≤ lev) {r : Int × Mem}  {a1 a2 a3 a4 a5 a6 a7 s0 : Int} {M : Mem} (h : k_PP_sale_31 a1 a2 a3 a4 a5 a6 a7 s0 M = some r) : Z p l e lev s m args below meth c G 10 (MQ below (Qm G 1 r) args s 0 0 (Ab G)) M 31 [(0, .ref (G.1 + 0)), (1, vi a1), (2, vi a2), (3, vi a3), (4, vi a4), (5, vi a5), (6, vi a6), (7, vi a7)] [vi s0] := by
  unfold k_PP_sale_31 at h
  refine z_istore (lv' := [(8, vi s0), (0, .ref (G.1 + 0)), (1, vi a1), (2, vi a2), (3, vi a3), (4, vi a4), (5, vi a5), (6, vi a6), (7, vi a7)]) C rfl x_PP_sale_31 (i_lt rfl) rfl ?_
  refine z_aload_n C 1 x_PP_sale_33 rfl ?_
  refine z_iload_n C 2 x_PP_sale_34 rfl ?_
  obtain ⟨v1, M2, fv1, h⟩ := bcall_e h
  refine z_callSi C x_PP_sale_35 cs_PP_174 (t_PP_isPort (lev := lev - 1) l G (by omega) fv1) (by omega) rfl (i_le rfl) rfl ?_
  rcases ite_e h with ⟨c3, h⟩ | ⟨c3, h⟩
  · refine z_if_eq_t (tgt := 52) C x_PP_sale_38 rfl c3 ?_
    exact z_sub [1, 2, 3, 4, 5, 6, 7, 8, 0] rfl (z_PP_sale_52 C hlev h)
  · refine z_if_eq_f (tgt := 52) C x_PP_sale_38 rfl c3 ?_
    refine z_iload_n C 3 x_PP_sale_41 rfl ?_
    obtain ⟨v4, M5, fv4, h⟩ := bcall_e h
    refine z_callSi C x_PP_sale_42 cs_PP_177 (t_PP_isGrade (lev := lev - 1) l G (by omega) fv4) (by omega) rfl (i_le rfl) rfl ?_
    rcases ite_e h with ⟨c6, h⟩ | ⟨c6, h⟩
    · refine z_if_eq_t (tgt := 52) C x_PP_sale_45 rfl c6 ?_
      exact z_sub [1, 2, 3, 4, 5, 6, 7, 8, 0] rfl (z_PP_sale_52 C hlev h)
    · refine z_if_eq_f (tgt := 52) C x_PP_sale_45 rfl c6 ?_
      refine z_iconst C x_PP_sale_48 ?_
      refine z_goto (tgt := 53) C x_PP_sale_49 rfl ?_
      exact z_sub [1, 2, 3, 4, 5, 6, 7, 8, 0] rfl (z_PP_sale_53 C hlev h)
def k_PP_sale_30 (a1 a2 a3 a4 a5 a6 a7 : Int) (M : Mem) : Res := k_PP_sale_31 a1 a2 a3 a4 a5 a6 a7 0 M
theorem z_PP_sale_30 (C : Cx p s m args meth c G b_PP_sale 10 "PrairiePool" (some .int)) (hlev : 3 ≤ lev) {r : Int × Mem}  {a1 a2 a3 a4 a5 a6 a7 : Int} {M : Mem} (h : k_PP_sale_30 a1 a2 a3 a4 a5 a6 a7 M = some r) : Z p l e lev s m args below meth c G 10 (MQ below (Qm G 1 r) args s 0 0 (Ab G)) M 30 [(0, .ref (G.1 + 0)), (1, vi a1), (2, vi a2), (3, vi a3), (4, vi a4), (5, vi a5), (6, vi a6), (7, vi a7)] [] := by
  unfold k_PP_sale_30 at h
  refine z_iconst C x_PP_sale_30 ?_
  exact z_sub [0, 1, 2, 3, 4, 5, 6, 7] rfl (z_PP_sale_31 C hlev h)
def d_PP_sale (a1 a2 a3 a4 a5 a6 a7 : Int) (M : Mem) : Res := bcall (d_PP_isYear a3 M) fun v1 M2 => if w32 v1 = 0 then (k_PP_sale_30 a1 a2 a3 a4 a5 a6 a7 M2) else (bcall (d_PP_isIn a4 1 100000 M2) fun v4 M5 => if w32 v4 = 0 then (k_PP_sale_30 a1 a2 a3 a4 a5 a6 a7 M5) else (bcall (d_PP_isPence a5 M5) fun v7 M8 => if w32 v7 = 0 then (k_PP_sale_30 a1 a2 a3 a4 a5 a6 a7 M8) else (k_PP_sale_31 a1 a2 a3 a4 a5 a6 a7 1 M8)))
theorem t_PP_sale (l : Launch) (G : GX) {lev : Nat} (hlev : 3 ≤ lev) {a1 a2 a3 a4 a5 a6 a7 : Int} {M : Mem} {r : Int × Mem} (h : d_PP_sale a1 a2 a3 a4 a5 a6 a7 M = some r) : Mt l G y_PP_sale b_PP_sale 10 (some .int) lev 1 [.ref (G.1 + 0), vi a1, vi a2, vi a3, vi a4, vi a5, vi a6, vi a7] M r := by
  refine Mt.of (by decide) (i_le rfl) ?_
  intro p e s m args below meth c C
  have C : Cx p s m args meth c G b_PP_sale 10 "PrairiePool" (some .int) := C
  unfold d_PP_sale at h
  refine z_sub (lv' := [(0, .ref (G.1 + 0)), (1, vi a1), (2, vi a2), (3, vi a3), (4, vi a4), (5, vi a5), (6, vi a6), (7, vi a7)]) [0, 1, 2, 3, 4, 5, 6, 7] rfl ?_
  refine z_iload_n C 3 x_PP_sale_0 rfl ?_
  obtain ⟨v1, M2, fv1, h⟩ := bcall_e h
  refine z_callSi C x_PP_sale_1 cs_PP_180 (t_PP_isYear (lev := lev - 1) l G (by omega) fv1) (by omega) rfl (i_le rfl) rfl ?_
  rcases ite_e h with ⟨c3, h⟩ | ⟨c3, h⟩
  · refine z_if_eq_t (tgt := 30) C x_PP_sale_4 rfl c3 ?_
    exact z_sub [0, 1, 2, 3, 4, 5, 6, 7] rfl (z_PP_sale_30 C hlev h)
  · refine z_if_eq_f (tgt := 30) C x_PP_sale_4 rfl c3 ?_
    refine z_iload C 4 x_PP_sale_7 rfl ?_
    refine z_iconst C x_PP_sale_9 ?_
    refine z_ldc C kc_PP_122 x_PP_sale_10 ?_
    obtain ⟨v4, M5, fv4, h⟩ := bcall_e h
    refine z_callSi C x_PP_sale_12 cs_PP_89 (t_PP_isIn (lev := lev - 1) l G (by omega) fv4) (by omega) rfl (i_le rfl) rfl ?_
    rcases ite_e h with ⟨c6, h⟩ | ⟨c6, h⟩
    · refine z_if_eq_t (tgt := 30) C x_PP_sale_15 rfl c6 ?_
      exact z_sub [0, 1, 2, 3, 4, 5, 6, 7] rfl (z_PP_sale_30 C hlev h)
    · refine z_if_eq_f (tgt := 30) C x_PP_sale_15 rfl c6 ?_
      refine z_iload C 5 x_PP_sale_18 rfl ?_
      obtain ⟨v7, M8, fv7, h⟩ := bcall_e h
      refine z_callSi C x_PP_sale_20 cs_PP_190 (t_PP_isPence (lev := lev - 1) l G (by omega) fv7) (by omega) rfl (i_le rfl) rfl ?_
      rcases ite_e h with ⟨c9, h⟩ | ⟨c9, h⟩
      · refine z_if_eq_t (tgt := 30) C x_PP_sale_23 rfl c9 ?_
        exact z_sub [0, 1, 2, 3, 4, 5, 6, 7] rfl (z_PP_sale_30 C hlev h)
      · refine z_if_eq_f (tgt := 30) C x_PP_sale_23 rfl c9 ?_
        refine z_iconst C x_PP_sale_26 ?_
        refine z_goto (tgt := 31) C x_PP_sale_27 rfl ?_
        exact z_sub [0, 1, 2, 3, 4, 5, 6, 7] rfl (z_PP_sale_31 C hlev h)
theorem x_PP_spoil_0 : DC b_PP_spoil 0 (.aload_n 0) 1 1 := ⟨by decide +kernel, rfl⟩
theorem x_PP_spoil_1 : DC b_PP_spoil 1 (.getfield 19) 3 4 := ⟨by decide +kernel, rfl⟩
theorem x_PP_spoil_4 : DC b_PP_spoil 4 (.iload_n 1) 1 5 := ⟨by decide +kernel, rfl⟩
theorem x_PP_spoil_5 : DC b_PP_spoil 5 (.invokevirtual 148) 3 8 := ⟨by decide +kernel, rfl⟩
theorem x_PP_spoil_8 : DC b_PP_spoil 8 (.ifCond .eq 14) 3 11 := ⟨by decide +kernel, rfl⟩
theorem x_PP_spoil_11 : DC b_PP_spoil 11 (.iload_n 2) 1 12 := ⟨by decide +kernel, rfl⟩
theorem x_PP_spoil_12 : DC b_PP_spoil 12 (.invokestatic 177) 3 15 := ⟨by decide +kernel, rfl⟩
theorem x_PP_spoil_15 : DC b_PP_spoil 15 (.ifCond .eq 7) 3 18 := ⟨by decide +kernel, rfl⟩
theorem x_PP_spoil_18 : DC b_PP_spoil 18 (.iconst 1) 1 19 := ⟨by decide +kernel, rfl⟩
theorem x_PP_spoil_19 : DC b_PP_spoil 19 (.goto 4) 3 22 := ⟨by decide +kernel, rfl⟩
theorem x_PP_spoil_22 : DC b_PP_spoil 22 (.iconst 0) 1 23 := ⟨by decide +kernel, rfl⟩
theorem x_PP_spoil_23 : DC b_PP_spoil 23 (.istore 7) 2 25 := ⟨by decide +kernel, rfl⟩
theorem x_PP_spoil_25 : DC b_PP_spoil 25 (.aload_n 0) 1 26 := ⟨by decide +kernel, rfl⟩
theorem x_PP_spoil_26 : DC b_PP_spoil 26 (.iload 7) 2 28 := ⟨by decide +kernel, rfl⟩
theorem x_PP_spoil_28 : DC b_PP_spoil 28 (.iload_n 3) 1 29 := ⟨by decide +kernel, rfl⟩
theorem x_PP_spoil_29 : DC b_PP_spoil 29 (.invokestatic 180) 3 32 := ⟨by decide +kernel, rfl⟩
theorem x_PP_spoil_32 : DC b_PP_spoil 32 (.ifCond .eq 18) 3 35 := ⟨by decide +kernel, rfl⟩
theorem x_PP_spoil_35 : DC b_PP_spoil 35 (.iload 4) 2 37 := ⟨by decide +kernel, rfl⟩
theorem x_PP_spoil_37 : DC b_PP_spoil 37 (.iconst 1) 1 38 := ⟨by decide +kernel, rfl⟩
theorem x_PP_spoil_38 : DC b_PP_spoil 38 (.ldc 122) 2 40 := ⟨by decide +kernel, rfl⟩
theorem x_PP_spoil_40 : DC b_PP_spoil 40 (.invokestatic 89) 3 43 := ⟨by decide +kernel, rfl⟩
theorem x_PP_spoil_43 : DC b_PP_spoil 43 (.ifCond .eq 7) 3 46 := ⟨by decide +kernel, rfl⟩
theorem x_PP_spoil_46 : DC b_PP_spoil 46 (.iconst 1) 1 47 := ⟨by decide +kernel, rfl⟩
theorem x_PP_spoil_47 : DC b_PP_spoil 47 (.goto 4) 3 50 := ⟨by decide +kernel, rfl⟩
theorem x_PP_spoil_50 : DC b_PP_spoil 50 (.iconst 0) 1 51 := ⟨by decide +kernel, rfl⟩
theorem x_PP_spoil_51 : DC b_PP_spoil 51 (.iload 5) 2 53 := ⟨by decide +kernel, rfl⟩
theorem x_PP_spoil_53 : DC b_PP_spoil 53 (.iload 6) 2 55 := ⟨by decide +kernel, rfl⟩
theorem x_PP_spoil_55 : DC b_PP_spoil 55 (.invokevirtual 151) 3 58 := ⟨by decide +kernel, rfl⟩
theorem x_PP_spoil_58 : DC b_PP_spoil 58 (.ifCond .ne 5) 3 61 := ⟨by decide +kernel, rfl⟩
theorem x_PP_spoil_61 : DC b_PP_spoil 61 (.iconst (-1)) 1 62 := ⟨by decide +kernel, rfl⟩
theorem x_PP_spoil_62 : DC b_PP_spoil 62 (.ireturn) 1 63 := ⟨by decide +kernel, rfl⟩
theorem x_PP_spoil_63 : DC b_PP_spoil 63 (.aload_n 0) 1 64 := ⟨by decide +kernel, rfl⟩
theorem x_PP_spoil_64 : DC b_PP_spoil 64 (.getfield 26) 3 67 := ⟨by decide +kernel, rfl⟩
theorem x_PP_spoil_67 : DC b_PP_spoil 67 (.iconst 3) 1 68 := ⟨by decide +kernel, rfl⟩
theorem x_PP_spoil_68 : DC b_PP_spoil 68 (.iload 5) 2 70 := ⟨by decide +kernel, rfl⟩
theorem x_PP_spoil_70 : DC b_PP_spoil 70 (.iload 6) 2 72 := ⟨by decide +kernel, rfl⟩
theorem x_PP_spoil_72 : DC b_PP_spoil 72 (.invokevirtual 155) 3 75 := ⟨by decide +kernel, rfl⟩
theorem x_PP_spoil_75 : DC b_PP_spoil 75 (.istore 8) 2 77 := ⟨by decide +kernel, rfl⟩
theorem x_PP_spoil_77 : DC b_PP_spoil 77 (.aload_n 0) 1 78 := ⟨by decide +kernel, rfl⟩
theorem x_PP_spoil_78 : DC b_PP_spoil 78 (.getfield 26) 3 81 := ⟨by decide +kernel, rfl⟩
theorem x_PP_spoil_81 : DC b_PP_spoil 81 (.getfield 162) 3 84 := ⟨by decide +kernel, rfl⟩
theorem x_PP_spoil_84 : DC b_PP_spoil 84 (.iload 8) 2 86 := ⟨by decide +kernel, rfl⟩
theorem x_PP_spoil_86 : DC b_PP_spoil 86 (.iload_n 1) 1 87 := ⟨by decide +kernel, rfl⟩
theorem x_PP_spoil_87 : DC b_PP_spoil 87 (.iastore) 1 88 := ⟨by decide +kernel, rfl⟩
theorem x_PP_spoil_88 : DC b_PP_spoil 88 (.aload_n 0) 1 89 := ⟨by decide +kernel, rfl⟩
theorem x_PP_spoil_89 : DC b_PP_spoil 89 (.getfield 26) 3 92 := ⟨by decide +kernel, rfl⟩
theorem x_PP_spoil_92 : DC b_PP_spoil 92 (.iload 8) 2 94 := ⟨by decide +kernel, rfl⟩
theorem x_PP_spoil_94 : DC b_PP_spoil 94 (.iload_n 2) 1 95 := ⟨by decide +kernel, rfl⟩
theorem x_PP_spoil_95 : DC b_PP_spoil 95 (.iload_n 3) 1 96 := ⟨by decide +kernel, rfl⟩
theorem x_PP_spoil_96 : DC b_PP_spoil 96 (.iload 4) 2 98 := ⟨by decide +kernel, rfl⟩
theorem x_PP_spoil_98 : DC b_PP_spoil 98 (.invokevirtual 186) 3 101 := ⟨by decide +kernel, rfl⟩
theorem x_PP_spoil_101 : DC b_PP_spoil 101 (.iload 8) 2 103 := ⟨by decide +kernel, rfl⟩
theorem x_PP_spoil_103 : DC b_PP_spoil 103 (.ireturn) 1 104 := ⟨by decide +kernel, rfl⟩
def k_PP_spoil_51 (a1 a2 a3 a4 a5 a6 s1 s2 : Int) (M : Mem) : Res := bcall (d_PP_mayCome s1 s2 a5 a6 M) fun v1 M2 => if w32 v1 = 0 then (some ((-1), M2)) else (bcall (d_Jo_enter 3 a5 a6 M2) fun v4 M5 => chk (0 ≤ w32 v4 ∧ w32 v4 < 120) <| blet (sto M5 18 (ix v4) a1) fun M7 => bcall (d_Jo_tellWhat v4 a2 a3 a4 M7) fun v8 M9 => some (v4, M9))
theorem z_PP_spoil_51 (C : Cx p s m args meth c G b_PP_spoil 9 "PrairiePool" (some .int)) (hlev : 3 ≤ lev) {r : Int × Mem}  {a1 a2 a3 a4 a5 a6 s1 s2 : Int} {M : Mem} (h : k_PP_spoil_51 a1 a2 a3 a4 a5 a6 s1 s2 M = some r) : Z p l e lev s m args below meth c G 9 (MQ below (Qm G 1 r) args s 0 0 (Ab G)) M 51 [(0, .ref (G.1 + 0)), (1, vi a1), (2, vi a2), (3, vi a3), (4, vi a4), (5, vi a5), (6, vi a6)] [vi s2, vi s1, .ref (G.1 + 0)] := by
  unfold k_PP_spoil_51 at h
  refine z_iload C 5 x_PP_spoil_51 rfl ?_
  refine z_iload C 6 x_PP_spoil_53 rfl ?_
  obtain ⟨v1, M2, fv1, h⟩ := bcall_e h
  refine z_callVi (k := 0) C x_PP_spoil_55 cv_PP_151 (t_PP_mayCome (lev := lev - 1) l G (by omega) fv1) nk_0 ck_0 rfl (by omega) rfl (i_le rfl) rfl ?_
  rcases ite_e h with ⟨c3, h⟩ | ⟨c3, h⟩
  · refine z_if_ne_f (tgt := 63) C x_PP_spoil_58 rfl c3 ?_
    refine z_iconst C x_PP_spoil_61 ?_
    exact z_iret C x_PP_spoil_62 h
  · refine z_if_ne_t (tgt := 63) C x_PP_spoil_58 rfl c3 ?_
    refine z_aload_n C 0 x_PP_spoil_63 rfl ?_
    refine z_getR (j := 3) C x_PP_spoil_64 nk_0 ck_0 cw_11 (i_lt rfl) rfl rf_0_3 rfl fl_PP_26 ?_
    refine z_iconst C x_PP_spoil_67 ?_
    refine z_iload C 5 x_PP_spoil_68 rfl ?_
    refine z_iload C 6 x_PP_spoil_70 rfl ?_
    obtain ⟨v4, M5, fv4, h⟩ := bcall_e h
    refine z_callVi (k := 15) C x_PP_spoil_72 cv_PP_155 (t_Jo_enter (lev := lev - 1) l G (by omega) fv4) nk_15 ck_15 rfl (by omega) rfl (i_le rfl) rfl ?_
    refine z_istore (lv' := [(8, vi v4), (0, .ref (G.1 + 0)), (1, vi a1), (2, vi a2), (3, vi a3), (4, vi a4), (5, vi a5), (6, vi a6)]) C rfl x_PP_spoil_75 (i_lt rfl) rfl ?_
    refine z_aload_n C 1 x_PP_spoil_77 rfl ?_
    refine z_getR (j := 3) C x_PP_spoil_78 nk_0 ck_0 cw_11 (i_lt rfl) rfl rf_0_3 rfl fl_PP_26 ?_
    refine z_getR (j := 4) C x_PP_spoil_81 nk_15 ck_15 cw_2 (i_lt rfl) rfl rf_15_4 rfl fl_PP_162 ?_
    refine z_iload C 0 x_PP_spoil_84 rfl ?_
    refine z_iload_n C 2 x_PP_spoil_86 rfl ?_
    obtain ⟨c6, h⟩ := chk_e h
    obtain ⟨M7, eM7, h⟩ := blet_e h
    refine z_iast C x_PP_spoil_87 nk_18 ck_18 c6 eM7 ?_
    refine z_aload_n C 1 x_PP_spoil_88 rfl ?_
    refine z_getR (j := 3) C x_PP_spoil_89 nk_0 ck_0 cw_11 (i_lt rfl) rfl rf_0_3 rfl fl_PP_26 ?_
    refine z_iload C 0 x_PP_spoil_92 rfl ?_
    refine z_iload_n C 3 x_PP_spoil_94 rfl ?_
    refine z_iload_n C 4 x_PP_spoil_95 rfl ?_
    refine z_iload C 5 x_PP_spoil_96 rfl ?_
    obtain ⟨v8, M9, fv8, h⟩ := bcall_e h
    refine z_callVv (k := 15) C x_PP_spoil_98 cv_PP_186 (t_Jo_tellWhat (lev := lev - 1) l G (by omega) fv8) nk_15 ck_15 rfl (by omega) rfl (i_le rfl) rfl ?_
    refine z_iload C 0 x_PP_spoil_101 rfl ?_
    exact z_iret C x_PP_spoil_103 h
def k_PP_spoil_50 (a1 a2 a3 a4 a5 a6 s1 : Int) (M : Mem) : Res := k_PP_spoil_51 a1 a2 a3 a4 a5 a6 s1 0 M
theorem z_PP_spoil_50 (C : Cx p s m args meth c G b_PP_spoil 9 "PrairiePool" (some .int)) (hlev : 3 ≤ lev) {r : Int × Mem}  {a1 a2 a3 a4 a5 a6 s1 : Int} {M : Mem} (h : k_PP_spoil_50 a1 a2 a3 a4 a5 a6 s1 M = some r) : Z p l e lev s m args below meth c G 9 (MQ below (Qm G 1 r) args s 0 0 (Ab G)) M 50 [(0, .ref (G.1 + 0)), (1, vi a1), (2, vi a2), (3, vi a3), (4, vi a4), (5, vi a5), (6, vi a6)] [vi s1, .ref (G.1 + 0)] := by
  unfold k_PP_spoil_50 at h
  refine z_iconst C x_PP_spoil_50 ?_
  exact z_sub [0, 1, 2, 3, 4, 5, 6] rfl (z_PP_spoil_51 C hlev h)
def k_PP_spoil_23 (a1 a2 a3 a4 a5 a6 s0 : Int) (M : Mem) : Res := bcall (d_PP_isYear a3 M) fun v1 M2 => if w32 v1 = 0 then (k_PP_spoil_50 a1 a2 a3 a4 a5 a6 s0 M2) else (bcall (d_PP_isIn a4 1 100000 M2) fun v4 M5 => if w32 v4 = 0 then (k_PP_spoil_50 a1 a2 a3 a4 a5 a6 s0 M5) else (k_PP_spoil_51 a1 a2 a3 a4 a5 a6 s0 1 M5))
theorem z_PP_spoil_23 (C : Cx p s m args meth c G b_PP_spoil 9 "PrairiePool" (some .int)) (hlev : 3 ≤ lev) {r : Int × Mem}  {a1 a2 a3 a4 a5 a6 s0 : Int} {M : Mem} (h : k_PP_spoil_23 a1 a2 a3 a4 a5 a6 s0 M = some r) : Z p l e lev s m args below meth c G 9 (MQ below (Qm G 1 r) args s 0 0 (Ab G)) M 23 [(0, .ref (G.1 + 0)), (1, vi a1), (2, vi a2), (3, vi a3), (4, vi a4), (5, vi a5), (6, vi a6)] [vi s0] := by
  unfold k_PP_spoil_23 at h
  refine z_istore (lv' := [(7, vi s0), (0, .ref (G.1 + 0)), (1, vi a1), (2, vi a2), (3, vi a3), (4, vi a4), (5, vi a5), (6, vi a6)]) C rfl x_PP_spoil_23 (i_lt rfl) rfl ?_
  refine z_aload_n C 1 x_PP_spoil_25 rfl ?_
  refine z_iload C 0 x_PP_spoil_26 rfl ?_
  refine z_iload_n C 4 x_PP_spoil_28 rfl ?_
  obtain ⟨v1, M2, fv1, h⟩ := bcall_e h
  refine z_callSi C x_PP_spoil_29 cs_PP_180 (t_PP_isYear (lev := lev - 1) l G (by omega) fv1) (by omega) rfl (i_le rfl) rfl ?_
  rcases ite_e h with ⟨c3, h⟩ | ⟨c3, h⟩
  · refine z_if_eq_t (tgt := 50) C x_PP_spoil_32 rfl c3 ?_
    exact z_sub [1, 2, 3, 4, 5, 6, 7] rfl (z_PP_spoil_50 C hlev h)
  · refine z_if_eq_f (tgt := 50) C x_PP_spoil_32 rfl c3 ?_
    refine z_iload C 5 x_PP_spoil_35 rfl ?_
    refine z_iconst C x_PP_spoil_37 ?_
    refine z_ldc C kc_PP_122 x_PP_spoil_38 ?_
    obtain ⟨v4, M5, fv4, h⟩ := bcall_e h
    refine z_callSi C x_PP_spoil_40 cs_PP_89 (t_PP_isIn (lev := lev - 1) l G (by omega) fv4) (by omega) rfl (i_le rfl) rfl ?_
    rcases ite_e h with ⟨c6, h⟩ | ⟨c6, h⟩
    · refine z_if_eq_t (tgt := 50) C x_PP_spoil_43 rfl c6 ?_
      exact z_sub [1, 2, 3, 4, 5, 6, 7] rfl (z_PP_spoil_50 C hlev h)
    · refine z_if_eq_f (tgt := 50) C x_PP_spoil_43 rfl c6 ?_
      refine z_iconst C x_PP_spoil_46 ?_
      refine z_goto (tgt := 51) C x_PP_spoil_47 rfl ?_
      exact z_sub [1, 2, 3, 4, 5, 6, 7] rfl (z_PP_spoil_51 C hlev h)
def k_PP_spoil_22 (a1 a2 a3 a4 a5 a6 : Int) (M : Mem) : Res := k_PP_spoil_23 a1 a2 a3 a4 a5 a6 0 M
theorem z_PP_spoil_22 (C : Cx p s m args meth c G b_PP_spoil 9 "PrairiePool" (some .int)) (hlev : 3 ≤ lev) {r : Int × Mem}  {a1 a2 a3 a4 a5 a6 : Int} {M : Mem} (h : k_PP_spoil_22 a1 a2 a3 a4 a5 a6 M = some r) : Z p l e lev s m args below meth c G 9 (MQ below (Qm G 1 r) args s 0 0 (Ab G)) M 22 [(0, .ref (G.1 + 0)), (1, vi a1), (2, vi a2), (3, vi a3), (4, vi a4), (5, vi a5), (6, vi a6)] [] := by
  unfold k_PP_spoil_22 at h
  refine z_iconst C x_PP_spoil_22 ?_
  exact z_sub [0, 1, 2, 3, 4, 5, 6] rfl (z_PP_spoil_23 C hlev h)
def d_PP_spoil (a1 a2 a3 a4 a5 a6 : Int) (M : Mem) : Res := bcall (d_Pr_hasElevator a1 M) fun v1 M2 => if w32 v1 = 0 then (k_PP_spoil_22 a1 a2 a3 a4 a5 a6 M2) else (bcall (d_PP_isGrade a2 M2) fun v4 M5 => if w32 v4 = 0 then (k_PP_spoil_22 a1 a2 a3 a4 a5 a6 M5) else (k_PP_spoil_23 a1 a2 a3 a4 a5 a6 1 M5))
theorem t_PP_spoil (l : Launch) (G : GX) {lev : Nat} (hlev : 3 ≤ lev) {a1 a2 a3 a4 a5 a6 : Int} {M : Mem} {r : Int × Mem} (h : d_PP_spoil a1 a2 a3 a4 a5 a6 M = some r) : Mt l G y_PP_spoil b_PP_spoil 9 (some .int) lev 1 [.ref (G.1 + 0), vi a1, vi a2, vi a3, vi a4, vi a5, vi a6] M r := by
  refine Mt.of (by decide) (i_le rfl) ?_
  intro p e s m args below meth c C
  have C : Cx p s m args meth c G b_PP_spoil 9 "PrairiePool" (some .int) := C
  unfold d_PP_spoil at h
  refine z_sub (lv' := [(0, .ref (G.1 + 0)), (1, vi a1), (2, vi a2), (3, vi a3), (4, vi a4), (5, vi a5), (6, vi a6)]) [0, 1, 2, 3, 4, 5, 6] rfl ?_
  refine z_aload_n C 0 x_PP_spoil_0 rfl ?_
  refine z_getR (j := 2) C x_PP_spoil_1 nk_0 ck_0 cw_11 (i_lt rfl) rfl rf_0_2 rfl fl_PP_19 ?_
  refine z_iload_n C 1 x_PP_spoil_4 rfl ?_
  obtain ⟨v1, M2, fv1, h⟩ := bcall_e h
  refine z_callVi (k := 5) C x_PP_spoil_5 cv_PP_148 (t_Pr_hasElevator (lev := lev - 1) l G (by omega) fv1) nk_5 ck_5 rfl (by omega) rfl (i_le rfl) rfl ?_
  rcases ite_e h with ⟨c3, h⟩ | ⟨c3, h⟩
  · refine z_if_eq_t (tgt := 22) C x_PP_spoil_8 rfl c3 ?_
    exact z_sub [0, 1, 2, 3, 4, 5, 6] rfl (z_PP_spoil_22 C hlev h)
  · refine z_if_eq_f (tgt := 22) C x_PP_spoil_8 rfl c3 ?_
    refine z_iload_n C 2 x_PP_spoil_11 rfl ?_
    obtain ⟨v4, M5, fv4, h⟩ := bcall_e h
    refine z_callSi C x_PP_spoil_12 cs_PP_177 (t_PP_isGrade (lev := lev - 1) l G (by omega) fv4) (by omega) rfl (i_le rfl) rfl ?_
    rcases ite_e h with ⟨c6, h⟩ | ⟨c6, h⟩
    · refine z_if_eq_t (tgt := 22) C x_PP_spoil_15 rfl c6 ?_
      exact z_sub [0, 1, 2, 3, 4, 5, 6] rfl (z_PP_spoil_22 C hlev h)
    · refine z_if_eq_f (tgt := 22) C x_PP_spoil_15 rfl c6 ?_
      refine z_iconst C x_PP_spoil_18 ?_
      refine z_goto (tgt := 23) C x_PP_spoil_19 rfl ?_
      exact z_sub [0, 1, 2, 3, 4, 5, 6] rfl (z_PP_spoil_23 C hlev h)
theorem x_PP_rankOf_0 : DC b_PP_rankOf 0 (.aload_n 0) 1 1 := ⟨by decide +kernel, rfl⟩
theorem x_PP_rankOf_1 : DC b_PP_rankOf 1 (.getfield 26) 3 4 := ⟨by decide +kernel, rfl⟩
theorem x_PP_rankOf_4 : DC b_PP_rankOf 4 (.getfield 434) 3 7 := ⟨by decide +kernel, rfl⟩
theorem x_PP_rankOf_7 : DC b_PP_rankOf 7 (.iload_n 1) 1 8 := ⟨by decide +kernel, rfl⟩
theorem x_PP_rankOf_8 : DC b_PP_rankOf 8 (.iaload) 1 9 := ⟨by decide +kernel, rfl⟩
theorem x_PP_rankOf_9 : DC b_PP_rankOf 9 (.istore_n 2) 1 10 := ⟨by decide +kernel, rfl⟩
theorem x_PP_rankOf_10 : DC b_PP_rankOf 10 (.aload_n 0) 1 11 := ⟨by decide +kernel, rfl⟩
theorem x_PP_rankOf_11 : DC b_PP_rankOf 11 (.getfield 26) 3 14 := ⟨by decide +kernel, rfl⟩
theorem x_PP_rankOf_14 : DC b_PP_rankOf 14 (.getfield 437) 3 17 := ⟨by decide +kernel, rfl⟩
theorem x_PP_rankOf_17 : DC b_PP_rankOf 17 (.iload_n 2) 1 18 := ⟨by decide +kernel, rfl⟩
theorem x_PP_rankOf_18 : DC b_PP_rankOf 18 (.iaload) 1 19 := ⟨by decide +kernel, rfl⟩
theorem x_PP_rankOf_19 : DC b_PP_rankOf 19 (.istore_n 3) 1 20 := ⟨by decide +kernel, rfl⟩
theorem x_PP_rankOf_20 : DC b_PP_rankOf 20 (.aload_n 0) 1 21 := ⟨by decide +kernel, rfl⟩
theorem x_PP_rankOf_21 : DC b_PP_rankOf 21 (.getfield 33) 3 24 := ⟨by decide +kernel, rfl⟩
theorem x_PP_rankOf_24 : DC b_PP_rankOf 24 (.iload_n 3) 1 25 := ⟨by decide +kernel, rfl⟩
theorem x_PP_rankOf_25 : DC b_PP_rankOf 25 (.invokevirtual 440) 3 28 := ⟨by decide +kernel, rfl⟩
theorem x_PP_rankOf_28 : DC b_PP_rankOf 28 (.aload_n 0) 1 29 := ⟨by decide +kernel, rfl⟩
theorem x_PP_rankOf_29 : DC b_PP_rankOf 29 (.getfield 33) 3 32 := ⟨by decide +kernel, rfl⟩
theorem x_PP_rankOf_32 : DC b_PP_rankOf 32 (.iload_n 3) 1 33 := ⟨by decide +kernel, rfl⟩
theorem x_PP_rankOf_33 : DC b_PP_rankOf 33 (.invokevirtual 443) 3 36 := ⟨by decide +kernel, rfl⟩
theorem x_PP_rankOf_36 : DC b_PP_rankOf 36 (.aload_n 0) 1 37 := ⟨by decide +kernel, rfl⟩
theorem x_PP_rankOf_37 : DC b_PP_rankOf 37 (.getfield 33) 3 40 := ⟨by decide +kernel, rfl⟩
theorem x_PP_rankOf_40 : DC b_PP_rankOf 40 (.iconst 0) 1 41 := ⟨by decide +kernel, rfl⟩
theorem x_PP_rankOf_41 : DC b_PP_rankOf 41 (.aload_n 0) 1 42 := ⟨by decide +kernel, rfl⟩
theorem x_PP_rankOf_42 : DC b_PP_rankOf 42 (.getfield 26) 3 45 := ⟨by decide +kernel, rfl⟩
theorem x_PP_rankOf_45 : DC b_PP_rankOf 45 (.getfield 446) 3 48 := ⟨by decide +kernel, rfl⟩
theorem x_PP_rankOf_48 : DC b_PP_rankOf 48 (.iload_n 1) 1 49 := ⟨by decide +kernel, rfl⟩
theorem x_PP_rankOf_49 : DC b_PP_rankOf 49 (.iaload) 1 50 := ⟨by decide +kernel, rfl⟩
theorem x_PP_rankOf_50 : DC b_PP_rankOf 50 (.i2l) 1 51 := ⟨by decide +kernel, rfl⟩
theorem x_PP_rankOf_51 : DC b_PP_rankOf 51 (.invokevirtual 449) 3 54 := ⟨by decide +kernel, rfl⟩
theorem x_PP_rankOf_54 : DC b_PP_rankOf 54 (.aload_n 0) 1 55 := ⟨by decide +kernel, rfl⟩
theorem x_PP_rankOf_55 : DC b_PP_rankOf 55 (.getfield 33) 3 58 := ⟨by decide +kernel, rfl⟩
theorem x_PP_rankOf_58 : DC b_PP_rankOf 58 (.iconst 1) 1 59 := ⟨by decide +kernel, rfl⟩
theorem x_PP_rankOf_59 : DC b_PP_rankOf 59 (.aload_n 0) 1 60 := ⟨by decide +kernel, rfl⟩
theorem x_PP_rankOf_60 : DC b_PP_rankOf 60 (.getfield 26) 3 63 := ⟨by decide +kernel, rfl⟩
theorem x_PP_rankOf_63 : DC b_PP_rankOf 63 (.getfield 453) 3 66 := ⟨by decide +kernel, rfl⟩
theorem x_PP_rankOf_66 : DC b_PP_rankOf 66 (.iload_n 1) 1 67 := ⟨by decide +kernel, rfl⟩
theorem x_PP_rankOf_67 : DC b_PP_rankOf 67 (.iaload) 1 68 := ⟨by decide +kernel, rfl⟩
theorem x_PP_rankOf_68 : DC b_PP_rankOf 68 (.i2l) 1 69 := ⟨by decide +kernel, rfl⟩
theorem x_PP_rankOf_69 : DC b_PP_rankOf 69 (.invokevirtual 449) 3 72 := ⟨by decide +kernel, rfl⟩
theorem x_PP_rankOf_72 : DC b_PP_rankOf 72 (.aload_n 0) 1 73 := ⟨by decide +kernel, rfl⟩
theorem x_PP_rankOf_73 : DC b_PP_rankOf 73 (.getfield 33) 3 76 := ⟨by decide +kernel, rfl⟩
theorem x_PP_rankOf_76 : DC b_PP_rankOf 76 (.iconst 4) 1 77 := ⟨by decide +kernel, rfl⟩
theorem x_PP_rankOf_77 : DC b_PP_rankOf 77 (.aload_n 0) 1 78 := ⟨by decide +kernel, rfl⟩
theorem x_PP_rankOf_78 : DC b_PP_rankOf 78 (.getfield 26) 3 81 := ⟨by decide +kernel, rfl⟩
theorem x_PP_rankOf_81 : DC b_PP_rankOf 81 (.iload_n 2) 1 82 := ⟨by decide +kernel, rfl⟩
theorem x_PP_rankOf_82 : DC b_PP_rankOf 82 (.invokevirtual 456) 3 85 := ⟨by decide +kernel, rfl⟩
theorem x_PP_rankOf_85 : DC b_PP_rankOf 85 (.i2l) 1 86 := ⟨by decide +kernel, rfl⟩
theorem x_PP_rankOf_86 : DC b_PP_rankOf 86 (.invokevirtual 449) 3 89 := ⟨by decide +kernel, rfl⟩
theorem x_PP_rankOf_89 : DC b_PP_rankOf 89 (.aload_n 0) 1 90 := ⟨by decide +kernel, rfl⟩
theorem x_PP_rankOf_90 : DC b_PP_rankOf 90 (.getfield 33) 3 93 := ⟨by decide +kernel, rfl⟩
theorem x_PP_rankOf_93 : DC b_PP_rankOf 93 (.bipush 7) 2 95 := ⟨by decide +kernel, rfl⟩
theorem x_PP_rankOf_95 : DC b_PP_rankOf 95 (.aload_n 0) 1 96 := ⟨by decide +kernel, rfl⟩
theorem x_PP_rankOf_96 : DC b_PP_rankOf 96 (.getfield 19) 3 99 := ⟨by decide +kernel, rfl⟩
theorem x_PP_rankOf_99 : DC b_PP_rankOf 99 (.getfield 459) 3 102 := ⟨by decide +kernel, rfl⟩
theorem x_PP_rankOf_102 : DC b_PP_rankOf 102 (.aload_n 0) 1 103 := ⟨by decide +kernel, rfl⟩
theorem x_PP_rankOf_103 : DC b_PP_rankOf 103 (.getfield 26) 3 106 := ⟨by decide +kernel, rfl⟩
theorem x_PP_rankOf_106 : DC b_PP_rankOf 106 (.getfield 158) 3 109 := ⟨by decide +kernel, rfl⟩
theorem x_PP_rankOf_109 : DC b_PP_rankOf 109 (.iload_n 2) 1 110 := ⟨by decide +kernel, rfl⟩
theorem x_PP_rankOf_110 : DC b_PP_rankOf 110 (.iaload) 1 111 := ⟨by decide +kernel, rfl⟩
theorem x_PP_rankOf_111 : DC b_PP_rankOf 111 (.iaload) 1 112 := ⟨by decide +kernel, rfl⟩
theorem x_PP_rankOf_112 : DC b_PP_rankOf 112 (.i2l) 1 113 := ⟨by decide +kernel, rfl⟩
theorem x_PP_rankOf_113 : DC b_PP_rankOf 113 (.invokevirtual 449) 3 116 := ⟨by decide +kernel, rfl⟩
theorem x_PP_rankOf_116 : DC b_PP_rankOf 116 (.aload_n 0) 1 117 := ⟨by decide +kernel, rfl⟩
theorem x_PP_rankOf_117 : DC b_PP_rankOf 117 (.getfield 33) 3 120 := ⟨by decide +kernel, rfl⟩
theorem x_PP_rankOf_120 : DC b_PP_rankOf 120 (.iconst 0) 1 121 := ⟨by decide +kernel, rfl⟩
theorem x_PP_rankOf_121 : DC b_PP_rankOf 121 (.invokevirtual 462) 3 124 := ⟨by decide +kernel, rfl⟩
theorem x_PP_rankOf_124 : DC b_PP_rankOf 124 (.ireturn) 1 125 := ⟨by decide +kernel, rfl⟩
def d_PP_rankOf (a1 : Int) (M : Mem) : Res := chk (0 ≤ w32 a1 ∧ w32 a1 < 100) <| blet (M 27 (ix a1)) fun v2 => chk (0 ≤ w32 v2 ∧ w32 v2 < 120) <| blet (M 25 (ix v2)) fun v4 => bcall (d_As_begin v4 M) fun v5 M6 => bcall (d_As_tellWeek v4 M6) fun v7 M8 => chk (0 ≤ w32 a1 ∧ w32 a1 < 100) <| blet (M8 29 (ix a1)) fun v10 => bcall (d_As_tell 0 (w32 v10) M8) fun v11 M12 => chk (0 ≤ w32 a1 ∧ w32 a1 < 100) <| blet (M12 28 (ix a1)) fun v14 => bcall (d_As_tell 1 (w32 v14) M12) fun v15 M16 => bcall (d_Jo_netOf v2 M16) fun v17 M18 => bcall (d_As_tell 4 (w32 v17) M18) fun v19 M20 => chk (0 ≤ w32 v2 ∧ w32 v2 < 120) <| blet (M20 17 (ix v2)) fun v22 => chk (0 ≤ w32 v22 ∧ w32 v22 < 20) <| blet (M20 6 (ix v22)) fun v24 => bcall (d_As_tell 7 (w32 v24) M20) fun v25 M26 => bcall (d_As_ask 0 M26) fun v27 M28 => some (v27, M28)
theorem t_PP_rankOf (l : Launch) (G : GX) {lev : Nat} (hlev : 5 ≤ lev) {a1 : Int} {M : Mem} {r : Int × Mem} (h : d_PP_rankOf a1 M = some r) : Mt l G y_PP_rankOf b_PP_rankOf 4 (some .int) lev 1 [.ref (G.1 + 0), vi a1] M r := by
  refine Mt.of (by decide) (i_le rfl) ?_
  intro p e s m args below meth c C
  have C : Cx p s m args meth c G b_PP_rankOf 4 "PrairiePool" (some .int) := C
  unfold d_PP_rankOf at h
  refine z_sub (lv' := [(0, .ref (G.1 + 0)), (1, vi a1)]) [0, 1] rfl ?_
  refine z_aload_n C 0 x_PP_rankOf_0 rfl ?_
  refine z_getR (j := 3) C x_PP_rankOf_1 nk_0 ck_0 cw_11 (i_lt rfl) rfl rf_0_3 rfl fl_PP_26 ?_
  refine z_getR (j := 14) C x_PP_rankOf_4 nk_15 ck_15 cw_2 (i_lt rfl) rfl rf_15_14 rfl fl_PP_434 ?_
  refine z_iload_n C 1 x_PP_rankOf_7 rfl ?_
  obtain ⟨c1, h⟩ := chk_e h
  obtain ⟨v2, ev2, h⟩ := blet_e h
  refine z_iald C x_PP_rankOf_8 nk_27 ck_27 c1 ev2 ?_
  refine z_istore_n (lv' := [(2, vi v2), (0, .ref (G.1 + 0)), (1, vi a1)]) C rfl x_PP_rankOf_9 (i_lt rfl) rfl ?_
  refine z_aload_n C 1 x_PP_rankOf_10 rfl ?_
  refine z_getR (j := 3) C x_PP_rankOf_11 nk_0 ck_0 cw_11 (i_lt rfl) rfl rf_0_3 rfl fl_PP_26 ?_
  refine z_getR (j := 11) C x_PP_rankOf_14 nk_15 ck_15 cw_2 (i_lt rfl) rfl rf_15_11 rfl fl_PP_437 ?_
  refine z_iload_n C 0 x_PP_rankOf_17 rfl ?_
  obtain ⟨c3, h⟩ := chk_e h
  obtain ⟨v4, ev4, h⟩ := blet_e h
  refine z_iald C x_PP_rankOf_18 nk_25 ck_25 c3 ev4 ?_
  refine z_istore_n (lv' := [(3, vi v4), (2, vi v2), (0, .ref (G.1 + 0)), (1, vi a1)]) C rfl x_PP_rankOf_19 (i_lt rfl) rfl ?_
  refine z_aload_n C 2 x_PP_rankOf_20 rfl ?_
  refine z_getR (j := 4) C x_PP_rankOf_21 nk_0 ck_0 cw_11 (i_lt rfl) rfl rf_0_4 rfl fl_PP_33 ?_
  refine z_iload_n C 0 x_PP_rankOf_24 rfl ?_
  obtain ⟨v5, M6, fv5, h⟩ := bcall_e h
  refine z_callVv (k := 32) C x_PP_rankOf_25 cv_PP_440 (t_As_begin (lev := lev - 1) l G (by omega) fv5) nk_32 ck_32 rfl (by omega) rfl (i_le rfl) rfl ?_
  refine z_aload_n C 2 x_PP_rankOf_28 rfl ?_
  refine z_getR (j := 4) C x_PP_rankOf_29 nk_0 ck_0 cw_11 (i_lt rfl) rfl rf_0_4 rfl fl_PP_33 ?_
  refine z_iload_n C 0 x_PP_rankOf_32 rfl ?_
  obtain ⟨v7, M8, fv7, h⟩ := bcall_e h
  refine z_callVv (k := 32) C x_PP_rankOf_33 cv_PP_443 (t_As_tellWeek (lev := lev - 1) l G (by omega) fv7) nk_32 ck_32 rfl (by omega) rfl (i_le rfl) rfl ?_
  refine z_aload_n C 2 x_PP_rankOf_36 rfl ?_
  refine z_getR (j := 4) C x_PP_rankOf_37 nk_0 ck_0 cw_11 (i_lt rfl) rfl rf_0_4 rfl fl_PP_33 ?_
  refine z_iconst C x_PP_rankOf_40 ?_
  refine z_aload_n C 2 x_PP_rankOf_41 rfl ?_
  refine z_getR (j := 3) C x_PP_rankOf_42 nk_0 ck_0 cw_11 (i_lt rfl) rfl rf_0_3 rfl fl_PP_26 ?_
  refine z_getR (j := 16) C x_PP_rankOf_45 nk_15 ck_15 cw_2 (i_lt rfl) rfl rf_15_16 rfl fl_PP_446 ?_
  refine z_iload_n C 3 x_PP_rankOf_48 rfl ?_
  obtain ⟨c9, h⟩ := chk_e h
  obtain ⟨v10, ev10, h⟩ := blet_e h
  refine z_iald C x_PP_rankOf_49 nk_29 ck_29 c9 ev10 ?_
  refine z_i2l C x_PP_rankOf_50 ?_
  obtain ⟨v11, M12, fv11, h⟩ := bcall_e h
  refine z_callVv (k := 32) C x_PP_rankOf_51 cv_PP_449 (t_As_tell (lev := lev - 1) l G (by omega) fv11) nk_32 ck_32 rfl (by omega) rfl (i_le rfl) rfl ?_
  refine z_aload_n C 2 x_PP_rankOf_54 rfl ?_
  refine z_getR (j := 4) C x_PP_rankOf_55 nk_0 ck_0 cw_11 (i_lt rfl) rfl rf_0_4 rfl fl_PP_33 ?_
  refine z_iconst C x_PP_rankOf_58 ?_
  refine z_aload_n C 2 x_PP_rankOf_59 rfl ?_
  refine z_getR (j := 3) C x_PP_rankOf_60 nk_0 ck_0 cw_11 (i_lt rfl) rfl rf_0_3 rfl fl_PP_26 ?_
  refine z_getR (j := 15) C x_PP_rankOf_63 nk_15 ck_15 cw_2 (i_lt rfl) rfl rf_15_15 rfl fl_PP_453 ?_
  refine z_iload_n C 3 x_PP_rankOf_66 rfl ?_
  obtain ⟨c13, h⟩ := chk_e h
  obtain ⟨v14, ev14, h⟩ := blet_e h
  refine z_iald C x_PP_rankOf_67 nk_28 ck_28 c13 ev14 ?_
  refine z_i2l C x_PP_rankOf_68 ?_
  obtain ⟨v15, M16, fv15, h⟩ := bcall_e h
  refine z_callVv (k := 32) C x_PP_rankOf_69 cv_PP_449 (t_As_tell (lev := lev - 1) l G (by omega) fv15) nk_32 ck_32 rfl (by omega) rfl (i_le rfl) rfl ?_
  refine z_aload_n C 2 x_PP_rankOf_72 rfl ?_
  refine z_getR (j := 4) C x_PP_rankOf_73 nk_0 ck_0 cw_11 (i_lt rfl) rfl rf_0_4 rfl fl_PP_33 ?_
  refine z_iconst C x_PP_rankOf_76 ?_
  refine z_aload_n C 2 x_PP_rankOf_77 rfl ?_
  refine z_getR (j := 3) C x_PP_rankOf_78 nk_0 ck_0 cw_11 (i_lt rfl) rfl rf_0_3 rfl fl_PP_26 ?_
  refine z_iload_n C 1 x_PP_rankOf_81 rfl ?_
  obtain ⟨v17, M18, fv17, h⟩ := bcall_e h
  refine z_callVi (k := 15) C x_PP_rankOf_82 cv_PP_456 (t_Jo_netOf (lev := lev - 1) l G (by omega) fv17) nk_15 ck_15 rfl (by omega) rfl (i_le rfl) rfl ?_
  refine z_i2l C x_PP_rankOf_85 ?_
  obtain ⟨v19, M20, fv19, h⟩ := bcall_e h
  refine z_callVv (k := 32) C x_PP_rankOf_86 cv_PP_449 (t_As_tell (lev := lev - 1) l G (by omega) fv19) nk_32 ck_32 rfl (by omega) rfl (i_le rfl) rfl ?_
  refine z_aload_n C 2 x_PP_rankOf_89 rfl ?_
  refine z_getR (j := 4) C x_PP_rankOf_90 nk_0 ck_0 cw_11 (i_lt rfl) rfl rf_0_4 rfl fl_PP_33 ?_
  refine z_bipush C rfl x_PP_rankOf_93 ?_
  refine z_aload_n C 2 x_PP_rankOf_95 rfl ?_
  refine z_getR (j := 2) C x_PP_rankOf_96 nk_0 ck_0 cw_11 (i_lt rfl) rfl rf_0_2 rfl fl_PP_19 ?_
  refine z_getR (j := 1) C x_PP_rankOf_99 nk_5 ck_5 cw_7 (i_lt rfl) rfl rf_5_1 rfl fl_PP_459 ?_
  refine z_aload_n C 2 x_PP_rankOf_102 rfl ?_
  refine z_getR (j := 3) C x_PP_rankOf_103 nk_0 ck_0 cw_11 (i_lt rfl) rfl rf_0_3 rfl fl_PP_26 ?_
  refine z_getR (j := 3) C x_PP_rankOf_106 nk_15 ck_15 cw_2 (i_lt rfl) rfl rf_15_3 rfl fl_PP_158 ?_
  refine z_iload_n C 1 x_PP_rankOf_109 rfl ?_
  obtain ⟨c21, h⟩ := chk_e h
  obtain ⟨v22, ev22, h⟩ := blet_e h
  refine z_iald C x_PP_rankOf_110 nk_17 ck_17 c21 ev22 ?_
  obtain ⟨c23, h⟩ := chk_e h
  obtain ⟨v24, ev24, h⟩ := blet_e h
  refine z_iald C x_PP_rankOf_111 nk_6 ck_6 c23 ev24 ?_
  refine z_i2l C x_PP_rankOf_112 ?_
  obtain ⟨v25, M26, fv25, h⟩ := bcall_e h
  refine z_callVv (k := 32) C x_PP_rankOf_113 cv_PP_449 (t_As_tell (lev := lev - 1) l G (by omega) fv25) nk_32 ck_32 rfl (by omega) rfl (i_le rfl) rfl ?_
  refine z_aload_n C 2 x_PP_rankOf_116 rfl ?_
  refine z_getR (j := 4) C x_PP_rankOf_117 nk_0 ck_0 cw_11 (i_lt rfl) rfl rf_0_4 rfl fl_PP_33 ?_
  refine z_iconst C x_PP_rankOf_120 ?_
  obtain ⟨v27, M28, fv27, h⟩ := bcall_e h
  refine z_callVi (k := 32) C x_PP_rankOf_121 cv_PP_462 (t_As_ask (lev := lev - 1) l G (by omega) fv27) nk_32 ck_32 rfl (by omega) rfl (i_le rfl) rfl ?_
  exact z_iret C x_PP_rankOf_124 h
theorem x_PP_grading_0 : DC b_PP_grading 0 (.aload_n 0) 1 1 := ⟨by decide +kernel, rfl⟩
theorem x_PP_grading_1 : DC b_PP_grading 1 (.getfield 26) 3 4 := ⟨by decide +kernel, rfl⟩
theorem x_PP_grading_4 : DC b_PP_grading 4 (.iload_n 1) 1 5 := ⟨by decide +kernel, rfl⟩
theorem x_PP_grading_5 : DC b_PP_grading 5 (.invokevirtual 196) 3 8 := ⟨by decide +kernel, rfl⟩
theorem x_PP_grading_8 : DC b_PP_grading 8 (.ifCond .eq 23) 3 11 := ⟨by decide +kernel, rfl⟩
theorem x_PP_grading_11 : DC b_PP_grading 11 (.iload_n 2) 1 12 := ⟨by decide +kernel, rfl⟩
theorem x_PP_grading_12 : DC b_PP_grading 12 (.iconst 0) 1 13 := ⟨by decide +kernel, rfl⟩
theorem x_PP_grading_13 : DC b_PP_grading 13 (.iconst 5) 1 14 := ⟨by decide +kernel, rfl⟩
theorem x_PP_grading_14 : DC b_PP_grading 14 (.invokestatic 89) 3 17 := ⟨by decide +kernel, rfl⟩
theorem x_PP_grading_17 : DC b_PP_grading 17 (.ifCond .eq 14) 3 20 := ⟨by decide +kernel, rfl⟩
theorem x_PP_grading_20 : DC b_PP_grading 20 (.iload_n 3) 1 21 := ⟨by decide +kernel, rfl⟩
theorem x_PP_grading_21 : DC b_PP_grading 21 (.invokestatic 177) 3 24 := ⟨by decide +kernel, rfl⟩
theorem x_PP_grading_24 : DC b_PP_grading 24 (.ifCond .eq 7) 3 27 := ⟨by decide +kernel, rfl⟩
theorem x_PP_grading_27 : DC b_PP_grading 27 (.iconst 1) 1 28 := ⟨by decide +kernel, rfl⟩
theorem x_PP_grading_28 : DC b_PP_grading 28 (.goto 4) 3 31 := ⟨by decide +kernel, rfl⟩
theorem x_PP_grading_31 : DC b_PP_grading 31 (.iconst 0) 1 32 := ⟨by decide +kernel, rfl⟩
theorem x_PP_grading_32 : DC b_PP_grading 32 (.istore 5) 2 34 := ⟨by decide +kernel, rfl⟩
theorem x_PP_grading_34 : DC b_PP_grading 34 (.aload_n 0) 1 35 := ⟨by decide +kernel, rfl⟩
theorem x_PP_grading_35 : DC b_PP_grading 35 (.iload 5) 2 37 := ⟨by decide +kernel, rfl⟩
theorem x_PP_grading_37 : DC b_PP_grading 37 (.iload 4) 2 39 := ⟨by decide +kernel, rfl⟩
theorem x_PP_grading_39 : DC b_PP_grading 39 (.invokestatic 199) 3 42 := ⟨by decide +kernel, rfl⟩
theorem x_PP_grading_42 : DC b_PP_grading 42 (.aload_n 0) 1 43 := ⟨by decide +kernel, rfl⟩
theorem x_PP_grading_43 : DC b_PP_grading 43 (.getfield 26) 3 46 := ⟨by decide +kernel, rfl⟩
theorem x_PP_grading_46 : DC b_PP_grading 46 (.getfield 202) 3 49 := ⟨by decide +kernel, rfl⟩
theorem x_PP_grading_49 : DC b_PP_grading 49 (.bipush 100) 2 51 := ⟨by decide +kernel, rfl⟩
theorem x_PP_grading_51 : DC b_PP_grading 51 (.if_icmp .ge 7) 3 54 := ⟨by decide +kernel, rfl⟩
theorem x_PP_grading_54 : DC b_PP_grading 54 (.iconst 1) 1 55 := ⟨by decide +kernel, rfl⟩
theorem x_PP_grading_55 : DC b_PP_grading 55 (.goto 4) 3 58 := ⟨by decide +kernel, rfl⟩
theorem x_PP_grading_58 : DC b_PP_grading 58 (.iconst 0) 1 59 := ⟨by decide +kernel, rfl⟩
theorem x_PP_grading_59 : DC b_PP_grading 59 (.invokevirtual 130) 3 62 := ⟨by decide +kernel, rfl⟩
theorem x_PP_grading_62 : DC b_PP_grading 62 (.ifCond .ne 5) 3 65 := ⟨by decide +kernel, rfl⟩
theorem x_PP_grading_65 : DC b_PP_grading 65 (.iconst 0) 1 66 := ⟨by decide +kernel, rfl⟩
theorem x_PP_grading_66 : DC b_PP_grading 66 (.ireturn) 1 67 := ⟨by decide +kernel, rfl⟩
theorem x_PP_grading_67 : DC b_PP_grading 67 (.iload 4) 2 69 := ⟨by decide +kernel, rfl⟩
theorem x_PP_grading_69 : DC b_PP_grading 69 (.aload_n 0) 1 70 := ⟨by decide +kernel, rfl⟩
theorem x_PP_grading_70 : DC b_PP_grading 70 (.getfield 26) 3 73 := ⟨by decide +kernel, rfl⟩
theorem x_PP_grading_73 : DC b_PP_grading 73 (.getfield 205) 3 76 := ⟨by decide +kernel, rfl⟩
theorem x_PP_grading_76 : DC b_PP_grading 76 (.if_icmp .ge 11) 3 79 := ⟨by decide +kernel, rfl⟩
theorem x_PP_grading_79 : DC b_PP_grading 79 (.aload_n 0) 1 80 := ⟨by decide +kernel, rfl⟩
theorem x_PP_grading_80 : DC b_PP_grading 80 (.bipush 12) 2 82 := ⟨by decide +kernel, rfl⟩
theorem x_PP_grading_82 : DC b_PP_grading 82 (.putfield 85) 3 85 := ⟨by decide +kernel, rfl⟩
theorem x_PP_grading_85 : DC b_PP_grading 85 (.iconst 0) 1 86 := ⟨by decide +kernel, rfl⟩
theorem x_PP_grading_86 : DC b_PP_grading 86 (.ireturn) 1 87 := ⟨by decide +kernel, rfl⟩
theorem x_PP_grading_87 : DC b_PP_grading 87 (.aload_n 0) 1 88 := ⟨by decide +kernel, rfl⟩
theorem x_PP_grading_88 : DC b_PP_grading 88 (.getfield 26) 3 91 := ⟨by decide +kernel, rfl⟩
theorem x_PP_grading_91 : DC b_PP_grading 91 (.iload_n 1) 1 92 := ⟨by decide +kernel, rfl⟩
theorem x_PP_grading_92 : DC b_PP_grading 92 (.iload_n 2) 1 93 := ⟨by decide +kernel, rfl⟩
theorem x_PP_grading_93 : DC b_PP_grading 93 (.iload_n 3) 1 94 := ⟨by decide +kernel, rfl⟩
theorem x_PP_grading_94 : DC b_PP_grading 94 (.iload 4) 2 96 := ⟨by decide +kernel, rfl⟩
theorem x_PP_grading_96 : DC b_PP_grading 96 (.invokevirtual 208) 3 99 := ⟨by decide +kernel, rfl⟩
theorem x_PP_grading_99 : DC b_PP_grading 99 (.istore 6) 2 101 := ⟨by decide +kernel, rfl⟩
theorem x_PP_grading_101 : DC b_PP_grading 101 (.aload_n 0) 1 102 := ⟨by decide +kernel, rfl⟩
theorem x_PP_grading_102 : DC b_PP_grading 102 (.getfield 26) 3 105 := ⟨by decide +kernel, rfl⟩
theorem x_PP_grading_105 : DC b_PP_grading 105 (.getfield 212) 3 108 := ⟨by decide +kernel, rfl⟩
theorem x_PP_grading_108 : DC b_PP_grading 108 (.iload 6) 2 110 := ⟨by decide +kernel, rfl⟩
theorem x_PP_grading_110 : DC b_PP_grading 110 (.aload_n 0) 1 111 := ⟨by decide +kernel, rfl⟩
theorem x_PP_grading_111 : DC b_PP_grading 111 (.iload 6) 2 113 := ⟨by decide +kernel, rfl⟩
theorem x_PP_grading_113 : DC b_PP_grading 113 (.invokevirtual 215) 3 116 := ⟨by decide +kernel, rfl⟩
theorem x_PP_grading_116 : DC b_PP_grading 116 (.iastore) 1 117 := ⟨by decide +kernel, rfl⟩
theorem x_PP_grading_117 : DC b_PP_grading 117 (.iconst 1) 1 118 := ⟨by decide +kernel, rfl⟩
theorem x_PP_grading_118 : DC b_PP_grading 118 (.ireturn) 1 119 := ⟨by decide +kernel, rfl⟩
def k_PP_grading_59 (a1 a2 a3 a4 s1 s2 s3 : Int) (M : Mem) : Res := bcall (d_PP_passesWithRoom s1 s2 s3 M) fun v1 M2 => if w32 v1 = 0 then (some (0, M2)) else (blet (M2 15 1) fun v4 => if w32 a4 < w32 v4 then (blet (sto M2 0 0 12) fun M6 => some (0, M6)) else (bcall (d_Jo_enterGrading a1 a2 a3 a4 M2) fun v7 M8 => bcall (d_PP_rankOf v7 M8) fun v9 M10 => chk (0 ≤ w32 v7 ∧ w32 v7 < 100) <| blet (sto M10 30 (ix v7) v9) fun M12 => some (1, M12)))
theorem z_PP_grading_59 (C : Cx p s m args meth c G b_PP_grading 7 "PrairiePool" (some .boolean)) (hlev : 6 ≤ lev) {r : Int × Mem}  {a1 a2 a3 a4 s1 s2 s3 : Int} {M : Mem} (h : k_PP_grading_59 a1 a2 a3 a4 s1 s2 s3 M = some r) : Z p l e lev s m args below meth c G 7 (MQ below (Qm G 1 r) args s 0 0 (Ab G)) M 59 [(0, .ref (G.1 + 0)), (1, vi a1), (2, vi a2), (3, vi a3), (4, vi a4)] [vi s3, vi s2, vi s1, .ref (G.1 + 0)] := by
  unfold k_PP_grading_59 at h
  obtain ⟨v1, M2, fv1, h⟩ := bcall_e h
  refine z_callVi (k := 0) C x_PP_grading_59 cv_PP_130 (t_PP_passesWithRoom (lev := lev - 1) l G (by omega) fv1) nk_0 ck_0 rfl (by omega) rfl (i_le rfl) rfl ?_
  rcases ite_e h with ⟨c3, h⟩ | ⟨c3, h⟩
  · refine z_if_ne_f (tgt := 67) C x_PP_grading_62 rfl c3 ?_
    refine z_iconst C x_PP_grading_65 ?_
    exact z_zret C x_PP_grading_66 (by decide) h
  · refine z_if_ne_t (tgt := 67) C x_PP_grading_62 rfl c3 ?_
    refine z_iload C 4 x_PP_grading_67 rfl ?_
    refine z_aload_n C 0 x_PP_grading_69 rfl ?_
    refine z_getR (j := 3) C x_PP_grading_70 nk_0 ck_0 cw_11 (i_lt rfl) rfl rf_0_3 rfl fl_PP_26 ?_
    obtain ⟨v4, ev4, h⟩ := blet_e h
    refine z_getI (j := 1) C x_PP_grading_73 nk_15 ck_15 cw_2 (i_lt rfl) rfl rfl fl_PP_205 ev4 ?_
    rcases ite_e h with ⟨c5, h⟩ | ⟨c5, h⟩
    · refine z_icmp_ge_f (tgt := 87) C x_PP_grading_76 rfl c5 ?_
      refine z_aload_n C 0 x_PP_grading_79 rfl ?_
      refine z_bipush C rfl x_PP_grading_80 ?_
      obtain ⟨M6, eM6, h⟩ := blet_e h
      refine z_putI (j := 0) C x_PP_grading_82 nk_0 ck_0 cw_11 (i_lt rfl) rfl rfl rfl rfl fl_PP_85 eM6 ?_
      refine z_iconst C x_PP_grading_85 ?_
      exact z_zret C x_PP_grading_86 (by decide) h
    · refine z_icmp_ge_t (tgt := 87) C x_PP_grading_76 rfl c5 ?_
      refine z_aload_n C 0 x_PP_grading_87 rfl ?_
      refine z_getR (j := 3) C x_PP_grading_88 nk_0 ck_0 cw_11 (i_lt rfl) rfl rf_0_3 rfl fl_PP_26 ?_
      refine z_iload_n C 1 x_PP_grading_91 rfl ?_
      refine z_iload_n C 2 x_PP_grading_92 rfl ?_
      refine z_iload_n C 3 x_PP_grading_93 rfl ?_
      refine z_iload C 4 x_PP_grading_94 rfl ?_
      obtain ⟨v7, M8, fv7, h⟩ := bcall_e h
      refine z_callVi (k := 15) C x_PP_grading_96 cv_PP_208 (t_Jo_enterGrading (lev := lev - 1) l G (by omega) fv7) nk_15 ck_15 rfl (by omega) rfl (i_le rfl) rfl ?_
      refine z_istore (lv' := [(6, vi v7), (0, .ref (G.1 + 0)), (1, vi a1), (2, vi a2), (3, vi a3), (4, vi a4)]) C rfl x_PP_grading_99 (i_lt rfl) rfl ?_
      refine z_aload_n C 1 x_PP_grading_101 rfl ?_
      refine z_getR (j := 3) C x_PP_grading_102 nk_0 ck_0 cw_11 (i_lt rfl) rfl rf_0_3 rfl fl_PP_26 ?_
      refine z_getR (j := 17) C x_PP_grading_105 nk_15 ck_15 cw_2 (i_lt rfl) rfl rf_15_17 rfl fl_PP_212 ?_
      refine z_iload C 0 x_PP_grading_108 rfl ?_
      refine z_aload_n C 1 x_PP_grading_110 rfl ?_
      refine z_iload C 0 x_PP_grading_111 rfl ?_
      obtain ⟨v9, M10, fv9, h⟩ := bcall_e h
      refine z_callVi (k := 0) C x_PP_grading_113 cv_PP_215 (t_PP_rankOf (lev := lev - 1) l G (by omega) fv9) nk_0 ck_0 rfl (by omega) rfl (i_le rfl) rfl ?_
      obtain ⟨c11, h⟩ := chk_e h
      obtain ⟨M12, eM12, h⟩ := blet_e h
      refine z_iast C x_PP_grading_116 nk_30 ck_30 c11 eM12 ?_
      refine z_iconst C x_PP_grading_117 ?_
      exact z_zret C x_PP_grading_118 (by decide) h
def k_PP_grading_32 (a1 a2 a3 a4 s0 : Int) (M : Mem) : Res := bcall (d_PP_isWeek a4 M) fun v1 M2 => blet (M2 15 13) fun v3 => if w32 v3 < 100 then (k_PP_grading_59 a1 a2 a3 a4 s0 v1 1 M2) else (k_PP_grading_59 a1 a2 a3 a4 s0 v1 0 M2)
theorem z_PP_grading_32 (C : Cx p s m args meth c G b_PP_grading 7 "PrairiePool" (some .boolean)) (hlev : 6 ≤ lev) {r : Int × Mem}  {a1 a2 a3 a4 s0 : Int} {M : Mem} (h : k_PP_grading_32 a1 a2 a3 a4 s0 M = some r) : Z p l e lev s m args below meth c G 7 (MQ below (Qm G 1 r) args s 0 0 (Ab G)) M 32 [(0, .ref (G.1 + 0)), (1, vi a1), (2, vi a2), (3, vi a3), (4, vi a4)] [vi s0] := by
  unfold k_PP_grading_32 at h
  refine z_istore (lv' := [(5, vi s0), (0, .ref (G.1 + 0)), (1, vi a1), (2, vi a2), (3, vi a3), (4, vi a4)]) C rfl x_PP_grading_32 (i_lt rfl) rfl ?_
  refine z_aload_n C 1 x_PP_grading_34 rfl ?_
  refine z_iload C 0 x_PP_grading_35 rfl ?_
  refine z_iload C 5 x_PP_grading_37 rfl ?_
  obtain ⟨v1, M2, fv1, h⟩ := bcall_e h
  refine z_callSi C x_PP_grading_39 cs_PP_199 (t_PP_isWeek (lev := lev - 1) l G (by omega) fv1) (by omega) rfl (i_le rfl) rfl ?_
  refine z_aload_n C 1 x_PP_grading_42 rfl ?_
  refine z_getR (j := 3) C x_PP_grading_43 nk_0 ck_0 cw_11 (i_lt rfl) rfl rf_0_3 rfl fl_PP_26 ?_
  obtain ⟨v3, ev3, h⟩ := blet_e h
  refine z_getI (j := 13) C x_PP_grading_46 nk_15 ck_15 cw_2 (i_lt rfl) rfl rfl fl_PP_202 ev3 ?_
  refine z_bipush C rfl x_PP_grading_49 ?_
  rcases ite_e h with ⟨c4, h⟩ | ⟨c4, h⟩
  · refine z_icmp_ge_f (tgt := 58) C x_PP_grading_51 rfl c4 ?_
    refine z_iconst C x_PP_grading_54 ?_
    refine z_goto (tgt := 59) C x_PP_grading_55 rfl ?_
    exact z_sub [1, 2, 3, 4, 5] rfl (z_PP_grading_59 C hlev h)
  · refine z_icmp_ge_t (tgt := 58) C x_PP_grading_51 rfl c4 ?_
    refine z_iconst C x_PP_grading_58 ?_
    exact z_sub [1, 2, 3, 4, 5] rfl (z_PP_grading_59 C hlev h)
def k_PP_grading_31 (a1 a2 a3 a4 : Int) (M : Mem) : Res := k_PP_grading_32 a1 a2 a3 a4 0 M
theorem z_PP_grading_31 (C : Cx p s m args meth c G b_PP_grading 7 "PrairiePool" (some .boolean)) (hlev : 6 ≤ lev) {r : Int × Mem}  {a1 a2 a3 a4 : Int} {M : Mem} (h : k_PP_grading_31 a1 a2 a3 a4 M = some r) : Z p l e lev s m args below meth c G 7 (MQ below (Qm G 1 r) args s 0 0 (Ab G)) M 31 [(0, .ref (G.1 + 0)), (1, vi a1), (2, vi a2), (3, vi a3), (4, vi a4)] [] := by
  unfold k_PP_grading_31 at h
  refine z_iconst C x_PP_grading_31 ?_
  exact z_sub [0, 1, 2, 3, 4] rfl (z_PP_grading_32 C hlev h)
def d_PP_grading (a1 a2 a3 a4 : Int) (M : Mem) : Res := bcall (d_Jo_hasLoad a1 M) fun v1 M2 => if w32 v1 = 0 then (k_PP_grading_31 a1 a2 a3 a4 M2) else (bcall (d_PP_isIn a2 0 5 M2) fun v4 M5 => if w32 v4 = 0 then (k_PP_grading_31 a1 a2 a3 a4 M5) else (bcall (d_PP_isGrade a3 M5) fun v7 M8 => if w32 v7 = 0 then (k_PP_grading_31 a1 a2 a3 a4 M8) else (k_PP_grading_32 a1 a2 a3 a4 1 M8)))
theorem t_PP_grading (l : Launch) (G : GX) {lev : Nat} (hlev : 6 ≤ lev) {a1 a2 a3 a4 : Int} {M : Mem} {r : Int × Mem} (h : d_PP_grading a1 a2 a3 a4 M = some r) : Mt l G y_PP_grading b_PP_grading 7 (some .boolean) lev 1 [.ref (G.1 + 0), vi a1, vi a2, vi a3, vi a4] M r := by
  refine Mt.of (by decide) (i_le rfl) ?_
  intro p e s m args below meth c C
  have C : Cx p s m args meth c G b_PP_grading 7 "PrairiePool" (some .boolean) := C
  unfold d_PP_grading at h
  refine z_sub (lv' := [(0, .ref (G.1 + 0)), (1, vi a1), (2, vi a2), (3, vi a3), (4, vi a4)]) [0, 1, 2, 3, 4] rfl ?_
  refine z_aload_n C 0 x_PP_grading_0 rfl ?_
  refine z_getR (j := 3) C x_PP_grading_1 nk_0 ck_0 cw_11 (i_lt rfl) rfl rf_0_3 rfl fl_PP_26 ?_
  refine z_iload_n C 1 x_PP_grading_4 rfl ?_
  obtain ⟨v1, M2, fv1, h⟩ := bcall_e h
  refine z_callVi (k := 15) C x_PP_grading_5 cv_PP_196 (t_Jo_hasLoad (lev := lev - 1) l G (by omega) fv1) nk_15 ck_15 rfl (by omega) rfl (i_le rfl) rfl ?_
  rcases ite_e h with ⟨c3, h⟩ | ⟨c3, h⟩
  · refine z_if_eq_t (tgt := 31) C x_PP_grading_8 rfl c3 ?_
    exact z_sub [0, 1, 2, 3, 4] rfl (z_PP_grading_31 C hlev h)
  · refine z_if_eq_f (tgt := 31) C x_PP_grading_8 rfl c3 ?_
    refine z_iload_n C 2 x_PP_grading_11 rfl ?_
    refine z_iconst C x_PP_grading_12 ?_
    refine z_iconst C x_PP_grading_13 ?_
    obtain ⟨v4, M5, fv4, h⟩ := bcall_e h
    refine z_callSi C x_PP_grading_14 cs_PP_89 (t_PP_isIn (lev := lev - 1) l G (by omega) fv4) (by omega) rfl (i_le rfl) rfl ?_
    rcases ite_e h with ⟨c6, h⟩ | ⟨c6, h⟩
    · refine z_if_eq_t (tgt := 31) C x_PP_grading_17 rfl c6 ?_
      exact z_sub [0, 1, 2, 3, 4] rfl (z_PP_grading_31 C hlev h)
    · refine z_if_eq_f (tgt := 31) C x_PP_grading_17 rfl c6 ?_
      refine z_iload_n C 3 x_PP_grading_20 rfl ?_
      obtain ⟨v7, M8, fv7, h⟩ := bcall_e h
      refine z_callSi C x_PP_grading_21 cs_PP_177 (t_PP_isGrade (lev := lev - 1) l G (by omega) fv7) (by omega) rfl (i_le rfl) rfl ?_
      rcases ite_e h with ⟨c9, h⟩ | ⟨c9, h⟩
      · refine z_if_eq_t (tgt := 31) C x_PP_grading_24 rfl c9 ?_
        exact z_sub [0, 1, 2, 3, 4] rfl (z_PP_grading_31 C hlev h)
      · refine z_if_eq_f (tgt := 31) C x_PP_grading_24 rfl c9 ?_
        refine z_iconst C x_PP_grading_27 ?_
        refine z_goto (tgt := 32) C x_PP_grading_28 rfl ?_
        exact z_sub [0, 1, 2, 3, 4] rfl (z_PP_grading_32 C hlev h)
theorem x_PP_grade_0 : DC b_PP_grade 0 (.aload_n 0) 1 1 := ⟨by decide +kernel, rfl⟩
theorem x_PP_grade_1 : DC b_PP_grade 1 (.aload_n 0) 1 2 := ⟨by decide +kernel, rfl⟩
theorem x_PP_grade_2 : DC b_PP_grade 2 (.getfield 26) 3 5 := ⟨by decide +kernel, rfl⟩
theorem x_PP_grade_5 : DC b_PP_grade 5 (.iload_n 1) 1 6 := ⟨by decide +kernel, rfl⟩
theorem x_PP_grade_6 : DC b_PP_grade 6 (.invokevirtual 196) 3 9 := ⟨by decide +kernel, rfl⟩
theorem x_PP_grade_9 : DC b_PP_grade 9 (.iload_n 2) 1 10 := ⟨by decide +kernel, rfl⟩
theorem x_PP_grade_10 : DC b_PP_grade 10 (.invokestatic 199) 3 13 := ⟨by decide +kernel, rfl⟩
theorem x_PP_grade_13 : DC b_PP_grade 13 (.invokevirtual 219) 3 16 := ⟨by decide +kernel, rfl⟩
theorem x_PP_grade_16 : DC b_PP_grade 16 (.ifCond .ne 5) 3 19 := ⟨by decide +kernel, rfl⟩
theorem x_PP_grade_19 : DC b_PP_grade 19 (.iconst (-1)) 1 20 := ⟨by decide +kernel, rfl⟩
theorem x_PP_grade_20 : DC b_PP_grade 20 (.ireturn) 1 21 := ⟨by decide +kernel, rfl⟩
theorem x_PP_grade_21 : DC b_PP_grade 21 (.aload_n 0) 1 22 := ⟨by decide +kernel, rfl⟩
theorem x_PP_grade_22 : DC b_PP_grade 22 (.getfield 26) 3 25 := ⟨by decide +kernel, rfl⟩
theorem x_PP_grade_25 : DC b_PP_grade 25 (.getfield 223) 3 28 := ⟨by decide +kernel, rfl⟩
theorem x_PP_grade_28 : DC b_PP_grade 28 (.iload_n 1) 1 29 := ⟨by decide +kernel, rfl⟩
theorem x_PP_grade_29 : DC b_PP_grade 29 (.iaload) 1 30 := ⟨by decide +kernel, rfl⟩
theorem x_PP_grade_30 : DC b_PP_grade 30 (.iload_n 2) 1 31 := ⟨by decide +kernel, rfl⟩
theorem x_PP_grade_31 : DC b_PP_grade 31 (.if_icmp .le 11) 3 34 := ⟨by decide +kernel, rfl⟩
theorem x_PP_grade_34 : DC b_PP_grade 34 (.aload_n 0) 1 35 := ⟨by decide +kernel, rfl⟩
theorem x_PP_grade_35 : DC b_PP_grade 35 (.bipush 8) 2 37 := ⟨by decide +kernel, rfl⟩
theorem x_PP_grade_37 : DC b_PP_grade 37 (.putfield 85) 3 40 := ⟨by decide +kernel, rfl⟩
theorem x_PP_grade_40 : DC b_PP_grade 40 (.iconst (-1)) 1 41 := ⟨by decide +kernel, rfl⟩
theorem x_PP_grade_41 : DC b_PP_grade 41 (.ireturn) 1 42 := ⟨by decide +kernel, rfl⟩
theorem x_PP_grade_42 : DC b_PP_grade 42 (.aload_n 0) 1 43 := ⟨by decide +kernel, rfl⟩
theorem x_PP_grade_43 : DC b_PP_grade 43 (.getfield 56) 3 46 := ⟨by decide +kernel, rfl⟩
theorem x_PP_grade_46 : DC b_PP_grade 46 (.iload_n 2) 1 47 := ⟨by decide +kernel, rfl⟩
theorem x_PP_grade_47 : DC b_PP_grade 47 (.invokevirtual 226) 3 50 := ⟨by decide +kernel, rfl⟩
theorem x_PP_grade_50 : DC b_PP_grade 50 (.aload_n 0) 1 51 := ⟨by decide +kernel, rfl⟩
theorem x_PP_grade_51 : DC b_PP_grade 51 (.getfield 56) 3 54 := ⟨by decide +kernel, rfl⟩
theorem x_PP_grade_54 : DC b_PP_grade 54 (.getfield 230) 3 57 := ⟨by decide +kernel, rfl⟩
theorem x_PP_grade_57 : DC b_PP_grade 57 (.iload_n 1) 1 58 := ⟨by decide +kernel, rfl⟩
theorem x_PP_grade_58 : DC b_PP_grade 58 (.iaload) 1 59 := ⟨by decide +kernel, rfl⟩
theorem x_PP_grade_59 : DC b_PP_grade 59 (.ireturn) 1 60 := ⟨by decide +kernel, rfl⟩
def d_PP_grade (a1 a2 : Int) (M : Mem) : Res := bcall (d_Jo_hasLoad a1 M) fun v1 M2 => bcall (d_PP_isWeek a2 M2) fun v3 M4 => bcall (d_PP_passes v1 v3 M4) fun v5 M6 => if w32 v5 = 0 then (some ((-1), M6)) else (chk (0 ≤ w32 a1 ∧ w32 a1 < 120) <| blet (M6 26 (ix a1)) fun v9 => if w32 a2 < w32 v9 then (blet (sto M6 0 0 8) fun M11 => some ((-1), M11)) else (bcall (d_Pl_judge a2 M6) fun v12 M13 => chk (0 ≤ w32 a1 ∧ w32 a1 < 120) <| blet (M13 77 (ix a1)) fun v15 => some (v15, M13)))
theorem t_PP_grade (l : Launch) (G : GX) {lev : Nat} (hlev : 2 ≤ lev) {a1 a2 : Int} {M : Mem} {r : Int × Mem} (h : d_PP_grade a1 a2 M = some r) : Mt l G y_PP_grade b_PP_grade 3 (some .int) lev 1 [.ref (G.1 + 0), vi a1, vi a2] M r := by
  refine Mt.of (by decide) (i_le rfl) ?_
  intro p e s m args below meth c C
  have C : Cx p s m args meth c G b_PP_grade 3 "PrairiePool" (some .int) := C
  unfold d_PP_grade at h
  refine z_sub (lv' := [(0, .ref (G.1 + 0)), (1, vi a1), (2, vi a2)]) [0, 1, 2] rfl ?_
  refine z_aload_n C 0 x_PP_grade_0 rfl ?_
  refine z_aload_n C 0 x_PP_grade_1 rfl ?_
  refine z_getR (j := 3) C x_PP_grade_2 nk_0 ck_0 cw_11 (i_lt rfl) rfl rf_0_3 rfl fl_PP_26 ?_
  refine z_iload_n C 1 x_PP_grade_5 rfl ?_
  obtain ⟨v1, M2, fv1, h⟩ := bcall_e h
  refine z_callVi (k := 15) C x_PP_grade_6 cv_PP_196 (t_Jo_hasLoad (lev := lev - 1) l G (by omega) fv1) nk_15 ck_15 rfl (by omega) rfl (i_le rfl) rfl ?_
  refine z_iload_n C 2 x_PP_grade_9 rfl ?_
  obtain ⟨v3, M4, fv3, h⟩ := bcall_e h
  refine z_callSi C x_PP_grade_10 cs_PP_199 (t_PP_isWeek (lev := lev - 1) l G (by omega) fv3) (by omega) rfl (i_le rfl) rfl ?_
  obtain ⟨v5, M6, fv5, h⟩ := bcall_e h
  refine z_callVi (k := 0) C x_PP_grade_13 cv_PP_219 (t_PP_passes (lev := lev - 1) l G (by omega) fv5) nk_0 ck_0 rfl (by omega) rfl (i_le rfl) rfl ?_
  rcases ite_e h with ⟨c7, h⟩ | ⟨c7, h⟩
  · refine z_if_ne_f (tgt := 21) C x_PP_grade_16 rfl c7 ?_
    refine z_iconst C x_PP_grade_19 ?_
    exact z_iret C x_PP_grade_20 h
  · refine z_if_ne_t (tgt := 21) C x_PP_grade_16 rfl c7 ?_
    refine z_aload_n C 0 x_PP_grade_21 rfl ?_
    refine z_getR (j := 3) C x_PP_grade_22 nk_0 ck_0 cw_11 (i_lt rfl) rfl rf_0_3 rfl fl_PP_26 ?_
    refine z_getR (j := 12) C x_PP_grade_25 nk_15 ck_15 cw_2 (i_lt rfl) rfl rf_15_12 rfl fl_PP_223 ?_
    refine z_iload_n C 1 x_PP_grade_28 rfl ?_
    obtain ⟨c8, h⟩ := chk_e h
    obtain ⟨v9, ev9, h⟩ := blet_e h
    refine z_iald C x_PP_grade_29 nk_26 ck_26 c8 ev9 ?_
    refine z_iload_n C 2 x_PP_grade_30 rfl ?_
    rcases ite_e h with ⟨c10, h⟩ | ⟨c10, h⟩
    · refine z_icmp_le_f (tgt := 42) C x_PP_grade_31 rfl c10 ?_
      refine z_aload_n C 0 x_PP_grade_34 rfl ?_
      refine z_bipush C rfl x_PP_grade_35 ?_
      obtain ⟨M11, eM11, h⟩ := blet_e h
      refine z_putI (j := 0) C x_PP_grade_37 nk_0 ck_0 cw_11 (i_lt rfl) rfl rfl rfl rfl fl_PP_85 eM11 ?_
      refine z_iconst C x_PP_grade_40 ?_
      exact z_iret C x_PP_grade_41 h
    · refine z_icmp_le_t (tgt := 42) C x_PP_grade_31 rfl c10 ?_
      refine z_aload_n C 0 x_PP_grade_42 rfl ?_
      refine z_getR (j := 7) C x_PP_grade_43 nk_0 ck_0 cw_11 (i_lt rfl) rfl rf_0_7 rfl fl_PP_56 ?_
      refine z_iload_n C 2 x_PP_grade_46 rfl ?_
      obtain ⟨v12, M13, fv12, h⟩ := bcall_e h
      refine z_callVv (k := 75) C x_PP_grade_47 cv_PP_226 (t_Pl_judge (lev := lev - 1) l G (by omega) fv12) nk_75 ck_75 rfl (by omega) rfl (i_le rfl) rfl ?_
      refine z_aload_n C 0 x_PP_grade_50 rfl ?_
      refine z_getR (j := 7) C x_PP_grade_51 nk_0 ck_0 cw_11 (i_lt rfl) rfl rf_0_7 rfl fl_PP_56 ?_
      refine z_getR (j := 5) C x_PP_grade_54 nk_75 ck_75 cw_6 (i_lt rfl) rfl rf_75_5 rfl fl_PP_230 ?_
      refine z_iload_n C 1 x_PP_grade_57 rfl ?_
      obtain ⟨c14, h⟩ := chk_e h
      obtain ⟨v15, ev15, h⟩ := blet_e h
      refine z_iald C x_PP_grade_58 nk_77 ck_77 c14 ev15 ?_
      exact z_iret C x_PP_grade_59 h
theorem x_PP_isFarmOrNone_0 : DC b_PP_isFarmOrNone 0 (.iload_n 1) 1 1 := ⟨by decide +kernel, rfl⟩
theorem x_PP_isFarmOrNone_1 : DC b_PP_isFarmOrNone 1 (.iconst (-1)) 1 2 := ⟨by decide +kernel, rfl⟩
theorem x_PP_isFarmOrNone_2 : DC b_PP_isFarmOrNone 2 (.if_icmp .eq 14) 3 5 := ⟨by decide +kernel, rfl⟩
theorem x_PP_isFarmOrNone_5 : DC b_PP_isFarmOrNone 5 (.aload_n 0) 1 6 := ⟨by decide +kernel, rfl⟩
theorem x_PP_isFarmOrNone_6 : DC b_PP_isFarmOrNone 6 (.getfield 19) 3 9 := ⟨by decide +kernel, rfl⟩
theorem x_PP_isFarmOrNone_9 : DC b_PP_isFarmOrNone 9 (.iload_n 1) 1 10 := ⟨by decide +kernel, rfl⟩
theorem x_PP_isFarmOrNone_10 : DC b_PP_isFarmOrNone 10 (.invokevirtual 145) 3 13 := ⟨by decide +kernel, rfl⟩
theorem x_PP_isFarmOrNone_13 : DC b_PP_isFarmOrNone 13 (.ifCond .eq 7) 3 16 := ⟨by decide +kernel, rfl⟩
theorem x_PP_isFarmOrNone_16 : DC b_PP_isFarmOrNone 16 (.iconst 1) 1 17 := ⟨by decide +kernel, rfl⟩
theorem x_PP_isFarmOrNone_17 : DC b_PP_isFarmOrNone 17 (.goto 4) 3 20 := ⟨by decide +kernel, rfl⟩
theorem x_PP_isFarmOrNone_20 : DC b_PP_isFarmOrNone 20 (.iconst 0) 1 21 := ⟨by decide +kernel, rfl⟩
theorem x_PP_isFarmOrNone_21 : DC b_PP_isFarmOrNone 21 (.ireturn) 1 22 := ⟨by decide +kernel, rfl⟩
def k_PP_isFarmOrNone_16 (M : Mem) : Res := some (1, M)
theorem z_PP_isFarmOrNone_16 (C : Cx p s m args meth c G b_PP_isFarmOrNone 2 "PrairiePool" (some .boolean)) (hlev : 2 ≤ lev) {r : Int × Mem}  {M : Mem} (h : k_PP_isFarmOrNone_16 M = some r) : Z p l e lev s m args below meth c G 2 (MQ below (Qm G 1 r) args s 0 0 (Ab G)) M 16 [] [] := by
  unfold k_PP_isFarmOrNone_16 at h
  refine z_iconst C x_PP_isFarmOrNone_16 ?_
  refine z_goto (tgt := 21) C x_PP_isFarmOrNone_17 rfl ?_
  exact z_zret C x_PP_isFarmOrNone_21 (by decide) h
def d_PP_isFarmOrNone (a1 : Int) (M : Mem) : Res := if w32 a1 = (-1) then (k_PP_isFarmOrNone_16 M) else (bcall (d_Pr_hasFarm a1 M) fun v2 M3 => if w32 v2 = 0 then (some (0, M3)) else (k_PP_isFarmOrNone_16 M3))
theorem t_PP_isFarmOrNone (l : Launch) (G : GX) {lev : Nat} (hlev : 2 ≤ lev) {a1 : Int} {M : Mem} {r : Int × Mem} (h : d_PP_isFarmOrNone a1 M = some r) : Mt l G y_PP_isFarmOrNone b_PP_isFarmOrNone 2 (some .boolean) lev 1 [.ref (G.1 + 0), vi a1] M r := by
  refine Mt.of (by decide) (i_le rfl) ?_
  intro p e s m args below meth c C
  have C : Cx p s m args meth c G b_PP_isFarmOrNone 2 "PrairiePool" (some .boolean) := C
  unfold d_PP_isFarmOrNone at h
  refine z_sub (lv' := [(0, .ref (G.1 + 0)), (1, vi a1)]) [0, 1] rfl ?_
  refine z_iload_n C 1 x_PP_isFarmOrNone_0 rfl ?_
  refine z_iconst C x_PP_isFarmOrNone_1 ?_
  rcases ite_e h with ⟨c1, h⟩ | ⟨c1, h⟩
  · refine z_icmp_eq_t (tgt := 16) C x_PP_isFarmOrNone_2 rfl c1 ?_
    exact z_sub [] rfl (z_PP_isFarmOrNone_16 C hlev h)
  · refine z_icmp_eq_f (tgt := 16) C x_PP_isFarmOrNone_2 rfl c1 ?_
    refine z_aload_n C 0 x_PP_isFarmOrNone_5 rfl ?_
    refine z_getR (j := 2) C x_PP_isFarmOrNone_6 nk_0 ck_0 cw_11 (i_lt rfl) rfl rf_0_2 rfl fl_PP_19 ?_
    refine z_iload_n C 1 x_PP_isFarmOrNone_9 rfl ?_
    obtain ⟨v2, M3, fv2, h⟩ := bcall_e h
    refine z_callVi (k := 5) C x_PP_isFarmOrNone_10 cv_PP_145 (t_Pr_hasFarm (lev := lev - 1) l G (by omega) fv2) nk_5 ck_5 rfl (by omega) rfl (i_le rfl) rfl ?_
    rcases ite_e h with ⟨c4, h⟩ | ⟨c4, h⟩
    · refine z_if_eq_t (tgt := 20) C x_PP_isFarmOrNone_13 rfl c4 ?_
      refine z_iconst C x_PP_isFarmOrNone_20 ?_
      exact z_zret C x_PP_isFarmOrNone_21 (by decide) h
    · refine z_if_eq_f (tgt := 20) C x_PP_isFarmOrNone_13 rfl c4 ?_
      exact z_sub [] rfl (z_PP_isFarmOrNone_16 C hlev h)
theorem x_PP_bin_0 : DC b_PP_bin 0 (.aload_n 0) 1 1 := ⟨by decide +kernel, rfl⟩
theorem x_PP_bin_1 : DC b_PP_bin 1 (.getfield 19) 3 4 := ⟨by decide +kernel, rfl⟩
theorem x_PP_bin_4 : DC b_PP_bin 4 (.iload_n 1) 1 5 := ⟨by decide +kernel, rfl⟩
theorem x_PP_bin_5 : DC b_PP_bin 5 (.invokevirtual 148) 3 8 := ⟨by decide +kernel, rfl⟩
theorem x_PP_bin_8 : DC b_PP_bin 8 (.ifCond .eq 23) 3 11 := ⟨by decide +kernel, rfl⟩
theorem x_PP_bin_11 : DC b_PP_bin 11 (.iload_n 2) 1 12 := ⟨by decide +kernel, rfl⟩
theorem x_PP_bin_12 : DC b_PP_bin 12 (.invokestatic 177) 3 15 := ⟨by decide +kernel, rfl⟩
theorem x_PP_bin_15 : DC b_PP_bin 15 (.ifCond .eq 16) 3 18 := ⟨by decide +kernel, rfl⟩
theorem x_PP_bin_18 : DC b_PP_bin 18 (.aload_n 0) 1 19 := ⟨by decide +kernel, rfl⟩
theorem x_PP_bin_19 : DC b_PP_bin 19 (.iload 4) 2 21 := ⟨by decide +kernel, rfl⟩
theorem x_PP_bin_21 : DC b_PP_bin 21 (.invokevirtual 233) 3 24 := ⟨by decide +kernel, rfl⟩
theorem x_PP_bin_24 : DC b_PP_bin 24 (.ifCond .eq 7) 3 27 := ⟨by decide +kernel, rfl⟩
theorem x_PP_bin_27 : DC b_PP_bin 27 (.iconst 1) 1 28 := ⟨by decide +kernel, rfl⟩
theorem x_PP_bin_28 : DC b_PP_bin 28 (.goto 4) 3 31 := ⟨by decide +kernel, rfl⟩
theorem x_PP_bin_31 : DC b_PP_bin 31 (.iconst 0) 1 32 := ⟨by decide +kernel, rfl⟩
theorem x_PP_bin_32 : DC b_PP_bin 32 (.istore 6) 2 34 := ⟨by decide +kernel, rfl⟩
theorem x_PP_bin_34 : DC b_PP_bin 34 (.aload_n 0) 1 35 := ⟨by decide +kernel, rfl⟩
theorem x_PP_bin_35 : DC b_PP_bin 35 (.iload 6) 2 37 := ⟨by decide +kernel, rfl⟩
theorem x_PP_bin_37 : DC b_PP_bin 37 (.iload_n 3) 1 38 := ⟨by decide +kernel, rfl⟩
theorem x_PP_bin_38 : DC b_PP_bin 38 (.invokestatic 180) 3 41 := ⟨by decide +kernel, rfl⟩
theorem x_PP_bin_41 : DC b_PP_bin 41 (.ifCond .eq 15) 3 44 := ⟨by decide +kernel, rfl⟩
theorem x_PP_bin_44 : DC b_PP_bin 44 (.iload 5) 2 46 := ⟨by decide +kernel, rfl⟩
theorem x_PP_bin_46 : DC b_PP_bin 46 (.invokestatic 199) 3 49 := ⟨by decide +kernel, rfl⟩
theorem x_PP_bin_49 : DC b_PP_bin 49 (.ifCond .eq 7) 3 52 := ⟨by decide +kernel, rfl⟩
theorem x_PP_bin_52 : DC b_PP_bin 52 (.iconst 1) 1 53 := ⟨by decide +kernel, rfl⟩
theorem x_PP_bin_53 : DC b_PP_bin 53 (.goto 4) 3 56 := ⟨by decide +kernel, rfl⟩
theorem x_PP_bin_56 : DC b_PP_bin 56 (.iconst 0) 1 57 := ⟨by decide +kernel, rfl⟩
theorem x_PP_bin_57 : DC b_PP_bin 57 (.invokevirtual 219) 3 60 := ⟨by decide +kernel, rfl⟩
theorem x_PP_bin_60 : DC b_PP_bin 60 (.ifCond .ne 5) 3 63 := ⟨by decide +kernel, rfl⟩
theorem x_PP_bin_63 : DC b_PP_bin 63 (.iconst (-1)) 1 64 := ⟨by decide +kernel, rfl⟩
theorem x_PP_bin_64 : DC b_PP_bin 64 (.ireturn) 1 65 := ⟨by decide +kernel, rfl⟩
theorem x_PP_bin_65 : DC b_PP_bin 65 (.aload_n 0) 1 66 := ⟨by decide +kernel, rfl⟩
theorem x_PP_bin_66 : DC b_PP_bin 66 (.getfield 56) 3 69 := ⟨by decide +kernel, rfl⟩
theorem x_PP_bin_69 : DC b_PP_bin 69 (.iload 5) 2 71 := ⟨by decide +kernel, rfl⟩
theorem x_PP_bin_71 : DC b_PP_bin 71 (.invokevirtual 236) 3 74 := ⟨by decide +kernel, rfl⟩
theorem x_PP_bin_74 : DC b_PP_bin 74 (.aload_n 0) 1 75 := ⟨by decide +kernel, rfl⟩
theorem x_PP_bin_75 : DC b_PP_bin 75 (.getfield 56) 3 78 := ⟨by decide +kernel, rfl⟩
theorem x_PP_bin_78 : DC b_PP_bin 78 (.iload_n 1) 1 79 := ⟨by decide +kernel, rfl⟩
theorem x_PP_bin_79 : DC b_PP_bin 79 (.iload_n 2) 1 80 := ⟨by decide +kernel, rfl⟩
theorem x_PP_bin_80 : DC b_PP_bin 80 (.iload_n 3) 1 81 := ⟨by decide +kernel, rfl⟩
theorem x_PP_bin_81 : DC b_PP_bin 81 (.invokestatic 239) 3 84 := ⟨by decide +kernel, rfl⟩
theorem x_PP_bin_84 : DC b_PP_bin 84 (.iload 4) 2 86 := ⟨by decide +kernel, rfl⟩
theorem x_PP_bin_86 : DC b_PP_bin 86 (.invokevirtual 242) 3 89 := ⟨by decide +kernel, rfl⟩
theorem x_PP_bin_89 : DC b_PP_bin 89 (.ireturn) 1 90 := ⟨by decide +kernel, rfl⟩
def k_PP_bin_57 (a1 a2 a3 a4 a5 s1 s2 : Int) (M : Mem) : Res := bcall (d_PP_passes s1 s2 M) fun v1 M2 => if w32 v1 = 0 then (some ((-1), M2)) else (bcall (d_Pl_replay a5 M2) fun v4 M5 => bcall (d_Pl_slotOfBin a1 a2 a3 M5) fun v6 M7 => bcall (d_Pl_bushelsAt v6 a4 M7) fun v8 M9 => some (v8, M9))
theorem z_PP_bin_57 (C : Cx p s m args meth c G b_PP_bin 7 "PrairiePool" (some .int)) (hlev : 5 ≤ lev) {r : Int × Mem}  {a1 a2 a3 a4 a5 s1 s2 : Int} {M : Mem} (h : k_PP_bin_57 a1 a2 a3 a4 a5 s1 s2 M = some r) : Z p l e lev s m args below meth c G 7 (MQ below (Qm G 1 r) args s 0 0 (Ab G)) M 57 [(0, .ref (G.1 + 0)), (1, vi a1), (2, vi a2), (3, vi a3), (4, vi a4), (5, vi a5)] [vi s2, vi s1, .ref (G.1 + 0)] := by
  unfold k_PP_bin_57 at h
  obtain ⟨v1, M2, fv1, h⟩ := bcall_e h
  refine z_callVi (k := 0) C x_PP_bin_57 cv_PP_219 (t_PP_passes (lev := lev - 1) l G (by omega) fv1) nk_0 ck_0 rfl (by omega) rfl (i_le rfl) rfl ?_
  rcases ite_e h with ⟨c3, h⟩ | ⟨c3, h⟩
  · refine z_if_ne_f (tgt := 65) C x_PP_bin_60 rfl c3 ?_
    refine z_iconst C x_PP_bin_63 ?_
    exact z_iret C x_PP_bin_64 h
  · refine z_if_ne_t (tgt := 65) C x_PP_bin_60 rfl c3 ?_
    refine z_aload_n C 0 x_PP_bin_65 rfl ?_
    refine z_getR (j := 7) C x_PP_bin_66 nk_0 ck_0 cw_11 (i_lt rfl) rfl rf_0_7 rfl fl_PP_56 ?_
    refine z_iload C 5 x_PP_bin_69 rfl ?_
    obtain ⟨v4, M5, fv4, h⟩ := bcall_e h
    refine z_callVv (k := 75) C x_PP_bin_71 cv_PP_236 (t_Pl_replay (lev := lev - 1) l G (by omega) fv4) nk_75 ck_75 rfl (by omega) rfl (i_le rfl) rfl ?_
    refine z_aload_n C 0 x_PP_bin_74 rfl ?_
    refine z_getR (j := 7) C x_PP_bin_75 nk_0 ck_0 cw_11 (i_lt rfl) rfl rf_0_7 rfl fl_PP_56 ?_
    refine z_iload_n C 1 x_PP_bin_78 rfl ?_
    refine z_iload_n C 2 x_PP_bin_79 rfl ?_
    refine z_iload_n C 3 x_PP_bin_80 rfl ?_
    obtain ⟨v6, M7, fv6, h⟩ := bcall_e h
    refine z_callSi C x_PP_bin_81 cs_PP_239 (t_Pl_slotOfBin (lev := lev - 1) l G (by omega) fv6) (by omega) rfl (i_le rfl) rfl ?_
    refine z_iload C 4 x_PP_bin_84 rfl ?_
    obtain ⟨v8, M9, fv8, h⟩ := bcall_e h
    refine z_callVi (k := 75) C x_PP_bin_86 cv_PP_242 (t_Pl_bushelsAt (lev := lev - 1) l G (by omega) fv8) nk_75 ck_75 rfl (by omega) rfl (i_le rfl) rfl ?_
    exact z_iret C x_PP_bin_89 h
def k_PP_bin_56 (a1 a2 a3 a4 a5 s1 : Int) (M : Mem) : Res := k_PP_bin_57 a1 a2 a3 a4 a5 s1 0 M
theorem z_PP_bin_56 (C : Cx p s m args meth c G b_PP_bin 7 "PrairiePool" (some .int)) (hlev : 5 ≤ lev) {r : Int × Mem}  {a1 a2 a3 a4 a5 s1 : Int} {M : Mem} (h : k_PP_bin_56 a1 a2 a3 a4 a5 s1 M = some r) : Z p l e lev s m args below meth c G 7 (MQ below (Qm G 1 r) args s 0 0 (Ab G)) M 56 [(0, .ref (G.1 + 0)), (1, vi a1), (2, vi a2), (3, vi a3), (4, vi a4), (5, vi a5)] [vi s1, .ref (G.1 + 0)] := by
  unfold k_PP_bin_56 at h
  refine z_iconst C x_PP_bin_56 ?_
  exact z_sub [0, 1, 2, 3, 4, 5] rfl (z_PP_bin_57 C hlev h)
def k_PP_bin_32 (a1 a2 a3 a4 a5 s0 : Int) (M : Mem) : Res := bcall (d_PP_isYear a3 M) fun v1 M2 => if w32 v1 = 0 then (k_PP_bin_56 a1 a2 a3 a4 a5 s0 M2) else (bcall (d_PP_isWeek a5 M2) fun v4 M5 => if w32 v4 = 0 then (k_PP_bin_56 a1 a2 a3 a4 a5 s0 M5) else (k_PP_bin_57 a1 a2 a3 a4 a5 s0 1 M5))
theorem z_PP_bin_32 (C : Cx p s m args meth c G b_PP_bin 7 "PrairiePool" (some .int)) (hlev : 5 ≤ lev) {r : Int × Mem}  {a1 a2 a3 a4 a5 s0 : Int} {M : Mem} (h : k_PP_bin_32 a1 a2 a3 a4 a5 s0 M = some r) : Z p l e lev s m args below meth c G 7 (MQ below (Qm G 1 r) args s 0 0 (Ab G)) M 32 [(0, .ref (G.1 + 0)), (1, vi a1), (2, vi a2), (3, vi a3), (4, vi a4), (5, vi a5)] [vi s0] := by
  unfold k_PP_bin_32 at h
  refine z_istore (lv' := [(6, vi s0), (0, .ref (G.1 + 0)), (1, vi a1), (2, vi a2), (3, vi a3), (4, vi a4), (5, vi a5)]) C rfl x_PP_bin_32 (i_lt rfl) rfl ?_
  refine z_aload_n C 1 x_PP_bin_34 rfl ?_
  refine z_iload C 0 x_PP_bin_35 rfl ?_
  refine z_iload_n C 4 x_PP_bin_37 rfl ?_
  obtain ⟨v1, M2, fv1, h⟩ := bcall_e h
  refine z_callSi C x_PP_bin_38 cs_PP_180 (t_PP_isYear (lev := lev - 1) l G (by omega) fv1) (by omega) rfl (i_le rfl) rfl ?_
  rcases ite_e h with ⟨c3, h⟩ | ⟨c3, h⟩
  · refine z_if_eq_t (tgt := 56) C x_PP_bin_41 rfl c3 ?_
    exact z_sub [1, 2, 3, 4, 5, 6] rfl (z_PP_bin_56 C hlev h)
  · refine z_if_eq_f (tgt := 56) C x_PP_bin_41 rfl c3 ?_
    refine z_iload C 6 x_PP_bin_44 rfl ?_
    obtain ⟨v4, M5, fv4, h⟩ := bcall_e h
    refine z_callSi C x_PP_bin_46 cs_PP_199 (t_PP_isWeek (lev := lev - 1) l G (by omega) fv4) (by omega) rfl (i_le rfl) rfl ?_
    rcases ite_e h with ⟨c6, h⟩ | ⟨c6, h⟩
    · refine z_if_eq_t (tgt := 56) C x_PP_bin_49 rfl c6 ?_
      exact z_sub [1, 2, 3, 4, 5, 6] rfl (z_PP_bin_56 C hlev h)
    · refine z_if_eq_f (tgt := 56) C x_PP_bin_49 rfl c6 ?_
      refine z_iconst C x_PP_bin_52 ?_
      refine z_goto (tgt := 57) C x_PP_bin_53 rfl ?_
      exact z_sub [1, 2, 3, 4, 5, 6] rfl (z_PP_bin_57 C hlev h)
def k_PP_bin_31 (a1 a2 a3 a4 a5 : Int) (M : Mem) : Res := k_PP_bin_32 a1 a2 a3 a4 a5 0 M
theorem z_PP_bin_31 (C : Cx p s m args meth c G b_PP_bin 7 "PrairiePool" (some .int)) (hlev : 5 ≤ lev) {r : Int × Mem}  {a1 a2 a3 a4 a5 : Int} {M : Mem} (h : k_PP_bin_31 a1 a2 a3 a4 a5 M = some r) : Z p l e lev s m args below meth c G 7 (MQ below (Qm G 1 r) args s 0 0 (Ab G)) M 31 [(0, .ref (G.1 + 0)), (1, vi a1), (2, vi a2), (3, vi a3), (4, vi a4), (5, vi a5)] [] := by
  unfold k_PP_bin_31 at h
  refine z_iconst C x_PP_bin_31 ?_
  exact z_sub [0, 1, 2, 3, 4, 5] rfl (z_PP_bin_32 C hlev h)
def d_PP_bin (a1 a2 a3 a4 a5 : Int) (M : Mem) : Res := bcall (d_Pr_hasElevator a1 M) fun v1 M2 => if w32 v1 = 0 then (k_PP_bin_31 a1 a2 a3 a4 a5 M2) else (bcall (d_PP_isGrade a2 M2) fun v4 M5 => if w32 v4 = 0 then (k_PP_bin_31 a1 a2 a3 a4 a5 M5) else (bcall (d_PP_isFarmOrNone a4 M5) fun v7 M8 => if w32 v7 = 0 then (k_PP_bin_31 a1 a2 a3 a4 a5 M8) else (k_PP_bin_32 a1 a2 a3 a4 a5 1 M8)))
theorem t_PP_bin (l : Launch) (G : GX) {lev : Nat} (hlev : 5 ≤ lev) {a1 a2 a3 a4 a5 : Int} {M : Mem} {r : Int × Mem} (h : d_PP_bin a1 a2 a3 a4 a5 M = some r) : Mt l G y_PP_bin b_PP_bin 7 (some .int) lev 1 [.ref (G.1 + 0), vi a1, vi a2, vi a3, vi a4, vi a5] M r := by
  refine Mt.of (by decide) (i_le rfl) ?_
  intro p e s m args below meth c C
  have C : Cx p s m args meth c G b_PP_bin 7 "PrairiePool" (some .int) := C
  unfold d_PP_bin at h
  refine z_sub (lv' := [(0, .ref (G.1 + 0)), (1, vi a1), (2, vi a2), (3, vi a3), (4, vi a4), (5, vi a5)]) [0, 1, 2, 3, 4, 5] rfl ?_
  refine z_aload_n C 0 x_PP_bin_0 rfl ?_
  refine z_getR (j := 2) C x_PP_bin_1 nk_0 ck_0 cw_11 (i_lt rfl) rfl rf_0_2 rfl fl_PP_19 ?_
  refine z_iload_n C 1 x_PP_bin_4 rfl ?_
  obtain ⟨v1, M2, fv1, h⟩ := bcall_e h
  refine z_callVi (k := 5) C x_PP_bin_5 cv_PP_148 (t_Pr_hasElevator (lev := lev - 1) l G (by omega) fv1) nk_5 ck_5 rfl (by omega) rfl (i_le rfl) rfl ?_
  rcases ite_e h with ⟨c3, h⟩ | ⟨c3, h⟩
  · refine z_if_eq_t (tgt := 31) C x_PP_bin_8 rfl c3 ?_
    exact z_sub [0, 1, 2, 3, 4, 5] rfl (z_PP_bin_31 C hlev h)
  · refine z_if_eq_f (tgt := 31) C x_PP_bin_8 rfl c3 ?_
    refine z_iload_n C 2 x_PP_bin_11 rfl ?_
    obtain ⟨v4, M5, fv4, h⟩ := bcall_e h
    refine z_callSi C x_PP_bin_12 cs_PP_177 (t_PP_isGrade (lev := lev - 1) l G (by omega) fv4) (by omega) rfl (i_le rfl) rfl ?_
    rcases ite_e h with ⟨c6, h⟩ | ⟨c6, h⟩
    · refine z_if_eq_t (tgt := 31) C x_PP_bin_15 rfl c6 ?_
      exact z_sub [0, 1, 2, 3, 4, 5] rfl (z_PP_bin_31 C hlev h)
    · refine z_if_eq_f (tgt := 31) C x_PP_bin_15 rfl c6 ?_
      refine z_aload_n C 0 x_PP_bin_18 rfl ?_
      refine z_iload C 4 x_PP_bin_19 rfl ?_
      obtain ⟨v7, M8, fv7, h⟩ := bcall_e h
      refine z_callVi (k := 0) C x_PP_bin_21 cv_PP_233 (t_PP_isFarmOrNone (lev := lev - 1) l G (by omega) fv7) nk_0 ck_0 rfl (by omega) rfl (i_le rfl) rfl ?_
      rcases ite_e h with ⟨c9, h⟩ | ⟨c9, h⟩
      · refine z_if_eq_t (tgt := 31) C x_PP_bin_24 rfl c9 ?_
        exact z_sub [0, 1, 2, 3, 4, 5] rfl (z_PP_bin_31 C hlev h)
      · refine z_if_eq_f (tgt := 31) C x_PP_bin_24 rfl c9 ?_
        refine z_iconst C x_PP_bin_27 ?_
        refine z_goto (tgt := 32) C x_PP_bin_28 rfl ?_
        exact z_sub [0, 1, 2, 3, 4, 5] rfl (z_PP_bin_32 C hlev h)
theorem x_PP_port_0 : DC b_PP_port 0 (.iload_n 1) 1 1 := ⟨by decide +kernel, rfl⟩
theorem x_PP_port_1 : DC b_PP_port 1 (.invokestatic 174) 3 4 := ⟨by decide +kernel, rfl⟩
theorem x_PP_port_4 : DC b_PP_port 4 (.ifCond .eq 23) 3 7 := ⟨by decide +kernel, rfl⟩
theorem x_PP_port_7 : DC b_PP_port 7 (.iload_n 2) 1 8 := ⟨by decide +kernel, rfl⟩
theorem x_PP_port_8 : DC b_PP_port 8 (.invokestatic 177) 3 11 := ⟨by decide +kernel, rfl⟩
theorem x_PP_port_11 : DC b_PP_port 11 (.ifCond .eq 16) 3 14 := ⟨by decide +kernel, rfl⟩
theorem x_PP_port_14 : DC b_PP_port 14 (.aload_n 0) 1 15 := ⟨by decide +kernel, rfl⟩
theorem x_PP_port_15 : DC b_PP_port 15 (.iload 4) 2 17 := ⟨by decide +kernel, rfl⟩
theorem x_PP_port_17 : DC b_PP_port 17 (.invokevirtual 233) 3 20 := ⟨by decide +kernel, rfl⟩
theorem x_PP_port_20 : DC b_PP_port 20 (.ifCond .eq 7) 3 23 := ⟨by decide +kernel, rfl⟩
theorem x_PP_port_23 : DC b_PP_port 23 (.iconst 1) 1 24 := ⟨by decide +kernel, rfl⟩
theorem x_PP_port_24 : DC b_PP_port 24 (.goto 4) 3 27 := ⟨by decide +kernel, rfl⟩
theorem x_PP_port_27 : DC b_PP_port 27 (.iconst 0) 1 28 := ⟨by decide +kernel, rfl⟩
theorem x_PP_port_28 : DC b_PP_port 28 (.istore 6) 2 30 := ⟨by decide +kernel, rfl⟩
theorem x_PP_port_30 : DC b_PP_port 30 (.aload_n 0) 1 31 := ⟨by decide +kernel, rfl⟩
theorem x_PP_port_31 : DC b_PP_port 31 (.iload 6) 2 33 := ⟨by decide +kernel, rfl⟩
theorem x_PP_port_33 : DC b_PP_port 33 (.iload_n 3) 1 34 := ⟨by decide +kernel, rfl⟩
theorem x_PP_port_34 : DC b_PP_port 34 (.invokestatic 180) 3 37 := ⟨by decide +kernel, rfl⟩
theorem x_PP_port_37 : DC b_PP_port 37 (.ifCond .eq 15) 3 40 := ⟨by decide +kernel, rfl⟩
theorem x_PP_port_40 : DC b_PP_port 40 (.iload 5) 2 42 := ⟨by decide +kernel, rfl⟩
theorem x_PP_port_42 : DC b_PP_port 42 (.invokestatic 199) 3 45 := ⟨by decide +kernel, rfl⟩
theorem x_PP_port_45 : DC b_PP_port 45 (.ifCond .eq 7) 3 48 := ⟨by decide +kernel, rfl⟩
theorem x_PP_port_48 : DC b_PP_port 48 (.iconst 1) 1 49 := ⟨by decide +kernel, rfl⟩
theorem x_PP_port_49 : DC b_PP_port 49 (.goto 4) 3 52 := ⟨by decide +kernel, rfl⟩
theorem x_PP_port_52 : DC b_PP_port 52 (.iconst 0) 1 53 := ⟨by decide +kernel, rfl⟩
theorem x_PP_port_53 : DC b_PP_port 53 (.invokevirtual 219) 3 56 := ⟨by decide +kernel, rfl⟩
theorem x_PP_port_56 : DC b_PP_port 56 (.ifCond .ne 5) 3 59 := ⟨by decide +kernel, rfl⟩
theorem x_PP_port_59 : DC b_PP_port 59 (.iconst (-1)) 1 60 := ⟨by decide +kernel, rfl⟩
theorem x_PP_port_60 : DC b_PP_port 60 (.ireturn) 1 61 := ⟨by decide +kernel, rfl⟩
theorem x_PP_port_61 : DC b_PP_port 61 (.aload_n 0) 1 62 := ⟨by decide +kernel, rfl⟩
theorem x_PP_port_62 : DC b_PP_port 62 (.getfield 56) 3 65 := ⟨by decide +kernel, rfl⟩
theorem x_PP_port_65 : DC b_PP_port 65 (.iload 5) 2 67 := ⟨by decide +kernel, rfl⟩
theorem x_PP_port_67 : DC b_PP_port 67 (.invokevirtual 236) 3 70 := ⟨by decide +kernel, rfl⟩
theorem x_PP_port_70 : DC b_PP_port 70 (.aload_n 0) 1 71 := ⟨by decide +kernel, rfl⟩
theorem x_PP_port_71 : DC b_PP_port 71 (.getfield 56) 3 74 := ⟨by decide +kernel, rfl⟩
theorem x_PP_port_74 : DC b_PP_port 74 (.iload_n 1) 1 75 := ⟨by decide +kernel, rfl⟩
theorem x_PP_port_75 : DC b_PP_port 75 (.iload_n 2) 1 76 := ⟨by decide +kernel, rfl⟩
theorem x_PP_port_76 : DC b_PP_port 76 (.iload_n 3) 1 77 := ⟨by decide +kernel, rfl⟩
theorem x_PP_port_77 : DC b_PP_port 77 (.invokestatic 245) 3 80 := ⟨by decide +kernel, rfl⟩
theorem x_PP_port_80 : DC b_PP_port 80 (.iload 4) 2 82 := ⟨by decide +kernel, rfl⟩
theorem x_PP_port_82 : DC b_PP_port 82 (.invokevirtual 242) 3 85 := ⟨by decide +kernel, rfl⟩
theorem x_PP_port_85 : DC b_PP_port 85 (.ireturn) 1 86 := ⟨by decide +kernel, rfl⟩
def k_PP_port_53 (a1 a2 a3 a4 a5 s1 s2 : Int) (M : Mem) : Res := bcall (d_PP_passes s1 s2 M) fun v1 M2 => if w32 v1 = 0 then (some ((-1), M2)) else (bcall (d_Pl_replay a5 M2) fun v4 M5 => bcall (d_Pl_slotOfPort a1 a2 a3 M5) fun v6 M7 => bcall (d_Pl_bushelsAt v6 a4 M7) fun v8 M9 => some (v8, M9))
theorem z_PP_port_53 (C : Cx p s m args meth c G b_PP_port 7 "PrairiePool" (some .int)) (hlev : 5 ≤ lev) {r : Int × Mem}  {a1 a2 a3 a4 a5 s1 s2 : Int} {M : Mem} (h : k_PP_port_53 a1 a2 a3 a4 a5 s1 s2 M = some r) : Z p l e lev s m args below meth c G 7 (MQ below (Qm G 1 r) args s 0 0 (Ab G)) M 53 [(0, .ref (G.1 + 0)), (1, vi a1), (2, vi a2), (3, vi a3), (4, vi a4), (5, vi a5)] [vi s2, vi s1, .ref (G.1 + 0)] := by
  unfold k_PP_port_53 at h
  obtain ⟨v1, M2, fv1, h⟩ := bcall_e h
  refine z_callVi (k := 0) C x_PP_port_53 cv_PP_219 (t_PP_passes (lev := lev - 1) l G (by omega) fv1) nk_0 ck_0 rfl (by omega) rfl (i_le rfl) rfl ?_
  rcases ite_e h with ⟨c3, h⟩ | ⟨c3, h⟩
  · refine z_if_ne_f (tgt := 61) C x_PP_port_56 rfl c3 ?_
    refine z_iconst C x_PP_port_59 ?_
    exact z_iret C x_PP_port_60 h
  · refine z_if_ne_t (tgt := 61) C x_PP_port_56 rfl c3 ?_
    refine z_aload_n C 0 x_PP_port_61 rfl ?_
    refine z_getR (j := 7) C x_PP_port_62 nk_0 ck_0 cw_11 (i_lt rfl) rfl rf_0_7 rfl fl_PP_56 ?_
    refine z_iload C 5 x_PP_port_65 rfl ?_
    obtain ⟨v4, M5, fv4, h⟩ := bcall_e h
    refine z_callVv (k := 75) C x_PP_port_67 cv_PP_236 (t_Pl_replay (lev := lev - 1) l G (by omega) fv4) nk_75 ck_75 rfl (by omega) rfl (i_le rfl) rfl ?_
    refine z_aload_n C 0 x_PP_port_70 rfl ?_
    refine z_getR (j := 7) C x_PP_port_71 nk_0 ck_0 cw_11 (i_lt rfl) rfl rf_0_7 rfl fl_PP_56 ?_
    refine z_iload_n C 1 x_PP_port_74 rfl ?_
    refine z_iload_n C 2 x_PP_port_75 rfl ?_
    refine z_iload_n C 3 x_PP_port_76 rfl ?_
    obtain ⟨v6, M7, fv6, h⟩ := bcall_e h
    refine z_callSi C x_PP_port_77 cs_PP_245 (t_Pl_slotOfPort (lev := lev - 1) l G (by omega) fv6) (by omega) rfl (i_le rfl) rfl ?_
    refine z_iload C 4 x_PP_port_80 rfl ?_
    obtain ⟨v8, M9, fv8, h⟩ := bcall_e h
    refine z_callVi (k := 75) C x_PP_port_82 cv_PP_242 (t_Pl_bushelsAt (lev := lev - 1) l G (by omega) fv8) nk_75 ck_75 rfl (by omega) rfl (i_le rfl) rfl ?_
    exact z_iret C x_PP_port_85 h
def k_PP_port_52 (a1 a2 a3 a4 a5 s1 : Int) (M : Mem) : Res := k_PP_port_53 a1 a2 a3 a4 a5 s1 0 M
theorem z_PP_port_52 (C : Cx p s m args meth c G b_PP_port 7 "PrairiePool" (some .int)) (hlev : 5 ≤ lev) {r : Int × Mem}  {a1 a2 a3 a4 a5 s1 : Int} {M : Mem} (h : k_PP_port_52 a1 a2 a3 a4 a5 s1 M = some r) : Z p l e lev s m args below meth c G 7 (MQ below (Qm G 1 r) args s 0 0 (Ab G)) M 52 [(0, .ref (G.1 + 0)), (1, vi a1), (2, vi a2), (3, vi a3), (4, vi a4), (5, vi a5)] [vi s1, .ref (G.1 + 0)] := by
  unfold k_PP_port_52 at h
  refine z_iconst C x_PP_port_52 ?_
  exact z_sub [0, 1, 2, 3, 4, 5] rfl (z_PP_port_53 C hlev h)
def k_PP_port_28 (a1 a2 a3 a4 a5 s0 : Int) (M : Mem) : Res := bcall (d_PP_isYear a3 M) fun v1 M2 => if w32 v1 = 0 then (k_PP_port_52 a1 a2 a3 a4 a5 s0 M2) else (bcall (d_PP_isWeek a5 M2) fun v4 M5 => if w32 v4 = 0 then (k_PP_port_52 a1 a2 a3 a4 a5 s0 M5) else (k_PP_port_53 a1 a2 a3 a4 a5 s0 1 M5))
theorem z_PP_port_28 (C : Cx p s m args meth c G b_PP_port 7 "PrairiePool" (some .int)) (hlev : 5 ≤ lev) {r : Int × Mem}  {a1 a2 a3 a4 a5 s0 : Int} {M : Mem} (h : k_PP_port_28 a1 a2 a3 a4 a5 s0 M = some r) : Z p l e lev s m args below meth c G 7 (MQ below (Qm G 1 r) args s 0 0 (Ab G)) M 28 [(0, .ref (G.1 + 0)), (1, vi a1), (2, vi a2), (3, vi a3), (4, vi a4), (5, vi a5)] [vi s0] := by
  unfold k_PP_port_28 at h
  refine z_istore (lv' := [(6, vi s0), (0, .ref (G.1 + 0)), (1, vi a1), (2, vi a2), (3, vi a3), (4, vi a4), (5, vi a5)]) C rfl x_PP_port_28 (i_lt rfl) rfl ?_
  refine z_aload_n C 1 x_PP_port_30 rfl ?_
  refine z_iload C 0 x_PP_port_31 rfl ?_
  refine z_iload_n C 4 x_PP_port_33 rfl ?_
  obtain ⟨v1, M2, fv1, h⟩ := bcall_e h
  refine z_callSi C x_PP_port_34 cs_PP_180 (t_PP_isYear (lev := lev - 1) l G (by omega) fv1) (by omega) rfl (i_le rfl) rfl ?_
  rcases ite_e h with ⟨c3, h⟩ | ⟨c3, h⟩
  · refine z_if_eq_t (tgt := 52) C x_PP_port_37 rfl c3 ?_
    exact z_sub [1, 2, 3, 4, 5, 6] rfl (z_PP_port_52 C hlev h)
  · refine z_if_eq_f (tgt := 52) C x_PP_port_37 rfl c3 ?_
    refine z_iload C 6 x_PP_port_40 rfl ?_
    obtain ⟨v4, M5, fv4, h⟩ := bcall_e h
    refine z_callSi C x_PP_port_42 cs_PP_199 (t_PP_isWeek (lev := lev - 1) l G (by omega) fv4) (by omega) rfl (i_le rfl) rfl ?_
    rcases ite_e h with ⟨c6, h⟩ | ⟨c6, h⟩
    · refine z_if_eq_t (tgt := 52) C x_PP_port_45 rfl c6 ?_
      exact z_sub [1, 2, 3, 4, 5, 6] rfl (z_PP_port_52 C hlev h)
    · refine z_if_eq_f (tgt := 52) C x_PP_port_45 rfl c6 ?_
      refine z_iconst C x_PP_port_48 ?_
      refine z_goto (tgt := 53) C x_PP_port_49 rfl ?_
      exact z_sub [1, 2, 3, 4, 5, 6] rfl (z_PP_port_53 C hlev h)
def k_PP_port_27 (a1 a2 a3 a4 a5 : Int) (M : Mem) : Res := k_PP_port_28 a1 a2 a3 a4 a5 0 M
theorem z_PP_port_27 (C : Cx p s m args meth c G b_PP_port 7 "PrairiePool" (some .int)) (hlev : 5 ≤ lev) {r : Int × Mem}  {a1 a2 a3 a4 a5 : Int} {M : Mem} (h : k_PP_port_27 a1 a2 a3 a4 a5 M = some r) : Z p l e lev s m args below meth c G 7 (MQ below (Qm G 1 r) args s 0 0 (Ab G)) M 27 [(0, .ref (G.1 + 0)), (1, vi a1), (2, vi a2), (3, vi a3), (4, vi a4), (5, vi a5)] [] := by
  unfold k_PP_port_27 at h
  refine z_iconst C x_PP_port_27 ?_
  exact z_sub [0, 1, 2, 3, 4, 5] rfl (z_PP_port_28 C hlev h)
def d_PP_port (a1 a2 a3 a4 a5 : Int) (M : Mem) : Res := bcall (d_PP_isPort a1 M) fun v1 M2 => if w32 v1 = 0 then (k_PP_port_27 a1 a2 a3 a4 a5 M2) else (bcall (d_PP_isGrade a2 M2) fun v4 M5 => if w32 v4 = 0 then (k_PP_port_27 a1 a2 a3 a4 a5 M5) else (bcall (d_PP_isFarmOrNone a4 M5) fun v7 M8 => if w32 v7 = 0 then (k_PP_port_27 a1 a2 a3 a4 a5 M8) else (k_PP_port_28 a1 a2 a3 a4 a5 1 M8)))
theorem t_PP_port (l : Launch) (G : GX) {lev : Nat} (hlev : 5 ≤ lev) {a1 a2 a3 a4 a5 : Int} {M : Mem} {r : Int × Mem} (h : d_PP_port a1 a2 a3 a4 a5 M = some r) : Mt l G y_PP_port b_PP_port 7 (some .int) lev 1 [.ref (G.1 + 0), vi a1, vi a2, vi a3, vi a4, vi a5] M r := by
  refine Mt.of (by decide) (i_le rfl) ?_
  intro p e s m args below meth c C
  have C : Cx p s m args meth c G b_PP_port 7 "PrairiePool" (some .int) := C
  unfold d_PP_port at h
  refine z_sub (lv' := [(0, .ref (G.1 + 0)), (1, vi a1), (2, vi a2), (3, vi a3), (4, vi a4), (5, vi a5)]) [0, 1, 2, 3, 4, 5] rfl ?_
  refine z_iload_n C 1 x_PP_port_0 rfl ?_
  obtain ⟨v1, M2, fv1, h⟩ := bcall_e h
  refine z_callSi C x_PP_port_1 cs_PP_174 (t_PP_isPort (lev := lev - 1) l G (by omega) fv1) (by omega) rfl (i_le rfl) rfl ?_
  rcases ite_e h with ⟨c3, h⟩ | ⟨c3, h⟩
  · refine z_if_eq_t (tgt := 27) C x_PP_port_4 rfl c3 ?_
    exact z_sub [0, 1, 2, 3, 4, 5] rfl (z_PP_port_27 C hlev h)
  · refine z_if_eq_f (tgt := 27) C x_PP_port_4 rfl c3 ?_
    refine z_iload_n C 2 x_PP_port_7 rfl ?_
    obtain ⟨v4, M5, fv4, h⟩ := bcall_e h
    refine z_callSi C x_PP_port_8 cs_PP_177 (t_PP_isGrade (lev := lev - 1) l G (by omega) fv4) (by omega) rfl (i_le rfl) rfl ?_
    rcases ite_e h with ⟨c6, h⟩ | ⟨c6, h⟩
    · refine z_if_eq_t (tgt := 27) C x_PP_port_11 rfl c6 ?_
      exact z_sub [0, 1, 2, 3, 4, 5] rfl (z_PP_port_27 C hlev h)
    · refine z_if_eq_f (tgt := 27) C x_PP_port_11 rfl c6 ?_
      refine z_aload_n C 0 x_PP_port_14 rfl ?_
      refine z_iload C 4 x_PP_port_15 rfl ?_
      obtain ⟨v7, M8, fv7, h⟩ := bcall_e h
      refine z_callVi (k := 0) C x_PP_port_17 cv_PP_233 (t_PP_isFarmOrNone (lev := lev - 1) l G (by omega) fv7) nk_0 ck_0 rfl (by omega) rfl (i_le rfl) rfl ?_
      rcases ite_e h with ⟨c9, h⟩ | ⟨c9, h⟩
      · refine z_if_eq_t (tgt := 27) C x_PP_port_20 rfl c9 ?_
        exact z_sub [0, 1, 2, 3, 4, 5] rfl (z_PP_port_27 C hlev h)
      · refine z_if_eq_f (tgt := 27) C x_PP_port_20 rfl c9 ?_
        refine z_iconst C x_PP_port_23 ?_
        refine z_goto (tgt := 28) C x_PP_port_24 rfl ?_
        exact z_sub [0, 1, 2, 3, 4, 5] rfl (z_PP_port_28 C hlev h)
theorem x_PP_sum_0 : DC b_PP_sum 0 (.iload_n 2) 1 1 := ⟨by decide +kernel, rfl⟩
theorem x_PP_sum_1 : DC b_PP_sum 1 (.iconst 0) 1 2 := ⟨by decide +kernel, rfl⟩
theorem x_PP_sum_2 : DC b_PP_sum 2 (.iconst 4) 1 3 := ⟨by decide +kernel, rfl⟩
theorem x_PP_sum_3 : DC b_PP_sum 3 (.invokestatic 89) 3 6 := ⟨by decide +kernel, rfl⟩
theorem x_PP_sum_6 : DC b_PP_sum 6 (.ifCond .eq 24) 3 9 := ⟨by decide +kernel, rfl⟩
theorem x_PP_sum_9 : DC b_PP_sum 9 (.iload_n 3) 1 10 := ⟨by decide +kernel, rfl⟩
theorem x_PP_sum_10 : DC b_PP_sum 10 (.invokestatic 199) 3 13 := ⟨by decide +kernel, rfl⟩
theorem x_PP_sum_13 : DC b_PP_sum 13 (.ifCond .eq 17) 3 16 := ⟨by decide +kernel, rfl⟩
theorem x_PP_sum_16 : DC b_PP_sum 16 (.iload_n 2) 1 17 := ⟨by decide +kernel, rfl⟩
theorem x_PP_sum_17 : DC b_PP_sum 17 (.iconst 4) 1 18 := ⟨by decide +kernel, rfl⟩
theorem x_PP_sum_18 : DC b_PP_sum 18 (.if_icmp .ne 8) 3 21 := ⟨by decide +kernel, rfl⟩
theorem x_PP_sum_21 : DC b_PP_sum 21 (.iload_n 1) 1 22 := ⟨by decide +kernel, rfl⟩
theorem x_PP_sum_22 : DC b_PP_sum 22 (.iconst (-1)) 1 23 := ⟨by decide +kernel, rfl⟩
theorem x_PP_sum_23 : DC b_PP_sum 23 (.if_icmp .ne 7) 3 26 := ⟨by decide +kernel, rfl⟩
theorem x_PP_sum_26 : DC b_PP_sum 26 (.iconst 1) 1 27 := ⟨by decide +kernel, rfl⟩
theorem x_PP_sum_27 : DC b_PP_sum 27 (.goto 4) 3 30 := ⟨by decide +kernel, rfl⟩
theorem x_PP_sum_30 : DC b_PP_sum 30 (.iconst 0) 1 31 := ⟨by decide +kernel, rfl⟩
theorem x_PP_sum_31 : DC b_PP_sum 31 (.istore 4) 2 33 := ⟨by decide +kernel, rfl⟩
theorem x_PP_sum_33 : DC b_PP_sum 33 (.aload_n 0) 1 34 := ⟨by decide +kernel, rfl⟩
theorem x_PP_sum_34 : DC b_PP_sum 34 (.aload_n 0) 1 35 := ⟨by decide +kernel, rfl⟩
theorem x_PP_sum_35 : DC b_PP_sum 35 (.iload_n 1) 1 36 := ⟨by decide +kernel, rfl⟩
theorem x_PP_sum_36 : DC b_PP_sum 36 (.invokevirtual 233) 3 39 := ⟨by decide +kernel, rfl⟩
theorem x_PP_sum_39 : DC b_PP_sum 39 (.iload 4) 2 41 := ⟨by decide +kernel, rfl⟩
theorem x_PP_sum_41 : DC b_PP_sum 41 (.invokevirtual 219) 3 44 := ⟨by decide +kernel, rfl⟩
theorem x_PP_sum_44 : DC b_PP_sum 44 (.ifCond .ne 5) 3 47 := ⟨by decide +kernel, rfl⟩
theorem x_PP_sum_47 : DC b_PP_sum 47 (.iconst (-1)) 1 48 := ⟨by decide +kernel, rfl⟩
theorem x_PP_sum_48 : DC b_PP_sum 48 (.ireturn) 1 49 := ⟨by decide +kernel, rfl⟩
theorem x_PP_sum_49 : DC b_PP_sum 49 (.aload_n 0) 1 50 := ⟨by decide +kernel, rfl⟩
theorem x_PP_sum_50 : DC b_PP_sum 50 (.getfield 56) 3 53 := ⟨by decide +kernel, rfl⟩
theorem x_PP_sum_53 : DC b_PP_sum 53 (.iload_n 3) 1 54 := ⟨by decide +kernel, rfl⟩
theorem x_PP_sum_54 : DC b_PP_sum 54 (.invokevirtual 236) 3 57 := ⟨by decide +kernel, rfl⟩
theorem x_PP_sum_57 : DC b_PP_sum 57 (.aload_n 0) 1 58 := ⟨by decide +kernel, rfl⟩
theorem x_PP_sum_58 : DC b_PP_sum 58 (.getfield 56) 3 61 := ⟨by decide +kernel, rfl⟩
theorem x_PP_sum_61 : DC b_PP_sum 61 (.iload_n 2) 1 62 := ⟨by decide +kernel, rfl⟩
theorem x_PP_sum_62 : DC b_PP_sum 62 (.iload_n 1) 1 63 := ⟨by decide +kernel, rfl⟩
theorem x_PP_sum_63 : DC b_PP_sum 63 (.invokevirtual 248) 3 66 := ⟨by decide +kernel, rfl⟩
theorem x_PP_sum_66 : DC b_PP_sum 66 (.ireturn) 1 67 := ⟨by decide +kernel, rfl⟩
def k_PP_sum_31 (a1 a2 a3 s0 : Int) (M : Mem) : Res := bcall (d_PP_isFarmOrNone a1 M) fun v1 M2 => bcall (d_PP_passes v1 s0 M2) fun v3 M4 => if w32 v3 = 0 then (some ((-1), M4)) else (bcall (d_Pl_replay a3 M4) fun v6 M7 => bcall (d_Pl_totalOf a2 a1 M7) fun v8 M9 => some (v8, M9))
theorem z_PP_sum_31 (C : Cx p s m args meth c G b_PP_sum 5 "PrairiePool" (some .int)) (hlev : 5 ≤ lev) {r : Int × Mem}  {a1 a2 a3 s0 : Int} {M : Mem} (h : k_PP_sum_31 a1 a2 a3 s0 M = some r) : Z p l e lev s m args below meth c G 5 (MQ below (Qm G 1 r) args s 0 0 (Ab G)) M 31 [(0, .ref (G.1 + 0)), (1, vi a1), (2, vi a2), (3, vi a3)] [vi s0] := by
  unfold k_PP_sum_31 at h
  refine z_istore (lv' := [(4, vi s0), (0, .ref (G.1 + 0)), (1, vi a1), (2, vi a2), (3, vi a3)]) C rfl x_PP_sum_31 (i_lt rfl) rfl ?_
  refine z_aload_n C 1 x_PP_sum_33 rfl ?_
  refine z_aload_n C 1 x_PP_sum_34 rfl ?_
  refine z_iload_n C 2 x_PP_sum_35 rfl ?_
  obtain ⟨v1, M2, fv1, h⟩ := bcall_e h
  refine z_callVi (k := 0) C x_PP_sum_36 cv_PP_233 (t_PP_isFarmOrNone (lev := lev - 1) l G (by omega) fv1) nk_0 ck_0 rfl (by omega) rfl (i_le rfl) rfl ?_
  refine z_iload C 0 x_PP_sum_39 rfl ?_
  obtain ⟨v3, M4, fv3, h⟩ := bcall_e h
  refine z_callVi (k := 0) C x_PP_sum_41 cv_PP_219 (t_PP_passes (lev := lev - 1) l G (by omega) fv3) nk_0 ck_0 rfl (by omega) rfl (i_le rfl) rfl ?_
  rcases ite_e h with ⟨c5, h⟩ | ⟨c5, h⟩
  · refine z_if_ne_f (tgt := 49) C x_PP_sum_44 rfl c5 ?_
    refine z_iconst C x_PP_sum_47 ?_
    exact z_iret C x_PP_sum_48 h
  · refine z_if_ne_t (tgt := 49) C x_PP_sum_44 rfl c5 ?_
    refine z_aload_n C 1 x_PP_sum_49 rfl ?_
    refine z_getR (j := 7) C x_PP_sum_50 nk_0 ck_0 cw_11 (i_lt rfl) rfl rf_0_7 rfl fl_PP_56 ?_
    refine z_iload_n C 4 x_PP_sum_53 rfl ?_
    obtain ⟨v6, M7, fv6, h⟩ := bcall_e h
    refine z_callVv (k := 75) C x_PP_sum_54 cv_PP_236 (t_Pl_replay (lev := lev - 1) l G (by omega) fv6) nk_75 ck_75 rfl (by omega) rfl (i_le rfl) rfl ?_
    refine z_aload_n C 1 x_PP_sum_57 rfl ?_
    refine z_getR (j := 7) C x_PP_sum_58 nk_0 ck_0 cw_11 (i_lt rfl) rfl rf_0_7 rfl fl_PP_56 ?_
    refine z_iload_n C 3 x_PP_sum_61 rfl ?_
    refine z_iload_n C 2 x_PP_sum_62 rfl ?_
    obtain ⟨v8, M9, fv8, h⟩ := bcall_e h
    refine z_callVi (k := 75) C x_PP_sum_63 cv_PP_248 (t_Pl_totalOf (lev := lev - 1) l G (by omega) fv8) nk_75 ck_75 rfl (by omega) rfl (i_le rfl) rfl ?_
    exact z_iret C x_PP_sum_66 h
def k_PP_sum_30 (a1 a2 a3 : Int) (M : Mem) : Res := k_PP_sum_31 a1 a2 a3 0 M
theorem z_PP_sum_30 (C : Cx p s m args meth c G b_PP_sum 5 "PrairiePool" (some .int)) (hlev : 5 ≤ lev) {r : Int × Mem}  {a1 a2 a3 : Int} {M : Mem} (h : k_PP_sum_30 a1 a2 a3 M = some r) : Z p l e lev s m args below meth c G 5 (MQ below (Qm G 1 r) args s 0 0 (Ab G)) M 30 [(0, .ref (G.1 + 0)), (1, vi a1), (2, vi a2), (3, vi a3)] [] := by
  unfold k_PP_sum_30 at h
  refine z_iconst C x_PP_sum_30 ?_
  exact z_sub [0, 1, 2, 3] rfl (z_PP_sum_31 C hlev h)
def k_PP_sum_26 (a1 a2 a3 : Int) (M : Mem) : Res := k_PP_sum_31 a1 a2 a3 1 M
theorem z_PP_sum_26 (C : Cx p s m args meth c G b_PP_sum 5 "PrairiePool" (some .int)) (hlev : 5 ≤ lev) {r : Int × Mem}  {a1 a2 a3 : Int} {M : Mem} (h : k_PP_sum_26 a1 a2 a3 M = some r) : Z p l e lev s m args below meth c G 5 (MQ below (Qm G 1 r) args s 0 0 (Ab G)) M 26 [(0, .ref (G.1 + 0)), (1, vi a1), (2, vi a2), (3, vi a3)] [] := by
  unfold k_PP_sum_26 at h
  refine z_iconst C x_PP_sum_26 ?_
  refine z_goto (tgt := 31) C x_PP_sum_27 rfl ?_
  exact z_sub [0, 1, 2, 3] rfl (z_PP_sum_31 C hlev h)
def d_PP_sum (a1 a2 a3 : Int) (M : Mem) : Res := bcall (d_PP_isIn a2 0 4 M) fun v1 M2 => if w32 v1 = 0 then (k_PP_sum_30 a1 a2 a3 M2) else (bcall (d_PP_isWeek a3 M2) fun v4 M5 => if w32 v4 = 0 then (k_PP_sum_30 a1 a2 a3 M5) else (if w32 a2 = 4 then (if w32 a1 = (-1) then (k_PP_sum_26 a1 a2 a3 M5) else (k_PP_sum_30 a1 a2 a3 M5)) else (k_PP_sum_26 a1 a2 a3 M5)))
theorem t_PP_sum (l : Launch) (G : GX) {lev : Nat} (hlev : 5 ≤ lev) {a1 a2 a3 : Int} {M : Mem} {r : Int × Mem} (h : d_PP_sum a1 a2 a3 M = some r) : Mt l G y_PP_sum b_PP_sum 5 (some .int) lev 1 [.ref (G.1 + 0), vi a1, vi a2, vi a3] M r := by
  refine Mt.of (by decide) (i_le rfl) ?_
  intro p e s m args below meth c C
  have C : Cx p s m args meth c G b_PP_sum 5 "PrairiePool" (some .int) := C
  unfold d_PP_sum at h
  refine z_sub (lv' := [(0, .ref (G.1 + 0)), (1, vi a1), (2, vi a2), (3, vi a3)]) [0, 1, 2, 3] rfl ?_
  refine z_iload_n C 2 x_PP_sum_0 rfl ?_
  refine z_iconst C x_PP_sum_1 ?_
  refine z_iconst C x_PP_sum_2 ?_
  obtain ⟨v1, M2, fv1, h⟩ := bcall_e h
  refine z_callSi C x_PP_sum_3 cs_PP_89 (t_PP_isIn (lev := lev - 1) l G (by omega) fv1) (by omega) rfl (i_le rfl) rfl ?_
  rcases ite_e h with ⟨c3, h⟩ | ⟨c3, h⟩
  · refine z_if_eq_t (tgt := 30) C x_PP_sum_6 rfl c3 ?_
    exact z_sub [0, 1, 2, 3] rfl (z_PP_sum_30 C hlev h)
  · refine z_if_eq_f (tgt := 30) C x_PP_sum_6 rfl c3 ?_
    refine z_iload_n C 3 x_PP_sum_9 rfl ?_
    obtain ⟨v4, M5, fv4, h⟩ := bcall_e h
    refine z_callSi C x_PP_sum_10 cs_PP_199 (t_PP_isWeek (lev := lev - 1) l G (by omega) fv4) (by omega) rfl (i_le rfl) rfl ?_
    rcases ite_e h with ⟨c6, h⟩ | ⟨c6, h⟩
    · refine z_if_eq_t (tgt := 30) C x_PP_sum_13 rfl c6 ?_
      exact z_sub [0, 1, 2, 3] rfl (z_PP_sum_30 C hlev h)
    · refine z_if_eq_f (tgt := 30) C x_PP_sum_13 rfl c6 ?_
      refine z_iload_n C 2 x_PP_sum_16 rfl ?_
      refine z_iconst C x_PP_sum_17 ?_
      rcases ite_e h with ⟨c7, h⟩ | ⟨c7, h⟩
      · refine z_icmp_ne_f (tgt := 26) C x_PP_sum_18 rfl c7 ?_
        refine z_iload_n C 1 x_PP_sum_21 rfl ?_
        refine z_iconst C x_PP_sum_22 ?_
        rcases ite_e h with ⟨c8, h⟩ | ⟨c8, h⟩
        · refine z_icmp_ne_f (tgt := 30) C x_PP_sum_23 rfl c8 ?_
          exact z_sub [0, 1, 2, 3] rfl (z_PP_sum_26 C hlev h)
        · refine z_icmp_ne_t (tgt := 30) C x_PP_sum_23 rfl c8 ?_
          exact z_sub [0, 1, 2, 3] rfl (z_PP_sum_30 C hlev h)
      · refine z_icmp_ne_t (tgt := 26) C x_PP_sum_18 rfl c7 ?_
        exact z_sub [0, 1, 2, 3] rfl (z_PP_sum_26 C hlev h)
theorem x_PP_feed_0 : DC b_PP_feed 0 (.aload_n 0) 1 1 := ⟨by decide +kernel, rfl⟩
theorem x_PP_feed_1 : DC b_PP_feed 1 (.getfield 40) 3 4 := ⟨by decide +kernel, rfl⟩
theorem x_PP_feed_4 : DC b_PP_feed 4 (.invokevirtual 251) 3 7 := ⟨by decide +kernel, rfl⟩
theorem x_PP_feed_7 : DC b_PP_feed 7 (.ifCond .ne 5) 3 10 := ⟨by decide +kernel, rfl⟩
theorem x_PP_feed_10 : DC b_PP_feed 10 (.iconst (-1)) 1 11 := ⟨by decide +kernel, rfl⟩
theorem x_PP_feed_11 : DC b_PP_feed 11 (.ireturn) 1 12 := ⟨by decide +kernel, rfl⟩
theorem x_PP_feed_12 : DC b_PP_feed 12 (.aload_n 0) 1 13 := ⟨by decide +kernel, rfl⟩
theorem x_PP_feed_13 : DC b_PP_feed 13 (.getfield 40) 3 16 := ⟨by decide +kernel, rfl⟩
theorem x_PP_feed_16 : DC b_PP_feed 16 (.iload_n 1) 1 17 := ⟨by decide +kernel, rfl⟩
theorem x_PP_feed_17 : DC b_PP_feed 17 (.invokevirtual 255) 3 20 := ⟨by decide +kernel, rfl⟩
theorem x_PP_feed_20 : DC b_PP_feed 20 (.aload_n 0) 1 21 := ⟨by decide +kernel, rfl⟩
theorem x_PP_feed_21 : DC b_PP_feed 21 (.getfield 40) 3 24 := ⟨by decide +kernel, rfl⟩
theorem x_PP_feed_24 : DC b_PP_feed 24 (.iload_n 2) 1 25 := ⟨by decide +kernel, rfl⟩
theorem x_PP_feed_25 : DC b_PP_feed 25 (.invokevirtual 255) 3 28 := ⟨by decide +kernel, rfl⟩
theorem x_PP_feed_28 : DC b_PP_feed 28 (.aload_n 0) 1 29 := ⟨by decide +kernel, rfl⟩
theorem x_PP_feed_29 : DC b_PP_feed 29 (.getfield 40) 3 32 := ⟨by decide +kernel, rfl⟩
theorem x_PP_feed_32 : DC b_PP_feed 32 (.iload_n 3) 1 33 := ⟨by decide +kernel, rfl⟩
theorem x_PP_feed_33 : DC b_PP_feed 33 (.invokevirtual 255) 3 36 := ⟨by decide +kernel, rfl⟩
theorem x_PP_feed_36 : DC b_PP_feed 36 (.aload_n 0) 1 37 := ⟨by decide +kernel, rfl⟩
theorem x_PP_feed_37 : DC b_PP_feed 37 (.getfield 40) 3 40 := ⟨by decide +kernel, rfl⟩
theorem x_PP_feed_40 : DC b_PP_feed 40 (.iload 4) 2 42 := ⟨by decide +kernel, rfl⟩
theorem x_PP_feed_42 : DC b_PP_feed 42 (.invokevirtual 255) 3 45 := ⟨by decide +kernel, rfl⟩
theorem x_PP_feed_45 : DC b_PP_feed 45 (.aload_n 0) 1 46 := ⟨by decide +kernel, rfl⟩
theorem x_PP_feed_46 : DC b_PP_feed 46 (.getfield 40) 3 49 := ⟨by decide +kernel, rfl⟩
theorem x_PP_feed_49 : DC b_PP_feed 49 (.iload 5) 2 51 := ⟨by decide +kernel, rfl⟩
theorem x_PP_feed_51 : DC b_PP_feed 51 (.invokevirtual 255) 3 54 := ⟨by decide +kernel, rfl⟩
theorem x_PP_feed_54 : DC b_PP_feed 54 (.aload_n 0) 1 55 := ⟨by decide +kernel, rfl⟩
theorem x_PP_feed_55 : DC b_PP_feed 55 (.getfield 40) 3 58 := ⟨by decide +kernel, rfl⟩
theorem x_PP_feed_58 : DC b_PP_feed 58 (.getfield 258) 3 61 := ⟨by decide +kernel, rfl⟩
theorem x_PP_feed_61 : DC b_PP_feed 61 (.ireturn) 1 62 := ⟨by decide +kernel, rfl⟩
def d_PP_feed (a1 a2 a3 a4 a5 : Int) (M : Mem) : Res := bcall (d_Pa_hasRoomToFeed M) fun v1 M2 => if w32 v1 = 0 then (some ((-1), M2)) else (bcall (d_Pa_take a1 M2) fun v4 M5 => bcall (d_Pa_take a2 M5) fun v6 M7 => bcall (d_Pa_take a3 M7) fun v8 M9 => bcall (d_Pa_take a4 M9) fun v10 M11 => bcall (d_Pa_take a5 M11) fun v12 M13 => blet (M13 55 1) fun v14 => some (v14, M13))
theorem t_PP_feed (l : Launch) (G : GX) {lev : Nat} (hlev : 1 ≤ lev) {a1 a2 a3 a4 a5 : Int} {M : Mem} {r : Int × Mem} (h : d_PP_feed a1 a2 a3 a4 a5 M = some r) : Mt l G y_PP_feed b_PP_feed 6 (some .int) lev 1 [.ref (G.1 + 0), vi a1, vi a2, vi a3, vi a4, vi a5] M r := by
  refine Mt.of (by decide) (i_le rfl) ?_
  intro p e s m args below meth c C
  have C : Cx p s m args meth c G b_PP_feed 6 "PrairiePool" (some .int) := C
  unfold d_PP_feed at h
  refine z_sub (lv' := [(0, .ref (G.1 + 0)), (1, vi a1), (2, vi a2), (3, vi a3), (4, vi a4), (5, vi a5)]) [0, 1, 2, 3, 4, 5] rfl ?_
  refine z_aload_n C 0 x_PP_feed_0 rfl ?_
  refine z_getR (j := 5) C x_PP_feed_1 nk_0 ck_0 cw_11 (i_lt rfl) rfl rf_0_5 rfl fl_PP_40 ?_
  obtain ⟨v1, M2, fv1, h⟩ := bcall_e h
  refine z_callVi (k := 55) C x_PP_feed_4 cv_PP_251 (t_Pa_hasRoomToFeed (lev := lev - 1) l G (by omega) fv1) nk_55 ck_55 rfl (by omega) rfl (i_le rfl) rfl ?_
  rcases ite_e h with ⟨c3, h⟩ | ⟨c3, h⟩
  · refine z_if_ne_f (tgt := 12) C x_PP_feed_7 rfl c3 ?_
    refine z_iconst C x_PP_feed_10 ?_
    exact z_iret C x_PP_feed_11 h
  · refine z_if_ne_t (tgt := 12) C x_PP_feed_7 rfl c3 ?_
    refine z_aload_n C 0 x_PP_feed_12 rfl ?_
    refine z_getR (j := 5) C x_PP_feed_13 nk_0 ck_0 cw_11 (i_lt rfl) rfl rf_0_5 rfl fl_PP_40 ?_
    refine z_iload_n C 1 x_PP_feed_16 rfl ?_
    obtain ⟨v4, M5, fv4, h⟩ := bcall_e h
    refine z_callVv (k := 55) C x_PP_feed_17 cv_PP_255 (t_Pa_take (lev := lev - 1) l G (by omega) fv4) nk_55 ck_55 rfl (by omega) rfl (i_le rfl) rfl ?_
    refine z_aload_n C 0 x_PP_feed_20 rfl ?_
    refine z_getR (j := 5) C x_PP_feed_21 nk_0 ck_0 cw_11 (i_lt rfl) rfl rf_0_5 rfl fl_PP_40 ?_
    refine z_iload_n C 2 x_PP_feed_24 rfl ?_
    obtain ⟨v6, M7, fv6, h⟩ := bcall_e h
    refine z_callVv (k := 55) C x_PP_feed_25 cv_PP_255 (t_Pa_take (lev := lev - 1) l G (by omega) fv6) nk_55 ck_55 rfl (by omega) rfl (i_le rfl) rfl ?_
    refine z_aload_n C 0 x_PP_feed_28 rfl ?_
    refine z_getR (j := 5) C x_PP_feed_29 nk_0 ck_0 cw_11 (i_lt rfl) rfl rf_0_5 rfl fl_PP_40 ?_
    refine z_iload_n C 3 x_PP_feed_32 rfl ?_
    obtain ⟨v8, M9, fv8, h⟩ := bcall_e h
    refine z_callVv (k := 55) C x_PP_feed_33 cv_PP_255 (t_Pa_take (lev := lev - 1) l G (by omega) fv8) nk_55 ck_55 rfl (by omega) rfl (i_le rfl) rfl ?_
    refine z_aload_n C 0 x_PP_feed_36 rfl ?_
    refine z_getR (j := 5) C x_PP_feed_37 nk_0 ck_0 cw_11 (i_lt rfl) rfl rf_0_5 rfl fl_PP_40 ?_
    refine z_iload C 4 x_PP_feed_40 rfl ?_
    obtain ⟨v10, M11, fv10, h⟩ := bcall_e h
    refine z_callVv (k := 55) C x_PP_feed_42 cv_PP_255 (t_Pa_take (lev := lev - 1) l G (by omega) fv10) nk_55 ck_55 rfl (by omega) rfl (i_le rfl) rfl ?_
    refine z_aload_n C 0 x_PP_feed_45 rfl ?_
    refine z_getR (j := 5) C x_PP_feed_46 nk_0 ck_0 cw_11 (i_lt rfl) rfl rf_0_5 rfl fl_PP_40 ?_
    refine z_iload C 5 x_PP_feed_49 rfl ?_
    obtain ⟨v12, M13, fv12, h⟩ := bcall_e h
    refine z_callVv (k := 55) C x_PP_feed_51 cv_PP_255 (t_Pa_take (lev := lev - 1) l G (by omega) fv12) nk_55 ck_55 rfl (by omega) rfl (i_le rfl) rfl ?_
    refine z_aload_n C 0 x_PP_feed_54 rfl ?_
    refine z_getR (j := 5) C x_PP_feed_55 nk_0 ck_0 cw_11 (i_lt rfl) rfl rf_0_5 rfl fl_PP_40 ?_
    obtain ⟨v14, ev14, h⟩ := blet_e h
    refine z_getI (j := 1) C x_PP_feed_58 nk_55 ck_55 cw_4 (i_lt rfl) rfl rfl fl_PP_258 ev14 ?_
    exact z_iret C x_PP_feed_61 h
theorem x_PP_rankAll_0 : DC b_PP_rankAll 0 (.iconst 0) 1 1 := ⟨by decide +kernel, rfl⟩
theorem x_PP_rankAll_1 : DC b_PP_rankAll 1 (.istore_n 1) 1 2 := ⟨by decide +kernel, rfl⟩
theorem x_PP_rankAll_2 : DC b_PP_rankAll 2 (.iload_n 1) 1 3 := ⟨by decide +kernel, rfl⟩
theorem x_PP_rankAll_3 : DC b_PP_rankAll 3 (.aload_n 0) 1 4 := ⟨by decide +kernel, rfl⟩
theorem x_PP_rankAll_4 : DC b_PP_rankAll 4 (.getfield 26) 3 7 := ⟨by decide +kernel, rfl⟩
theorem x_PP_rankAll_7 : DC b_PP_rankAll 7 (.getfield 202) 3 10 := ⟨by decide +kernel, rfl⟩
theorem x_PP_rankAll_10 : DC b_PP_rankAll 10 (.if_icmp .ge 23) 3 13 := ⟨by decide +kernel, rfl⟩
theorem x_PP_rankAll_13 : DC b_PP_rankAll 13 (.aload_n 0) 1 14 := ⟨by decide +kernel, rfl⟩
theorem x_PP_rankAll_14 : DC b_PP_rankAll 14 (.getfield 26) 3 17 := ⟨by decide +kernel, rfl⟩
theorem x_PP_rankAll_17 : DC b_PP_rankAll 17 (.getfield 212) 3 20 := ⟨by decide +kernel, rfl⟩
theorem x_PP_rankAll_20 : DC b_PP_rankAll 20 (.iload_n 1) 1 21 := ⟨by decide +kernel, rfl⟩
theorem x_PP_rankAll_21 : DC b_PP_rankAll 21 (.aload_n 0) 1 22 := ⟨by decide +kernel, rfl⟩
theorem x_PP_rankAll_22 : DC b_PP_rankAll 22 (.iload_n 1) 1 23 := ⟨by decide +kernel, rfl⟩
theorem x_PP_rankAll_23 : DC b_PP_rankAll 23 (.invokevirtual 215) 3 26 := ⟨by decide +kernel, rfl⟩
theorem x_PP_rankAll_26 : DC b_PP_rankAll 26 (.iastore) 1 27 := ⟨by decide +kernel, rfl⟩
theorem x_PP_rankAll_27 : DC b_PP_rankAll 27 (.iinc 1 1) 3 30 := ⟨by decide +kernel, rfl⟩
theorem x_PP_rankAll_30 : DC b_PP_rankAll 30 (.goto (-28)) 3 33 := ⟨by decide +kernel, rfl⟩
theorem x_PP_rankAll_33 : DC b_PP_rankAll 33 (.return_) 1 34 := ⟨by decide +kernel, rfl⟩
def k_PP_rankAll_2 (R2 : Int → Mem → Res) (a1 : Int) (M : Mem) : Res := blet (M 15 13) fun v1 => if w32 a1 < w32 v1 then (bcall (d_PP_rankOf a1 M) fun v3 M4 => chk (0 ≤ w32 a1 ∧ w32 a1 < 100) <| blet (sto M4 30 (ix a1) v3) fun M6 => blet (a1 + 1) fun v7 => R2 v7 M6) else (some (0, M))
theorem z_PP_rankAll_2 (C : Cx p s m args meth c G b_PP_rankAll 2 "PrairiePool" none) (hlev : 6 ≤ lev) {r : Int × Mem} {R2 : Int → Mem → Res} (hR2 : ∀ (a1 : Int) (M : Mem), R2 a1 M = some r → Z p l e lev s m args below meth c G 2 (MQ below (Qm G 0 r) args s 0 0 (Ab G)) M 2 [(0, .ref (G.1 + 0)), (1, vi a1)] []) {a1 : Int} {M : Mem} (h : k_PP_rankAll_2 R2 a1 M = some r) : Z p l e lev s m args below meth c G 2 (MQ below (Qm G 0 r) args s 0 0 (Ab G)) M 2 [(0, .ref (G.1 + 0)), (1, vi a1)] [] := by
  unfold k_PP_rankAll_2 at h
  refine z_iload_n C 1 x_PP_rankAll_2 rfl ?_
  refine z_aload_n C 0 x_PP_rankAll_3 rfl ?_
  refine z_getR (j := 3) C x_PP_rankAll_4 nk_0 ck_0 cw_11 (i_lt rfl) rfl rf_0_3 rfl fl_PP_26 ?_
  obtain ⟨v1, ev1, h⟩ := blet_e h
  refine z_getI (j := 13) C x_PP_rankAll_7 nk_15 ck_15 cw_2 (i_lt rfl) rfl rfl fl_PP_202 ev1 ?_
  rcases ite_e h with ⟨c2, h⟩ | ⟨c2, h⟩
  · refine z_icmp_ge_f (tgt := 33) C x_PP_rankAll_10 rfl c2 ?_
    refine z_aload_n C 0 x_PP_rankAll_13 rfl ?_
    refine z_getR (j := 3) C x_PP_rankAll_14 nk_0 ck_0 cw_11 (i_lt rfl) rfl rf_0_3 rfl fl_PP_26 ?_
    refine z_getR (j := 17) C x_PP_rankAll_17 nk_15 ck_15 cw_2 (i_lt rfl) rfl rf_15_17 rfl fl_PP_212 ?_
    refine z_iload_n C 1 x_PP_rankAll_20 rfl ?_
    refine z_aload_n C 0 x_PP_rankAll_21 rfl ?_
    refine z_iload_n C 1 x_PP_rankAll_22 rfl ?_
    obtain ⟨v3, M4, fv3, h⟩ := bcall_e h
    refine z_callVi (k := 0) C x_PP_rankAll_23 cv_PP_215 (t_PP_rankOf (lev := lev - 1) l G (by omega) fv3) nk_0 ck_0 rfl (by omega) rfl (i_le rfl) rfl ?_
    obtain ⟨c5, h⟩ := chk_e h
    obtain ⟨M6, eM6, h⟩ := blet_e h
    refine z_iast C x_PP_rankAll_26 nk_30 ck_30 c5 eM6 ?_
    obtain ⟨v7, ev7, h⟩ := blet_e h
    refine z_iinc (lv' := [(1, vi v7), (0, .ref (G.1 + 0))]) C 1 ev7 x_PP_rankAll_27 rfl (i_lt rfl) rfl ?_
    refine z_goto (tgt := 2) C x_PP_rankAll_30 rfl ?_
    exact z_sub [1, 0] rfl (hR2 v7 M6 h)
  · refine z_icmp_ge_t (tgt := 33) C x_PP_rankAll_10 rfl c2 ?_
    exact z_vret C x_PP_rankAll_33 h
theorem zl_PP_rankAll_2 (C : Cx p s m args meth c G b_PP_rankAll 2 "PrairiePool" none) (hlev : 6 ≤ lev) {r : Int × Mem}  : ∀ (n : Nat) (a1 : Int) (M : Mem), fix (fun _ _ => none) (k_PP_rankAll_2) n a1 M = some r → Z p l e lev s m args below meth c G 2 (MQ below (Qm G 0 r) args s 0 0 (Ab G)) M 2 [(0, .ref (G.1 + 0)), (1, vi a1)] [] := by
  intro n
  induction n with
  | zero => intro a1 M h; exact nomatch (show (none : Res) = some r from h)
  | succ n ih => intro a1 M h; exact z_PP_rankAll_2 C hlev ih h
def d_PP_rankAll (M : Mem) : Res := fix (fun _ _ => none) (k_PP_rankAll_2) FU 0 M
theorem t_PP_rankAll (l : Launch) (G : GX) {lev : Nat} (hlev : 6 ≤ lev) {M : Mem} {r : Int × Mem} (h : d_PP_rankAll M = some r) : Mt l G y_PP_rankAll b_PP_rankAll 2 none lev 0 [.ref (G.1 + 0)] M r := by
  refine Mt.of (by decide) (i_le rfl) ?_
  intro p e s m args below meth c C
  have C : Cx p s m args meth c G b_PP_rankAll 2 "PrairiePool" none := C
  unfold d_PP_rankAll at h
  refine z_sub (lv' := [(0, .ref (G.1 + 0))]) [0] rfl ?_
  refine z_iconst C x_PP_rankAll_0 ?_
  refine z_istore_n (lv' := [(1, vi 0), (0, .ref (G.1 + 0))]) C rfl x_PP_rankAll_1 (i_lt rfl) rfl ?_
  exact z_sub [1, 0] rfl (zl_PP_rankAll_2 C hlev FU 0 M h)
theorem x_PP_acts_0 : DC b_PP_acts 0 (.iload_n 1) 1 1 := ⟨by decide +kernel, rfl⟩
theorem x_PP_acts_1 : DC b_PP_acts 1 (.iconst 0) 1 2 := ⟨by decide +kernel, rfl⟩
theorem x_PP_acts_2 : DC b_PP_acts 2 (.aload_n 0) 1 3 := ⟨by decide +kernel, rfl⟩
theorem x_PP_acts_3 : DC b_PP_acts 3 (.getfield 40) 3 6 := ⟨by decide +kernel, rfl⟩
theorem x_PP_acts_6 : DC b_PP_acts 6 (.getfield 258) 3 9 := ⟨by decide +kernel, rfl⟩
theorem x_PP_acts_9 : DC b_PP_acts 9 (.invokestatic 89) 3 12 := ⟨by decide +kernel, rfl⟩
theorem x_PP_acts_12 : DC b_PP_acts 12 (.ifCond .eq 14) 3 15 := ⟨by decide +kernel, rfl⟩
theorem x_PP_acts_15 : DC b_PP_acts 15 (.iload_n 2) 1 16 := ⟨by decide +kernel, rfl⟩
theorem x_PP_acts_16 : DC b_PP_acts 16 (.invokestatic 199) 3 19 := ⟨by decide +kernel, rfl⟩
theorem x_PP_acts_19 : DC b_PP_acts 19 (.ifCond .eq 7) 3 22 := ⟨by decide +kernel, rfl⟩
theorem x_PP_acts_22 : DC b_PP_acts 22 (.iconst 1) 1 23 := ⟨by decide +kernel, rfl⟩
theorem x_PP_acts_23 : DC b_PP_acts 23 (.goto 4) 3 26 := ⟨by decide +kernel, rfl⟩
theorem x_PP_acts_26 : DC b_PP_acts 26 (.iconst 0) 1 27 := ⟨by decide +kernel, rfl⟩
theorem x_PP_acts_27 : DC b_PP_acts 27 (.istore_n 3) 1 28 := ⟨by decide +kernel, rfl⟩
theorem x_PP_acts_28 : DC b_PP_acts 28 (.aload_n 0) 1 29 := ⟨by decide +kernel, rfl⟩
theorem x_PP_acts_29 : DC b_PP_acts 29 (.iconst 1) 1 30 := ⟨by decide +kernel, rfl⟩
theorem x_PP_acts_30 : DC b_PP_acts 30 (.iload_n 3) 1 31 := ⟨by decide +kernel, rfl⟩
theorem x_PP_acts_31 : DC b_PP_acts 31 (.aload_n 0) 1 32 := ⟨by decide +kernel, rfl⟩
theorem x_PP_acts_32 : DC b_PP_acts 32 (.getfield 33) 3 35 := ⟨by decide +kernel, rfl⟩
theorem x_PP_acts_35 : DC b_PP_acts 35 (.getfield 261) 3 38 := ⟨by decide +kernel, rfl⟩
theorem x_PP_acts_38 : DC b_PP_acts 38 (.iconst 4) 1 39 := ⟨by decide +kernel, rfl⟩
theorem x_PP_acts_39 : DC b_PP_acts 39 (.if_icmp .ge 7) 3 42 := ⟨by decide +kernel, rfl⟩
theorem x_PP_acts_42 : DC b_PP_acts 42 (.iconst 1) 1 43 := ⟨by decide +kernel, rfl⟩
theorem x_PP_acts_43 : DC b_PP_acts 43 (.goto 4) 3 46 := ⟨by decide +kernel, rfl⟩
theorem x_PP_acts_46 : DC b_PP_acts 46 (.iconst 0) 1 47 := ⟨by decide +kernel, rfl⟩
theorem x_PP_acts_47 : DC b_PP_acts 47 (.invokevirtual 130) 3 50 := ⟨by decide +kernel, rfl⟩
theorem x_PP_acts_50 : DC b_PP_acts 50 (.ifCond .ne 5) 3 53 := ⟨by decide +kernel, rfl⟩
theorem x_PP_acts_53 : DC b_PP_acts 53 (.iconst (-1)) 1 54 := ⟨by decide +kernel, rfl⟩
theorem x_PP_acts_54 : DC b_PP_acts 54 (.ireturn) 1 55 := ⟨by decide +kernel, rfl⟩
theorem x_PP_acts_55 : DC b_PP_acts 55 (.aload_n 0) 1 56 := ⟨by decide +kernel, rfl⟩
theorem x_PP_acts_56 : DC b_PP_acts 56 (.getfield 40) 3 59 := ⟨by decide +kernel, rfl⟩
theorem x_PP_acts_59 : DC b_PP_acts 59 (.iload_n 1) 1 60 := ⟨by decide +kernel, rfl⟩
theorem x_PP_acts_60 : DC b_PP_acts 60 (.invokevirtual 264) 3 63 := ⟨by decide +kernel, rfl⟩
theorem x_PP_acts_63 : DC b_PP_acts 63 (.aload_n 0) 1 64 := ⟨by decide +kernel, rfl⟩
theorem x_PP_acts_64 : DC b_PP_acts 64 (.getfield 40) 3 67 := ⟨by decide +kernel, rfl⟩
theorem x_PP_acts_67 : DC b_PP_acts 67 (.getfield 267) 3 70 := ⟨by decide +kernel, rfl⟩
theorem x_PP_acts_70 : DC b_PP_acts 70 (.ifCond .eq 11) 3 73 := ⟨by decide +kernel, rfl⟩
theorem x_PP_acts_73 : DC b_PP_acts 73 (.aload_n 0) 1 74 := ⟨by decide +kernel, rfl⟩
theorem x_PP_acts_74 : DC b_PP_acts 74 (.bipush 10) 2 76 := ⟨by decide +kernel, rfl⟩
theorem x_PP_acts_76 : DC b_PP_acts 76 (.putfield 85) 3 79 := ⟨by decide +kernel, rfl⟩
theorem x_PP_acts_79 : DC b_PP_acts 79 (.iconst (-1)) 1 80 := ⟨by decide +kernel, rfl⟩
theorem x_PP_acts_80 : DC b_PP_acts 80 (.ireturn) 1 81 := ⟨by decide +kernel, rfl⟩
theorem x_PP_acts_81 : DC b_PP_acts 81 (.aload_n 0) 1 82 := ⟨by decide +kernel, rfl⟩
theorem x_PP_acts_82 : DC b_PP_acts 82 (.getfield 33) 3 85 := ⟨by decide +kernel, rfl⟩
theorem x_PP_acts_85 : DC b_PP_acts 85 (.aload_n 0) 1 86 := ⟨by decide +kernel, rfl⟩
theorem x_PP_acts_86 : DC b_PP_acts 86 (.getfield 40) 3 89 := ⟨by decide +kernel, rfl⟩
theorem x_PP_acts_89 : DC b_PP_acts 89 (.getfield 270) 3 92 := ⟨by decide +kernel, rfl⟩
theorem x_PP_acts_92 : DC b_PP_acts 92 (.iload_n 2) 1 93 := ⟨by decide +kernel, rfl⟩
theorem x_PP_acts_93 : DC b_PP_acts 93 (.invokevirtual 274) 3 96 := ⟨by decide +kernel, rfl⟩
theorem x_PP_acts_96 : DC b_PP_acts 96 (.aload_n 0) 1 97 := ⟨by decide +kernel, rfl⟩
theorem x_PP_acts_97 : DC b_PP_acts 97 (.invokevirtual 278) 3 100 := ⟨by decide +kernel, rfl⟩
theorem x_PP_acts_100 : DC b_PP_acts 100 (.aload_n 0) 1 101 := ⟨by decide +kernel, rfl⟩
theorem x_PP_acts_101 : DC b_PP_acts 101 (.getfield 40) 3 104 := ⟨by decide +kernel, rfl⟩
theorem x_PP_acts_104 : DC b_PP_acts 104 (.getfield 270) 3 107 := ⟨by decide +kernel, rfl⟩
theorem x_PP_acts_107 : DC b_PP_acts 107 (.getfield 281) 3 110 := ⟨by decide +kernel, rfl⟩
theorem x_PP_acts_110 : DC b_PP_acts 110 (.ireturn) 1 111 := ⟨by decide +kernel, rfl⟩
def k_PP_acts_47 (a1 a2 s1 s2 s3 : Int) (M : Mem) : Res := bcall (d_PP_passesWithRoom s1 s2 s3 M) fun v1 M2 => if w32 v1 = 0 then (some ((-1), M2)) else (bcall (d_Pa_parse a1 M2) fun v4 M5 => blet (M5 55 2) fun v6 => if w32 v6 = 0 then (bcall (d_As_adopt 57 a2 M5) fun v8 M9 => bcall (d_PP_rankAll M9) fun v10 M11 => blet (M11 57 1) fun v12 => some (v12, M11)) else (blet (sto M5 0 0 10) fun M13 => some ((-1), M13)))
theorem z_PP_acts_47 (C : Cx p s m args meth c G b_PP_acts 4 "PrairiePool" (some .int)) (hlev : 342 ≤ lev) {r : Int × Mem}  {a1 a2 s1 s2 s3 : Int} {M : Mem} (h : k_PP_acts_47 a1 a2 s1 s2 s3 M = some r) : Z p l e lev s m args below meth c G 4 (MQ below (Qm G 1 r) args s 0 0 (Ab G)) M 47 [(0, .ref (G.1 + 0)), (1, vi a1), (2, vi a2)] [vi s3, vi s2, vi s1, .ref (G.1 + 0)] := by
  unfold k_PP_acts_47 at h
  obtain ⟨v1, M2, fv1, h⟩ := bcall_e h
  refine z_callVi (k := 0) C x_PP_acts_47 cv_PP_130 (t_PP_passesWithRoom (lev := lev - 1) l G (by omega) fv1) nk_0 ck_0 rfl (by omega) rfl (i_le rfl) rfl ?_
  rcases ite_e h with ⟨c3, h⟩ | ⟨c3, h⟩
  · refine z_if_ne_f (tgt := 55) C x_PP_acts_50 rfl c3 ?_
    refine z_iconst C x_PP_acts_53 ?_
    exact z_iret C x_PP_acts_54 h
  · refine z_if_ne_t (tgt := 55) C x_PP_acts_50 rfl c3 ?_
    refine z_aload_n C 0 x_PP_acts_55 rfl ?_
    refine z_getR (j := 5) C x_PP_acts_56 nk_0 ck_0 cw_11 (i_lt rfl) rfl rf_0_5 rfl fl_PP_40 ?_
    refine z_iload_n C 1 x_PP_acts_59 rfl ?_
    obtain ⟨v4, M5, fv4, h⟩ := bcall_e h
    refine z_callVv (k := 55) C x_PP_acts_60 cv_PP_264 (t_Pa_parse (lev := lev - 1) l G (by omega) fv4) nk_55 ck_55 rfl (by omega) rfl (i_le rfl) rfl ?_
    refine z_aload_n C 0 x_PP_acts_63 rfl ?_
    refine z_getR (j := 5) C x_PP_acts_64 nk_0 ck_0 cw_11 (i_lt rfl) rfl rf_0_5 rfl fl_PP_40 ?_
    obtain ⟨v6, ev6, h⟩ := blet_e h
    refine z_getI (j := 2) C x_PP_acts_67 nk_55 ck_55 cw_4 (i_lt rfl) rfl rfl fl_PP_267 ev6 ?_
    rcases ite_e h with ⟨c7, h⟩ | ⟨c7, h⟩
    · refine z_if_eq_t (tgt := 81) C x_PP_acts_70 rfl c7 ?_
      refine z_aload_n C 0 x_PP_acts_81 rfl ?_
      refine z_getR (j := 4) C x_PP_acts_82 nk_0 ck_0 cw_11 (i_lt rfl) rfl rf_0_4 rfl fl_PP_33 ?_
      refine z_aload_n C 0 x_PP_acts_85 rfl ?_
      refine z_getR (j := 5) C x_PP_acts_86 nk_0 ck_0 cw_11 (i_lt rfl) rfl rf_0_5 rfl fl_PP_40 ?_
      refine z_getR (j := 4) C x_PP_acts_89 nk_55 ck_55 cw_4 (i_lt rfl) rfl rf_55_4 rfl fl_PP_270 ?_
      refine z_iload_n C 2 x_PP_acts_92 rfl ?_
      obtain ⟨v8, M9, fv8, h⟩ := bcall_e h
      refine z_callVv (k := 32) C x_PP_acts_93 cv_PP_274 (t_As_adopt (lev := lev - 1) l G (by omega) it_57 fv8) nk_32 ck_32 rfl (by omega) rfl (i_le rfl) rfl ?_
      refine z_aload_n C 0 x_PP_acts_96 rfl ?_
      obtain ⟨v10, M11, fv10, h⟩ := bcall_e h
      refine z_callVv (k := 0) C x_PP_acts_97 cv_PP_278 (t_PP_rankAll (lev := lev - 1) l G (by omega) fv10) nk_0 ck_0 rfl (by omega) rfl (i_le rfl) rfl ?_
      refine z_aload_n C 0 x_PP_acts_100 rfl ?_
      refine z_getR (j := 5) C x_PP_acts_101 nk_0 ck_0 cw_11 (i_lt rfl) rfl rf_0_5 rfl fl_PP_40 ?_
      refine z_getR (j := 4) C x_PP_acts_104 nk_55 ck_55 cw_4 (i_lt rfl) rfl rf_55_4 rfl fl_PP_270 ?_
      obtain ⟨v12, ev12, h⟩ := blet_e h
      refine z_getI (j := 1) C x_PP_acts_107 nk_57 ck_57 cw_8 (i_lt rfl) rfl rfl fl_PP_281 ev12 ?_
      exact z_iret C x_PP_acts_110 h
    · refine z_if_eq_f (tgt := 81) C x_PP_acts_70 rfl c7 ?_
      refine z_aload_n C 0 x_PP_acts_73 rfl ?_
      refine z_bipush C rfl x_PP_acts_74 ?_
      obtain ⟨M13, eM13, h⟩ := blet_e h
      refine z_putI (j := 0) C x_PP_acts_76 nk_0 ck_0 cw_11 (i_lt rfl) rfl rfl rfl rfl fl_PP_85 eM13 ?_
      refine z_iconst C x_PP_acts_79 ?_
      exact z_iret C x_PP_acts_80 h
def k_PP_acts_27 (a1 a2 s0 : Int) (M : Mem) : Res := blet (M 32 0) fun v1 => if w32 v1 < 4 then (k_PP_acts_47 a1 a2 1 s0 1 M) else (k_PP_acts_47 a1 a2 1 s0 0 M)
theorem z_PP_acts_27 (C : Cx p s m args meth c G b_PP_acts 4 "PrairiePool" (some .int)) (hlev : 342 ≤ lev) {r : Int × Mem}  {a1 a2 s0 : Int} {M : Mem} (h : k_PP_acts_27 a1 a2 s0 M = some r) : Z p l e lev s m args below meth c G 4 (MQ below (Qm G 1 r) args s 0 0 (Ab G)) M 27 [(0, .ref (G.1 + 0)), (1, vi a1), (2, vi a2)] [vi s0] := by
  unfold k_PP_acts_27 at h
  refine z_istore_n (lv' := [(3, vi s0), (0, .ref (G.1 + 0)), (1, vi a1), (2, vi a2)]) C rfl x_PP_acts_27 (i_lt rfl) rfl ?_
  refine z_aload_n C 1 x_PP_acts_28 rfl ?_
  refine z_iconst C x_PP_acts_29 ?_
  refine z_iload_n C 0 x_PP_acts_30 rfl ?_
  refine z_aload_n C 1 x_PP_acts_31 rfl ?_
  refine z_getR (j := 4) C x_PP_acts_32 nk_0 ck_0 cw_11 (i_lt rfl) rfl rf_0_4 rfl fl_PP_33 ?_
  obtain ⟨v1, ev1, h⟩ := blet_e h
  refine z_getI (j := 0) C x_PP_acts_35 nk_32 ck_32 cw_0 (i_lt rfl) rfl rfl fl_PP_261 ev1 ?_
  refine z_iconst C x_PP_acts_38 ?_
  rcases ite_e h with ⟨c2, h⟩ | ⟨c2, h⟩
  · refine z_icmp_ge_f (tgt := 46) C x_PP_acts_39 rfl c2 ?_
    refine z_iconst C x_PP_acts_42 ?_
    refine z_goto (tgt := 47) C x_PP_acts_43 rfl ?_
    exact z_sub [1, 2, 3] rfl (z_PP_acts_47 C hlev h)
  · refine z_icmp_ge_t (tgt := 46) C x_PP_acts_39 rfl c2 ?_
    refine z_iconst C x_PP_acts_46 ?_
    exact z_sub [1, 2, 3] rfl (z_PP_acts_47 C hlev h)
def k_PP_acts_26 (a1 a2 : Int) (M : Mem) : Res := k_PP_acts_27 a1 a2 0 M
theorem z_PP_acts_26 (C : Cx p s m args meth c G b_PP_acts 4 "PrairiePool" (some .int)) (hlev : 342 ≤ lev) {r : Int × Mem}  {a1 a2 : Int} {M : Mem} (h : k_PP_acts_26 a1 a2 M = some r) : Z p l e lev s m args below meth c G 4 (MQ below (Qm G 1 r) args s 0 0 (Ab G)) M 26 [(0, .ref (G.1 + 0)), (1, vi a1), (2, vi a2)] [] := by
  unfold k_PP_acts_26 at h
  refine z_iconst C x_PP_acts_26 ?_
  exact z_sub [0, 1, 2] rfl (z_PP_acts_27 C hlev h)
def d_PP_acts (a1 a2 : Int) (M : Mem) : Res := blet (M 55 1) fun v1 => bcall (d_PP_isIn a1 0 v1 M) fun v2 M3 => if w32 v2 = 0 then (k_PP_acts_26 a1 a2 M3) else (bcall (d_PP_isWeek a2 M3) fun v5 M6 => if w32 v5 = 0 then (k_PP_acts_26 a1 a2 M6) else (k_PP_acts_27 a1 a2 1 M6))
theorem t_PP_acts (l : Launch) (G : GX) {lev : Nat} (hlev : 342 ≤ lev) {a1 a2 : Int} {M : Mem} {r : Int × Mem} (h : d_PP_acts a1 a2 M = some r) : Mt l G y_PP_acts b_PP_acts 4 (some .int) lev 1 [.ref (G.1 + 0), vi a1, vi a2] M r := by
  refine Mt.of (by decide) (i_le rfl) ?_
  intro p e s m args below meth c C
  have C : Cx p s m args meth c G b_PP_acts 4 "PrairiePool" (some .int) := C
  unfold d_PP_acts at h
  refine z_sub (lv' := [(0, .ref (G.1 + 0)), (1, vi a1), (2, vi a2)]) [0, 1, 2] rfl ?_
  refine z_iload_n C 1 x_PP_acts_0 rfl ?_
  refine z_iconst C x_PP_acts_1 ?_
  refine z_aload_n C 0 x_PP_acts_2 rfl ?_
  refine z_getR (j := 5) C x_PP_acts_3 nk_0 ck_0 cw_11 (i_lt rfl) rfl rf_0_5 rfl fl_PP_40 ?_
  obtain ⟨v1, ev1, h⟩ := blet_e h
  refine z_getI (j := 1) C x_PP_acts_6 nk_55 ck_55 cw_4 (i_lt rfl) rfl rfl fl_PP_258 ev1 ?_
  obtain ⟨v2, M3, fv2, h⟩ := bcall_e h
  refine z_callSi C x_PP_acts_9 cs_PP_89 (t_PP_isIn (lev := lev - 1) l G (by omega) fv2) (by omega) rfl (i_le rfl) rfl ?_
  rcases ite_e h with ⟨c4, h⟩ | ⟨c4, h⟩
  · refine z_if_eq_t (tgt := 26) C x_PP_acts_12 rfl c4 ?_
    exact z_sub [0, 1, 2] rfl (z_PP_acts_26 C hlev h)
  · refine z_if_eq_f (tgt := 26) C x_PP_acts_12 rfl c4 ?_
    refine z_iload_n C 2 x_PP_acts_15 rfl ?_
    obtain ⟨v5, M6, fv5, h⟩ := bcall_e h
    refine z_callSi C x_PP_acts_16 cs_PP_199 (t_PP_isWeek (lev := lev - 1) l G (by omega) fv5) (by omega) rfl (i_le rfl) rfl ?_
    rcases ite_e h with ⟨c7, h⟩ | ⟨c7, h⟩
    · refine z_if_eq_t (tgt := 26) C x_PP_acts_19 rfl c7 ?_
      exact z_sub [0, 1, 2] rfl (z_PP_acts_26 C hlev h)
    · refine z_if_eq_f (tgt := 26) C x_PP_acts_19 rfl c7 ?_
      refine z_iconst C x_PP_acts_22 ?_
      refine z_goto (tgt := 27) C x_PP_acts_23 rfl ?_
      exact z_sub [0, 1, 2] rfl (z_PP_acts_27 C hlev h)
theorem x_PP_fault_0 : DC b_PP_fault 0 (.iload_n 1) 1 1 := ⟨by decide +kernel, rfl⟩
theorem x_PP_fault_1 : DC b_PP_fault 1 (.ifCond .ne 13) 3 4 := ⟨by decide +kernel, rfl⟩
theorem x_PP_fault_4 : DC b_PP_fault 4 (.aload_n 0) 1 5 := ⟨by decide +kernel, rfl⟩
theorem x_PP_fault_5 : DC b_PP_fault 5 (.getfield 40) 3 8 := ⟨by decide +kernel, rfl⟩
theorem x_PP_fault_8 : DC b_PP_fault 8 (.getfield 267) 3 11 := ⟨by decide +kernel, rfl⟩
theorem x_PP_fault_11 : DC b_PP_fault 11 (.goto 19) 3 14 := ⟨by decide +kernel, rfl⟩
theorem x_PP_fault_14 : DC b_PP_fault 14 (.iload_n 1) 1 15 := ⟨by decide +kernel, rfl⟩
theorem x_PP_fault_15 : DC b_PP_fault 15 (.iconst 1) 1 16 := ⟨by decide +kernel, rfl⟩
theorem x_PP_fault_16 : DC b_PP_fault 16 (.if_icmp .ne 13) 3 19 := ⟨by decide +kernel, rfl⟩
theorem x_PP_fault_19 : DC b_PP_fault 19 (.aload_n 0) 1 20 := ⟨by decide +kernel, rfl⟩
theorem x_PP_fault_20 : DC b_PP_fault 20 (.getfield 40) 3 23 := ⟨by decide +kernel, rfl⟩
theorem x_PP_fault_23 : DC b_PP_fault 23 (.getfield 286) 3 26 := ⟨by decide +kernel, rfl⟩
theorem x_PP_fault_26 : DC b_PP_fault 26 (.goto 4) 3 29 := ⟨by decide +kernel, rfl⟩
theorem x_PP_fault_29 : DC b_PP_fault 29 (.iconst (-1)) 1 30 := ⟨by decide +kernel, rfl⟩
theorem x_PP_fault_30 : DC b_PP_fault 30 (.ireturn) 1 31 := ⟨by decide +kernel, rfl⟩
def d_PP_fault (a1 : Int) (M : Mem) : Res := if w32 a1 = 0 then (blet (M 55 2) fun v2 => some (v2, M)) else (if w32 a1 = 1 then (blet (M 55 3) fun v4 => some (v4, M)) else (some ((-1), M)))
theorem t_PP_fault (l : Launch) (G : GX) {lev : Nat} (hlev : 0 ≤ lev) {a1 : Int} {M : Mem} {r : Int × Mem} (h : d_PP_fault a1 M = some r) : Mt l G y_PP_fault b_PP_fault 2 (some .int) lev 1 [.ref (G.1 + 0), vi a1] M r := by
  refine Mt.of (by decide) (i_le rfl) ?_
  intro p e s m args below meth c C
  have C : Cx p s m args meth c G b_PP_fault 2 "PrairiePool" (some .int) := C
  unfold d_PP_fault at h
  refine z_sub (lv' := [(0, .ref (G.1 + 0)), (1, vi a1)]) [0, 1] rfl ?_
  refine z_iload_n C 1 x_PP_fault_0 rfl ?_
  rcases ite_e h with ⟨c1, h⟩ | ⟨c1, h⟩
  · refine z_if_ne_f (tgt := 14) C x_PP_fault_1 rfl c1 ?_
    refine z_aload_n C 0 x_PP_fault_4 rfl ?_
    refine z_getR (j := 5) C x_PP_fault_5 nk_0 ck_0 cw_11 (i_lt rfl) rfl rf_0_5 rfl fl_PP_40 ?_
    obtain ⟨v2, ev2, h⟩ := blet_e h
    refine z_getI (j := 2) C x_PP_fault_8 nk_55 ck_55 cw_4 (i_lt rfl) rfl rfl fl_PP_267 ev2 ?_
    refine z_goto (tgt := 30) C x_PP_fault_11 rfl ?_
    exact z_iret C x_PP_fault_30 h
  · refine z_if_ne_t (tgt := 14) C x_PP_fault_1 rfl c1 ?_
    refine z_iload_n C 1 x_PP_fault_14 rfl ?_
    refine z_iconst C x_PP_fault_15 ?_
    rcases ite_e h with ⟨c3, h⟩ | ⟨c3, h⟩
    · refine z_icmp_ne_f (tgt := 29) C x_PP_fault_16 rfl c3 ?_
      refine z_aload_n C 0 x_PP_fault_19 rfl ?_
      refine z_getR (j := 5) C x_PP_fault_20 nk_0 ck_0 cw_11 (i_lt rfl) rfl rf_0_5 rfl fl_PP_40 ?_
      obtain ⟨v4, ev4, h⟩ := blet_e h
      refine z_getI (j := 3) C x_PP_fault_23 nk_55 ck_55 cw_4 (i_lt rfl) rfl rfl fl_PP_286 ev4 ?_
      refine z_goto (tgt := 30) C x_PP_fault_26 rfl ?_
      exact z_iret C x_PP_fault_30 h
    · refine z_icmp_ne_t (tgt := 29) C x_PP_fault_16 rfl c3 ?_
      refine z_iconst C x_PP_fault_29 ?_
      exact z_iret C x_PP_fault_30 h
theorem x_PP_paid_0 : DC b_PP_paid 0 (.aload_n 0) 1 1 := ⟨by decide +kernel, rfl⟩
theorem x_PP_paid_1 : DC b_PP_paid 1 (.iload_n 2) 1 2 := ⟨by decide +kernel, rfl⟩
theorem x_PP_paid_2 : DC b_PP_paid 2 (.invokestatic 177) 3 5 := ⟨by decide +kernel, rfl⟩
theorem x_PP_paid_5 : DC b_PP_paid 5 (.iload_n 1) 1 6 := ⟨by decide +kernel, rfl⟩
theorem x_PP_paid_6 : DC b_PP_paid 6 (.invokestatic 180) 3 9 := ⟨by decide +kernel, rfl⟩
theorem x_PP_paid_9 : DC b_PP_paid 9 (.ifCond .eq 24) 3 12 := ⟨by decide +kernel, rfl⟩
theorem x_PP_paid_12 : DC b_PP_paid 12 (.iload_n 3) 1 13 := ⟨by decide +kernel, rfl⟩
theorem x_PP_paid_13 : DC b_PP_paid 13 (.iconst 0) 1 14 := ⟨by decide +kernel, rfl⟩
theorem x_PP_paid_14 : DC b_PP_paid 14 (.iconst 2) 1 15 := ⟨by decide +kernel, rfl⟩
theorem x_PP_paid_15 : DC b_PP_paid 15 (.invokestatic 89) 3 18 := ⟨by decide +kernel, rfl⟩
theorem x_PP_paid_18 : DC b_PP_paid 18 (.ifCond .eq 15) 3 21 := ⟨by decide +kernel, rfl⟩
theorem x_PP_paid_21 : DC b_PP_paid 21 (.iload 4) 2 23 := ⟨by decide +kernel, rfl⟩
theorem x_PP_paid_23 : DC b_PP_paid 23 (.invokestatic 199) 3 26 := ⟨by decide +kernel, rfl⟩
theorem x_PP_paid_26 : DC b_PP_paid 26 (.ifCond .eq 7) 3 29 := ⟨by decide +kernel, rfl⟩
theorem x_PP_paid_29 : DC b_PP_paid 29 (.iconst 1) 1 30 := ⟨by decide +kernel, rfl⟩
theorem x_PP_paid_30 : DC b_PP_paid 30 (.goto 4) 3 33 := ⟨by decide +kernel, rfl⟩
theorem x_PP_paid_33 : DC b_PP_paid 33 (.iconst 0) 1 34 := ⟨by decide +kernel, rfl⟩
theorem x_PP_paid_34 : DC b_PP_paid 34 (.invokevirtual 219) 3 37 := ⟨by decide +kernel, rfl⟩
theorem x_PP_paid_37 : DC b_PP_paid 37 (.ifCond .ne 7) 3 40 := ⟨by decide +kernel, rfl⟩
theorem x_PP_paid_40 : DC b_PP_paid 40 (.ldc2_w 105) 3 43 := ⟨by decide +kernel, rfl⟩
theorem x_PP_paid_43 : DC b_PP_paid 43 (.lreturn) 1 44 := ⟨by decide +kernel, rfl⟩
theorem x_PP_paid_44 : DC b_PP_paid 44 (.aload_n 0) 1 45 := ⟨by decide +kernel, rfl⟩
theorem x_PP_paid_45 : DC b_PP_paid 45 (.getfield 65) 3 48 := ⟨by decide +kernel, rfl⟩
theorem x_PP_paid_48 : DC b_PP_paid 48 (.iload_n 1) 1 49 := ⟨by decide +kernel, rfl⟩
theorem x_PP_paid_49 : DC b_PP_paid 49 (.iload 4) 2 51 := ⟨by decide +kernel, rfl⟩
theorem x_PP_paid_51 : DC b_PP_paid 51 (.invokevirtual 289) 3 54 := ⟨by decide +kernel, rfl⟩
theorem x_PP_paid_54 : DC b_PP_paid 54 (.aload_n 0) 1 55 := ⟨by decide +kernel, rfl⟩
theorem x_PP_paid_55 : DC b_PP_paid 55 (.getfield 65) 3 58 := ⟨by decide +kernel, rfl⟩
theorem x_PP_paid_58 : DC b_PP_paid 58 (.iload_n 2) 1 59 := ⟨by decide +kernel, rfl⟩
theorem x_PP_paid_59 : DC b_PP_paid 59 (.iload_n 3) 1 60 := ⟨by decide +kernel, rfl⟩
theorem x_PP_paid_60 : DC b_PP_paid 60 (.invokevirtual 293) 3 63 := ⟨by decide +kernel, rfl⟩
theorem x_PP_paid_63 : DC b_PP_paid 63 (.lreturn) 1 64 := ⟨by decide +kernel, rfl⟩
def k_PP_paid_34 (a1 a2 a3 a4 s1 s2 : Int) (M : Mem) : Res := bcall (d_PP_passes s1 s2 M) fun v1 M2 => if w32 v1 = 0 then (some ((-1), M2)) else (bcall (d_Py_reckon a1 a4 M2) fun v4 M5 => bcall (d_Py_ofGrade a2 a3 M5) fun v6 M7 => some (v6, M7))
theorem z_PP_paid_34 (C : Cx p s m args meth c G b_PP_paid 5 "PrairiePool" (some .long)) (hlev : 7 ≤ lev) {r : Int × Mem}  {a1 a2 a3 a4 s1 s2 : Int} {M : Mem} (h : k_PP_paid_34 a1 a2 a3 a4 s1 s2 M = some r) : Z p l e lev s m args below meth c G 5 (MQ below (Qm G 2 r) args s 0 0 (Ab G)) M 34 [(0, .ref (G.1 + 0)), (1, vi a1), (2, vi a2), (3, vi a3), (4, vi a4)] [vi s2, vi s1, .ref (G.1 + 0)] := by
  unfold k_PP_paid_34 at h
  obtain ⟨v1, M2, fv1, h⟩ := bcall_e h
  refine z_callVi (k := 0) C x_PP_paid_34 cv_PP_219 (t_PP_passes (lev := lev - 1) l G (by omega) fv1) nk_0 ck_0 rfl (by omega) rfl (i_le rfl) rfl ?_
  rcases ite_e h with ⟨c3, h⟩ | ⟨c3, h⟩
  · refine z_if_ne_f (tgt := 44) C x_PP_paid_37 rfl c3 ?_
    refine z_ldc2 C kl_PP_105 x_PP_paid_40 ?_
    exact z_lret C x_PP_paid_43 h
  · refine z_if_ne_t (tgt := 44) C x_PP_paid_37 rfl c3 ?_
    refine z_aload_n C 0 x_PP_paid_44 rfl ?_
    refine z_getR (j := 8) C x_PP_paid_45 nk_0 ck_0 cw_11 (i_lt rfl) rfl rf_0_8 rfl fl_PP_65 ?_
    refine z_iload_n C 1 x_PP_paid_48 rfl ?_
    refine z_iload C 4 x_PP_paid_49 rfl ?_
    obtain ⟨v4, M5, fv4, h⟩ := bcall_e h
    refine z_callVv (k := 88) C x_PP_paid_51 cv_PP_289 (t_Py_reckon (lev := lev - 1) l G (by omega) fv4) nk_88 ck_88 rfl (by omega) rfl (i_le rfl) rfl ?_
    refine z_aload_n C 0 x_PP_paid_54 rfl ?_
    refine z_getR (j := 8) C x_PP_paid_55 nk_0 ck_0 cw_11 (i_lt rfl) rfl rf_0_8 rfl fl_PP_65 ?_
    refine z_iload_n C 2 x_PP_paid_58 rfl ?_
    refine z_iload_n C 3 x_PP_paid_59 rfl ?_
    obtain ⟨v6, M7, fv6, h⟩ := bcall_e h
    refine z_callVl (k := 88) C x_PP_paid_60 cv_PP_293 (t_Py_ofGrade (lev := lev - 1) l G (by omega) fv6) nk_88 ck_88 rfl (by omega) rfl (i_le rfl) rfl ?_
    exact z_lret C x_PP_paid_63 h
def k_PP_paid_33 (a1 a2 a3 a4 s1 : Int) (M : Mem) : Res := k_PP_paid_34 a1 a2 a3 a4 s1 0 M
theorem z_PP_paid_33 (C : Cx p s m args meth c G b_PP_paid 5 "PrairiePool" (some .long)) (hlev : 7 ≤ lev) {r : Int × Mem}  {a1 a2 a3 a4 s1 : Int} {M : Mem} (h : k_PP_paid_33 a1 a2 a3 a4 s1 M = some r) : Z p l e lev s m args below meth c G 5 (MQ below (Qm G 2 r) args s 0 0 (Ab G)) M 33 [(0, .ref (G.1 + 0)), (1, vi a1), (2, vi a2), (3, vi a3), (4, vi a4)] [vi s1, .ref (G.1 + 0)] := by
  unfold k_PP_paid_33 at h
  refine z_iconst C x_PP_paid_33 ?_
  exact z_sub [0, 1, 2, 3, 4] rfl (z_PP_paid_34 C hlev h)
def d_PP_paid (a1 a2 a3 a4 : Int) (M : Mem) : Res := bcall (d_PP_isGrade a2 M) fun v1 M2 => bcall (d_PP_isYear a1 M2) fun v3 M4 => if w32 v3 = 0 then (k_PP_paid_33 a1 a2 a3 a4 v1 M4) else (bcall (d_PP_isIn a3 0 2 M4) fun v6 M7 => if w32 v6 = 0 then (k_PP_paid_33 a1 a2 a3 a4 v1 M7) else (bcall (d_PP_isWeek a4 M7) fun v9 M10 => if w32 v9 = 0 then (k_PP_paid_33 a1 a2 a3 a4 v1 M10) else (k_PP_paid_34 a1 a2 a3 a4 v1 1 M10)))
theorem t_PP_paid (l : Launch) (G : GX) {lev : Nat} (hlev : 7 ≤ lev) {a1 a2 a3 a4 : Int} {M : Mem} {r : Int × Mem} (h : d_PP_paid a1 a2 a3 a4 M = some r) : Mt l G y_PP_paid b_PP_paid 5 (some .long) lev 2 [.ref (G.1 + 0), vi a1, vi a2, vi a3, vi a4] M r := by
  refine Mt.of (by decide) (i_le rfl) ?_
  intro p e s m args below meth c C
  have C : Cx p s m args meth c G b_PP_paid 5 "PrairiePool" (some .long) := C
  unfold d_PP_paid at h
  refine z_sub (lv' := [(0, .ref (G.1 + 0)), (1, vi a1), (2, vi a2), (3, vi a3), (4, vi a4)]) [0, 1, 2, 3, 4] rfl ?_
  refine z_aload_n C 0 x_PP_paid_0 rfl ?_
  refine z_iload_n C 2 x_PP_paid_1 rfl ?_
  obtain ⟨v1, M2, fv1, h⟩ := bcall_e h
  refine z_callSi C x_PP_paid_2 cs_PP_177 (t_PP_isGrade (lev := lev - 1) l G (by omega) fv1) (by omega) rfl (i_le rfl) rfl ?_
  refine z_iload_n C 1 x_PP_paid_5 rfl ?_
  obtain ⟨v3, M4, fv3, h⟩ := bcall_e h
  refine z_callSi C x_PP_paid_6 cs_PP_180 (t_PP_isYear (lev := lev - 1) l G (by omega) fv3) (by omega) rfl (i_le rfl) rfl ?_
  rcases ite_e h with ⟨c5, h⟩ | ⟨c5, h⟩
  · refine z_if_eq_t (tgt := 33) C x_PP_paid_9 rfl c5 ?_
    exact z_sub [0, 1, 2, 3, 4] rfl (z_PP_paid_33 C hlev h)
  · refine z_if_eq_f (tgt := 33) C x_PP_paid_9 rfl c5 ?_
    refine z_iload_n C 3 x_PP_paid_12 rfl ?_
    refine z_iconst C x_PP_paid_13 ?_
    refine z_iconst C x_PP_paid_14 ?_
    obtain ⟨v6, M7, fv6, h⟩ := bcall_e h
    refine z_callSi C x_PP_paid_15 cs_PP_89 (t_PP_isIn (lev := lev - 1) l G (by omega) fv6) (by omega) rfl (i_le rfl) rfl ?_
    rcases ite_e h with ⟨c8, h⟩ | ⟨c8, h⟩
    · refine z_if_eq_t (tgt := 33) C x_PP_paid_18 rfl c8 ?_
      exact z_sub [0, 1, 2, 3, 4] rfl (z_PP_paid_33 C hlev h)
    · refine z_if_eq_f (tgt := 33) C x_PP_paid_18 rfl c8 ?_
      refine z_iload C 4 x_PP_paid_21 rfl ?_
      obtain ⟨v9, M10, fv9, h⟩ := bcall_e h
      refine z_callSi C x_PP_paid_23 cs_PP_199 (t_PP_isWeek (lev := lev - 1) l G (by omega) fv9) (by omega) rfl (i_le rfl) rfl ?_
      rcases ite_e h with ⟨c11, h⟩ | ⟨c11, h⟩
      · refine z_if_eq_t (tgt := 33) C x_PP_paid_26 rfl c11 ?_
        exact z_sub [0, 1, 2, 3, 4] rfl (z_PP_paid_33 C hlev h)
      · refine z_if_eq_f (tgt := 33) C x_PP_paid_26 rfl c11 ?_
        refine z_iconst C x_PP_paid_29 ?_
        refine z_goto (tgt := 34) C x_PP_paid_30 rfl ?_
        exact z_sub [0, 1, 2, 3, 4] rfl (z_PP_paid_34 C hlev h)
theorem x_PP_last_0 : DC b_PP_last 0 (.aload_n 0) 1 1 := ⟨by decide +kernel, rfl⟩
theorem x_PP_last_1 : DC b_PP_last 1 (.aload_n 0) 1 2 := ⟨by decide +kernel, rfl⟩
theorem x_PP_last_2 : DC b_PP_last 2 (.getfield 19) 3 5 := ⟨by decide +kernel, rfl⟩
theorem x_PP_last_5 : DC b_PP_last 5 (.iload_n 1) 1 6 := ⟨by decide +kernel, rfl⟩
theorem x_PP_last_6 : DC b_PP_last 6 (.invokevirtual 145) 3 9 := ⟨by decide +kernel, rfl⟩
theorem x_PP_last_9 : DC b_PP_last 9 (.iload_n 2) 1 10 := ⟨by decide +kernel, rfl⟩
theorem x_PP_last_10 : DC b_PP_last 10 (.invokestatic 180) 3 13 := ⟨by decide +kernel, rfl⟩
theorem x_PP_last_13 : DC b_PP_last 13 (.ifCond .eq 14) 3 16 := ⟨by decide +kernel, rfl⟩
theorem x_PP_last_16 : DC b_PP_last 16 (.iload_n 3) 1 17 := ⟨by decide +kernel, rfl⟩
theorem x_PP_last_17 : DC b_PP_last 17 (.invokestatic 199) 3 20 := ⟨by decide +kernel, rfl⟩
theorem x_PP_last_20 : DC b_PP_last 20 (.ifCond .eq 7) 3 23 := ⟨by decide +kernel, rfl⟩
theorem x_PP_last_23 : DC b_PP_last 23 (.iconst 1) 1 24 := ⟨by decide +kernel, rfl⟩
theorem x_PP_last_24 : DC b_PP_last 24 (.goto 4) 3 27 := ⟨by decide +kernel, rfl⟩
theorem x_PP_last_27 : DC b_PP_last 27 (.iconst 0) 1 28 := ⟨by decide +kernel, rfl⟩
theorem x_PP_last_28 : DC b_PP_last 28 (.invokevirtual 219) 3 31 := ⟨by decide +kernel, rfl⟩
theorem x_PP_last_31 : DC b_PP_last 31 (.ifCond .ne 7) 3 34 := ⟨by decide +kernel, rfl⟩
theorem x_PP_last_34 : DC b_PP_last 34 (.ldc2_w 105) 3 37 := ⟨by decide +kernel, rfl⟩
theorem x_PP_last_37 : DC b_PP_last 37 (.lreturn) 1 38 := ⟨by decide +kernel, rfl⟩
theorem x_PP_last_38 : DC b_PP_last 38 (.aload_n 0) 1 39 := ⟨by decide +kernel, rfl⟩
theorem x_PP_last_39 : DC b_PP_last 39 (.getfield 65) 3 42 := ⟨by decide +kernel, rfl⟩
theorem x_PP_last_42 : DC b_PP_last 42 (.iload_n 2) 1 43 := ⟨by decide +kernel, rfl⟩
theorem x_PP_last_43 : DC b_PP_last 43 (.iload_n 3) 1 44 := ⟨by decide +kernel, rfl⟩
theorem x_PP_last_44 : DC b_PP_last 44 (.invokevirtual 289) 3 47 := ⟨by decide +kernel, rfl⟩
theorem x_PP_last_47 : DC b_PP_last 47 (.aload_n 0) 1 48 := ⟨by decide +kernel, rfl⟩
theorem x_PP_last_48 : DC b_PP_last 48 (.getfield 65) 3 51 := ⟨by decide +kernel, rfl⟩
theorem x_PP_last_51 : DC b_PP_last 51 (.iload_n 1) 1 52 := ⟨by decide +kernel, rfl⟩
theorem x_PP_last_52 : DC b_PP_last 52 (.invokevirtual 296) 3 55 := ⟨by decide +kernel, rfl⟩
theorem x_PP_last_55 : DC b_PP_last 55 (.lreturn) 1 56 := ⟨by decide +kernel, rfl⟩
def k_PP_last_28 (a1 a2 a3 s1 s2 : Int) (M : Mem) : Res := bcall (d_PP_passes s1 s2 M) fun v1 M2 => if w32 v1 = 0 then (some ((-1), M2)) else (bcall (d_Py_reckon a2 a3 M2) fun v4 M5 => bcall (d_Py_lastOf a1 M5) fun v6 M7 => some (v6, M7))
theorem z_PP_last_28 (C : Cx p s m args meth c G b_PP_last 4 "PrairiePool" (some .long)) (hlev : 7 ≤ lev) {r : Int × Mem}  {a1 a2 a3 s1 s2 : Int} {M : Mem} (h : k_PP_last_28 a1 a2 a3 s1 s2 M = some r) : Z p l e lev s m args below meth c G 4 (MQ below (Qm G 2 r) args s 0 0 (Ab G)) M 28 [(0, .ref (G.1 + 0)), (1, vi a1), (2, vi a2), (3, vi a3)] [vi s2, vi s1, .ref (G.1 + 0)] := by
  unfold k_PP_last_28 at h
  obtain ⟨v1, M2, fv1, h⟩ := bcall_e h
  refine z_callVi (k := 0) C x_PP_last_28 cv_PP_219 (t_PP_passes (lev := lev - 1) l G (by omega) fv1) nk_0 ck_0 rfl (by omega) rfl (i_le rfl) rfl ?_
  rcases ite_e h with ⟨c3, h⟩ | ⟨c3, h⟩
  · refine z_if_ne_f (tgt := 38) C x_PP_last_31 rfl c3 ?_
    refine z_ldc2 C kl_PP_105 x_PP_last_34 ?_
    exact z_lret C x_PP_last_37 h
  · refine z_if_ne_t (tgt := 38) C x_PP_last_31 rfl c3 ?_
    refine z_aload_n C 0 x_PP_last_38 rfl ?_
    refine z_getR (j := 8) C x_PP_last_39 nk_0 ck_0 cw_11 (i_lt rfl) rfl rf_0_8 rfl fl_PP_65 ?_
    refine z_iload_n C 2 x_PP_last_42 rfl ?_
    refine z_iload_n C 3 x_PP_last_43 rfl ?_
    obtain ⟨v4, M5, fv4, h⟩ := bcall_e h
    refine z_callVv (k := 88) C x_PP_last_44 cv_PP_289 (t_Py_reckon (lev := lev - 1) l G (by omega) fv4) nk_88 ck_88 rfl (by omega) rfl (i_le rfl) rfl ?_
    refine z_aload_n C 0 x_PP_last_47 rfl ?_
    refine z_getR (j := 8) C x_PP_last_48 nk_0 ck_0 cw_11 (i_lt rfl) rfl rf_0_8 rfl fl_PP_65 ?_
    refine z_iload_n C 1 x_PP_last_51 rfl ?_
    obtain ⟨v6, M7, fv6, h⟩ := bcall_e h
    refine z_callVl (k := 88) C x_PP_last_52 cv_PP_296 (t_Py_lastOf (lev := lev - 1) l G (by omega) fv6) nk_88 ck_88 rfl (by omega) rfl (i_le rfl) rfl ?_
    exact z_lret C x_PP_last_55 h
def k_PP_last_27 (a1 a2 a3 s1 : Int) (M : Mem) : Res := k_PP_last_28 a1 a2 a3 s1 0 M
theorem z_PP_last_27 (C : Cx p s m args meth c G b_PP_last 4 "PrairiePool" (some .long)) (hlev : 7 ≤ lev) {r : Int × Mem}  {a1 a2 a3 s1 : Int} {M : Mem} (h : k_PP_last_27 a1 a2 a3 s1 M = some r) : Z p l e lev s m args below meth c G 4 (MQ below (Qm G 2 r) args s 0 0 (Ab G)) M 27 [(0, .ref (G.1 + 0)), (1, vi a1), (2, vi a2), (3, vi a3)] [vi s1, .ref (G.1 + 0)] := by
  unfold k_PP_last_27 at h
  refine z_iconst C x_PP_last_27 ?_
  exact z_sub [0, 1, 2, 3] rfl (z_PP_last_28 C hlev h)
def d_PP_last (a1 a2 a3 : Int) (M : Mem) : Res := bcall (d_Pr_hasFarm a1 M) fun v1 M2 => bcall (d_PP_isYear a2 M2) fun v3 M4 => if w32 v3 = 0 then (k_PP_last_27 a1 a2 a3 v1 M4) else (bcall (d_PP_isWeek a3 M4) fun v6 M7 => if w32 v6 = 0 then (k_PP_last_27 a1 a2 a3 v1 M7) else (k_PP_last_28 a1 a2 a3 v1 1 M7))
theorem t_PP_last (l : Launch) (G : GX) {lev : Nat} (hlev : 7 ≤ lev) {a1 a2 a3 : Int} {M : Mem} {r : Int × Mem} (h : d_PP_last a1 a2 a3 M = some r) : Mt l G y_PP_last b_PP_last 4 (some .long) lev 2 [.ref (G.1 + 0), vi a1, vi a2, vi a3] M r := by
  refine Mt.of (by decide) (i_le rfl) ?_
  intro p e s m args below meth c C
  have C : Cx p s m args meth c G b_PP_last 4 "PrairiePool" (some .long) := C
  unfold d_PP_last at h
  refine z_sub (lv' := [(0, .ref (G.1 + 0)), (1, vi a1), (2, vi a2), (3, vi a3)]) [0, 1, 2, 3] rfl ?_
  refine z_aload_n C 0 x_PP_last_0 rfl ?_
  refine z_aload_n C 0 x_PP_last_1 rfl ?_
  refine z_getR (j := 2) C x_PP_last_2 nk_0 ck_0 cw_11 (i_lt rfl) rfl rf_0_2 rfl fl_PP_19 ?_
  refine z_iload_n C 1 x_PP_last_5 rfl ?_
  obtain ⟨v1, M2, fv1, h⟩ := bcall_e h
  refine z_callVi (k := 5) C x_PP_last_6 cv_PP_145 (t_Pr_hasFarm (lev := lev - 1) l G (by omega) fv1) nk_5 ck_5 rfl (by omega) rfl (i_le rfl) rfl ?_
  refine z_iload_n C 2 x_PP_last_9 rfl ?_
  obtain ⟨v3, M4, fv3, h⟩ := bcall_e h
  refine z_callSi C x_PP_last_10 cs_PP_180 (t_PP_isYear (lev := lev - 1) l G (by omega) fv3) (by omega) rfl (i_le rfl) rfl ?_
  rcases ite_e h with ⟨c5, h⟩ | ⟨c5, h⟩
  · refine z_if_eq_t (tgt := 27) C x_PP_last_13 rfl c5 ?_
    exact z_sub [0, 1, 2, 3] rfl (z_PP_last_27 C hlev h)
  · refine z_if_eq_f (tgt := 27) C x_PP_last_13 rfl c5 ?_
    refine z_iload_n C 3 x_PP_last_16 rfl ?_
    obtain ⟨v6, M7, fv6, h⟩ := bcall_e h
    refine z_callSi C x_PP_last_17 cs_PP_199 (t_PP_isWeek (lev := lev - 1) l G (by omega) fv6) (by omega) rfl (i_le rfl) rfl ?_
    rcases ite_e h with ⟨c8, h⟩ | ⟨c8, h⟩
    · refine z_if_eq_t (tgt := 27) C x_PP_last_20 rfl c8 ?_
      exact z_sub [0, 1, 2, 3] rfl (z_PP_last_27 C hlev h)
    · refine z_if_eq_f (tgt := 27) C x_PP_last_20 rfl c8 ?_
      refine z_iconst C x_PP_last_23 ?_
      refine z_goto (tgt := 28) C x_PP_last_24 rfl ?_
      exact z_sub [0, 1, 2, 3] rfl (z_PP_last_28 C hlev h)
theorem x_PP_first_0 : DC b_PP_first 0 (.aload_n 0) 1 1 := ⟨by decide +kernel, rfl⟩
theorem x_PP_first_1 : DC b_PP_first 1 (.aload_n 0) 1 2 := ⟨by decide +kernel, rfl⟩
theorem x_PP_first_2 : DC b_PP_first 2 (.getfield 19) 3 5 := ⟨by decide +kernel, rfl⟩
theorem x_PP_first_5 : DC b_PP_first 5 (.iload_n 1) 1 6 := ⟨by decide +kernel, rfl⟩
theorem x_PP_first_6 : DC b_PP_first 6 (.invokevirtual 145) 3 9 := ⟨by decide +kernel, rfl⟩
theorem x_PP_first_9 : DC b_PP_first 9 (.iload_n 2) 1 10 := ⟨by decide +kernel, rfl⟩
theorem x_PP_first_10 : DC b_PP_first 10 (.invokestatic 180) 3 13 := ⟨by decide +kernel, rfl⟩
theorem x_PP_first_13 : DC b_PP_first 13 (.ifCond .eq 14) 3 16 := ⟨by decide +kernel, rfl⟩
theorem x_PP_first_16 : DC b_PP_first 16 (.iload_n 3) 1 17 := ⟨by decide +kernel, rfl⟩
theorem x_PP_first_17 : DC b_PP_first 17 (.invokestatic 199) 3 20 := ⟨by decide +kernel, rfl⟩
theorem x_PP_first_20 : DC b_PP_first 20 (.ifCond .eq 7) 3 23 := ⟨by decide +kernel, rfl⟩
theorem x_PP_first_23 : DC b_PP_first 23 (.iconst 1) 1 24 := ⟨by decide +kernel, rfl⟩
theorem x_PP_first_24 : DC b_PP_first 24 (.goto 4) 3 27 := ⟨by decide +kernel, rfl⟩
theorem x_PP_first_27 : DC b_PP_first 27 (.iconst 0) 1 28 := ⟨by decide +kernel, rfl⟩
theorem x_PP_first_28 : DC b_PP_first 28 (.invokevirtual 219) 3 31 := ⟨by decide +kernel, rfl⟩
theorem x_PP_first_31 : DC b_PP_first 31 (.ifCond .ne 7) 3 34 := ⟨by decide +kernel, rfl⟩
theorem x_PP_first_34 : DC b_PP_first 34 (.ldc2_w 105) 3 37 := ⟨by decide +kernel, rfl⟩
theorem x_PP_first_37 : DC b_PP_first 37 (.lreturn) 1 38 := ⟨by decide +kernel, rfl⟩
theorem x_PP_first_38 : DC b_PP_first 38 (.aload_n 0) 1 39 := ⟨by decide +kernel, rfl⟩
theorem x_PP_first_39 : DC b_PP_first 39 (.getfield 65) 3 42 := ⟨by decide +kernel, rfl⟩
theorem x_PP_first_42 : DC b_PP_first 42 (.iload_n 2) 1 43 := ⟨by decide +kernel, rfl⟩
theorem x_PP_first_43 : DC b_PP_first 43 (.iload_n 3) 1 44 := ⟨by decide +kernel, rfl⟩
theorem x_PP_first_44 : DC b_PP_first 44 (.invokevirtual 289) 3 47 := ⟨by decide +kernel, rfl⟩
theorem x_PP_first_47 : DC b_PP_first 47 (.aload_n 0) 1 48 := ⟨by decide +kernel, rfl⟩
theorem x_PP_first_48 : DC b_PP_first 48 (.getfield 65) 3 51 := ⟨by decide +kernel, rfl⟩
theorem x_PP_first_51 : DC b_PP_first 51 (.getfield 300) 3 54 := ⟨by decide +kernel, rfl⟩
theorem x_PP_first_54 : DC b_PP_first 54 (.iload_n 1) 1 55 := ⟨by decide +kernel, rfl⟩
theorem x_PP_first_55 : DC b_PP_first 55 (.laload) 1 56 := ⟨by decide +kernel, rfl⟩
theorem x_PP_first_56 : DC b_PP_first 56 (.lreturn) 1 57 := ⟨by decide +kernel, rfl⟩
def k_PP_first_28 (a1 a2 a3 s1 s2 : Int) (M : Mem) : Res := bcall (d_PP_passes s1 s2 M) fun v1 M2 => if w32 v1 = 0 then (some ((-1), M2)) else (bcall (d_Py_reckon a2 a3 M2) fun v4 M5 => chk (0 ≤ w32 a1 ∧ w32 a1 < 20) <| blet (M5 90 (ix a1)) fun v7 => some (v7, M5))
theorem z_PP_first_28 (C : Cx p s m args meth c G b_PP_first 4 "PrairiePool" (some .long)) (hlev : 7 ≤ lev) {r : Int × Mem}  {a1 a2 a3 s1 s2 : Int} {M : Mem} (h : k_PP_first_28 a1 a2 a3 s1 s2 M = some r) : Z p l e lev s m args below meth c G 4 (MQ below (Qm G 2 r) args s 0 0 (Ab G)) M 28 [(0, .ref (G.1 + 0)), (1, vi a1), (2, vi a2), (3, vi a3)] [vi s2, vi s1, .ref (G.1 + 0)] := by
  unfold k_PP_first_28 at h
  obtain ⟨v1, M2, fv1, h⟩ := bcall_e h
  refine z_callVi (k := 0) C x_PP_first_28 cv_PP_219 (t_PP_passes (lev := lev - 1) l G (by omega) fv1) nk_0 ck_0 rfl (by omega) rfl (i_le rfl) rfl ?_
  rcases ite_e h with ⟨c3, h⟩ | ⟨c3, h⟩
  · refine z_if_ne_f (tgt := 38) C x_PP_first_31 rfl c3 ?_
    refine z_ldc2 C kl_PP_105 x_PP_first_34 ?_
    exact z_lret C x_PP_first_37 h
  · refine z_if_ne_t (tgt := 38) C x_PP_first_31 rfl c3 ?_
    refine z_aload_n C 0 x_PP_first_38 rfl ?_
    refine z_getR (j := 8) C x_PP_first_39 nk_0 ck_0 cw_11 (i_lt rfl) rfl rf_0_8 rfl fl_PP_65 ?_
    refine z_iload_n C 2 x_PP_first_42 rfl ?_
    refine z_iload_n C 3 x_PP_first_43 rfl ?_
    obtain ⟨v4, M5, fv4, h⟩ := bcall_e h
    refine z_callVv (k := 88) C x_PP_first_44 cv_PP_289 (t_Py_reckon (lev := lev - 1) l G (by omega) fv4) nk_88 ck_88 rfl (by omega) rfl (i_le rfl) rfl ?_
    refine z_aload_n C 0 x_PP_first_47 rfl ?_
    refine z_getR (j := 8) C x_PP_first_48 nk_0 ck_0 cw_11 (i_lt rfl) rfl rf_0_8 rfl fl_PP_65 ?_
    refine z_getR (j := 3) C x_PP_first_51 nk_88 ck_88 cw_5 (i_lt rfl) rfl rf_88_3 rfl fl_PP_300 ?_
    refine z_iload_n C 1 x_PP_first_54 rfl ?_
    obtain ⟨c6, h⟩ := chk_e h
    obtain ⟨v7, ev7, h⟩ := blet_e h
    refine z_lald C x_PP_first_55 nk_90 ck_90 c6 ev7 ?_
    exact z_lret C x_PP_first_56 h
def k_PP_first_27 (a1 a2 a3 s1 : Int) (M : Mem) : Res := k_PP_first_28 a1 a2 a3 s1 0 M
theorem z_PP_first_27 (C : Cx p s m args meth c G b_PP_first 4 "PrairiePool" (some .long)) (hlev : 7 ≤ lev) {r : Int × Mem}  {a1 a2 a3 s1 : Int} {M : Mem} (h : k_PP_first_27 a1 a2 a3 s1 M = some r) : Z p l e lev s m args below meth c G 4 (MQ below (Qm G 2 r) args s 0 0 (Ab G)) M 27 [(0, .ref (G.1 + 0)), (1, vi a1), (2, vi a2), (3, vi a3)] [vi s1, .ref (G.1 + 0)] := by
  unfold k_PP_first_27 at h
  refine z_iconst C x_PP_first_27 ?_
  exact z_sub [0, 1, 2, 3] rfl (z_PP_first_28 C hlev h)
def d_PP_first (a1 a2 a3 : Int) (M : Mem) : Res := bcall (d_Pr_hasFarm a1 M) fun v1 M2 => bcall (d_PP_isYear a2 M2) fun v3 M4 => if w32 v3 = 0 then (k_PP_first_27 a1 a2 a3 v1 M4) else (bcall (d_PP_isWeek a3 M4) fun v6 M7 => if w32 v6 = 0 then (k_PP_first_27 a1 a2 a3 v1 M7) else (k_PP_first_28 a1 a2 a3 v1 1 M7))
theorem t_PP_first (l : Launch) (G : GX) {lev : Nat} (hlev : 7 ≤ lev) {a1 a2 a3 : Int} {M : Mem} {r : Int × Mem} (h : d_PP_first a1 a2 a3 M = some r) : Mt l G y_PP_first b_PP_first 4 (some .long) lev 2 [.ref (G.1 + 0), vi a1, vi a2, vi a3] M r := by
  refine Mt.of (by decide) (i_le rfl) ?_
  intro p e s m args below meth c C
  have C : Cx p s m args meth c G b_PP_first 4 "PrairiePool" (some .long) := C
  unfold d_PP_first at h
  refine z_sub (lv' := [(0, .ref (G.1 + 0)), (1, vi a1), (2, vi a2), (3, vi a3)]) [0, 1, 2, 3] rfl ?_
  refine z_aload_n C 0 x_PP_first_0 rfl ?_
  refine z_aload_n C 0 x_PP_first_1 rfl ?_
  refine z_getR (j := 2) C x_PP_first_2 nk_0 ck_0 cw_11 (i_lt rfl) rfl rf_0_2 rfl fl_PP_19 ?_
  refine z_iload_n C 1 x_PP_first_5 rfl ?_
  obtain ⟨v1, M2, fv1, h⟩ := bcall_e h
  refine z_callVi (k := 5) C x_PP_first_6 cv_PP_145 (t_Pr_hasFarm (lev := lev - 1) l G (by omega) fv1) nk_5 ck_5 rfl (by omega) rfl (i_le rfl) rfl ?_
  refine z_iload_n C 2 x_PP_first_9 rfl ?_
  obtain ⟨v3, M4, fv3, h⟩ := bcall_e h
  refine z_callSi C x_PP_first_10 cs_PP_180 (t_PP_isYear (lev := lev - 1) l G (by omega) fv3) (by omega) rfl (i_le rfl) rfl ?_
  rcases ite_e h with ⟨c5, h⟩ | ⟨c5, h⟩
  · refine z_if_eq_t (tgt := 27) C x_PP_first_13 rfl c5 ?_
    exact z_sub [0, 1, 2, 3] rfl (z_PP_first_27 C hlev h)
  · refine z_if_eq_f (tgt := 27) C x_PP_first_13 rfl c5 ?_
    refine z_iload_n C 3 x_PP_first_16 rfl ?_
    obtain ⟨v6, M7, fv6, h⟩ := bcall_e h
    refine z_callSi C x_PP_first_17 cs_PP_199 (t_PP_isWeek (lev := lev - 1) l G (by omega) fv6) (by omega) rfl (i_le rfl) rfl ?_
    rcases ite_e h with ⟨c8, h⟩ | ⟨c8, h⟩
    · refine z_if_eq_t (tgt := 27) C x_PP_first_20 rfl c8 ?_
      exact z_sub [0, 1, 2, 3] rfl (z_PP_first_27 C hlev h)
    · refine z_if_eq_f (tgt := 27) C x_PP_first_20 rfl c8 ?_
      refine z_iconst C x_PP_first_23 ?_
      refine z_goto (tgt := 28) C x_PP_first_24 rfl ?_
      exact z_sub [0, 1, 2, 3] rfl (z_PP_first_28 C hlev h)
theorem x_PP_below_0 : DC b_PP_below 0 (.aload_n 0) 1 1 := ⟨by decide +kernel, rfl⟩
theorem x_PP_below_1 : DC b_PP_below 1 (.iconst 1) 1 2 := ⟨by decide +kernel, rfl⟩
theorem x_PP_below_2 : DC b_PP_below 2 (.iload_n 1) 1 3 := ⟨by decide +kernel, rfl⟩
theorem x_PP_below_3 : DC b_PP_below 3 (.invokestatic 180) 3 6 := ⟨by decide +kernel, rfl⟩
theorem x_PP_below_6 : DC b_PP_below 6 (.ifCond .eq 23) 3 9 := ⟨by decide +kernel, rfl⟩
theorem x_PP_below_9 : DC b_PP_below 9 (.iload_n 2) 1 10 := ⟨by decide +kernel, rfl⟩
theorem x_PP_below_10 : DC b_PP_below 10 (.iconst 0) 1 11 := ⟨by decide +kernel, rfl⟩
theorem x_PP_below_11 : DC b_PP_below 11 (.iconst 1) 1 12 := ⟨by decide +kernel, rfl⟩
theorem x_PP_below_12 : DC b_PP_below 12 (.invokestatic 89) 3 15 := ⟨by decide +kernel, rfl⟩
theorem x_PP_below_15 : DC b_PP_below 15 (.ifCond .eq 14) 3 18 := ⟨by decide +kernel, rfl⟩
theorem x_PP_below_18 : DC b_PP_below 18 (.iload_n 3) 1 19 := ⟨by decide +kernel, rfl⟩
theorem x_PP_below_19 : DC b_PP_below 19 (.invokestatic 199) 3 22 := ⟨by decide +kernel, rfl⟩
theorem x_PP_below_22 : DC b_PP_below 22 (.ifCond .eq 7) 3 25 := ⟨by decide +kernel, rfl⟩
theorem x_PP_below_25 : DC b_PP_below 25 (.iconst 1) 1 26 := ⟨by decide +kernel, rfl⟩
theorem x_PP_below_26 : DC b_PP_below 26 (.goto 4) 3 29 := ⟨by decide +kernel, rfl⟩
theorem x_PP_below_29 : DC b_PP_below 29 (.iconst 0) 1 30 := ⟨by decide +kernel, rfl⟩
theorem x_PP_below_30 : DC b_PP_below 30 (.invokevirtual 219) 3 33 := ⟨by decide +kernel, rfl⟩
theorem x_PP_below_33 : DC b_PP_below 33 (.ifCond .ne 7) 3 36 := ⟨by decide +kernel, rfl⟩
theorem x_PP_below_36 : DC b_PP_below 36 (.ldc2_w 105) 3 39 := ⟨by decide +kernel, rfl⟩
theorem x_PP_below_39 : DC b_PP_below 39 (.lreturn) 1 40 := ⟨by decide +kernel, rfl⟩
theorem x_PP_below_40 : DC b_PP_below 40 (.aload_n 0) 1 41 := ⟨by decide +kernel, rfl⟩
theorem x_PP_below_41 : DC b_PP_below 41 (.getfield 65) 3 44 := ⟨by decide +kernel, rfl⟩
theorem x_PP_below_44 : DC b_PP_below 44 (.iload_n 1) 1 45 := ⟨by decide +kernel, rfl⟩
theorem x_PP_below_45 : DC b_PP_below 45 (.iload_n 3) 1 46 := ⟨by decide +kernel, rfl⟩
theorem x_PP_below_46 : DC b_PP_below 46 (.invokevirtual 289) 3 49 := ⟨by decide +kernel, rfl⟩
theorem x_PP_below_49 : DC b_PP_below 49 (.aload_n 0) 1 50 := ⟨by decide +kernel, rfl⟩
theorem x_PP_below_50 : DC b_PP_below 50 (.getfield 65) 3 53 := ⟨by decide +kernel, rfl⟩
theorem x_PP_below_53 : DC b_PP_below 53 (.iload_n 1) 1 54 := ⟨by decide +kernel, rfl⟩
theorem x_PP_below_54 : DC b_PP_below 54 (.invokevirtual 304) 3 57 := ⟨by decide +kernel, rfl⟩
theorem x_PP_below_57 : DC b_PP_below 57 (.iload_n 2) 1 58 := ⟨by decide +kernel, rfl⟩
theorem x_PP_below_58 : DC b_PP_below 58 (.ifCond .ne 13) 3 61 := ⟨by decide +kernel, rfl⟩
theorem x_PP_below_61 : DC b_PP_below 61 (.aload_n 0) 1 62 := ⟨by decide +kernel, rfl⟩
theorem x_PP_below_62 : DC b_PP_below 62 (.getfield 65) 3 65 := ⟨by decide +kernel, rfl⟩
theorem x_PP_below_65 : DC b_PP_below 65 (.getfield 307) 3 68 := ⟨by decide +kernel, rfl⟩
theorem x_PP_below_68 : DC b_PP_below 68 (.goto 10) 3 71 := ⟨by decide +kernel, rfl⟩
theorem x_PP_below_71 : DC b_PP_below 71 (.aload_n 0) 1 72 := ⟨by decide +kernel, rfl⟩
theorem x_PP_below_72 : DC b_PP_below 72 (.getfield 65) 3 75 := ⟨by decide +kernel, rfl⟩
theorem x_PP_below_75 : DC b_PP_below 75 (.getfield 311) 3 78 := ⟨by decide +kernel, rfl⟩
theorem x_PP_below_78 : DC b_PP_below 78 (.lreturn) 1 79 := ⟨by decide +kernel, rfl⟩
def k_PP_below_30 (a1 a2 a3 s1 s2 : Int) (M : Mem) : Res := bcall (d_PP_passes s1 s2 M) fun v1 M2 => if w32 v1 = 0 then (some ((-1), M2)) else (bcall (d_Py_reckon a1 a3 M2) fun v4 M5 => bcall (d_Py_reckonOwed a1 M5) fun v6 M7 => if w32 a2 = 0 then (blet (M7 88 4) fun v9 => some (v9, M7)) else (blet (M7 88 5) fun v10 => some (v10, M7)))
theorem z_PP_below_30 (C : Cx p s m args meth c G b_PP_below 4 "PrairiePool" (some .long)) (hlev : 7 ≤ lev) {r : Int × Mem}  {a1 a2 a3 s1 s2 : Int} {M : Mem} (h : k_PP_below_30 a1 a2 a3 s1 s2 M = some r) : Z p l e lev s m args below meth c G 4 (MQ below (Qm G 2 r) args s 0 0 (Ab G)) M 30 [(0, .ref (G.1 + 0)), (1, vi a1), (2, vi a2), (3, vi a3)] [vi s2, vi s1, .ref (G.1 + 0)] := by
  unfold k_PP_below_30 at h
  obtain ⟨v1, M2, fv1, h⟩ := bcall_e h
  refine z_callVi (k := 0) C x_PP_below_30 cv_PP_219 (t_PP_passes (lev := lev - 1) l G (by omega) fv1) nk_0 ck_0 rfl (by omega) rfl (i_le rfl) rfl ?_
  rcases ite_e h with ⟨c3, h⟩ | ⟨c3, h⟩
  · refine z_if_ne_f (tgt := 40) C x_PP_below_33 rfl c3 ?_
    refine z_ldc2 C kl_PP_105 x_PP_below_36 ?_
    exact z_lret C x_PP_below_39 h
  · refine z_if_ne_t (tgt := 40) C x_PP_below_33 rfl c3 ?_
    refine z_aload_n C 0 x_PP_below_40 rfl ?_
    refine z_getR (j := 8) C x_PP_below_41 nk_0 ck_0 cw_11 (i_lt rfl) rfl rf_0_8 rfl fl_PP_65 ?_
    refine z_iload_n C 1 x_PP_below_44 rfl ?_
    refine z_iload_n C 3 x_PP_below_45 rfl ?_
    obtain ⟨v4, M5, fv4, h⟩ := bcall_e h
    refine z_callVv (k := 88) C x_PP_below_46 cv_PP_289 (t_Py_reckon (lev := lev - 1) l G (by omega) fv4) nk_88 ck_88 rfl (by omega) rfl (i_le rfl) rfl ?_
    refine z_aload_n C 0 x_PP_below_49 rfl ?_
    refine z_getR (j := 8) C x_PP_below_50 nk_0 ck_0 cw_11 (i_lt rfl) rfl rf_0_8 rfl fl_PP_65 ?_
    refine z_iload_n C 1 x_PP_below_53 rfl ?_
    obtain ⟨v6, M7, fv6, h⟩ := bcall_e h
    refine z_callVv (k := 88) C x_PP_below_54 cv_PP_304 (t_Py_reckonOwed (lev := lev - 1) l G (by omega) fv6) nk_88 ck_88 rfl (by omega) rfl (i_le rfl) rfl ?_
    refine z_iload_n C 2 x_PP_below_57 rfl ?_
    rcases ite_e h with ⟨c8, h⟩ | ⟨c8, h⟩
    · refine z_if_ne_f (tgt := 71) C x_PP_below_58 rfl c8 ?_
      refine z_aload_n C 0 x_PP_below_61 rfl ?_
      refine z_getR (j := 8) C x_PP_below_62 nk_0 ck_0 cw_11 (i_lt rfl) rfl rf_0_8 rfl fl_PP_65 ?_
      obtain ⟨v9, ev9, h⟩ := blet_e h
      refine z_getL (j := 4) C x_PP_below_65 nk_88 ck_88 cw_5 (i_lt rfl) rfl rfl fl_PP_307 ev9 ?_
      refine z_goto (tgt := 78) C x_PP_below_68 rfl ?_
      exact z_lret C x_PP_below_78 h
    · refine z_if_ne_t (tgt := 71) C x_PP_below_58 rfl c8 ?_
      refine z_aload_n C 0 x_PP_below_71 rfl ?_
      refine z_getR (j := 8) C x_PP_below_72 nk_0 ck_0 cw_11 (i_lt rfl) rfl rf_0_8 rfl fl_PP_65 ?_
      obtain ⟨v10, ev10, h⟩ := blet_e h
      refine z_getL (j := 5) C x_PP_below_75 nk_88 ck_88 cw_5 (i_lt rfl) rfl rfl fl_PP_311 ev10 ?_
      exact z_lret C x_PP_below_78 h
def k_PP_below_29 (a1 a2 a3 s1 : Int) (M : Mem) : Res := k_PP_below_30 a1 a2 a3 s1 0 M
theorem z_PP_below_29 (C : Cx p s m args meth c G b_PP_below 4 "PrairiePool" (some .long)) (hlev : 7 ≤ lev) {r : Int × Mem}  {a1 a2 a3 s1 : Int} {M : Mem} (h : k_PP_below_29 a1 a2 a3 s1 M = some r) : Z p l e lev s m args below meth c G 4 (MQ below (Qm G 2 r) args s 0 0 (Ab G)) M 29 [(0, .ref (G.1 + 0)), (1, vi a1), (2, vi a2), (3, vi a3)] [vi s1, .ref (G.1 + 0)] := by
  unfold k_PP_below_29 at h
  refine z_iconst C x_PP_below_29 ?_
  exact z_sub [0, 1, 2, 3] rfl (z_PP_below_30 C hlev h)
def d_PP_below (a1 a2 a3 : Int) (M : Mem) : Res := bcall (d_PP_isYear a1 M) fun v1 M2 => if w32 v1 = 0 then (k_PP_below_29 a1 a2 a3 1 M2) else (bcall (d_PP_isIn a2 0 1 M2) fun v4 M5 => if w32 v4 = 0 then (k_PP_below_29 a1 a2 a3 1 M5) else (bcall (d_PP_isWeek a3 M5) fun v7 M8 => if w32 v7 = 0 then (k_PP_below_29 a1 a2 a3 1 M8) else (k_PP_below_30 a1 a2 a3 1 1 M8)))
theorem t_PP_below (l : Launch) (G : GX) {lev : Nat} (hlev : 7 ≤ lev) {a1 a2 a3 : Int} {M : Mem} {r : Int × Mem} (h : d_PP_below a1 a2 a3 M = some r) : Mt l G y_PP_below b_PP_below 4 (some .long) lev 2 [.ref (G.1 + 0), vi a1, vi a2, vi a3] M r := by
  refine Mt.of (by decide) (i_le rfl) ?_
  intro p e s m args below meth c C
  have C : Cx p s m args meth c G b_PP_below 4 "PrairiePool" (some .long) := C
  unfold d_PP_below at h
  refine z_sub (lv' := [(0, .ref (G.1 + 0)), (1, vi a1), (2, vi a2), (3, vi a3)]) [0, 1, 2, 3] rfl ?_
  refine z_aload_n C 0 x_PP_below_0 rfl ?_
  refine z_iconst C x_PP_below_1 ?_
  refine z_iload_n C 1 x_PP_below_2 rfl ?_
  obtain ⟨v1, M2, fv1, h⟩ := bcall_e h
  refine z_callSi C x_PP_below_3 cs_PP_180 (t_PP_isYear (lev := lev - 1) l G (by omega) fv1) (by omega) rfl (i_le rfl) rfl ?_
  rcases ite_e h with ⟨c3, h⟩ | ⟨c3, h⟩
  · refine z_if_eq_t (tgt := 29) C x_PP_below_6 rfl c3 ?_
    exact z_sub [0, 1, 2, 3] rfl (z_PP_below_29 C hlev h)
  · refine z_if_eq_f (tgt := 29) C x_PP_below_6 rfl c3 ?_
    refine z_iload_n C 2 x_PP_below_9 rfl ?_
    refine z_iconst C x_PP_below_10 ?_
    refine z_iconst C x_PP_below_11 ?_
    obtain ⟨v4, M5, fv4, h⟩ := bcall_e h
    refine z_callSi C x_PP_below_12 cs_PP_89 (t_PP_isIn (lev := lev - 1) l G (by omega) fv4) (by omega) rfl (i_le rfl) rfl ?_
    rcases ite_e h with ⟨c6, h⟩ | ⟨c6, h⟩
    · refine z_if_eq_t (tgt := 29) C x_PP_below_15 rfl c6 ?_
      exact z_sub [0, 1, 2, 3] rfl (z_PP_below_29 C hlev h)
    · refine z_if_eq_f (tgt := 29) C x_PP_below_15 rfl c6 ?_
      refine z_iload_n C 3 x_PP_below_18 rfl ?_
      obtain ⟨v7, M8, fv7, h⟩ := bcall_e h
      refine z_callSi C x_PP_below_19 cs_PP_199 (t_PP_isWeek (lev := lev - 1) l G (by omega) fv7) (by omega) rfl (i_le rfl) rfl ?_
      rcases ite_e h with ⟨c9, h⟩ | ⟨c9, h⟩
      · refine z_if_eq_t (tgt := 29) C x_PP_below_22 rfl c9 ?_
        exact z_sub [0, 1, 2, 3] rfl (z_PP_below_29 C hlev h)
      · refine z_if_eq_f (tgt := 29) C x_PP_below_22 rfl c9 ?_
        refine z_iconst C x_PP_below_25 ?_
        refine z_goto (tgt := 30) C x_PP_below_26 rfl ?_
        exact z_sub [0, 1, 2, 3] rfl (z_PP_below_30 C hlev h)
theorem x_PP_owed_0 : DC b_PP_owed 0 (.aload_n 0) 1 1 := ⟨by decide +kernel, rfl⟩
theorem x_PP_owed_1 : DC b_PP_owed 1 (.aload_n 0) 1 2 := ⟨by decide +kernel, rfl⟩
theorem x_PP_owed_2 : DC b_PP_owed 2 (.getfield 19) 3 5 := ⟨by decide +kernel, rfl⟩
theorem x_PP_owed_5 : DC b_PP_owed 5 (.iload_n 1) 1 6 := ⟨by decide +kernel, rfl⟩
theorem x_PP_owed_6 : DC b_PP_owed 6 (.invokevirtual 145) 3 9 := ⟨by decide +kernel, rfl⟩
theorem x_PP_owed_9 : DC b_PP_owed 9 (.iload_n 2) 1 10 := ⟨by decide +kernel, rfl⟩
theorem x_PP_owed_10 : DC b_PP_owed 10 (.invokestatic 180) 3 13 := ⟨by decide +kernel, rfl⟩
theorem x_PP_owed_13 : DC b_PP_owed 13 (.ifCond .eq 14) 3 16 := ⟨by decide +kernel, rfl⟩
theorem x_PP_owed_16 : DC b_PP_owed 16 (.iload_n 3) 1 17 := ⟨by decide +kernel, rfl⟩
theorem x_PP_owed_17 : DC b_PP_owed 17 (.invokestatic 199) 3 20 := ⟨by decide +kernel, rfl⟩
theorem x_PP_owed_20 : DC b_PP_owed 20 (.ifCond .eq 7) 3 23 := ⟨by decide +kernel, rfl⟩
theorem x_PP_owed_23 : DC b_PP_owed 23 (.iconst 1) 1 24 := ⟨by decide +kernel, rfl⟩
theorem x_PP_owed_24 : DC b_PP_owed 24 (.goto 4) 3 27 := ⟨by decide +kernel, rfl⟩
theorem x_PP_owed_27 : DC b_PP_owed 27 (.iconst 0) 1 28 := ⟨by decide +kernel, rfl⟩
theorem x_PP_owed_28 : DC b_PP_owed 28 (.invokevirtual 219) 3 31 := ⟨by decide +kernel, rfl⟩
theorem x_PP_owed_31 : DC b_PP_owed 31 (.ifCond .ne 7) 3 34 := ⟨by decide +kernel, rfl⟩
theorem x_PP_owed_34 : DC b_PP_owed 34 (.ldc2_w 105) 3 37 := ⟨by decide +kernel, rfl⟩
theorem x_PP_owed_37 : DC b_PP_owed 37 (.lreturn) 1 38 := ⟨by decide +kernel, rfl⟩
theorem x_PP_owed_38 : DC b_PP_owed 38 (.aload_n 0) 1 39 := ⟨by decide +kernel, rfl⟩
theorem x_PP_owed_39 : DC b_PP_owed 39 (.getfield 65) 3 42 := ⟨by decide +kernel, rfl⟩
theorem x_PP_owed_42 : DC b_PP_owed 42 (.iload_n 2) 1 43 := ⟨by decide +kernel, rfl⟩
theorem x_PP_owed_43 : DC b_PP_owed 43 (.iload_n 3) 1 44 := ⟨by decide +kernel, rfl⟩
theorem x_PP_owed_44 : DC b_PP_owed 44 (.invokevirtual 289) 3 47 := ⟨by decide +kernel, rfl⟩
theorem x_PP_owed_47 : DC b_PP_owed 47 (.aload_n 0) 1 48 := ⟨by decide +kernel, rfl⟩
theorem x_PP_owed_48 : DC b_PP_owed 48 (.getfield 65) 3 51 := ⟨by decide +kernel, rfl⟩
theorem x_PP_owed_51 : DC b_PP_owed 51 (.iload_n 2) 1 52 := ⟨by decide +kernel, rfl⟩
theorem x_PP_owed_52 : DC b_PP_owed 52 (.invokevirtual 304) 3 55 := ⟨by decide +kernel, rfl⟩
theorem x_PP_owed_55 : DC b_PP_owed 55 (.aload_n 0) 1 56 := ⟨by decide +kernel, rfl⟩
theorem x_PP_owed_56 : DC b_PP_owed 56 (.getfield 65) 3 59 := ⟨by decide +kernel, rfl⟩
theorem x_PP_owed_59 : DC b_PP_owed 59 (.getfield 314) 3 62 := ⟨by decide +kernel, rfl⟩
theorem x_PP_owed_62 : DC b_PP_owed 62 (.iload_n 1) 1 63 := ⟨by decide +kernel, rfl⟩
theorem x_PP_owed_63 : DC b_PP_owed 63 (.laload) 1 64 := ⟨by decide +kernel, rfl⟩
theorem x_PP_owed_64 : DC b_PP_owed 64 (.lreturn) 1 65 := ⟨by decide +kernel, rfl⟩
def k_PP_owed_28 (a1 a2 a3 s1 s2 : Int) (M : Mem) : Res := bcall (d_PP_passes s1 s2 M) fun v1 M2 => if w32 v1 = 0 then (some ((-1), M2)) else (bcall (d_Py_reckon a2 a3 M2) fun v4 M5 => bcall (d_Py_reckonOwed a2 M5) fun v6 M7 => chk (0 ≤ w32 a1 ∧ w32 a1 < 20) <| blet (M7 91 (ix a1)) fun v9 => some (v9, M7))
theorem z_PP_owed_28 (C : Cx p s m args meth c G b_PP_owed 4 "PrairiePool" (some .long)) (hlev : 7 ≤ lev) {r : Int × Mem}  {a1 a2 a3 s1 s2 : Int} {M : Mem} (h : k_PP_owed_28 a1 a2 a3 s1 s2 M = some r) : Z p l e lev s m args below meth c G 4 (MQ below (Qm G 2 r) args s 0 0 (Ab G)) M 28 [(0, .ref (G.1 + 0)), (1, vi a1), (2, vi a2), (3, vi a3)] [vi s2, vi s1, .ref (G.1 + 0)] := by
  unfold k_PP_owed_28 at h
  obtain ⟨v1, M2, fv1, h⟩ := bcall_e h
  refine z_callVi (k := 0) C x_PP_owed_28 cv_PP_219 (t_PP_passes (lev := lev - 1) l G (by omega) fv1) nk_0 ck_0 rfl (by omega) rfl (i_le rfl) rfl ?_
  rcases ite_e h with ⟨c3, h⟩ | ⟨c3, h⟩
  · refine z_if_ne_f (tgt := 38) C x_PP_owed_31 rfl c3 ?_
    refine z_ldc2 C kl_PP_105 x_PP_owed_34 ?_
    exact z_lret C x_PP_owed_37 h
  · refine z_if_ne_t (tgt := 38) C x_PP_owed_31 rfl c3 ?_
    refine z_aload_n C 0 x_PP_owed_38 rfl ?_
    refine z_getR (j := 8) C x_PP_owed_39 nk_0 ck_0 cw_11 (i_lt rfl) rfl rf_0_8 rfl fl_PP_65 ?_
    refine z_iload_n C 2 x_PP_owed_42 rfl ?_
    refine z_iload_n C 3 x_PP_owed_43 rfl ?_
    obtain ⟨v4, M5, fv4, h⟩ := bcall_e h
    refine z_callVv (k := 88) C x_PP_owed_44 cv_PP_289 (t_Py_reckon (lev := lev - 1) l G (by omega) fv4) nk_88 ck_88 rfl (by omega) rfl (i_le rfl) rfl ?_
    refine z_aload_n C 0 x_PP_owed_47 rfl ?_
    refine z_getR (j := 8) C x_PP_owed_48 nk_0 ck_0 cw_11 (i_lt rfl) rfl rf_0_8 rfl fl_PP_65 ?_
    refine z_iload_n C 2 x_PP_owed_51 rfl ?_
    obtain ⟨v6, M7, fv6, h⟩ := bcall_e h
    refine z_callVv (k := 88) C x_PP_owed_52 cv_PP_304 (t_Py_reckonOwed (lev := lev - 1) l G (by omega) fv6) nk_88 ck_88 rfl (by omega) rfl (i_le rfl) rfl ?_
    refine z_aload_n C 0 x_PP_owed_55 rfl ?_
    refine z_getR (j := 8) C x_PP_owed_56 nk_0 ck_0 cw_11 (i_lt rfl) rfl rf_0_8 rfl fl_PP_65 ?_
    refine z_getR (j := 6) C x_PP_owed_59 nk_88 ck_88 cw_5 (i_lt rfl) rfl rf_88_6 rfl fl_PP_314 ?_
    refine z_iload_n C 1 x_PP_owed_62 rfl ?_
    obtain ⟨c8, h⟩ := chk_e h
    obtain ⟨v9, ev9, h⟩ := blet_e h
    refine z_lald C x_PP_owed_63 nk_91 ck_91 c8 ev9 ?_
    exact z_lret C x_PP_owed_64 h
def k_PP_owed_27 (a1 a2 a3 s1 : Int) (M : Mem) : Res := k_PP_owed_28 a1 a2 a3 s1 0 M
theorem z_PP_owed_27 (C : Cx p s m args meth c G b_PP_owed 4 "PrairiePool" (some .long)) (hlev : 7 ≤ lev) {r : Int × Mem}  {a1 a2 a3 s1 : Int} {M : Mem} (h : k_PP_owed_27 a1 a2 a3 s1 M = some r) : Z p l e lev s m args below meth c G 4 (MQ below (Qm G 2 r) args s 0 0 (Ab G)) M 27 [(0, .ref (G.1 + 0)), (1, vi a1), (2, vi a2), (3, vi a3)] [vi s1, .ref (G.1 + 0)] := by
  unfold k_PP_owed_27 at h
  refine z_iconst C x_PP_owed_27 ?_
  exact z_sub [0, 1, 2, 3] rfl (z_PP_owed_28 C hlev h)
def d_PP_owed (a1 a2 a3 : Int) (M : Mem) : Res := bcall (d_Pr_hasFarm a1 M) fun v1 M2 => bcall (d_PP_isYear a2 M2) fun v3 M4 => if w32 v3 = 0 then (k_PP_owed_27 a1 a2 a3 v1 M4) else (bcall (d_PP_isWeek a3 M4) fun v6 M7 => if w32 v6 = 0 then (k_PP_owed_27 a1 a2 a3 v1 M7) else (k_PP_owed_28 a1 a2 a3 v1 1 M7))
theorem t_PP_owed (l : Launch) (G : GX) {lev : Nat} (hlev : 7 ≤ lev) {a1 a2 a3 : Int} {M : Mem} {r : Int × Mem} (h : d_PP_owed a1 a2 a3 M = some r) : Mt l G y_PP_owed b_PP_owed 4 (some .long) lev 2 [.ref (G.1 + 0), vi a1, vi a2, vi a3] M r := by
  refine Mt.of (by decide) (i_le rfl) ?_
  intro p e s m args below meth c C
  have C : Cx p s m args meth c G b_PP_owed 4 "PrairiePool" (some .long) := C
  unfold d_PP_owed at h
  refine z_sub (lv' := [(0, .ref (G.1 + 0)), (1, vi a1), (2, vi a2), (3, vi a3)]) [0, 1, 2, 3] rfl ?_
  refine z_aload_n C 0 x_PP_owed_0 rfl ?_
  refine z_aload_n C 0 x_PP_owed_1 rfl ?_
  refine z_getR (j := 2) C x_PP_owed_2 nk_0 ck_0 cw_11 (i_lt rfl) rfl rf_0_2 rfl fl_PP_19 ?_
  refine z_iload_n C 1 x_PP_owed_5 rfl ?_
  obtain ⟨v1, M2, fv1, h⟩ := bcall_e h
  refine z_callVi (k := 5) C x_PP_owed_6 cv_PP_145 (t_Pr_hasFarm (lev := lev - 1) l G (by omega) fv1) nk_5 ck_5 rfl (by omega) rfl (i_le rfl) rfl ?_
  refine z_iload_n C 2 x_PP_owed_9 rfl ?_
  obtain ⟨v3, M4, fv3, h⟩ := bcall_e h
  refine z_callSi C x_PP_owed_10 cs_PP_180 (t_PP_isYear (lev := lev - 1) l G (by omega) fv3) (by omega) rfl (i_le rfl) rfl ?_
  rcases ite_e h with ⟨c5, h⟩ | ⟨c5, h⟩
  · refine z_if_eq_t (tgt := 27) C x_PP_owed_13 rfl c5 ?_
    exact z_sub [0, 1, 2, 3] rfl (z_PP_owed_27 C hlev h)
  · refine z_if_eq_f (tgt := 27) C x_PP_owed_13 rfl c5 ?_
    refine z_iload_n C 3 x_PP_owed_16 rfl ?_
    obtain ⟨v6, M7, fv6, h⟩ := bcall_e h
    refine z_callSi C x_PP_owed_17 cs_PP_199 (t_PP_isWeek (lev := lev - 1) l G (by omega) fv6) (by omega) rfl (i_le rfl) rfl ?_
    rcases ite_e h with ⟨c8, h⟩ | ⟨c8, h⟩
    · refine z_if_eq_t (tgt := 27) C x_PP_owed_20 rfl c8 ?_
      exact z_sub [0, 1, 2, 3] rfl (z_PP_owed_27 C hlev h)
    · refine z_if_eq_f (tgt := 27) C x_PP_owed_20 rfl c8 ?_
      refine z_iconst C x_PP_owed_23 ?_
      refine z_goto (tgt := 28) C x_PP_owed_24 rfl ?_
      exact z_sub [0, 1, 2, 3] rfl (z_PP_owed_28 C hlev h)
theorem x_PP_turns_0 : DC b_PP_turns 0 (.aload_n 0) 1 1 := ⟨by decide +kernel, rfl⟩
theorem x_PP_turns_1 : DC b_PP_turns 1 (.aload_n 0) 1 2 := ⟨by decide +kernel, rfl⟩
theorem x_PP_turns_2 : DC b_PP_turns 2 (.getfield 19) 3 5 := ⟨by decide +kernel, rfl⟩
theorem x_PP_turns_5 : DC b_PP_turns 5 (.iload_n 3) 1 6 := ⟨by decide +kernel, rfl⟩
theorem x_PP_turns_6 : DC b_PP_turns 6 (.invokevirtual 148) 3 9 := ⟨by decide +kernel, rfl⟩
theorem x_PP_turns_9 : DC b_PP_turns 9 (.iload_n 1) 1 10 := ⟨by decide +kernel, rfl⟩
theorem x_PP_turns_10 : DC b_PP_turns 10 (.invokestatic 199) 3 13 := ⟨by decide +kernel, rfl⟩
theorem x_PP_turns_13 : DC b_PP_turns 13 (.ifCond .eq 17) 3 16 := ⟨by decide +kernel, rfl⟩
theorem x_PP_turns_16 : DC b_PP_turns 16 (.iload_n 2) 1 17 := ⟨by decide +kernel, rfl⟩
theorem x_PP_turns_17 : DC b_PP_turns 17 (.iconst 1) 1 18 := ⟨by decide +kernel, rfl⟩
theorem x_PP_turns_18 : DC b_PP_turns 18 (.bipush 20) 2 20 := ⟨by decide +kernel, rfl⟩
theorem x_PP_turns_20 : DC b_PP_turns 20 (.invokestatic 89) 3 23 := ⟨by decide +kernel, rfl⟩
theorem x_PP_turns_23 : DC b_PP_turns 23 (.ifCond .eq 7) 3 26 := ⟨by decide +kernel, rfl⟩
theorem x_PP_turns_26 : DC b_PP_turns 26 (.iconst 1) 1 27 := ⟨by decide +kernel, rfl⟩
theorem x_PP_turns_27 : DC b_PP_turns 27 (.goto 4) 3 30 := ⟨by decide +kernel, rfl⟩
theorem x_PP_turns_30 : DC b_PP_turns 30 (.iconst 0) 1 31 := ⟨by decide +kernel, rfl⟩
theorem x_PP_turns_31 : DC b_PP_turns 31 (.invokevirtual 219) 3 34 := ⟨by decide +kernel, rfl⟩
theorem x_PP_turns_34 : DC b_PP_turns 34 (.ifCond .ne 5) 3 37 := ⟨by decide +kernel, rfl⟩
theorem x_PP_turns_37 : DC b_PP_turns 37 (.iconst (-1)) 1 38 := ⟨by decide +kernel, rfl⟩
theorem x_PP_turns_38 : DC b_PP_turns 38 (.ireturn) 1 39 := ⟨by decide +kernel, rfl⟩
theorem x_PP_turns_39 : DC b_PP_turns 39 (.aload_n 0) 1 40 := ⟨by decide +kernel, rfl⟩
theorem x_PP_turns_40 : DC b_PP_turns 40 (.getfield 56) 3 43 := ⟨by decide +kernel, rfl⟩
theorem x_PP_turns_43 : DC b_PP_turns 43 (.iload_n 1) 1 44 := ⟨by decide +kernel, rfl⟩
theorem x_PP_turns_44 : DC b_PP_turns 44 (.invokevirtual 236) 3 47 := ⟨by decide +kernel, rfl⟩
theorem x_PP_turns_47 : DC b_PP_turns 47 (.aload_n 0) 1 48 := ⟨by decide +kernel, rfl⟩
theorem x_PP_turns_48 : DC b_PP_turns 48 (.getfield 56) 3 51 := ⟨by decide +kernel, rfl⟩
theorem x_PP_turns_51 : DC b_PP_turns 51 (.iload_n 1) 1 52 := ⟨by decide +kernel, rfl⟩
theorem x_PP_turns_52 : DC b_PP_turns 52 (.iload_n 2) 1 53 := ⟨by decide +kernel, rfl⟩
theorem x_PP_turns_53 : DC b_PP_turns 53 (.invokevirtual 317) 3 56 := ⟨by decide +kernel, rfl⟩
theorem x_PP_turns_56 : DC b_PP_turns 56 (.aload_n 0) 1 57 := ⟨by decide +kernel, rfl⟩
theorem x_PP_turns_57 : DC b_PP_turns 57 (.getfield 56) 3 60 := ⟨by decide +kernel, rfl⟩
theorem x_PP_turns_60 : DC b_PP_turns 60 (.getfield 320) 3 63 := ⟨by decide +kernel, rfl⟩
theorem x_PP_turns_63 : DC b_PP_turns 63 (.iload_n 3) 1 64 := ⟨by decide +kernel, rfl⟩
theorem x_PP_turns_64 : DC b_PP_turns 64 (.iaload) 1 65 := ⟨by decide +kernel, rfl⟩
theorem x_PP_turns_65 : DC b_PP_turns 65 (.ireturn) 1 66 := ⟨by decide +kernel, rfl⟩
def k_PP_turns_31 (a1 a2 a3 s1 s2 : Int) (M : Mem) : Res := bcall (d_PP_passes s1 s2 M) fun v1 M2 => if w32 v1 = 0 then (some ((-1), M2)) else (bcall (d_Pl_replay a1 M2) fun v4 M5 => bcall (d_Pl_giveCars a1 a2 M5) fun v6 M7 => chk (0 ≤ w32 a3 ∧ w32 a3 < 8) <| blet (M7 79 (ix a3)) fun v9 => some (v9, M7))
theorem z_PP_turns_31 (C : Cx p s m args meth c G b_PP_turns 4 "PrairiePool" (some .int)) (hlev : 7 ≤ lev) {r : Int × Mem}  {a1 a2 a3 s1 s2 : Int} {M : Mem} (h : k_PP_turns_31 a1 a2 a3 s1 s2 M = some r) : Z p l e lev s m args below meth c G 4 (MQ below (Qm G 1 r) args s 0 0 (Ab G)) M 31 [(0, .ref (G.1 + 0)), (1, vi a1), (2, vi a2), (3, vi a3)] [vi s2, vi s1, .ref (G.1 + 0)] := by
  unfold k_PP_turns_31 at h
  obtain ⟨v1, M2, fv1, h⟩ := bcall_e h
  refine z_callVi (k := 0) C x_PP_turns_31 cv_PP_219 (t_PP_passes (lev := lev - 1) l G (by omega) fv1) nk_0 ck_0 rfl (by omega) rfl (i_le rfl) rfl ?_
  rcases ite_e h with ⟨c3, h⟩ | ⟨c3, h⟩
  · refine z_if_ne_f (tgt := 39) C x_PP_turns_34 rfl c3 ?_
    refine z_iconst C x_PP_turns_37 ?_
    exact z_iret C x_PP_turns_38 h
  · refine z_if_ne_t (tgt := 39) C x_PP_turns_34 rfl c3 ?_
    refine z_aload_n C 0 x_PP_turns_39 rfl ?_
    refine z_getR (j := 7) C x_PP_turns_40 nk_0 ck_0 cw_11 (i_lt rfl) rfl rf_0_7 rfl fl_PP_56 ?_
    refine z_iload_n C 1 x_PP_turns_43 rfl ?_
    obtain ⟨v4, M5, fv4, h⟩ := bcall_e h
    refine z_callVv (k := 75) C x_PP_turns_44 cv_PP_236 (t_Pl_replay (lev := lev - 1) l G (by omega) fv4) nk_75 ck_75 rfl (by omega) rfl (i_le rfl) rfl ?_
    refine z_aload_n C 0 x_PP_turns_47 rfl ?_
    refine z_getR (j := 7) C x_PP_turns_48 nk_0 ck_0 cw_11 (i_lt rfl) rfl rf_0_7 rfl fl_PP_56 ?_
    refine z_iload_n C 1 x_PP_turns_51 rfl ?_
    refine z_iload_n C 2 x_PP_turns_52 rfl ?_
    obtain ⟨v6, M7, fv6, h⟩ := bcall_e h
    refine z_callVv (k := 75) C x_PP_turns_53 cv_PP_317 (t_Pl_giveCars (lev := lev - 1) l G (by omega) fv6) nk_75 ck_75 rfl (by omega) rfl (i_le rfl) rfl ?_
    refine z_aload_n C 0 x_PP_turns_56 rfl ?_
    refine z_getR (j := 7) C x_PP_turns_57 nk_0 ck_0 cw_11 (i_lt rfl) rfl rf_0_7 rfl fl_PP_56 ?_
    refine z_getR (j := 7) C x_PP_turns_60 nk_75 ck_75 cw_6 (i_lt rfl) rfl rf_75_7 rfl fl_PP_320 ?_
    refine z_iload_n C 3 x_PP_turns_63 rfl ?_
    obtain ⟨c8, h⟩ := chk_e h
    obtain ⟨v9, ev9, h⟩ := blet_e h
    refine z_iald C x_PP_turns_64 nk_79 ck_79 c8 ev9 ?_
    exact z_iret C x_PP_turns_65 h
def k_PP_turns_30 (a1 a2 a3 s1 : Int) (M : Mem) : Res := k_PP_turns_31 a1 a2 a3 s1 0 M
theorem z_PP_turns_30 (C : Cx p s m args meth c G b_PP_turns 4 "PrairiePool" (some .int)) (hlev : 7 ≤ lev) {r : Int × Mem}  {a1 a2 a3 s1 : Int} {M : Mem} (h : k_PP_turns_30 a1 a2 a3 s1 M = some r) : Z p l e lev s m args below meth c G 4 (MQ below (Qm G 1 r) args s 0 0 (Ab G)) M 30 [(0, .ref (G.1 + 0)), (1, vi a1), (2, vi a2), (3, vi a3)] [vi s1, .ref (G.1 + 0)] := by
  unfold k_PP_turns_30 at h
  refine z_iconst C x_PP_turns_30 ?_
  exact z_sub [0, 1, 2, 3] rfl (z_PP_turns_31 C hlev h)
def d_PP_turns (a1 a2 a3 : Int) (M : Mem) : Res := bcall (d_Pr_hasElevator a3 M) fun v1 M2 => bcall (d_PP_isWeek a1 M2) fun v3 M4 => if w32 v3 = 0 then (k_PP_turns_30 a1 a2 a3 v1 M4) else (bcall (d_PP_isIn a2 1 20 M4) fun v6 M7 => if w32 v6 = 0 then (k_PP_turns_30 a1 a2 a3 v1 M7) else (k_PP_turns_31 a1 a2 a3 v1 1 M7))
theorem t_PP_turns (l : Launch) (G : GX) {lev : Nat} (hlev : 7 ≤ lev) {a1 a2 a3 : Int} {M : Mem} {r : Int × Mem} (h : d_PP_turns a1 a2 a3 M = some r) : Mt l G y_PP_turns b_PP_turns 4 (some .int) lev 1 [.ref (G.1 + 0), vi a1, vi a2, vi a3] M r := by
  refine Mt.of (by decide) (i_le rfl) ?_
  intro p e s m args below meth c C
  have C : Cx p s m args meth c G b_PP_turns 4 "PrairiePool" (some .int) := C
  unfold d_PP_turns at h
  refine z_sub (lv' := [(0, .ref (G.1 + 0)), (1, vi a1), (2, vi a2), (3, vi a3)]) [0, 1, 2, 3] rfl ?_
  refine z_aload_n C 0 x_PP_turns_0 rfl ?_
  refine z_aload_n C 0 x_PP_turns_1 rfl ?_
  refine z_getR (j := 2) C x_PP_turns_2 nk_0 ck_0 cw_11 (i_lt rfl) rfl rf_0_2 rfl fl_PP_19 ?_
  refine z_iload_n C 3 x_PP_turns_5 rfl ?_
  obtain ⟨v1, M2, fv1, h⟩ := bcall_e h
  refine z_callVi (k := 5) C x_PP_turns_6 cv_PP_148 (t_Pr_hasElevator (lev := lev - 1) l G (by omega) fv1) nk_5 ck_5 rfl (by omega) rfl (i_le rfl) rfl ?_
  refine z_iload_n C 1 x_PP_turns_9 rfl ?_
  obtain ⟨v3, M4, fv3, h⟩ := bcall_e h
  refine z_callSi C x_PP_turns_10 cs_PP_199 (t_PP_isWeek (lev := lev - 1) l G (by omega) fv3) (by omega) rfl (i_le rfl) rfl ?_
  rcases ite_e h with ⟨c5, h⟩ | ⟨c5, h⟩
  · refine z_if_eq_t (tgt := 30) C x_PP_turns_13 rfl c5 ?_
    exact z_sub [0, 1, 2, 3] rfl (z_PP_turns_30 C hlev h)
  · refine z_if_eq_f (tgt := 30) C x_PP_turns_13 rfl c5 ?_
    refine z_iload_n C 2 x_PP_turns_16 rfl ?_
    refine z_iconst C x_PP_turns_17 ?_
    refine z_bipush C rfl x_PP_turns_18 ?_
    obtain ⟨v6, M7, fv6, h⟩ := bcall_e h
    refine z_callSi C x_PP_turns_20 cs_PP_89 (t_PP_isIn (lev := lev - 1) l G (by omega) fv6) (by omega) rfl (i_le rfl) rfl ?_
    rcases ite_e h with ⟨c8, h⟩ | ⟨c8, h⟩
    · refine z_if_eq_t (tgt := 30) C x_PP_turns_23 rfl c8 ?_
      exact z_sub [0, 1, 2, 3] rfl (z_PP_turns_30 C hlev h)
    · refine z_if_eq_f (tgt := 30) C x_PP_turns_23 rfl c8 ?_
      refine z_iconst C x_PP_turns_26 ?_
      refine z_goto (tgt := 31) C x_PP_turns_27 rfl ?_
      exact z_sub [0, 1, 2, 3] rfl (z_PP_turns_31 C hlev h)
theorem x_PP_sign_0 : DC b_PP_sign 0 (.aload_n 0) 1 1 := ⟨by decide +kernel, rfl⟩
theorem x_PP_sign_1 : DC b_PP_sign 1 (.aload_n 0) 1 2 := ⟨by decide +kernel, rfl⟩
theorem x_PP_sign_2 : DC b_PP_sign 2 (.getfield 19) 3 5 := ⟨by decide +kernel, rfl⟩
theorem x_PP_sign_5 : DC b_PP_sign 5 (.iload_n 1) 1 6 := ⟨by decide +kernel, rfl⟩
theorem x_PP_sign_6 : DC b_PP_sign 6 (.invokevirtual 145) 3 9 := ⟨by decide +kernel, rfl⟩
theorem x_PP_sign_9 : DC b_PP_sign 9 (.iload_n 2) 1 10 := ⟨by decide +kernel, rfl⟩
theorem x_PP_sign_10 : DC b_PP_sign 10 (.invokestatic 180) 3 13 := ⟨by decide +kernel, rfl⟩
theorem x_PP_sign_13 : DC b_PP_sign 13 (.ifCond .eq 19) 3 16 := ⟨by decide +kernel, rfl⟩
theorem x_PP_sign_16 : DC b_PP_sign 16 (.iload_n 3) 1 17 := ⟨by decide +kernel, rfl⟩
theorem x_PP_sign_17 : DC b_PP_sign 17 (.invokestatic 180) 3 20 := ⟨by decide +kernel, rfl⟩
theorem x_PP_sign_20 : DC b_PP_sign 20 (.ifCond .eq 12) 3 23 := ⟨by decide +kernel, rfl⟩
theorem x_PP_sign_23 : DC b_PP_sign 23 (.iload_n 2) 1 24 := ⟨by decide +kernel, rfl⟩
theorem x_PP_sign_24 : DC b_PP_sign 24 (.iload_n 3) 1 25 := ⟨by decide +kernel, rfl⟩
theorem x_PP_sign_25 : DC b_PP_sign 25 (.if_icmp .gt 7) 3 28 := ⟨by decide +kernel, rfl⟩
theorem x_PP_sign_28 : DC b_PP_sign 28 (.iconst 1) 1 29 := ⟨by decide +kernel, rfl⟩
theorem x_PP_sign_29 : DC b_PP_sign 29 (.goto 4) 3 32 := ⟨by decide +kernel, rfl⟩
theorem x_PP_sign_32 : DC b_PP_sign 32 (.iconst 0) 1 33 := ⟨by decide +kernel, rfl⟩
theorem x_PP_sign_33 : DC b_PP_sign 33 (.invokevirtual 219) 3 36 := ⟨by decide +kernel, rfl⟩
theorem x_PP_sign_36 : DC b_PP_sign 36 (.ifCond .ne 5) 3 39 := ⟨by decide +kernel, rfl⟩
theorem x_PP_sign_39 : DC b_PP_sign 39 (.iconst 0) 1 40 := ⟨by decide +kernel, rfl⟩
theorem x_PP_sign_40 : DC b_PP_sign 40 (.ireturn) 1 41 := ⟨by decide +kernel, rfl⟩
theorem x_PP_sign_41 : DC b_PP_sign 41 (.aload_n 0) 1 42 := ⟨by decide +kernel, rfl⟩
theorem x_PP_sign_42 : DC b_PP_sign 42 (.getfield 19) 3 45 := ⟨by decide +kernel, rfl⟩
theorem x_PP_sign_45 : DC b_PP_sign 45 (.getfield 323) 3 48 := ⟨by decide +kernel, rfl⟩
theorem x_PP_sign_48 : DC b_PP_sign 48 (.iload_n 1) 1 49 := ⟨by decide +kernel, rfl⟩
theorem x_PP_sign_49 : DC b_PP_sign 49 (.iload_n 2) 1 50 := ⟨by decide +kernel, rfl⟩
theorem x_PP_sign_50 : DC b_PP_sign 50 (.iastore) 1 51 := ⟨by decide +kernel, rfl⟩
theorem x_PP_sign_51 : DC b_PP_sign 51 (.aload_n 0) 1 52 := ⟨by decide +kernel, rfl⟩
theorem x_PP_sign_52 : DC b_PP_sign 52 (.getfield 19) 3 55 := ⟨by decide +kernel, rfl⟩
theorem x_PP_sign_55 : DC b_PP_sign 55 (.getfield 326) 3 58 := ⟨by decide +kernel, rfl⟩
theorem x_PP_sign_58 : DC b_PP_sign 58 (.iload_n 1) 1 59 := ⟨by decide +kernel, rfl⟩
theorem x_PP_sign_59 : DC b_PP_sign 59 (.iload_n 3) 1 60 := ⟨by decide +kernel, rfl⟩
theorem x_PP_sign_60 : DC b_PP_sign 60 (.iastore) 1 61 := ⟨by decide +kernel, rfl⟩
theorem x_PP_sign_61 : DC b_PP_sign 61 (.iconst 1) 1 62 := ⟨by decide +kernel, rfl⟩
theorem x_PP_sign_62 : DC b_PP_sign 62 (.ireturn) 1 63 := ⟨by decide +kernel, rfl⟩
def k_PP_sign_33 (a1 a2 a3 s1 s2 : Int) (M : Mem) : Res := bcall (d_PP_passes s1 s2 M) fun v1 M2 => if w32 v1 = 0 then (some (0, M2)) else (chk (0 ≤ w32 a1 ∧ w32 a1 < 20) <| blet (sto M2 9 (ix a1) a2) fun M5 => chk (0 ≤ w32 a1 ∧ w32 a1 < 20) <| blet (sto M5 10 (ix a1) a3) fun M7 => some (1, M7))
theorem z_PP_sign_33 (C : Cx p s m args meth c G b_PP_sign 4 "PrairiePool" (some .boolean)) (hlev : 2 ≤ lev) {r : Int × Mem}  {a1 a2 a3 s1 s2 : Int} {M : Mem} (h : k_PP_sign_33 a1 a2 a3 s1 s2 M = some r) : Z p l e lev s m args below meth c G 4 (MQ below (Qm G 1 r) args s 0 0 (Ab G)) M 33 [(0, .ref (G.1 + 0)), (1, vi a1), (2, vi a2), (3, vi a3)] [vi s2, vi s1, .ref (G.1 + 0)] := by
  unfold k_PP_sign_33 at h
  obtain ⟨v1, M2, fv1, h⟩ := bcall_e h
  refine z_callVi (k := 0) C x_PP_sign_33 cv_PP_219 (t_PP_passes (lev := lev - 1) l G (by omega) fv1) nk_0 ck_0 rfl (by omega) rfl (i_le rfl) rfl ?_
  rcases ite_e h with ⟨c3, h⟩ | ⟨c3, h⟩
  · refine z_if_ne_f (tgt := 41) C x_PP_sign_36 rfl c3 ?_
    refine z_iconst C x_PP_sign_39 ?_
    exact z_zret C x_PP_sign_40 (by decide) h
  · refine z_if_ne_t (tgt := 41) C x_PP_sign_36 rfl c3 ?_
    refine z_aload_n C 0 x_PP_sign_41 rfl ?_
    refine z_getR (j := 2) C x_PP_sign_42 nk_0 ck_0 cw_11 (i_lt rfl) rfl rf_0_2 rfl fl_PP_19 ?_
    refine z_getR (j := 4) C x_PP_sign_45 nk_5 ck_5 cw_7 (i_lt rfl) rfl rf_5_4 rfl fl_PP_323 ?_
    refine z_iload_n C 1 x_PP_sign_48 rfl ?_
    refine z_iload_n C 2 x_PP_sign_49 rfl ?_
    obtain ⟨c4, h⟩ := chk_e h
    obtain ⟨M5, eM5, h⟩ := blet_e h
    refine z_iast C x_PP_sign_50 nk_9 ck_9 c4 eM5 ?_
    refine z_aload_n C 0 x_PP_sign_51 rfl ?_
    refine z_getR (j := 2) C x_PP_sign_52 nk_0 ck_0 cw_11 (i_lt rfl) rfl rf_0_2 rfl fl_PP_19 ?_
    refine z_getR (j := 5) C x_PP_sign_55 nk_5 ck_5 cw_7 (i_lt rfl) rfl rf_5_5 rfl fl_PP_326 ?_
    refine z_iload_n C 1 x_PP_sign_58 rfl ?_
    refine z_iload_n C 3 x_PP_sign_59 rfl ?_
    obtain ⟨c6, h⟩ := chk_e h
    obtain ⟨M7, eM7, h⟩ := blet_e h
    refine z_iast C x_PP_sign_60 nk_10 ck_10 c6 eM7 ?_
    refine z_iconst C x_PP_sign_61 ?_
    exact z_zret C x_PP_sign_62 (by decide) h
def k_PP_sign_32 (a1 a2 a3 s1 : Int) (M : Mem) : Res := k_PP_sign_33 a1 a2 a3 s1 0 M
theorem z_PP_sign_32 (C : Cx p s m args meth c G b_PP_sign 4 "PrairiePool" (some .boolean)) (hlev : 2 ≤ lev) {r : Int × Mem}  {a1 a2 a3 s1 : Int} {M : Mem} (h : k_PP_sign_32 a1 a2 a3 s1 M = some r) : Z p l e lev s m args below meth c G 4 (MQ below (Qm G 1 r) args s 0 0 (Ab G)) M 32 [(0, .ref (G.1 + 0)), (1, vi a1), (2, vi a2), (3, vi a3)] [vi s1, .ref (G.1 + 0)] := by
  unfold k_PP_sign_32 at h
  refine z_iconst C x_PP_sign_32 ?_
  exact z_sub [0, 1, 2, 3] rfl (z_PP_sign_33 C hlev h)
def d_PP_sign (a1 a2 a3 : Int) (M : Mem) : Res := bcall (d_Pr_hasFarm a1 M) fun v1 M2 => bcall (d_PP_isYear a2 M2) fun v3 M4 => if w32 v3 = 0 then (k_PP_sign_32 a1 a2 a3 v1 M4) else (bcall (d_PP_isYear a3 M4) fun v6 M7 => if w32 v6 = 0 then (k_PP_sign_32 a1 a2 a3 v1 M7) else (if w32 a3 < w32 a2 then (k_PP_sign_32 a1 a2 a3 v1 M7) else (k_PP_sign_33 a1 a2 a3 v1 1 M7)))
theorem t_PP_sign (l : Launch) (G : GX) {lev : Nat} (hlev : 2 ≤ lev) {a1 a2 a3 : Int} {M : Mem} {r : Int × Mem} (h : d_PP_sign a1 a2 a3 M = some r) : Mt l G y_PP_sign b_PP_sign 4 (some .boolean) lev 1 [.ref (G.1 + 0), vi a1, vi a2, vi a3] M r := by
  refine Mt.of (by decide) (i_le rfl) ?_
  intro p e s m args below meth c C
  have C : Cx p s m args meth c G b_PP_sign 4 "PrairiePool" (some .boolean) := C
  unfold d_PP_sign at h
  refine z_sub (lv' := [(0, .ref (G.1 + 0)), (1, vi a1), (2, vi a2), (3, vi a3)]) [0, 1, 2, 3] rfl ?_
  refine z_aload_n C 0 x_PP_sign_0 rfl ?_
  refine z_aload_n C 0 x_PP_sign_1 rfl ?_
  refine z_getR (j := 2) C x_PP_sign_2 nk_0 ck_0 cw_11 (i_lt rfl) rfl rf_0_2 rfl fl_PP_19 ?_
  refine z_iload_n C 1 x_PP_sign_5 rfl ?_
  obtain ⟨v1, M2, fv1, h⟩ := bcall_e h
  refine z_callVi (k := 5) C x_PP_sign_6 cv_PP_145 (t_Pr_hasFarm (lev := lev - 1) l G (by omega) fv1) nk_5 ck_5 rfl (by omega) rfl (i_le rfl) rfl ?_
  refine z_iload_n C 2 x_PP_sign_9 rfl ?_
  obtain ⟨v3, M4, fv3, h⟩ := bcall_e h
  refine z_callSi C x_PP_sign_10 cs_PP_180 (t_PP_isYear (lev := lev - 1) l G (by omega) fv3) (by omega) rfl (i_le rfl) rfl ?_
  rcases ite_e h with ⟨c5, h⟩ | ⟨c5, h⟩
  · refine z_if_eq_t (tgt := 32) C x_PP_sign_13 rfl c5 ?_
    exact z_sub [0, 1, 2, 3] rfl (z_PP_sign_32 C hlev h)
  · refine z_if_eq_f (tgt := 32) C x_PP_sign_13 rfl c5 ?_
    refine z_iload_n C 3 x_PP_sign_16 rfl ?_
    obtain ⟨v6, M7, fv6, h⟩ := bcall_e h
    refine z_callSi C x_PP_sign_17 cs_PP_180 (t_PP_isYear (lev := lev - 1) l G (by omega) fv6) (by omega) rfl (i_le rfl) rfl ?_
    rcases ite_e h with ⟨c8, h⟩ | ⟨c8, h⟩
    · refine z_if_eq_t (tgt := 32) C x_PP_sign_20 rfl c8 ?_
      exact z_sub [0, 1, 2, 3] rfl (z_PP_sign_32 C hlev h)
    · refine z_if_eq_f (tgt := 32) C x_PP_sign_20 rfl c8 ?_
      refine z_iload_n C 2 x_PP_sign_23 rfl ?_
      refine z_iload_n C 3 x_PP_sign_24 rfl ?_
      rcases ite_e h with ⟨c9, h⟩ | ⟨c9, h⟩
      · refine z_icmp_gt_t (tgt := 32) C x_PP_sign_25 rfl c9 ?_
        exact z_sub [0, 1, 2, 3] rfl (z_PP_sign_32 C hlev h)
      · refine z_icmp_gt_f (tgt := 32) C x_PP_sign_25 rfl c9 ?_
        refine z_iconst C x_PP_sign_28 ?_
        refine z_goto (tgt := 33) C x_PP_sign_29 rfl ?_
        exact z_sub [0, 1, 2, 3] rfl (z_PP_sign_33 C hlev h)
theorem x_PP_let_0 : DC b_PP_let 0 (.aload_n 0) 1 1 := ⟨by decide +kernel, rfl⟩
theorem x_PP_let_1 : DC b_PP_let 1 (.aload_n 0) 1 2 := ⟨by decide +kernel, rfl⟩
theorem x_PP_let_2 : DC b_PP_let 2 (.getfield 19) 3 5 := ⟨by decide +kernel, rfl⟩
theorem x_PP_let_5 : DC b_PP_let 5 (.iload_n 1) 1 6 := ⟨by decide +kernel, rfl⟩
theorem x_PP_let_6 : DC b_PP_let 6 (.invokevirtual 145) 3 9 := ⟨by decide +kernel, rfl⟩
theorem x_PP_let_9 : DC b_PP_let 9 (.iload_n 2) 1 10 := ⟨by decide +kernel, rfl⟩
theorem x_PP_let_10 : DC b_PP_let 10 (.invokestatic 180) 3 13 := ⟨by decide +kernel, rfl⟩
theorem x_PP_let_13 : DC b_PP_let 13 (.invokevirtual 219) 3 16 := ⟨by decide +kernel, rfl⟩
theorem x_PP_let_16 : DC b_PP_let 16 (.ifCond .ne 5) 3 19 := ⟨by decide +kernel, rfl⟩
theorem x_PP_let_19 : DC b_PP_let 19 (.iconst 0) 1 20 := ⟨by decide +kernel, rfl⟩
theorem x_PP_let_20 : DC b_PP_let 20 (.ireturn) 1 21 := ⟨by decide +kernel, rfl⟩
theorem x_PP_let_21 : DC b_PP_let 21 (.aload_n 0) 1 22 := ⟨by decide +kernel, rfl⟩
theorem x_PP_let_22 : DC b_PP_let 22 (.getfield 19) 3 25 := ⟨by decide +kernel, rfl⟩
theorem x_PP_let_25 : DC b_PP_let 25 (.getfield 329) 3 28 := ⟨by decide +kernel, rfl⟩
theorem x_PP_let_28 : DC b_PP_let 28 (.iload_n 1) 1 29 := ⟨by decide +kernel, rfl⟩
theorem x_PP_let_29 : DC b_PP_let 29 (.bipush 10) 2 31 := ⟨by decide +kernel, rfl⟩
theorem x_PP_let_31 : DC b_PP_let 31 (.imul) 1 32 := ⟨by decide +kernel, rfl⟩
theorem x_PP_let_32 : DC b_PP_let 32 (.iload_n 2) 1 33 := ⟨by decide +kernel, rfl⟩
theorem x_PP_let_33 : DC b_PP_let 33 (.iadd) 1 34 := ⟨by decide +kernel, rfl⟩
theorem x_PP_let_34 : DC b_PP_let 34 (.iload_n 3) 1 35 := ⟨by decide +kernel, rfl⟩
theorem x_PP_let_35 : DC b_PP_let 35 (.bastore) 1 36 := ⟨by decide +kernel, rfl⟩
theorem x_PP_let_36 : DC b_PP_let 36 (.iconst 1) 1 37 := ⟨by decide +kernel, rfl⟩
theorem x_PP_let_37 : DC b_PP_let 37 (.ireturn) 1 38 := ⟨by decide +kernel, rfl⟩
def d_PP_let (a1 a2 a3 : Int) (M : Mem) : Res := bcall (d_Pr_hasFarm a1 M) fun v1 M2 => bcall (d_PP_isYear a2 M2) fun v3 M4 => bcall (d_PP_passes v1 v3 M4) fun v5 M6 => if w32 v5 = 0 then (some (0, M6)) else (chk (0 ≤ w32 ((a1 * 10) + a2) ∧ w32 ((a1 * 10) + a2) < 200) <| blet (sto M6 11 (ix ((a1 * 10) + a2)) a3) fun M9 => some (1, M9))
theorem t_PP_let (l : Launch) (G : GX) {lev : Nat} (hlev : 2 ≤ lev) {a1 a2 a3 : Int} {M : Mem} {r : Int × Mem} (h : d_PP_let a1 a2 a3 M = some r) : Mt l G y_PP_let b_PP_let 4 (some .boolean) lev 1 [.ref (G.1 + 0), vi a1, vi a2, vi a3] M r := by
  refine Mt.of (by decide) (i_le rfl) ?_
  intro p e s m args below meth c C
  have C : Cx p s m args meth c G b_PP_let 4 "PrairiePool" (some .boolean) := C
  unfold d_PP_let at h
  refine z_sub (lv' := [(0, .ref (G.1 + 0)), (1, vi a1), (2, vi a2), (3, vi a3)]) [0, 1, 2, 3] rfl ?_
  refine z_aload_n C 0 x_PP_let_0 rfl ?_
  refine z_aload_n C 0 x_PP_let_1 rfl ?_
  refine z_getR (j := 2) C x_PP_let_2 nk_0 ck_0 cw_11 (i_lt rfl) rfl rf_0_2 rfl fl_PP_19 ?_
  refine z_iload_n C 1 x_PP_let_5 rfl ?_
  obtain ⟨v1, M2, fv1, h⟩ := bcall_e h
  refine z_callVi (k := 5) C x_PP_let_6 cv_PP_145 (t_Pr_hasFarm (lev := lev - 1) l G (by omega) fv1) nk_5 ck_5 rfl (by omega) rfl (i_le rfl) rfl ?_
  refine z_iload_n C 2 x_PP_let_9 rfl ?_
  obtain ⟨v3, M4, fv3, h⟩ := bcall_e h
  refine z_callSi C x_PP_let_10 cs_PP_180 (t_PP_isYear (lev := lev - 1) l G (by omega) fv3) (by omega) rfl (i_le rfl) rfl ?_
  obtain ⟨v5, M6, fv5, h⟩ := bcall_e h
  refine z_callVi (k := 0) C x_PP_let_13 cv_PP_219 (t_PP_passes (lev := lev - 1) l G (by omega) fv5) nk_0 ck_0 rfl (by omega) rfl (i_le rfl) rfl ?_
  rcases ite_e h with ⟨c7, h⟩ | ⟨c7, h⟩
  · refine z_if_ne_f (tgt := 21) C x_PP_let_16 rfl c7 ?_
    refine z_iconst C x_PP_let_19 ?_
    exact z_zret C x_PP_let_20 (by decide) h
  · refine z_if_ne_t (tgt := 21) C x_PP_let_16 rfl c7 ?_
    refine z_aload_n C 0 x_PP_let_21 rfl ?_
    refine z_getR (j := 2) C x_PP_let_22 nk_0 ck_0 cw_11 (i_lt rfl) rfl rf_0_2 rfl fl_PP_19 ?_
    refine z_getR (j := 6) C x_PP_let_25 nk_5 ck_5 cw_7 (i_lt rfl) rfl rf_5_6 rfl fl_PP_329 ?_
    refine z_iload_n C 1 x_PP_let_28 rfl ?_
    refine z_bipush C rfl x_PP_let_29 ?_
    refine z_imul C x_PP_let_31 ?_
    refine z_iload_n C 2 x_PP_let_32 rfl ?_
    refine z_iadd C x_PP_let_33 ?_
    refine z_iload_n C 3 x_PP_let_34 rfl ?_
    obtain ⟨c8, h⟩ := chk_e h
    obtain ⟨M9, eM9, h⟩ := blet_e h
    refine z_zast C x_PP_let_35 nk_11 ck_11 c8 eM9 ?_
    refine z_iconst C x_PP_let_36 ?_
    exact z_zret C x_PP_let_37 (by decide) h
theorem x_PP_outside_0 : DC b_PP_outside 0 (.iload_n 2) 1 1 := ⟨by decide +kernel, rfl⟩
theorem x_PP_outside_1 : DC b_PP_outside 1 (.invokestatic 199) 3 4 := ⟨by decide +kernel, rfl⟩
theorem x_PP_outside_4 : DC b_PP_outside 4 (.ifCond .eq 26) 3 7 := ⟨by decide +kernel, rfl⟩
theorem x_PP_outside_7 : DC b_PP_outside 7 (.iload_n 3) 1 8 := ⟨by decide +kernel, rfl⟩
theorem x_PP_outside_8 : DC b_PP_outside 8 (.iconst 1) 1 9 := ⟨by decide +kernel, rfl⟩
theorem x_PP_outside_9 : DC b_PP_outside 9 (.sipush 10000) 3 12 := ⟨by decide +kernel, rfl⟩
theorem x_PP_outside_12 : DC b_PP_outside 12 (.invokestatic 89) 3 15 := ⟨by decide +kernel, rfl⟩
theorem x_PP_outside_15 : DC b_PP_outside 15 (.ifCond .eq 15) 3 18 := ⟨by decide +kernel, rfl⟩
theorem x_PP_outside_18 : DC b_PP_outside 18 (.iload 4) 2 20 := ⟨by decide +kernel, rfl⟩
theorem x_PP_outside_20 : DC b_PP_outside 20 (.invokestatic 190) 3 23 := ⟨by decide +kernel, rfl⟩
theorem x_PP_outside_23 : DC b_PP_outside 23 (.ifCond .eq 7) 3 26 := ⟨by decide +kernel, rfl⟩
theorem x_PP_outside_26 : DC b_PP_outside 26 (.iconst 1) 1 27 := ⟨by decide +kernel, rfl⟩
theorem x_PP_outside_27 : DC b_PP_outside 27 (.goto 4) 3 30 := ⟨by decide +kernel, rfl⟩
theorem x_PP_outside_30 : DC b_PP_outside 30 (.iconst 0) 1 31 := ⟨by decide +kernel, rfl⟩
theorem x_PP_outside_31 : DC b_PP_outside 31 (.istore 5) 2 33 := ⟨by decide +kernel, rfl⟩
theorem x_PP_outside_33 : DC b_PP_outside 33 (.aload_n 0) 1 34 := ⟨by decide +kernel, rfl⟩
theorem x_PP_outside_34 : DC b_PP_outside 34 (.getfield 74) 3 37 := ⟨by decide +kernel, rfl⟩
theorem x_PP_outside_37 : DC b_PP_outside 37 (.getfield 333) 3 40 := ⟨by decide +kernel, rfl⟩
theorem x_PP_outside_40 : DC b_PP_outside 40 (.bipush 60) 2 42 := ⟨by decide +kernel, rfl⟩
theorem x_PP_outside_42 : DC b_PP_outside 42 (.if_icmp .ge 7) 3 45 := ⟨by decide +kernel, rfl⟩
theorem x_PP_outside_45 : DC b_PP_outside 45 (.iconst 1) 1 46 := ⟨by decide +kernel, rfl⟩
theorem x_PP_outside_46 : DC b_PP_outside 46 (.goto 4) 3 49 := ⟨by decide +kernel, rfl⟩
theorem x_PP_outside_49 : DC b_PP_outside 49 (.iconst 0) 1 50 := ⟨by decide +kernel, rfl⟩
theorem x_PP_outside_50 : DC b_PP_outside 50 (.istore 6) 2 52 := ⟨by decide +kernel, rfl⟩
theorem x_PP_outside_52 : DC b_PP_outside 52 (.aload_n 0) 1 53 := ⟨by decide +kernel, rfl⟩
theorem x_PP_outside_53 : DC b_PP_outside 53 (.aload_n 0) 1 54 := ⟨by decide +kernel, rfl⟩
theorem x_PP_outside_54 : DC b_PP_outside 54 (.getfield 19) 3 57 := ⟨by decide +kernel, rfl⟩
theorem x_PP_outside_57 : DC b_PP_outside 57 (.iload_n 1) 1 58 := ⟨by decide +kernel, rfl⟩
theorem x_PP_outside_58 : DC b_PP_outside 58 (.invokevirtual 145) 3 61 := ⟨by decide +kernel, rfl⟩
theorem x_PP_outside_61 : DC b_PP_outside 61 (.iload 5) 2 63 := ⟨by decide +kernel, rfl⟩
theorem x_PP_outside_63 : DC b_PP_outside 63 (.iload 6) 2 65 := ⟨by decide +kernel, rfl⟩
theorem x_PP_outside_65 : DC b_PP_outside 65 (.invokevirtual 130) 3 68 := ⟨by decide +kernel, rfl⟩
theorem x_PP_outside_68 : DC b_PP_outside 68 (.ifCond .ne 5) 3 71 := ⟨by decide +kernel, rfl⟩
theorem x_PP_outside_71 : DC b_PP_outside 71 (.iconst (-1)) 1 72 := ⟨by decide +kernel, rfl⟩
theorem x_PP_outside_72 : DC b_PP_outside 72 (.ireturn) 1 73 := ⟨by decide +kernel, rfl⟩
theorem x_PP_outside_73 : DC b_PP_outside 73 (.aload_n 0) 1 74 := ⟨by decide +kernel, rfl⟩
theorem x_PP_outside_74 : DC b_PP_outside 74 (.getfield 74) 3 77 := ⟨by decide +kernel, rfl⟩
theorem x_PP_outside_77 : DC b_PP_outside 77 (.iload_n 1) 1 78 := ⟨by decide +kernel, rfl⟩
theorem x_PP_outside_78 : DC b_PP_outside 78 (.iload_n 2) 1 79 := ⟨by decide +kernel, rfl⟩
theorem x_PP_outside_79 : DC b_PP_outside 79 (.iload_n 3) 1 80 := ⟨by decide +kernel, rfl⟩
theorem x_PP_outside_80 : DC b_PP_outside 80 (.iload 4) 2 82 := ⟨by decide +kernel, rfl⟩
theorem x_PP_outside_82 : DC b_PP_outside 82 (.invokevirtual 336) 3 85 := ⟨by decide +kernel, rfl⟩
theorem x_PP_outside_85 : DC b_PP_outside 85 (.ireturn) 1 86 := ⟨by decide +kernel, rfl⟩
def k_PP_outside_50 (a1 a2 a3 a4 a5 s0 : Int) (M : Mem) : Res := bcall (d_Pr_hasFarm a1 M) fun v1 M2 => bcall (d_PP_passesWithRoom v1 a5 s0 M2) fun v3 M4 => if w32 v3 = 0 then (some ((-1), M4)) else (bcall (d_Ou_add a1 a2 a3 a4 M4) fun v6 M7 => some (v6, M7))
theorem z_PP_outside_50 (C : Cx p s m args meth c G b_PP_outside 7 "PrairiePool" (some .int)) (hlev : 2 ≤ lev) {r : Int × Mem}  {a1 a2 a3 a4 a5 s0 : Int} {M : Mem} (h : k_PP_outside_50 a1 a2 a3 a4 a5 s0 M = some r) : Z p l e lev s m args below meth c G 7 (MQ below (Qm G 1 r) args s 0 0 (Ab G)) M 50 [(0, .ref (G.1 + 0)), (1, vi a1), (2, vi a2), (3, vi a3), (4, vi a4), (5, vi a5)] [vi s0] := by
  unfold k_PP_outside_50 at h
  refine z_istore (lv' := [(6, vi s0), (0, .ref (G.1 + 0)), (1, vi a1), (2, vi a2), (3, vi a3), (4, vi a4), (5, vi a5)]) C rfl x_PP_outside_50 (i_lt rfl) rfl ?_
  refine z_aload_n C 1 x_PP_outside_52 rfl ?_
  refine z_aload_n C 1 x_PP_outside_53 rfl ?_
  refine z_getR (j := 2) C x_PP_outside_54 nk_0 ck_0 cw_11 (i_lt rfl) rfl rf_0_2 rfl fl_PP_19 ?_
  refine z_iload_n C 2 x_PP_outside_57 rfl ?_
  obtain ⟨v1, M2, fv1, h⟩ := bcall_e h
  refine z_callVi (k := 5) C x_PP_outside_58 cv_PP_145 (t_Pr_hasFarm (lev := lev - 1) l G (by omega) fv1) nk_5 ck_5 rfl (by omega) rfl (i_le rfl) rfl ?_
  refine z_iload C 6 x_PP_outside_61 rfl ?_
  refine z_iload C 0 x_PP_outside_63 rfl ?_
  obtain ⟨v3, M4, fv3, h⟩ := bcall_e h
  refine z_callVi (k := 0) C x_PP_outside_65 cv_PP_130 (t_PP_passesWithRoom (lev := lev - 1) l G (by omega) fv3) nk_0 ck_0 rfl (by omega) rfl (i_le rfl) rfl ?_
  rcases ite_e h with ⟨c5, h⟩ | ⟨c5, h⟩
  · refine z_if_ne_f (tgt := 73) C x_PP_outside_68 rfl c5 ?_
    refine z_iconst C x_PP_outside_71 ?_
    exact z_iret C x_PP_outside_72 h
  · refine z_if_ne_t (tgt := 73) C x_PP_outside_68 rfl c5 ?_
    refine z_aload_n C 1 x_PP_outside_73 rfl ?_
    refine z_getR (j := 9) C x_PP_outside_74 nk_0 ck_0 cw_11 (i_lt rfl) rfl rf_0_9 rfl fl_PP_74 ?_
    refine z_iload_n C 2 x_PP_outside_77 rfl ?_
    refine z_iload_n C 3 x_PP_outside_78 rfl ?_
    refine z_iload_n C 4 x_PP_outside_79 rfl ?_
    refine z_iload C 5 x_PP_outside_80 rfl ?_
    obtain ⟨v6, M7, fv6, h⟩ := bcall_e h
    refine z_callVi (k := 98) C x_PP_outside_82 cv_PP_336 (t_Ou_add (lev := lev - 1) l G (by omega) fv6) nk_98 ck_98 rfl (by omega) rfl (i_le rfl) rfl ?_
    exact z_iret C x_PP_outside_85 h
def k_PP_outside_31 (a1 a2 a3 a4 s0 : Int) (M : Mem) : Res := blet (M 98 0) fun v1 => if w32 v1 < 60 then (k_PP_outside_50 a1 a2 a3 a4 s0 1 M) else (k_PP_outside_50 a1 a2 a3 a4 s0 0 M)
theorem z_PP_outside_31 (C : Cx p s m args meth c G b_PP_outside 7 "PrairiePool" (some .int)) (hlev : 2 ≤ lev) {r : Int × Mem}  {a1 a2 a3 a4 s0 : Int} {M : Mem} (h : k_PP_outside_31 a1 a2 a3 a4 s0 M = some r) : Z p l e lev s m args below meth c G 7 (MQ below (Qm G 1 r) args s 0 0 (Ab G)) M 31 [(0, .ref (G.1 + 0)), (1, vi a1), (2, vi a2), (3, vi a3), (4, vi a4)] [vi s0] := by
  unfold k_PP_outside_31 at h
  refine z_istore (lv' := [(5, vi s0), (0, .ref (G.1 + 0)), (1, vi a1), (2, vi a2), (3, vi a3), (4, vi a4)]) C rfl x_PP_outside_31 (i_lt rfl) rfl ?_
  refine z_aload_n C 1 x_PP_outside_33 rfl ?_
  refine z_getR (j := 9) C x_PP_outside_34 nk_0 ck_0 cw_11 (i_lt rfl) rfl rf_0_9 rfl fl_PP_74 ?_
  obtain ⟨v1, ev1, h⟩ := blet_e h
  refine z_getI (j := 0) C x_PP_outside_37 nk_98 ck_98 cw_3 (i_lt rfl) rfl rfl fl_PP_333 ev1 ?_
  refine z_bipush C rfl x_PP_outside_40 ?_
  rcases ite_e h with ⟨c2, h⟩ | ⟨c2, h⟩
  · refine z_icmp_ge_f (tgt := 49) C x_PP_outside_42 rfl c2 ?_
    refine z_iconst C x_PP_outside_45 ?_
    refine z_goto (tgt := 50) C x_PP_outside_46 rfl ?_
    exact z_sub [1, 2, 3, 4, 5, 0] rfl (z_PP_outside_50 C hlev h)
  · refine z_icmp_ge_t (tgt := 49) C x_PP_outside_42 rfl c2 ?_
    refine z_iconst C x_PP_outside_49 ?_
    exact z_sub [1, 2, 3, 4, 5, 0] rfl (z_PP_outside_50 C hlev h)
def k_PP_outside_30 (a1 a2 a3 a4 : Int) (M : Mem) : Res := k_PP_outside_31 a1 a2 a3 a4 0 M
theorem z_PP_outside_30 (C : Cx p s m args meth c G b_PP_outside 7 "PrairiePool" (some .int)) (hlev : 2 ≤ lev) {r : Int × Mem}  {a1 a2 a3 a4 : Int} {M : Mem} (h : k_PP_outside_30 a1 a2 a3 a4 M = some r) : Z p l e lev s m args below meth c G 7 (MQ below (Qm G 1 r) args s 0 0 (Ab G)) M 30 [(0, .ref (G.1 + 0)), (1, vi a1), (2, vi a2), (3, vi a3), (4, vi a4)] [] := by
  unfold k_PP_outside_30 at h
  refine z_iconst C x_PP_outside_30 ?_
  exact z_sub [0, 1, 2, 3, 4] rfl (z_PP_outside_31 C hlev h)
def d_PP_outside (a1 a2 a3 a4 : Int) (M : Mem) : Res := bcall (d_PP_isWeek a2 M) fun v1 M2 => if w32 v1 = 0 then (k_PP_outside_30 a1 a2 a3 a4 M2) else (bcall (d_PP_isIn a3 1 10000 M2) fun v4 M5 => if w32 v4 = 0 then (k_PP_outside_30 a1 a2 a3 a4 M5) else (bcall (d_PP_isPence a4 M5) fun v7 M8 => if w32 v7 = 0 then (k_PP_outside_30 a1 a2 a3 a4 M8) else (k_PP_outside_31 a1 a2 a3 a4 1 M8)))
theorem t_PP_outside (l : Launch) (G : GX) {lev : Nat} (hlev : 2 ≤ lev) {a1 a2 a3 a4 : Int} {M : Mem} {r : Int × Mem} (h : d_PP_outside a1 a2 a3 a4 M = some r) : Mt l G y_PP_outside b_PP_outside 7 (some .int) lev 1 [.ref (G.1 + 0), vi a1, vi a2, vi a3, vi a4] M r := by
  refine Mt.of (by decide) (i_le rfl) ?_
  intro p e s m args below meth c C
  have C : Cx p s m args meth c G b_PP_outside 7 "PrairiePool" (some .int) := C
  unfold d_PP_outside at h
  refine z_sub (lv' := [(0, .ref (G.1 + 0)), (1, vi a1), (2, vi a2), (3, vi a3), (4, vi a4)]) [0, 1, 2, 3, 4] rfl ?_
  refine z_iload_n C 2 x_PP_outside_0 rfl ?_
  obtain ⟨v1, M2, fv1, h⟩ := bcall_e h
  refine z_callSi C x_PP_outside_1 cs_PP_199 (t_PP_isWeek (lev := lev - 1) l G (by omega) fv1) (by omega) rfl (i_le rfl) rfl ?_
  rcases ite_e h with ⟨c3, h⟩ | ⟨c3, h⟩
  · refine z_if_eq_t (tgt := 30) C x_PP_outside_4 rfl c3 ?_
    exact z_sub [0, 1, 2, 3, 4] rfl (z_PP_outside_30 C hlev h)
  · refine z_if_eq_f (tgt := 30) C x_PP_outside_4 rfl c3 ?_
    refine z_iload_n C 3 x_PP_outside_7 rfl ?_
    refine z_iconst C x_PP_outside_8 ?_
    refine z_sipush C rfl x_PP_outside_9 ?_
    obtain ⟨v4, M5, fv4, h⟩ := bcall_e h
    refine z_callSi C x_PP_outside_12 cs_PP_89 (t_PP_isIn (lev := lev - 1) l G (by omega) fv4) (by omega) rfl (i_le rfl) rfl ?_
    rcases ite_e h with ⟨c6, h⟩ | ⟨c6, h⟩
    · refine z_if_eq_t (tgt := 30) C x_PP_outside_15 rfl c6 ?_
      exact z_sub [0, 1, 2, 3, 4] rfl (z_PP_outside_30 C hlev h)
    · refine z_if_eq_f (tgt := 30) C x_PP_outside_15 rfl c6 ?_
      refine z_iload C 4 x_PP_outside_18 rfl ?_
      obtain ⟨v7, M8, fv7, h⟩ := bcall_e h
      refine z_callSi C x_PP_outside_20 cs_PP_190 (t_PP_isPence (lev := lev - 1) l G (by omega) fv7) (by omega) rfl (i_le rfl) rfl ?_
      rcases ite_e h with ⟨c9, h⟩ | ⟨c9, h⟩
      · refine z_if_eq_t (tgt := 30) C x_PP_outside_23 rfl c9 ?_
        exact z_sub [0, 1, 2, 3, 4] rfl (z_PP_outside_30 C hlev h)
      · refine z_if_eq_f (tgt := 30) C x_PP_outside_23 rfl c9 ?_
        refine z_iconst C x_PP_outside_26 ?_
        refine z_goto (tgt := 31) C x_PP_outside_27 rfl ?_
        exact z_sub [0, 1, 2, 3, 4] rfl (z_PP_outside_31 C hlev h)
theorem x_PP_breach_0 : DC b_PP_breach 0 (.aload_n 0) 1 1 := ⟨by decide +kernel, rfl⟩
theorem x_PP_breach_1 : DC b_PP_breach 1 (.iload_n 1) 1 2 := ⟨by decide +kernel, rfl⟩
theorem x_PP_breach_2 : DC b_PP_breach 2 (.iconst 0) 1 3 := ⟨by decide +kernel, rfl⟩
theorem x_PP_breach_3 : DC b_PP_breach 3 (.aload_n 0) 1 4 := ⟨by decide +kernel, rfl⟩
theorem x_PP_breach_4 : DC b_PP_breach 4 (.getfield 74) 3 7 := ⟨by decide +kernel, rfl⟩
theorem x_PP_breach_7 : DC b_PP_breach 7 (.getfield 333) 3 10 := ⟨by decide +kernel, rfl⟩
theorem x_PP_breach_10 : DC b_PP_breach 10 (.iconst 1) 1 11 := ⟨by decide +kernel, rfl⟩
theorem x_PP_breach_11 : DC b_PP_breach 11 (.isub) 1 12 := ⟨by decide +kernel, rfl⟩
theorem x_PP_breach_12 : DC b_PP_breach 12 (.invokestatic 89) 3 15 := ⟨by decide +kernel, rfl⟩
theorem x_PP_breach_15 : DC b_PP_breach 15 (.ifCond .eq 7) 3 18 := ⟨by decide +kernel, rfl⟩
theorem x_PP_breach_18 : DC b_PP_breach 18 (.iconst 0) 1 19 := ⟨by decide +kernel, rfl⟩
theorem x_PP_breach_19 : DC b_PP_breach 19 (.goto 5) 3 22 := ⟨by decide +kernel, rfl⟩
theorem x_PP_breach_22 : DC b_PP_breach 22 (.bipush 8) 2 24 := ⟨by decide +kernel, rfl⟩
theorem x_PP_breach_24 : DC b_PP_breach 24 (.putfield 85) 3 27 := ⟨by decide +kernel, rfl⟩
theorem x_PP_breach_27 : DC b_PP_breach 27 (.aload_n 0) 1 28 := ⟨by decide +kernel, rfl⟩
theorem x_PP_breach_28 : DC b_PP_breach 28 (.getfield 85) 3 31 := ⟨by decide +kernel, rfl⟩
theorem x_PP_breach_31 : DC b_PP_breach 31 (.ifCond .eq 5) 3 34 := ⟨by decide +kernel, rfl⟩
theorem x_PP_breach_34 : DC b_PP_breach 34 (.iconst (-1)) 1 35 := ⟨by decide +kernel, rfl⟩
theorem x_PP_breach_35 : DC b_PP_breach 35 (.ireturn) 1 36 := ⟨by decide +kernel, rfl⟩
theorem x_PP_breach_36 : DC b_PP_breach 36 (.aload_n 0) 1 37 := ⟨by decide +kernel, rfl⟩
theorem x_PP_breach_37 : DC b_PP_breach 37 (.getfield 74) 3 40 := ⟨by decide +kernel, rfl⟩
theorem x_PP_breach_40 : DC b_PP_breach 40 (.iload_n 1) 1 41 := ⟨by decide +kernel, rfl⟩
theorem x_PP_breach_41 : DC b_PP_breach 41 (.invokevirtual 339) 3 44 := ⟨by decide +kernel, rfl⟩
theorem x_PP_breach_44 : DC b_PP_breach 44 (.ifCond .le 7) 3 47 := ⟨by decide +kernel, rfl⟩
theorem x_PP_breach_47 : DC b_PP_breach 47 (.iconst 1) 1 48 := ⟨by decide +kernel, rfl⟩
theorem x_PP_breach_48 : DC b_PP_breach 48 (.goto 4) 3 51 := ⟨by decide +kernel, rfl⟩
theorem x_PP_breach_51 : DC b_PP_breach 51 (.iconst 0) 1 52 := ⟨by decide +kernel, rfl⟩
theorem x_PP_breach_52 : DC b_PP_breach 52 (.ireturn) 1 53 := ⟨by decide +kernel, rfl⟩
def k_PP_breach_24 (a1 s1 : Int) (M : Mem) : Res := blet (sto M 0 0 s1) fun M1 => blet (M1 0 0) fun v2 => if w32 v2 = 0 then (bcall (d_Ou_penceFor a1 M1) fun v4 M5 => if 0 < w32 v4 then (some (1, M5)) else (some (0, M5))) else (some ((-1), M1))
theorem z_PP_breach_24 (C : Cx p s m args meth c G b_PP_breach 2 "PrairiePool" (some .int)) (hlev : 6 ≤ lev) {r : Int × Mem}  {a1 s1 : Int} {M : Mem} (h : k_PP_breach_24 a1 s1 M = some r) : Z p l e lev s m args below meth c G 2 (MQ below (Qm G 1 r) args s 0 0 (Ab G)) M 24 [(0, .ref (G.1 + 0)), (1, vi a1)] [vi s1, .ref (G.1 + 0)] := by
  unfold k_PP_breach_24 at h
  obtain ⟨M1, eM1, h⟩ := blet_e h
  refine z_putI (j := 0) C x_PP_breach_24 nk_0 ck_0 cw_11 (i_lt rfl) rfl rfl rfl rfl fl_PP_85 eM1 ?_
  refine z_aload_n C 0 x_PP_breach_27 rfl ?_
  obtain ⟨v2, ev2, h⟩ := blet_e h
  refine z_getI (j := 0) C x_PP_breach_28 nk_0 ck_0 cw_11 (i_lt rfl) rfl rfl fl_PP_85 ev2 ?_
  rcases ite_e h with ⟨c3, h⟩ | ⟨c3, h⟩
  · refine z_if_eq_t (tgt := 36) C x_PP_breach_31 rfl c3 ?_
    refine z_aload_n C 0 x_PP_breach_36 rfl ?_
    refine z_getR (j := 9) C x_PP_breach_37 nk_0 ck_0 cw_11 (i_lt rfl) rfl rf_0_9 rfl fl_PP_74 ?_
    refine z_iload_n C 1 x_PP_breach_40 rfl ?_
    obtain ⟨v4, M5, fv4, h⟩ := bcall_e h
    refine z_callVi (k := 98) C x_PP_breach_41 cv_PP_339 (t_Ou_penceFor (lev := lev - 1) l G (by omega) fv4) nk_98 ck_98 rfl (by omega) rfl (i_le rfl) rfl ?_
    rcases ite_e h with ⟨c6, h⟩ | ⟨c6, h⟩
    · refine z_if_le_f (tgt := 51) C x_PP_breach_44 rfl c6 ?_
      refine z_iconst C x_PP_breach_47 ?_
      refine z_goto (tgt := 52) C x_PP_breach_48 rfl ?_
      exact z_iret C x_PP_breach_52 h
    · refine z_if_le_t (tgt := 51) C x_PP_breach_44 rfl c6 ?_
      refine z_iconst C x_PP_breach_51 ?_
      exact z_iret C x_PP_breach_52 h
  · refine z_if_eq_f (tgt := 36) C x_PP_breach_31 rfl c3 ?_
    refine z_iconst C x_PP_breach_34 ?_
    exact z_iret C x_PP_breach_35 h
def d_PP_breach (a1 : Int) (M : Mem) : Res := blet (M 98 0) fun v1 => bcall (d_PP_isIn a1 0 (v1 - 1) M) fun v2 M3 => if w32 v2 = 0 then (k_PP_breach_24 a1 8 M3) else (k_PP_breach_24 a1 0 M3)
theorem t_PP_breach (l : Launch) (G : GX) {lev : Nat} (hlev : 6 ≤ lev) {a1 : Int} {M : Mem} {r : Int × Mem} (h : d_PP_breach a1 M = some r) : Mt l G y_PP_breach b_PP_breach 2 (some .int) lev 1 [.ref (G.1 + 0), vi a1] M r := by
  refine Mt.of (by decide) (i_le rfl) ?_
  intro p e s m args below meth c C
  have C : Cx p s m args meth c G b_PP_breach 2 "PrairiePool" (some .int) := C
  unfold d_PP_breach at h
  refine z_sub (lv' := [(0, .ref (G.1 + 0)), (1, vi a1)]) [0, 1] rfl ?_
  refine z_aload_n C 0 x_PP_breach_0 rfl ?_
  refine z_iload_n C 1 x_PP_breach_1 rfl ?_
  refine z_iconst C x_PP_breach_2 ?_
  refine z_aload_n C 0 x_PP_breach_3 rfl ?_
  refine z_getR (j := 9) C x_PP_breach_4 nk_0 ck_0 cw_11 (i_lt rfl) rfl rf_0_9 rfl fl_PP_74 ?_
  obtain ⟨v1, ev1, h⟩ := blet_e h
  refine z_getI (j := 0) C x_PP_breach_7 nk_98 ck_98 cw_3 (i_lt rfl) rfl rfl fl_PP_333 ev1 ?_
  refine z_iconst C x_PP_breach_10 ?_
  refine z_isub C x_PP_breach_11 ?_
  obtain ⟨v2, M3, fv2, h⟩ := bcall_e h
  refine z_callSi C x_PP_breach_12 cs_PP_89 (t_PP_isIn (lev := lev - 1) l G (by omega) fv2) (by omega) rfl (i_le rfl) rfl ?_
  rcases ite_e h with ⟨c4, h⟩ | ⟨c4, h⟩
  · refine z_if_eq_t (tgt := 22) C x_PP_breach_15 rfl c4 ?_
    refine z_bipush C rfl x_PP_breach_22 ?_
    exact z_sub [0, 1] rfl (z_PP_breach_24 C hlev h)
  · refine z_if_eq_f (tgt := 22) C x_PP_breach_15 rfl c4 ?_
    refine z_iconst C x_PP_breach_18 ?_
    refine z_goto (tgt := 24) C x_PP_breach_19 rfl ?_
    exact z_sub [0, 1] rfl (z_PP_breach_24 C hlev h)
theorem x_PP_cost_0 : DC b_PP_cost 0 (.aload_n 0) 1 1 := ⟨by decide +kernel, rfl⟩
theorem x_PP_cost_1 : DC b_PP_cost 1 (.aload_n 0) 1 2 := ⟨by decide +kernel, rfl⟩
theorem x_PP_cost_2 : DC b_PP_cost 2 (.getfield 19) 3 5 := ⟨by decide +kernel, rfl⟩
theorem x_PP_cost_5 : DC b_PP_cost 5 (.iload_n 1) 1 6 := ⟨by decide +kernel, rfl⟩
theorem x_PP_cost_6 : DC b_PP_cost 6 (.invokevirtual 145) 3 9 := ⟨by decide +kernel, rfl⟩
theorem x_PP_cost_9 : DC b_PP_cost 9 (.iload_n 2) 1 10 := ⟨by decide +kernel, rfl⟩
theorem x_PP_cost_10 : DC b_PP_cost 10 (.invokestatic 180) 3 13 := ⟨by decide +kernel, rfl⟩
theorem x_PP_cost_13 : DC b_PP_cost 13 (.invokevirtual 219) 3 16 := ⟨by decide +kernel, rfl⟩
theorem x_PP_cost_16 : DC b_PP_cost 16 (.ifCond .ne 7) 3 19 := ⟨by decide +kernel, rfl⟩
theorem x_PP_cost_19 : DC b_PP_cost 19 (.ldc2_w 105) 3 22 := ⟨by decide +kernel, rfl⟩
theorem x_PP_cost_22 : DC b_PP_cost 22 (.lreturn) 1 23 := ⟨by decide +kernel, rfl⟩
theorem x_PP_cost_23 : DC b_PP_cost 23 (.aload_n 0) 1 24 := ⟨by decide +kernel, rfl⟩
theorem x_PP_cost_24 : DC b_PP_cost 24 (.getfield 74) 3 27 := ⟨by decide +kernel, rfl⟩
theorem x_PP_cost_27 : DC b_PP_cost 27 (.iload_n 1) 1 28 := ⟨by decide +kernel, rfl⟩
theorem x_PP_cost_28 : DC b_PP_cost 28 (.iload_n 2) 1 29 := ⟨by decide +kernel, rfl⟩
theorem x_PP_cost_29 : DC b_PP_cost 29 (.invokevirtual 342) 3 32 := ⟨by decide +kernel, rfl⟩
theorem x_PP_cost_32 : DC b_PP_cost 32 (.lreturn) 1 33 := ⟨by decide +kernel, rfl⟩
def d_PP_cost (a1 a2 : Int) (M : Mem) : Res := bcall (d_Pr_hasFarm a1 M) fun v1 M2 => bcall (d_PP_isYear a2 M2) fun v3 M4 => bcall (d_PP_passes v1 v3 M4) fun v5 M6 => if w32 v5 = 0 then (some ((-1), M6)) else (bcall (d_Ou_costOf a1 a2 M6) fun v8 M9 => some (v8, M9))
theorem t_PP_cost (l : Launch) (G : GX) {lev : Nat} (hlev : 7 ≤ lev) {a1 a2 : Int} {M : Mem} {r : Int × Mem} (h : d_PP_cost a1 a2 M = some r) : Mt l G y_PP_cost b_PP_cost 3 (some .long) lev 2 [.ref (G.1 + 0), vi a1, vi a2] M r := by
  refine Mt.of (by decide) (i_le rfl) ?_
  intro p e s m args below meth c C
  have C : Cx p s m args meth c G b_PP_cost 3 "PrairiePool" (some .long) := C
  unfold d_PP_cost at h
  refine z_sub (lv' := [(0, .ref (G.1 + 0)), (1, vi a1), (2, vi a2)]) [0, 1, 2] rfl ?_
  refine z_aload_n C 0 x_PP_cost_0 rfl ?_
  refine z_aload_n C 0 x_PP_cost_1 rfl ?_
  refine z_getR (j := 2) C x_PP_cost_2 nk_0 ck_0 cw_11 (i_lt rfl) rfl rf_0_2 rfl fl_PP_19 ?_
  refine z_iload_n C 1 x_PP_cost_5 rfl ?_
  obtain ⟨v1, M2, fv1, h⟩ := bcall_e h
  refine z_callVi (k := 5) C x_PP_cost_6 cv_PP_145 (t_Pr_hasFarm (lev := lev - 1) l G (by omega) fv1) nk_5 ck_5 rfl (by omega) rfl (i_le rfl) rfl ?_
  refine z_iload_n C 2 x_PP_cost_9 rfl ?_
  obtain ⟨v3, M4, fv3, h⟩ := bcall_e h
  refine z_callSi C x_PP_cost_10 cs_PP_180 (t_PP_isYear (lev := lev - 1) l G (by omega) fv3) (by omega) rfl (i_le rfl) rfl ?_
  obtain ⟨v5, M6, fv5, h⟩ := bcall_e h
  refine z_callVi (k := 0) C x_PP_cost_13 cv_PP_219 (t_PP_passes (lev := lev - 1) l G (by omega) fv5) nk_0 ck_0 rfl (by omega) rfl (i_le rfl) rfl ?_
  rcases ite_e h with ⟨c7, h⟩ | ⟨c7, h⟩
  · refine z_if_ne_f (tgt := 23) C x_PP_cost_16 rfl c7 ?_
    refine z_ldc2 C kl_PP_105 x_PP_cost_19 ?_
    exact z_lret C x_PP_cost_22 h
  · refine z_if_ne_t (tgt := 23) C x_PP_cost_16 rfl c7 ?_
    refine z_aload_n C 0 x_PP_cost_23 rfl ?_
    refine z_getR (j := 9) C x_PP_cost_24 nk_0 ck_0 cw_11 (i_lt rfl) rfl rf_0_9 rfl fl_PP_74 ?_
    refine z_iload_n C 1 x_PP_cost_27 rfl ?_
    refine z_iload_n C 2 x_PP_cost_28 rfl ?_
    obtain ⟨v8, M9, fv8, h⟩ := bcall_e h
    refine z_callVl (k := 98) C x_PP_cost_29 cv_PP_342 (t_Ou_costOf (lev := lev - 1) l G (by omega) fv8) nk_98 ck_98 rfl (by omega) rfl (i_le rfl) rfl ?_
    exact z_lret C x_PP_cost_32 h
theorem x_PP_price_0 : DC b_PP_price 0 (.aload_n 0) 1 1 := ⟨by decide +kernel, rfl⟩
theorem x_PP_price_1 : DC b_PP_price 1 (.iconst 1) 1 2 := ⟨by decide +kernel, rfl⟩
theorem x_PP_price_2 : DC b_PP_price 2 (.iload_n 1) 1 3 := ⟨by decide +kernel, rfl⟩
theorem x_PP_price_3 : DC b_PP_price 3 (.invokestatic 199) 3 6 := ⟨by decide +kernel, rfl⟩
theorem x_PP_price_6 : DC b_PP_price 6 (.ifCond .eq 14) 3 9 := ⟨by decide +kernel, rfl⟩
theorem x_PP_price_9 : DC b_PP_price 9 (.iload_n 2) 1 10 := ⟨by decide +kernel, rfl⟩
theorem x_PP_price_10 : DC b_PP_price 10 (.invokestatic 190) 3 13 := ⟨by decide +kernel, rfl⟩
theorem x_PP_price_13 : DC b_PP_price 13 (.ifCond .eq 7) 3 16 := ⟨by decide +kernel, rfl⟩
theorem x_PP_price_16 : DC b_PP_price 16 (.iconst 1) 1 17 := ⟨by decide +kernel, rfl⟩
theorem x_PP_price_17 : DC b_PP_price 17 (.goto 4) 3 20 := ⟨by decide +kernel, rfl⟩
theorem x_PP_price_20 : DC b_PP_price 20 (.iconst 0) 1 21 := ⟨by decide +kernel, rfl⟩
theorem x_PP_price_21 : DC b_PP_price 21 (.invokevirtual 219) 3 24 := ⟨by decide +kernel, rfl⟩
theorem x_PP_price_24 : DC b_PP_price 24 (.ifCond .ne 5) 3 27 := ⟨by decide +kernel, rfl⟩
theorem x_PP_price_27 : DC b_PP_price 27 (.iconst 0) 1 28 := ⟨by decide +kernel, rfl⟩
theorem x_PP_price_28 : DC b_PP_price 28 (.ireturn) 1 29 := ⟨by decide +kernel, rfl⟩
theorem x_PP_price_29 : DC b_PP_price 29 (.aload_n 0) 1 30 := ⟨by decide +kernel, rfl⟩
theorem x_PP_price_30 : DC b_PP_price 30 (.getfield 65) 3 33 := ⟨by decide +kernel, rfl⟩
theorem x_PP_price_33 : DC b_PP_price 33 (.getfield 345) 3 36 := ⟨by decide +kernel, rfl⟩
theorem x_PP_price_36 : DC b_PP_price 36 (.iload_n 1) 1 37 := ⟨by decide +kernel, rfl⟩
theorem x_PP_price_37 : DC b_PP_price 37 (.iload_n 2) 1 38 := ⟨by decide +kernel, rfl⟩
theorem x_PP_price_38 : DC b_PP_price 38 (.iastore) 1 39 := ⟨by decide +kernel, rfl⟩
theorem x_PP_price_39 : DC b_PP_price 39 (.iconst 1) 1 40 := ⟨by decide +kernel, rfl⟩
theorem x_PP_price_40 : DC b_PP_price 40 (.ireturn) 1 41 := ⟨by decide +kernel, rfl⟩
def k_PP_price_21 (a1 a2 s1 s2 : Int) (M : Mem) : Res := bcall (d_PP_passes s1 s2 M) fun v1 M2 => if w32 v1 = 0 then (some (0, M2)) else (chk (0 ≤ w32 a1 ∧ w32 a1 < 520) <| blet (sto M2 89 (ix a1) a2) fun M5 => some (1, M5))
theorem z_PP_price_21 (C : Cx p s m args meth c G b_PP_price 3 "PrairiePool" (some .boolean)) (hlev : 2 ≤ lev) {r : Int × Mem}  {a1 a2 s1 s2 : Int} {M : Mem} (h : k_PP_price_21 a1 a2 s1 s2 M = some r) : Z p l e lev s m args below meth c G 3 (MQ below (Qm G 1 r) args s 0 0 (Ab G)) M 21 [(0, .ref (G.1 + 0)), (1, vi a1), (2, vi a2)] [vi s2, vi s1, .ref (G.1 + 0)] := by
  unfold k_PP_price_21 at h
  obtain ⟨v1, M2, fv1, h⟩ := bcall_e h
  refine z_callVi (k := 0) C x_PP_price_21 cv_PP_219 (t_PP_passes (lev := lev - 1) l G (by omega) fv1) nk_0 ck_0 rfl (by omega) rfl (i_le rfl) rfl ?_
  rcases ite_e h with ⟨c3, h⟩ | ⟨c3, h⟩
  · refine z_if_ne_f (tgt := 29) C x_PP_price_24 rfl c3 ?_
    refine z_iconst C x_PP_price_27 ?_
    exact z_zret C x_PP_price_28 (by decide) h
  · refine z_if_ne_t (tgt := 29) C x_PP_price_24 rfl c3 ?_
    refine z_aload_n C 0 x_PP_price_29 rfl ?_
    refine z_getR (j := 8) C x_PP_price_30 nk_0 ck_0 cw_11 (i_lt rfl) rfl rf_0_8 rfl fl_PP_65 ?_
    refine z_getR (j := 0) C x_PP_price_33 nk_88 ck_88 cw_5 (i_lt rfl) rfl rf_88_0 rfl fl_PP_345 ?_
    refine z_iload_n C 1 x_PP_price_36 rfl ?_
    refine z_iload_n C 2 x_PP_price_37 rfl ?_
    obtain ⟨c4, h⟩ := chk_e h
    obtain ⟨M5, eM5, h⟩ := blet_e h
    refine z_iast C x_PP_price_38 nk_89 ck_89 c4 eM5 ?_
    refine z_iconst C x_PP_price_39 ?_
    exact z_zret C x_PP_price_40 (by decide) h
def k_PP_price_20 (a1 a2 s1 : Int) (M : Mem) : Res := k_PP_price_21 a1 a2 s1 0 M
theorem z_PP_price_20 (C : Cx p s m args meth c G b_PP_price 3 "PrairiePool" (some .boolean)) (hlev : 2 ≤ lev) {r : Int × Mem}  {a1 a2 s1 : Int} {M : Mem} (h : k_PP_price_20 a1 a2 s1 M = some r) : Z p l e lev s m args below meth c G 3 (MQ below (Qm G 1 r) args s 0 0 (Ab G)) M 20 [(0, .ref (G.1 + 0)), (1, vi a1), (2, vi a2)] [vi s1, .ref (G.1 + 0)] := by
  unfold k_PP_price_20 at h
  refine z_iconst C x_PP_price_20 ?_
  exact z_sub [0, 1, 2] rfl (z_PP_price_21 C hlev h)
def d_PP_price (a1 a2 : Int) (M : Mem) : Res := bcall (d_PP_isWeek a1 M) fun v1 M2 => if w32 v1 = 0 then (k_PP_price_20 a1 a2 1 M2) else (bcall (d_PP_isPence a2 M2) fun v4 M5 => if w32 v4 = 0 then (k_PP_price_20 a1 a2 1 M5) else (k_PP_price_21 a1 a2 1 1 M5))
theorem t_PP_price (l : Launch) (G : GX) {lev : Nat} (hlev : 2 ≤ lev) {a1 a2 : Int} {M : Mem} {r : Int × Mem} (h : d_PP_price a1 a2 M = some r) : Mt l G y_PP_price b_PP_price 3 (some .boolean) lev 1 [.ref (G.1 + 0), vi a1, vi a2] M r := by
  refine Mt.of (by decide) (i_le rfl) ?_
  intro p e s m args below meth c C
  have C : Cx p s m args meth c G b_PP_price 3 "PrairiePool" (some .boolean) := C
  unfold d_PP_price at h
  refine z_sub (lv' := [(0, .ref (G.1 + 0)), (1, vi a1), (2, vi a2)]) [0, 1, 2] rfl ?_
  refine z_aload_n C 0 x_PP_price_0 rfl ?_
  refine z_iconst C x_PP_price_1 ?_
  refine z_iload_n C 1 x_PP_price_2 rfl ?_
  obtain ⟨v1, M2, fv1, h⟩ := bcall_e h
  refine z_callSi C x_PP_price_3 cs_PP_199 (t_PP_isWeek (lev := lev - 1) l G (by omega) fv1) (by omega) rfl (i_le rfl) rfl ?_
  rcases ite_e h with ⟨c3, h⟩ | ⟨c3, h⟩
  · refine z_if_eq_t (tgt := 20) C x_PP_price_6 rfl c3 ?_
    exact z_sub [0, 1, 2] rfl (z_PP_price_20 C hlev h)
  · refine z_if_eq_f (tgt := 20) C x_PP_price_6 rfl c3 ?_
    refine z_iload_n C 2 x_PP_price_9 rfl ?_
    obtain ⟨v4, M5, fv4, h⟩ := bcall_e h
    refine z_callSi C x_PP_price_10 cs_PP_190 (t_PP_isPence (lev := lev - 1) l G (by omega) fv4) (by omega) rfl (i_le rfl) rfl ?_
    rcases ite_e h with ⟨c6, h⟩ | ⟨c6, h⟩
    · refine z_if_eq_t (tgt := 20) C x_PP_price_13 rfl c6 ?_
      exact z_sub [0, 1, 2] rfl (z_PP_price_20 C hlev h)
    · refine z_if_eq_f (tgt := 20) C x_PP_price_13 rfl c6 ?_
      refine z_iconst C x_PP_price_16 ?_
      refine z_goto (tgt := 21) C x_PP_price_17 rfl ?_
      exact z_sub [0, 1, 2] rfl (z_PP_price_21 C hlev h)
theorem x_PP_rules_0 : DC b_PP_rules 0 (.aload_n 0) 1 1 := ⟨by decide +kernel, rfl⟩
theorem x_PP_rules_1 : DC b_PP_rules 1 (.iconst 1) 1 2 := ⟨by decide +kernel, rfl⟩
theorem x_PP_rules_2 : DC b_PP_rules 2 (.iload_n 1) 1 3 := ⟨by decide +kernel, rfl⟩
theorem x_PP_rules_3 : DC b_PP_rules 3 (.iconst 0) 1 4 := ⟨by decide +kernel, rfl⟩
theorem x_PP_rules_4 : DC b_PP_rules 4 (.bipush 100) 2 6 := ⟨by decide +kernel, rfl⟩
theorem x_PP_rules_6 : DC b_PP_rules 6 (.invokestatic 89) 3 9 := ⟨by decide +kernel, rfl⟩
theorem x_PP_rules_9 : DC b_PP_rules 9 (.ifCond .eq 17) 3 12 := ⟨by decide +kernel, rfl⟩
theorem x_PP_rules_12 : DC b_PP_rules 12 (.iload_n 2) 1 13 := ⟨by decide +kernel, rfl⟩
theorem x_PP_rules_13 : DC b_PP_rules 13 (.iconst 0) 1 14 := ⟨by decide +kernel, rfl⟩
theorem x_PP_rules_14 : DC b_PP_rules 14 (.bipush 20) 2 16 := ⟨by decide +kernel, rfl⟩
theorem x_PP_rules_16 : DC b_PP_rules 16 (.invokestatic 89) 3 19 := ⟨by decide +kernel, rfl⟩
theorem x_PP_rules_19 : DC b_PP_rules 19 (.ifCond .eq 7) 3 22 := ⟨by decide +kernel, rfl⟩
theorem x_PP_rules_22 : DC b_PP_rules 22 (.iconst 1) 1 23 := ⟨by decide +kernel, rfl⟩
theorem x_PP_rules_23 : DC b_PP_rules 23 (.goto 4) 3 26 := ⟨by decide +kernel, rfl⟩
theorem x_PP_rules_26 : DC b_PP_rules 26 (.iconst 0) 1 27 := ⟨by decide +kernel, rfl⟩
theorem x_PP_rules_27 : DC b_PP_rules 27 (.invokevirtual 219) 3 30 := ⟨by decide +kernel, rfl⟩
theorem x_PP_rules_30 : DC b_PP_rules 30 (.ifCond .ne 5) 3 33 := ⟨by decide +kernel, rfl⟩
theorem x_PP_rules_33 : DC b_PP_rules 33 (.iconst 0) 1 34 := ⟨by decide +kernel, rfl⟩
theorem x_PP_rules_34 : DC b_PP_rules 34 (.ireturn) 1 35 := ⟨by decide +kernel, rfl⟩
theorem x_PP_rules_35 : DC b_PP_rules 35 (.aload_n 0) 1 36 := ⟨by decide +kernel, rfl⟩
theorem x_PP_rules_36 : DC b_PP_rules 36 (.getfield 65) 3 39 := ⟨by decide +kernel, rfl⟩
theorem x_PP_rules_39 : DC b_PP_rules 39 (.iload_n 1) 1 40 := ⟨by decide +kernel, rfl⟩
theorem x_PP_rules_40 : DC b_PP_rules 40 (.putfield 348) 3 43 := ⟨by decide +kernel, rfl⟩
theorem x_PP_rules_43 : DC b_PP_rules 43 (.aload_n 0) 1 44 := ⟨by decide +kernel, rfl⟩
theorem x_PP_rules_44 : DC b_PP_rules 44 (.getfield 65) 3 47 := ⟨by decide +kernel, rfl⟩
theorem x_PP_rules_47 : DC b_PP_rules 47 (.iload_n 2) 1 48 := ⟨by decide +kernel, rfl⟩
theorem x_PP_rules_48 : DC b_PP_rules 48 (.putfield 351) 3 51 := ⟨by decide +kernel, rfl⟩
theorem x_PP_rules_51 : DC b_PP_rules 51 (.iconst 1) 1 52 := ⟨by decide +kernel, rfl⟩
theorem x_PP_rules_52 : DC b_PP_rules 52 (.ireturn) 1 53 := ⟨by decide +kernel, rfl⟩
def k_PP_rules_27 (a1 a2 s1 s2 : Int) (M : Mem) : Res := bcall (d_PP_passes s1 s2 M) fun v1 M2 => if w32 v1 = 0 then (some (0, M2)) else (blet (sto M2 88 1 a1) fun M4 => blet (sto M4 88 2 a2) fun M5 => some (1, M5))
theorem z_PP_rules_27 (C : Cx p s m args meth c G b_PP_rules 3 "PrairiePool" (some .boolean)) (hlev : 1 ≤ lev) {r : Int × Mem}  {a1 a2 s1 s2 : Int} {M : Mem} (h : k_PP_rules_27 a1 a2 s1 s2 M = some r) : Z p l e lev s m args below meth c G 3 (MQ below (Qm G 1 r) args s 0 0 (Ab G)) M 27 [(0, .ref (G.1 + 0)), (1, vi a1), (2, vi a2)] [vi s2, vi s1, .ref (G.1 + 0)] := by
  unfold k_PP_rules_27 at h
  obtain ⟨v1, M2, fv1, h⟩ := bcall_e h
  refine z_callVi (k := 0) C x_PP_rules_27 cv_PP_219 (t_PP_passes (lev := lev - 1) l G (by omega) fv1) nk_0 ck_0 rfl (by omega) rfl (i_le rfl) rfl ?_
  rcases ite_e h with ⟨c3, h⟩ | ⟨c3, h⟩
  · refine z_if_ne_f (tgt := 35) C x_PP_rules_30 rfl c3 ?_
    refine z_iconst C x_PP_rules_33 ?_
    exact z_zret C x_PP_rules_34 (by decide) h
  · refine z_if_ne_t (tgt := 35) C x_PP_rules_30 rfl c3 ?_
    refine z_aload_n C 0 x_PP_rules_35 rfl ?_
    refine z_getR (j := 8) C x_PP_rules_36 nk_0 ck_0 cw_11 (i_lt rfl) rfl rf_0_8 rfl fl_PP_65 ?_
    refine z_iload_n C 1 x_PP_rules_39 rfl ?_
    obtain ⟨M4, eM4, h⟩ := blet_e h
    refine z_putI (j := 1) C x_PP_rules_40 nk_88 ck_88 cw_5 (i_lt rfl) rfl rfl rfl rfl fl_PP_348 eM4 ?_
    refine z_aload_n C 0 x_PP_rules_43 rfl ?_
    refine z_getR (j := 8) C x_PP_rules_44 nk_0 ck_0 cw_11 (i_lt rfl) rfl rf_0_8 rfl fl_PP_65 ?_
    refine z_iload_n C 2 x_PP_rules_47 rfl ?_
    obtain ⟨M5, eM5, h⟩ := blet_e h
    refine z_putI (j := 2) C x_PP_rules_48 nk_88 ck_88 cw_5 (i_lt rfl) rfl rfl rfl rfl fl_PP_351 eM5 ?_
    refine z_iconst C x_PP_rules_51 ?_
    exact z_zret C x_PP_rules_52 (by decide) h
def k_PP_rules_26 (a1 a2 s1 : Int) (M : Mem) : Res := k_PP_rules_27 a1 a2 s1 0 M
theorem z_PP_rules_26 (C : Cx p s m args meth c G b_PP_rules 3 "PrairiePool" (some .boolean)) (hlev : 1 ≤ lev) {r : Int × Mem}  {a1 a2 s1 : Int} {M : Mem} (h : k_PP_rules_26 a1 a2 s1 M = some r) : Z p l e lev s m args below meth c G 3 (MQ below (Qm G 1 r) args s 0 0 (Ab G)) M 26 [(0, .ref (G.1 + 0)), (1, vi a1), (2, vi a2)] [vi s1, .ref (G.1 + 0)] := by
  unfold k_PP_rules_26 at h
  refine z_iconst C x_PP_rules_26 ?_
  exact z_sub [0, 1, 2] rfl (z_PP_rules_27 C hlev h)
def d_PP_rules (a1 a2 : Int) (M : Mem) : Res := bcall (d_PP_isIn a1 0 100 M) fun v1 M2 => if w32 v1 = 0 then (k_PP_rules_26 a1 a2 1 M2) else (bcall (d_PP_isIn a2 0 20 M2) fun v4 M5 => if w32 v4 = 0 then (k_PP_rules_26 a1 a2 1 M5) else (k_PP_rules_27 a1 a2 1 1 M5))
theorem t_PP_rules (l : Launch) (G : GX) {lev : Nat} (hlev : 1 ≤ lev) {a1 a2 : Int} {M : Mem} {r : Int × Mem} (h : d_PP_rules a1 a2 M = some r) : Mt l G y_PP_rules b_PP_rules 3 (some .boolean) lev 1 [.ref (G.1 + 0), vi a1, vi a2] M r := by
  refine Mt.of (by decide) (i_le rfl) ?_
  intro p e s m args below meth c C
  have C : Cx p s m args meth c G b_PP_rules 3 "PrairiePool" (some .boolean) := C
  unfold d_PP_rules at h
  refine z_sub (lv' := [(0, .ref (G.1 + 0)), (1, vi a1), (2, vi a2)]) [0, 1, 2] rfl ?_
  refine z_aload_n C 0 x_PP_rules_0 rfl ?_
  refine z_iconst C x_PP_rules_1 ?_
  refine z_iload_n C 1 x_PP_rules_2 rfl ?_
  refine z_iconst C x_PP_rules_3 ?_
  refine z_bipush C rfl x_PP_rules_4 ?_
  obtain ⟨v1, M2, fv1, h⟩ := bcall_e h
  refine z_callSi C x_PP_rules_6 cs_PP_89 (t_PP_isIn (lev := lev - 1) l G (by omega) fv1) (by omega) rfl (i_le rfl) rfl ?_
  rcases ite_e h with ⟨c3, h⟩ | ⟨c3, h⟩
  · refine z_if_eq_t (tgt := 26) C x_PP_rules_9 rfl c3 ?_
    exact z_sub [0, 1, 2] rfl (z_PP_rules_26 C hlev h)
  · refine z_if_eq_f (tgt := 26) C x_PP_rules_9 rfl c3 ?_
    refine z_iload_n C 2 x_PP_rules_12 rfl ?_
    refine z_iconst C x_PP_rules_13 ?_
    refine z_bipush C rfl x_PP_rules_14 ?_
    obtain ⟨v4, M5, fv4, h⟩ := bcall_e h
    refine z_callSi C x_PP_rules_16 cs_PP_89 (t_PP_isIn (lev := lev - 1) l G (by omega) fv4) (by omega) rfl (i_le rfl) rfl ?_
    rcases ite_e h with ⟨c6, h⟩ | ⟨c6, h⟩
    · refine z_if_eq_t (tgt := 26) C x_PP_rules_19 rfl c6 ?_
      exact z_sub [0, 1, 2] rfl (z_PP_rules_26 C hlev h)
    · refine z_if_eq_f (tgt := 26) C x_PP_rules_19 rfl c6 ?_
      refine z_iconst C x_PP_rules_22 ?_
      refine z_goto (tgt := 27) C x_PP_rules_23 rfl ?_
      exact z_sub [0, 1, 2] rfl (z_PP_rules_27 C hlev h)
theorem x_PP_alone_0 : DC b_PP_alone 0 (.aload_n 0) 1 1 := ⟨by decide +kernel, rfl⟩
theorem x_PP_alone_1 : DC b_PP_alone 1 (.aload_n 0) 1 2 := ⟨by decide +kernel, rfl⟩
theorem x_PP_alone_2 : DC b_PP_alone 2 (.getfield 19) 3 5 := ⟨by decide +kernel, rfl⟩
theorem x_PP_alone_5 : DC b_PP_alone 5 (.iload_n 1) 1 6 := ⟨by decide +kernel, rfl⟩
theorem x_PP_alone_6 : DC b_PP_alone 6 (.invokevirtual 145) 3 9 := ⟨by decide +kernel, rfl⟩
theorem x_PP_alone_9 : DC b_PP_alone 9 (.iload_n 2) 1 10 := ⟨by decide +kernel, rfl⟩
theorem x_PP_alone_10 : DC b_PP_alone 10 (.invokestatic 180) 3 13 := ⟨by decide +kernel, rfl⟩
theorem x_PP_alone_13 : DC b_PP_alone 13 (.ifCond .eq 14) 3 16 := ⟨by decide +kernel, rfl⟩
theorem x_PP_alone_16 : DC b_PP_alone 16 (.iload_n 3) 1 17 := ⟨by decide +kernel, rfl⟩
theorem x_PP_alone_17 : DC b_PP_alone 17 (.invokestatic 199) 3 20 := ⟨by decide +kernel, rfl⟩
theorem x_PP_alone_20 : DC b_PP_alone 20 (.ifCond .eq 7) 3 23 := ⟨by decide +kernel, rfl⟩
theorem x_PP_alone_23 : DC b_PP_alone 23 (.iconst 1) 1 24 := ⟨by decide +kernel, rfl⟩
theorem x_PP_alone_24 : DC b_PP_alone 24 (.goto 4) 3 27 := ⟨by decide +kernel, rfl⟩
theorem x_PP_alone_27 : DC b_PP_alone 27 (.iconst 0) 1 28 := ⟨by decide +kernel, rfl⟩
theorem x_PP_alone_28 : DC b_PP_alone 28 (.invokevirtual 219) 3 31 := ⟨by decide +kernel, rfl⟩
theorem x_PP_alone_31 : DC b_PP_alone 31 (.ifCond .ne 7) 3 34 := ⟨by decide +kernel, rfl⟩
theorem x_PP_alone_34 : DC b_PP_alone 34 (.ldc2_w 105) 3 37 := ⟨by decide +kernel, rfl⟩
theorem x_PP_alone_37 : DC b_PP_alone 37 (.lreturn) 1 38 := ⟨by decide +kernel, rfl⟩
theorem x_PP_alone_38 : DC b_PP_alone 38 (.aload_n 0) 1 39 := ⟨by decide +kernel, rfl⟩
theorem x_PP_alone_39 : DC b_PP_alone 39 (.getfield 56) 3 42 := ⟨by decide +kernel, rfl⟩
theorem x_PP_alone_42 : DC b_PP_alone 42 (.iload_n 3) 1 43 := ⟨by decide +kernel, rfl⟩
theorem x_PP_alone_43 : DC b_PP_alone 43 (.invokevirtual 236) 3 46 := ⟨by decide +kernel, rfl⟩
theorem x_PP_alone_46 : DC b_PP_alone 46 (.aload_n 0) 1 47 := ⟨by decide +kernel, rfl⟩
theorem x_PP_alone_47 : DC b_PP_alone 47 (.getfield 65) 3 50 := ⟨by decide +kernel, rfl⟩
theorem x_PP_alone_50 : DC b_PP_alone 50 (.iload_n 1) 1 51 := ⟨by decide +kernel, rfl⟩
theorem x_PP_alone_51 : DC b_PP_alone 51 (.iload_n 2) 1 52 := ⟨by decide +kernel, rfl⟩
theorem x_PP_alone_52 : DC b_PP_alone 52 (.invokevirtual 354) 3 55 := ⟨by decide +kernel, rfl⟩
theorem x_PP_alone_55 : DC b_PP_alone 55 (.lreturn) 1 56 := ⟨by decide +kernel, rfl⟩
def k_PP_alone_28 (a1 a2 a3 s1 s2 : Int) (M : Mem) : Res := bcall (d_PP_passes s1 s2 M) fun v1 M2 => if w32 v1 = 0 then (some ((-1), M2)) else (bcall (d_Pl_replay a3 M2) fun v4 M5 => bcall (d_Py_aloneOf a1 a2 M5) fun v6 M7 => some (v6, M7))
theorem z_PP_alone_28 (C : Cx p s m args meth c G b_PP_alone 4 "PrairiePool" (some .long)) (hlev : 5 ≤ lev) {r : Int × Mem}  {a1 a2 a3 s1 s2 : Int} {M : Mem} (h : k_PP_alone_28 a1 a2 a3 s1 s2 M = some r) : Z p l e lev s m args below meth c G 4 (MQ below (Qm G 2 r) args s 0 0 (Ab G)) M 28 [(0, .ref (G.1 + 0)), (1, vi a1), (2, vi a2), (3, vi a3)] [vi s2, vi s1, .ref (G.1 + 0)] := by
  unfold k_PP_alone_28 at h
  obtain ⟨v1, M2, fv1, h⟩ := bcall_e h
  refine z_callVi (k := 0) C x_PP_alone_28 cv_PP_219 (t_PP_passes (lev := lev - 1) l G (by omega) fv1) nk_0 ck_0 rfl (by omega) rfl (i_le rfl) rfl ?_
  rcases ite_e h with ⟨c3, h⟩ | ⟨c3, h⟩
  · refine z_if_ne_f (tgt := 38) C x_PP_alone_31 rfl c3 ?_
    refine z_ldc2 C kl_PP_105 x_PP_alone_34 ?_
    exact z_lret C x_PP_alone_37 h
  · refine z_if_ne_t (tgt := 38) C x_PP_alone_31 rfl c3 ?_
    refine z_aload_n C 0 x_PP_alone_38 rfl ?_
    refine z_getR (j := 7) C x_PP_alone_39 nk_0 ck_0 cw_11 (i_lt rfl) rfl rf_0_7 rfl fl_PP_56 ?_
    refine z_iload_n C 3 x_PP_alone_42 rfl ?_
    obtain ⟨v4, M5, fv4, h⟩ := bcall_e h
    refine z_callVv (k := 75) C x_PP_alone_43 cv_PP_236 (t_Pl_replay (lev := lev - 1) l G (by omega) fv4) nk_75 ck_75 rfl (by omega) rfl (i_le rfl) rfl ?_
    refine z_aload_n C 0 x_PP_alone_46 rfl ?_
    refine z_getR (j := 8) C x_PP_alone_47 nk_0 ck_0 cw_11 (i_lt rfl) rfl rf_0_8 rfl fl_PP_65 ?_
    refine z_iload_n C 1 x_PP_alone_50 rfl ?_
    refine z_iload_n C 2 x_PP_alone_51 rfl ?_
    obtain ⟨v6, M7, fv6, h⟩ := bcall_e h
    refine z_callVl (k := 88) C x_PP_alone_52 cv_PP_354 (t_Py_aloneOf (lev := lev - 1) l G (by omega) fv6) nk_88 ck_88 rfl (by omega) rfl (i_le rfl) rfl ?_
    exact z_lret C x_PP_alone_55 h
def k_PP_alone_27 (a1 a2 a3 s1 : Int) (M : Mem) : Res := k_PP_alone_28 a1 a2 a3 s1 0 M
theorem z_PP_alone_27 (C : Cx p s m args meth c G b_PP_alone 4 "PrairiePool" (some .long)) (hlev : 5 ≤ lev) {r : Int × Mem}  {a1 a2 a3 s1 : Int} {M : Mem} (h : k_PP_alone_27 a1 a2 a3 s1 M = some r) : Z p l e lev s m args below meth c G 4 (MQ below (Qm G 2 r) args s 0 0 (Ab G)) M 27 [(0, .ref (G.1 + 0)), (1, vi a1), (2, vi a2), (3, vi a3)] [vi s1, .ref (G.1 + 0)] := by
  unfold k_PP_alone_27 at h
  refine z_iconst C x_PP_alone_27 ?_
  exact z_sub [0, 1, 2, 3] rfl (z_PP_alone_28 C hlev h)
def d_PP_alone (a1 a2 a3 : Int) (M : Mem) : Res := bcall (d_Pr_hasFarm a1 M) fun v1 M2 => bcall (d_PP_isYear a2 M2) fun v3 M4 => if w32 v3 = 0 then (k_PP_alone_27 a1 a2 a3 v1 M4) else (bcall (d_PP_isWeek a3 M4) fun v6 M7 => if w32 v6 = 0 then (k_PP_alone_27 a1 a2 a3 v1 M7) else (k_PP_alone_28 a1 a2 a3 v1 1 M7))
theorem t_PP_alone (l : Launch) (G : GX) {lev : Nat} (hlev : 5 ≤ lev) {a1 a2 a3 : Int} {M : Mem} {r : Int × Mem} (h : d_PP_alone a1 a2 a3 M = some r) : Mt l G y_PP_alone b_PP_alone 4 (some .long) lev 2 [.ref (G.1 + 0), vi a1, vi a2, vi a3] M r := by
  refine Mt.of (by decide) (i_le rfl) ?_
  intro p e s m args below meth c C
  have C : Cx p s m args meth c G b_PP_alone 4 "PrairiePool" (some .long) := C
  unfold d_PP_alone at h
  refine z_sub (lv' := [(0, .ref (G.1 + 0)), (1, vi a1), (2, vi a2), (3, vi a3)]) [0, 1, 2, 3] rfl ?_
  refine z_aload_n C 0 x_PP_alone_0 rfl ?_
  refine z_aload_n C 0 x_PP_alone_1 rfl ?_
  refine z_getR (j := 2) C x_PP_alone_2 nk_0 ck_0 cw_11 (i_lt rfl) rfl rf_0_2 rfl fl_PP_19 ?_
  refine z_iload_n C 1 x_PP_alone_5 rfl ?_
  obtain ⟨v1, M2, fv1, h⟩ := bcall_e h
  refine z_callVi (k := 5) C x_PP_alone_6 cv_PP_145 (t_Pr_hasFarm (lev := lev - 1) l G (by omega) fv1) nk_5 ck_5 rfl (by omega) rfl (i_le rfl) rfl ?_
  refine z_iload_n C 2 x_PP_alone_9 rfl ?_
  obtain ⟨v3, M4, fv3, h⟩ := bcall_e h
  refine z_callSi C x_PP_alone_10 cs_PP_180 (t_PP_isYear (lev := lev - 1) l G (by omega) fv3) (by omega) rfl (i_le rfl) rfl ?_
  rcases ite_e h with ⟨c5, h⟩ | ⟨c5, h⟩
  · refine z_if_eq_t (tgt := 27) C x_PP_alone_13 rfl c5 ?_
    exact z_sub [0, 1, 2, 3] rfl (z_PP_alone_27 C hlev h)
  · refine z_if_eq_f (tgt := 27) C x_PP_alone_13 rfl c5 ?_
    refine z_iload_n C 3 x_PP_alone_16 rfl ?_
    obtain ⟨v6, M7, fv6, h⟩ := bcall_e h
    refine z_callSi C x_PP_alone_17 cs_PP_199 (t_PP_isWeek (lev := lev - 1) l G (by omega) fv6) (by omega) rfl (i_le rfl) rfl ?_
    rcases ite_e h with ⟨c8, h⟩ | ⟨c8, h⟩
    · refine z_if_eq_t (tgt := 27) C x_PP_alone_20 rfl c8 ?_
      exact z_sub [0, 1, 2, 3] rfl (z_PP_alone_27 C hlev h)
    · refine z_if_eq_f (tgt := 27) C x_PP_alone_20 rfl c8 ?_
      refine z_iconst C x_PP_alone_23 ?_
      refine z_goto (tgt := 28) C x_PP_alone_24 rfl ?_
      exact z_sub [0, 1, 2, 3] rfl (z_PP_alone_28 C hlev h)
theorem x_PP_more_0 : DC b_PP_more 0 (.aload_n 0) 1 1 := ⟨by decide +kernel, rfl⟩
theorem x_PP_more_1 : DC b_PP_more 1 (.iconst 1) 1 2 := ⟨by decide +kernel, rfl⟩
theorem x_PP_more_2 : DC b_PP_more 2 (.iload_n 1) 1 3 := ⟨by decide +kernel, rfl⟩
theorem x_PP_more_3 : DC b_PP_more 3 (.invokestatic 180) 3 6 := ⟨by decide +kernel, rfl⟩
theorem x_PP_more_6 : DC b_PP_more 6 (.ifCond .eq 14) 3 9 := ⟨by decide +kernel, rfl⟩
theorem x_PP_more_9 : DC b_PP_more 9 (.iload_n 2) 1 10 := ⟨by decide +kernel, rfl⟩
theorem x_PP_more_10 : DC b_PP_more 10 (.invokestatic 199) 3 13 := ⟨by decide +kernel, rfl⟩
theorem x_PP_more_13 : DC b_PP_more 13 (.ifCond .eq 7) 3 16 := ⟨by decide +kernel, rfl⟩
theorem x_PP_more_16 : DC b_PP_more 16 (.iconst 1) 1 17 := ⟨by decide +kernel, rfl⟩
theorem x_PP_more_17 : DC b_PP_more 17 (.goto 4) 3 20 := ⟨by decide +kernel, rfl⟩
theorem x_PP_more_20 : DC b_PP_more 20 (.iconst 0) 1 21 := ⟨by decide +kernel, rfl⟩
theorem x_PP_more_21 : DC b_PP_more 21 (.invokevirtual 219) 3 24 := ⟨by decide +kernel, rfl⟩
theorem x_PP_more_24 : DC b_PP_more 24 (.ifCond .ne 5) 3 27 := ⟨by decide +kernel, rfl⟩
theorem x_PP_more_27 : DC b_PP_more 27 (.iconst (-1)) 1 28 := ⟨by decide +kernel, rfl⟩
theorem x_PP_more_28 : DC b_PP_more 28 (.ireturn) 1 29 := ⟨by decide +kernel, rfl⟩
theorem x_PP_more_29 : DC b_PP_more 29 (.aload_n 0) 1 30 := ⟨by decide +kernel, rfl⟩
theorem x_PP_more_30 : DC b_PP_more 30 (.getfield 65) 3 33 := ⟨by decide +kernel, rfl⟩
theorem x_PP_more_33 : DC b_PP_more 33 (.iload_n 1) 1 34 := ⟨by decide +kernel, rfl⟩
theorem x_PP_more_34 : DC b_PP_more 34 (.iload_n 2) 1 35 := ⟨by decide +kernel, rfl⟩
theorem x_PP_more_35 : DC b_PP_more 35 (.invokevirtual 289) 3 38 := ⟨by decide +kernel, rfl⟩
theorem x_PP_more_38 : DC b_PP_more 38 (.aload_n 0) 1 39 := ⟨by decide +kernel, rfl⟩
theorem x_PP_more_39 : DC b_PP_more 39 (.getfield 65) 3 42 := ⟨by decide +kernel, rfl⟩
theorem x_PP_more_42 : DC b_PP_more 42 (.iload_n 1) 1 43 := ⟨by decide +kernel, rfl⟩
theorem x_PP_more_43 : DC b_PP_more 43 (.invokevirtual 357) 3 46 := ⟨by decide +kernel, rfl⟩
theorem x_PP_more_46 : DC b_PP_more 46 (.ireturn) 1 47 := ⟨by decide +kernel, rfl⟩
def k_PP_more_21 (a1 a2 s1 s2 : Int) (M : Mem) : Res := bcall (d_PP_passes s1 s2 M) fun v1 M2 => if w32 v1 = 0 then (some ((-1), M2)) else (bcall (d_Py_reckon a1 a2 M2) fun v4 M5 => bcall (d_Py_countBetterOff a1 M5) fun v6 M7 => some (v6, M7))
theorem z_PP_more_21 (C : Cx p s m args meth c G b_PP_more 3 "PrairiePool" (some .int)) (hlev : 7 ≤ lev) {r : Int × Mem}  {a1 a2 s1 s2 : Int} {M : Mem} (h : k_PP_more_21 a1 a2 s1 s2 M = some r) : Z p l e lev s m args below meth c G 3 (MQ below (Qm G 1 r) args s 0 0 (Ab G)) M 21 [(0, .ref (G.1 + 0)), (1, vi a1), (2, vi a2)] [vi s2, vi s1, .ref (G.1 + 0)] := by
  unfold k_PP_more_21 at h
  obtain ⟨v1, M2, fv1, h⟩ := bcall_e h
  refine z_callVi (k := 0) C x_PP_more_21 cv_PP_219 (t_PP_passes (lev := lev - 1) l G (by omega) fv1) nk_0 ck_0 rfl (by omega) rfl (i_le rfl) rfl ?_
  rcases ite_e h with ⟨c3, h⟩ | ⟨c3, h⟩
  · refine z_if_ne_f (tgt := 29) C x_PP_more_24 rfl c3 ?_
    refine z_iconst C x_PP_more_27 ?_
    exact z_iret C x_PP_more_28 h
  · refine z_if_ne_t (tgt := 29) C x_PP_more_24 rfl c3 ?_
    refine z_aload_n C 0 x_PP_more_29 rfl ?_
    refine z_getR (j := 8) C x_PP_more_30 nk_0 ck_0 cw_11 (i_lt rfl) rfl rf_0_8 rfl fl_PP_65 ?_
    refine z_iload_n C 1 x_PP_more_33 rfl ?_
    refine z_iload_n C 2 x_PP_more_34 rfl ?_
    obtain ⟨v4, M5, fv4, h⟩ := bcall_e h
    refine z_callVv (k := 88) C x_PP_more_35 cv_PP_289 (t_Py_reckon (lev := lev - 1) l G (by omega) fv4) nk_88 ck_88 rfl (by omega) rfl (i_le rfl) rfl ?_
    refine z_aload_n C 0 x_PP_more_38 rfl ?_
    refine z_getR (j := 8) C x_PP_more_39 nk_0 ck_0 cw_11 (i_lt rfl) rfl rf_0_8 rfl fl_PP_65 ?_
    refine z_iload_n C 1 x_PP_more_42 rfl ?_
    obtain ⟨v6, M7, fv6, h⟩ := bcall_e h
    refine z_callVi (k := 88) C x_PP_more_43 cv_PP_357 (t_Py_countBetterOff (lev := lev - 1) l G (by omega) fv6) nk_88 ck_88 rfl (by omega) rfl (i_le rfl) rfl ?_
    exact z_iret C x_PP_more_46 h
def k_PP_more_20 (a1 a2 s1 : Int) (M : Mem) : Res := k_PP_more_21 a1 a2 s1 0 M
theorem z_PP_more_20 (C : Cx p s m args meth c G b_PP_more 3 "PrairiePool" (some .int)) (hlev : 7 ≤ lev) {r : Int × Mem}  {a1 a2 s1 : Int} {M : Mem} (h : k_PP_more_20 a1 a2 s1 M = some r) : Z p l e lev s m args below meth c G 3 (MQ below (Qm G 1 r) args s 0 0 (Ab G)) M 20 [(0, .ref (G.1 + 0)), (1, vi a1), (2, vi a2)] [vi s1, .ref (G.1 + 0)] := by
  unfold k_PP_more_20 at h
  refine z_iconst C x_PP_more_20 ?_
  exact z_sub [0, 1, 2] rfl (z_PP_more_21 C hlev h)
def d_PP_more (a1 a2 : Int) (M : Mem) : Res := bcall (d_PP_isYear a1 M) fun v1 M2 => if w32 v1 = 0 then (k_PP_more_20 a1 a2 1 M2) else (bcall (d_PP_isWeek a2 M2) fun v4 M5 => if w32 v4 = 0 then (k_PP_more_20 a1 a2 1 M5) else (k_PP_more_21 a1 a2 1 1 M5))
theorem t_PP_more (l : Launch) (G : GX) {lev : Nat} (hlev : 7 ≤ lev) {a1 a2 : Int} {M : Mem} {r : Int × Mem} (h : d_PP_more a1 a2 M = some r) : Mt l G y_PP_more b_PP_more 3 (some .int) lev 1 [.ref (G.1 + 0), vi a1, vi a2] M r := by
  refine Mt.of (by decide) (i_le rfl) ?_
  intro p e s m args below meth c C
  have C : Cx p s m args meth c G b_PP_more 3 "PrairiePool" (some .int) := C
  unfold d_PP_more at h
  refine z_sub (lv' := [(0, .ref (G.1 + 0)), (1, vi a1), (2, vi a2)]) [0, 1, 2] rfl ?_
  refine z_aload_n C 0 x_PP_more_0 rfl ?_
  refine z_iconst C x_PP_more_1 ?_
  refine z_iload_n C 1 x_PP_more_2 rfl ?_
  obtain ⟨v1, M2, fv1, h⟩ := bcall_e h
  refine z_callSi C x_PP_more_3 cs_PP_180 (t_PP_isYear (lev := lev - 1) l G (by omega) fv1) (by omega) rfl (i_le rfl) rfl ?_
  rcases ite_e h with ⟨c3, h⟩ | ⟨c3, h⟩
  · refine z_if_eq_t (tgt := 20) C x_PP_more_6 rfl c3 ?_
    exact z_sub [0, 1, 2] rfl (z_PP_more_20 C hlev h)
  · refine z_if_eq_f (tgt := 20) C x_PP_more_6 rfl c3 ?_
    refine z_iload_n C 2 x_PP_more_9 rfl ?_
    obtain ⟨v4, M5, fv4, h⟩ := bcall_e h
    refine z_callSi C x_PP_more_10 cs_PP_199 (t_PP_isWeek (lev := lev - 1) l G (by omega) fv4) (by omega) rfl (i_le rfl) rfl ?_
    rcases ite_e h with ⟨c6, h⟩ | ⟨c6, h⟩
    · refine z_if_eq_t (tgt := 20) C x_PP_more_13 rfl c6 ?_
      exact z_sub [0, 1, 2] rfl (z_PP_more_20 C hlev h)
    · refine z_if_eq_f (tgt := 20) C x_PP_more_13 rfl c6 ?_
      refine z_iconst C x_PP_more_16 ?_
      refine z_goto (tgt := 21) C x_PP_more_17 rfl ?_
      exact z_sub [0, 1, 2] rfl (z_PP_more_21 C hlev h)
theorem x_PP_vote_0 : DC b_PP_vote 0 (.aload_n 0) 1 1 := ⟨by decide +kernel, rfl⟩
theorem x_PP_vote_1 : DC b_PP_vote 1 (.aload_n 0) 1 2 := ⟨by decide +kernel, rfl⟩
theorem x_PP_vote_2 : DC b_PP_vote 2 (.getfield 19) 3 5 := ⟨by decide +kernel, rfl⟩
theorem x_PP_vote_5 : DC b_PP_vote 5 (.iload_n 1) 1 6 := ⟨by decide +kernel, rfl⟩
theorem x_PP_vote_6 : DC b_PP_vote 6 (.invokevirtual 145) 3 9 := ⟨by decide +kernel, rfl⟩
theorem x_PP_vote_9 : DC b_PP_vote 9 (.iload_n 2) 1 10 := ⟨by decide +kernel, rfl⟩
theorem x_PP_vote_10 : DC b_PP_vote 10 (.iconst (-1)) 1 11 := ⟨by decide +kernel, rfl⟩
theorem x_PP_vote_11 : DC b_PP_vote 11 (.iconst 1) 1 12 := ⟨by decide +kernel, rfl⟩
theorem x_PP_vote_12 : DC b_PP_vote 12 (.invokestatic 89) 3 15 := ⟨by decide +kernel, rfl⟩
theorem x_PP_vote_15 : DC b_PP_vote 15 (.invokevirtual 219) 3 18 := ⟨by decide +kernel, rfl⟩
theorem x_PP_vote_18 : DC b_PP_vote 18 (.ifCond .ne 5) 3 21 := ⟨by decide +kernel, rfl⟩
theorem x_PP_vote_21 : DC b_PP_vote 21 (.iconst 0) 1 22 := ⟨by decide +kernel, rfl⟩
theorem x_PP_vote_22 : DC b_PP_vote 22 (.ireturn) 1 23 := ⟨by decide +kernel, rfl⟩
theorem x_PP_vote_23 : DC b_PP_vote 23 (.aload_n 0) 1 24 := ⟨by decide +kernel, rfl⟩
theorem x_PP_vote_24 : DC b_PP_vote 24 (.getfield 19) 3 27 := ⟨by decide +kernel, rfl⟩
theorem x_PP_vote_27 : DC b_PP_vote 27 (.getfield 360) 3 30 := ⟨by decide +kernel, rfl⟩
theorem x_PP_vote_30 : DC b_PP_vote 30 (.iload_n 1) 1 31 := ⟨by decide +kernel, rfl⟩
theorem x_PP_vote_31 : DC b_PP_vote 31 (.iload_n 2) 1 32 := ⟨by decide +kernel, rfl⟩
theorem x_PP_vote_32 : DC b_PP_vote 32 (.iastore) 1 33 := ⟨by decide +kernel, rfl⟩
theorem x_PP_vote_33 : DC b_PP_vote 33 (.iconst 1) 1 34 := ⟨by decide +kernel, rfl⟩
theorem x_PP_vote_34 : DC b_PP_vote 34 (.ireturn) 1 35 := ⟨by decide +kernel, rfl⟩
def d_PP_vote (a1 a2 : Int) (M : Mem) : Res := bcall (d_Pr_hasFarm a1 M) fun v1 M2 => bcall (d_PP_isIn a2 (-1) 1 M2) fun v3 M4 => bcall (d_PP_passes v1 v3 M4) fun v5 M6 => if w32 v5 = 0 then (some (0, M6)) else (chk (0 ≤ w32 a1 ∧ w32 a1 < 20) <| blet (sto M6 12 (ix a1) a2) fun M9 => some (1, M9))
theorem t_PP_vote (l : Launch) (G : GX) {lev : Nat} (hlev : 2 ≤ lev) {a1 a2 : Int} {M : Mem} {r : Int × Mem} (h : d_PP_vote a1 a2 M = some r) : Mt l G y_PP_vote b_PP_vote 3 (some .boolean) lev 1 [.ref (G.1 + 0), vi a1, vi a2] M r := by
  refine Mt.of (by decide) (i_le rfl) ?_
  intro p e s m args below meth c C
  have C : Cx p s m args meth c G b_PP_vote 3 "PrairiePool" (some .boolean) := C
  unfold d_PP_vote at h
  refine z_sub (lv' := [(0, .ref (G.1 + 0)), (1, vi a1), (2, vi a2)]) [0, 1, 2] rfl ?_
  refine z_aload_n C 0 x_PP_vote_0 rfl ?_
  refine z_aload_n C 0 x_PP_vote_1 rfl ?_
  refine z_getR (j := 2) C x_PP_vote_2 nk_0 ck_0 cw_11 (i_lt rfl) rfl rf_0_2 rfl fl_PP_19 ?_
  refine z_iload_n C 1 x_PP_vote_5 rfl ?_
  obtain ⟨v1, M2, fv1, h⟩ := bcall_e h
  refine z_callVi (k := 5) C x_PP_vote_6 cv_PP_145 (t_Pr_hasFarm (lev := lev - 1) l G (by omega) fv1) nk_5 ck_5 rfl (by omega) rfl (i_le rfl) rfl ?_
  refine z_iload_n C 2 x_PP_vote_9 rfl ?_
  refine z_iconst C x_PP_vote_10 ?_
  refine z_iconst C x_PP_vote_11 ?_
  obtain ⟨v3, M4, fv3, h⟩ := bcall_e h
  refine z_callSi C x_PP_vote_12 cs_PP_89 (t_PP_isIn (lev := lev - 1) l G (by omega) fv3) (by omega) rfl (i_le rfl) rfl ?_
  obtain ⟨v5, M6, fv5, h⟩ := bcall_e h
  refine z_callVi (k := 0) C x_PP_vote_15 cv_PP_219 (t_PP_passes (lev := lev - 1) l G (by omega) fv5) nk_0 ck_0 rfl (by omega) rfl (i_le rfl) rfl ?_
  rcases ite_e h with ⟨c7, h⟩ | ⟨c7, h⟩
  · refine z_if_ne_f (tgt := 23) C x_PP_vote_18 rfl c7 ?_
    refine z_iconst C x_PP_vote_21 ?_
    exact z_zret C x_PP_vote_22 (by decide) h
  · refine z_if_ne_t (tgt := 23) C x_PP_vote_18 rfl c7 ?_
    refine z_aload_n C 0 x_PP_vote_23 rfl ?_
    refine z_getR (j := 2) C x_PP_vote_24 nk_0 ck_0 cw_11 (i_lt rfl) rfl rf_0_2 rfl fl_PP_19 ?_
    refine z_getR (j := 7) C x_PP_vote_27 nk_5 ck_5 cw_7 (i_lt rfl) rfl rf_5_7 rfl fl_PP_360 ?_
    refine z_iload_n C 1 x_PP_vote_30 rfl ?_
    refine z_iload_n C 2 x_PP_vote_31 rfl ?_
    obtain ⟨c8, h⟩ := chk_e h
    obtain ⟨M9, eM9, h⟩ := blet_e h
    refine z_iast C x_PP_vote_32 nk_12 ck_12 c8 eM9 ?_
    refine z_iconst C x_PP_vote_33 ?_
    exact z_zret C x_PP_vote_34 (by decide) h
theorem x_PP_result_0 : DC b_PP_result 0 (.aload_n 0) 1 1 := ⟨by decide +kernel, rfl⟩
theorem x_PP_result_1 : DC b_PP_result 1 (.iload_n 1) 1 2 := ⟨by decide +kernel, rfl⟩
theorem x_PP_result_2 : DC b_PP_result 2 (.iconst (-1)) 1 3 := ⟨by decide +kernel, rfl⟩
theorem x_PP_result_3 : DC b_PP_result 3 (.if_icmp .eq 10) 3 6 := ⟨by decide +kernel, rfl⟩
theorem x_PP_result_6 : DC b_PP_result 6 (.iload_n 1) 1 7 := ⟨by decide +kernel, rfl⟩
theorem x_PP_result_7 : DC b_PP_result 7 (.invokestatic 123) 3 10 := ⟨by decide +kernel, rfl⟩
theorem x_PP_result_10 : DC b_PP_result 10 (.ifCond .eq 7) 3 13 := ⟨by decide +kernel, rfl⟩
theorem x_PP_result_13 : DC b_PP_result 13 (.iconst 1) 1 14 := ⟨by decide +kernel, rfl⟩
theorem x_PP_result_14 : DC b_PP_result 14 (.goto 4) 3 17 := ⟨by decide +kernel, rfl⟩
theorem x_PP_result_17 : DC b_PP_result 17 (.iconst 0) 1 18 := ⟨by decide +kernel, rfl⟩
theorem x_PP_result_18 : DC b_PP_result 18 (.iload_n 2) 1 19 := ⟨by decide +kernel, rfl⟩
theorem x_PP_result_19 : DC b_PP_result 19 (.invokestatic 199) 3 22 := ⟨by decide +kernel, rfl⟩
theorem x_PP_result_22 : DC b_PP_result 22 (.invokevirtual 219) 3 25 := ⟨by decide +kernel, rfl⟩
theorem x_PP_result_25 : DC b_PP_result 25 (.ifCond .ne 5) 3 28 := ⟨by decide +kernel, rfl⟩
theorem x_PP_result_28 : DC b_PP_result 28 (.iconst (-1)) 1 29 := ⟨by decide +kernel, rfl⟩
theorem x_PP_result_29 : DC b_PP_result 29 (.ireturn) 1 30 := ⟨by decide +kernel, rfl⟩
theorem x_PP_result_30 : DC b_PP_result 30 (.aload_n 0) 1 31 := ⟨by decide +kernel, rfl⟩
theorem x_PP_result_31 : DC b_PP_result 31 (.getfield 81) 3 34 := ⟨by decide +kernel, rfl⟩
theorem x_PP_result_34 : DC b_PP_result 34 (.iload_n 2) 1 35 := ⟨by decide +kernel, rfl⟩
theorem x_PP_result_35 : DC b_PP_result 35 (.invokevirtual 363) 3 38 := ⟨by decide +kernel, rfl⟩
theorem x_PP_result_38 : DC b_PP_result 38 (.iload_n 1) 1 39 := ⟨by decide +kernel, rfl⟩
theorem x_PP_result_39 : DC b_PP_result 39 (.iconst (-1)) 1 40 := ⟨by decide +kernel, rfl⟩
theorem x_PP_result_40 : DC b_PP_result 40 (.if_icmp .ne 13) 3 43 := ⟨by decide +kernel, rfl⟩
theorem x_PP_result_43 : DC b_PP_result 43 (.aload_n 0) 1 44 := ⟨by decide +kernel, rfl⟩
theorem x_PP_result_44 : DC b_PP_result 44 (.getfield 81) 3 47 := ⟨by decide +kernel, rfl⟩
theorem x_PP_result_47 : DC b_PP_result 47 (.invokevirtual 365) 3 50 := ⟨by decide +kernel, rfl⟩
theorem x_PP_result_50 : DC b_PP_result 50 (.goto 20) 3 53 := ⟨by decide +kernel, rfl⟩
theorem x_PP_result_53 : DC b_PP_result 53 (.aload_n 0) 1 54 := ⟨by decide +kernel, rfl⟩
theorem x_PP_result_54 : DC b_PP_result 54 (.getfield 81) 3 57 := ⟨by decide +kernel, rfl⟩
theorem x_PP_result_57 : DC b_PP_result 57 (.getfield 368) 3 60 := ⟨by decide +kernel, rfl⟩
theorem x_PP_result_60 : DC b_PP_result 60 (.iload_n 1) 1 61 := ⟨by decide +kernel, rfl⟩
theorem x_PP_result_61 : DC b_PP_result 61 (.iaload) 1 62 := ⟨by decide +kernel, rfl⟩
theorem x_PP_result_62 : DC b_PP_result 62 (.ifCond .le 7) 3 65 := ⟨by decide +kernel, rfl⟩
theorem x_PP_result_65 : DC b_PP_result 65 (.iconst 1) 1 66 := ⟨by decide +kernel, rfl⟩
theorem x_PP_result_66 : DC b_PP_result 66 (.goto 4) 3 69 := ⟨by decide +kernel, rfl⟩
theorem x_PP_result_69 : DC b_PP_result 69 (.iconst 0) 1 70 := ⟨by decide +kernel, rfl⟩
theorem x_PP_result_70 : DC b_PP_result 70 (.istore_n 3) 1 71 := ⟨by decide +kernel, rfl⟩
theorem x_PP_result_71 : DC b_PP_result 71 (.iload_n 3) 1 72 := ⟨by decide +kernel, rfl⟩
theorem x_PP_result_72 : DC b_PP_result 72 (.ifCond .eq 7) 3 75 := ⟨by decide +kernel, rfl⟩
theorem x_PP_result_75 : DC b_PP_result 75 (.iconst 1) 1 76 := ⟨by decide +kernel, rfl⟩
theorem x_PP_result_76 : DC b_PP_result 76 (.goto 4) 3 79 := ⟨by decide +kernel, rfl⟩
theorem x_PP_result_79 : DC b_PP_result 79 (.iconst 0) 1 80 := ⟨by decide +kernel, rfl⟩
theorem x_PP_result_80 : DC b_PP_result 80 (.ireturn) 1 81 := ⟨by decide +kernel, rfl⟩
def k_PP_result_70 (s0 : Int) (M : Mem) : Res := if w32 s0 = 0 then (some (0, M)) else (some (1, M))
theorem z_PP_result_70 (C : Cx p s m args meth c G b_PP_result 4 "PrairiePool" (some .int)) (hlev : 6 ≤ lev) {r : Int × Mem}  {s0 : Int} {M : Mem} (h : k_PP_result_70 s0 M = some r) : Z p l e lev s m args below meth c G 4 (MQ below (Qm G 1 r) args s 0 0 (Ab G)) M 70 [] [vi s0] := by
  unfold k_PP_result_70 at h
  refine z_istore_n (lv' := [(3, vi s0)]) C rfl x_PP_result_70 (i_lt rfl) rfl ?_
  refine z_iload_n C 0 x_PP_result_71 rfl ?_
  rcases ite_e h with ⟨c1, h⟩ | ⟨c1, h⟩
  · refine z_if_eq_t (tgt := 79) C x_PP_result_72 rfl c1 ?_
    refine z_iconst C x_PP_result_79 ?_
    exact z_iret C x_PP_result_80 h
  · refine z_if_eq_f (tgt := 79) C x_PP_result_72 rfl c1 ?_
    refine z_iconst C x_PP_result_75 ?_
    refine z_goto (tgt := 80) C x_PP_result_76 rfl ?_
    exact z_iret C x_PP_result_80 h
def k_PP_result_18 (a1 a2 s1 : Int) (M : Mem) : Res := bcall (d_PP_isWeek a2 M) fun v1 M2 => bcall (d_PP_passes s1 v1 M2) fun v3 M4 => if w32 v3 = 0 then (some ((-1), M4)) else (bcall (d_Ba_count a2 M4) fun v6 M7 => if w32 a1 = (-1) then (bcall (d_Ba_isWholeFor M7) fun v9 M10 => k_PP_result_70 v9 M10) else (chk (0 ≤ w32 a1 ∧ w32 a1 < 6) <| blet (M7 104 (ix a1)) fun v12 => if 0 < w32 v12 then (k_PP_result_70 1 M7) else (k_PP_result_70 0 M7)))
theorem z_PP_result_18 (C : Cx p s m args meth c G b_PP_result 4 "PrairiePool" (some .int)) (hlev : 6 ≤ lev) {r : Int × Mem}  {a1 a2 s1 : Int} {M : Mem} (h : k_PP_result_18 a1 a2 s1 M = some r) : Z p l e lev s m args below meth c G 4 (MQ below (Qm G 1 r) args s 0 0 (Ab G)) M 18 [(0, .ref (G.1 + 0)), (1, vi a1), (2, vi a2)] [vi s1, .ref (G.1 + 0)] := by
  unfold k_PP_result_18 at h
  refine z_iload_n C 2 x_PP_result_18 rfl ?_
  obtain ⟨v1, M2, fv1, h⟩ := bcall_e h
  refine z_callSi C x_PP_result_19 cs_PP_199 (t_PP_isWeek (lev := lev - 1) l G (by omega) fv1) (by omega) rfl (i_le rfl) rfl ?_
  obtain ⟨v3, M4, fv3, h⟩ := bcall_e h
  refine z_callVi (k := 0) C x_PP_result_22 cv_PP_219 (t_PP_passes (lev := lev - 1) l G (by omega) fv3) nk_0 ck_0 rfl (by omega) rfl (i_le rfl) rfl ?_
  rcases ite_e h with ⟨c5, h⟩ | ⟨c5, h⟩
  · refine z_if_ne_f (tgt := 30) C x_PP_result_25 rfl c5 ?_
    refine z_iconst C x_PP_result_28 ?_
    exact z_iret C x_PP_result_29 h
  · refine z_if_ne_t (tgt := 30) C x_PP_result_25 rfl c5 ?_
    refine z_aload_n C 0 x_PP_result_30 rfl ?_
    refine z_getR (j := 10) C x_PP_result_31 nk_0 ck_0 cw_11 (i_lt rfl) rfl rf_0_10 rfl fl_PP_81 ?_
    refine z_iload_n C 2 x_PP_result_34 rfl ?_
    obtain ⟨v6, M7, fv6, h⟩ := bcall_e h
    refine z_callVv (k := 103) C x_PP_result_35 cv_PP_363 (t_Ba_count (lev := lev - 1) l G (by omega) fv6) nk_103 ck_103 rfl (by omega) rfl (i_le rfl) rfl ?_
    refine z_iload_n C 1 x_PP_result_38 rfl ?_
    refine z_iconst C x_PP_result_39 ?_
    rcases ite_e h with ⟨c8, h⟩ | ⟨c8, h⟩
    · refine z_icmp_ne_f (tgt := 53) C x_PP_result_40 rfl c8 ?_
      refine z_aload_n C 0 x_PP_result_43 rfl ?_
      refine z_getR (j := 10) C x_PP_result_44 nk_0 ck_0 cw_11 (i_lt rfl) rfl rf_0_10 rfl fl_PP_81 ?_
      obtain ⟨v9, M10, fv9, h⟩ := bcall_e h
      refine z_callVi (k := 103) C x_PP_result_47 cv_PP_365 (t_Ba_isWholeFor (lev := lev - 1) l G (by omega) fv9) nk_103 ck_103 rfl (by omega) rfl (i_le rfl) rfl ?_
      refine z_goto (tgt := 70) C x_PP_result_50 rfl ?_
      exact z_sub [] rfl (z_PP_result_70 C hlev h)
    · refine z_icmp_ne_t (tgt := 53) C x_PP_result_40 rfl c8 ?_
      refine z_aload_n C 0 x_PP_result_53 rfl ?_
      refine z_getR (j := 10) C x_PP_result_54 nk_0 ck_0 cw_11 (i_lt rfl) rfl rf_0_10 rfl fl_PP_81 ?_
      refine z_getR (j := 0) C x_PP_result_57 nk_103 ck_103 cw_1 (i_lt rfl) rfl rf_103_0 rfl fl_PP_368 ?_
      refine z_iload_n C 1 x_PP_result_60 rfl ?_
      obtain ⟨c11, h⟩ := chk_e h
      obtain ⟨v12, ev12, h⟩ := blet_e h
      refine z_iald C x_PP_result_61 nk_104 ck_104 c11 ev12 ?_
      rcases ite_e h with ⟨c13, h⟩ | ⟨c13, h⟩
      · refine z_if_le_f (tgt := 69) C x_PP_result_62 rfl c13 ?_
        refine z_iconst C x_PP_result_65 ?_
        refine z_goto (tgt := 70) C x_PP_result_66 rfl ?_
        exact z_sub [] rfl (z_PP_result_70 C hlev h)
      · refine z_if_le_t (tgt := 69) C x_PP_result_62 rfl c13 ?_
        refine z_iconst C x_PP_result_69 ?_
        exact z_sub [] rfl (z_PP_result_70 C hlev h)
def k_PP_result_13 (a1 a2 : Int) (M : Mem) : Res := k_PP_result_18 a1 a2 1 M
theorem z_PP_result_13 (C : Cx p s m args meth c G b_PP_result 4 "PrairiePool" (some .int)) (hlev : 6 ≤ lev) {r : Int × Mem}  {a1 a2 : Int} {M : Mem} (h : k_PP_result_13 a1 a2 M = some r) : Z p l e lev s m args below meth c G 4 (MQ below (Qm G 1 r) args s 0 0 (Ab G)) M 13 [(0, .ref (G.1 + 0)), (1, vi a1), (2, vi a2)] [.ref (G.1 + 0)] := by
  unfold k_PP_result_13 at h
  refine z_iconst C x_PP_result_13 ?_
  refine z_goto (tgt := 18) C x_PP_result_14 rfl ?_
  exact z_sub [0, 1, 2] rfl (z_PP_result_18 C hlev h)
def d_PP_result (a1 a2 : Int) (M : Mem) : Res := if w32 a1 = (-1) then (k_PP_result_13 a1 a2 M) else (bcall (d_PP_isDistrict a1 M) fun v2 M3 => if w32 v2 = 0 then (k_PP_result_18 a1 a2 0 M3) else (k_PP_result_13 a1 a2 M3))
theorem t_PP_result (l : Launch) (G : GX) {lev : Nat} (hlev : 6 ≤ lev) {a1 a2 : Int} {M : Mem} {r : Int × Mem} (h : d_PP_result a1 a2 M = some r) : Mt l G y_PP_result b_PP_result 4 (some .int) lev 1 [.ref (G.1 + 0), vi a1, vi a2] M r := by
  refine Mt.of (by decide) (i_le rfl) ?_
  intro p e s m args below meth c C
  have C : Cx p s m args meth c G b_PP_result 4 "PrairiePool" (some .int) := C
  unfold d_PP_result at h
  refine z_sub (lv' := [(0, .ref (G.1 + 0)), (1, vi a1), (2, vi a2)]) [0, 1, 2] rfl ?_
  refine z_aload_n C 0 x_PP_result_0 rfl ?_
  refine z_iload_n C 1 x_PP_result_1 rfl ?_
  refine z_iconst C x_PP_result_2 ?_
  rcases ite_e h with ⟨c1, h⟩ | ⟨c1, h⟩
  · refine z_icmp_eq_t (tgt := 13) C x_PP_result_3 rfl c1 ?_
    exact z_sub [0, 1, 2] rfl (z_PP_result_13 C hlev h)
  · refine z_icmp_eq_f (tgt := 13) C x_PP_result_3 rfl c1 ?_
    refine z_iload_n C 1 x_PP_result_6 rfl ?_
    obtain ⟨v2, M3, fv2, h⟩ := bcall_e h
    refine z_callSi C x_PP_result_7 cs_PP_123 (t_PP_isDistrict (lev := lev - 1) l G (by omega) fv2) (by omega) rfl (i_le rfl) rfl ?_
    rcases ite_e h with ⟨c4, h⟩ | ⟨c4, h⟩
    · refine z_if_eq_t (tgt := 17) C x_PP_result_10 rfl c4 ?_
      refine z_iconst C x_PP_result_17 ?_
      exact z_sub [0, 1, 2] rfl (z_PP_result_18 C hlev h)
    · refine z_if_eq_f (tgt := 17) C x_PP_result_10 rfl c4 ?_
      exact z_sub [0, 1, 2] rfl (z_PP_result_13 C hlev h)
theorem x_PP_hangs_0 : DC b_PP_hangs 0 (.aload_n 0) 1 1 := ⟨by decide +kernel, rfl⟩
theorem x_PP_hangs_1 : DC b_PP_hangs 1 (.iconst 1) 1 2 := ⟨by decide +kernel, rfl⟩
theorem x_PP_hangs_2 : DC b_PP_hangs 2 (.iload_n 1) 1 3 := ⟨by decide +kernel, rfl⟩
theorem x_PP_hangs_3 : DC b_PP_hangs 3 (.invokestatic 199) 3 6 := ⟨by decide +kernel, rfl⟩
theorem x_PP_hangs_6 : DC b_PP_hangs 6 (.invokevirtual 219) 3 9 := ⟨by decide +kernel, rfl⟩
theorem x_PP_hangs_9 : DC b_PP_hangs 9 (.ifCond .ne 5) 3 12 := ⟨by decide +kernel, rfl⟩
theorem x_PP_hangs_12 : DC b_PP_hangs 12 (.iconst (-1)) 1 13 := ⟨by decide +kernel, rfl⟩
theorem x_PP_hangs_13 : DC b_PP_hangs 13 (.ireturn) 1 14 := ⟨by decide +kernel, rfl⟩
theorem x_PP_hangs_14 : DC b_PP_hangs 14 (.aload_n 0) 1 15 := ⟨by decide +kernel, rfl⟩
theorem x_PP_hangs_15 : DC b_PP_hangs 15 (.getfield 81) 3 18 := ⟨by decide +kernel, rfl⟩
theorem x_PP_hangs_18 : DC b_PP_hangs 18 (.iload_n 1) 1 19 := ⟨by decide +kernel, rfl⟩
theorem x_PP_hangs_19 : DC b_PP_hangs 19 (.invokevirtual 363) 3 22 := ⟨by decide +kernel, rfl⟩
theorem x_PP_hangs_22 : DC b_PP_hangs 22 (.aload_n 0) 1 23 := ⟨by decide +kernel, rfl⟩
theorem x_PP_hangs_23 : DC b_PP_hangs 23 (.getfield 81) 3 26 := ⟨by decide +kernel, rfl⟩
theorem x_PP_hangs_26 : DC b_PP_hangs 26 (.invokevirtual 371) 3 29 := ⟨by decide +kernel, rfl⟩
theorem x_PP_hangs_29 : DC b_PP_hangs 29 (.ireturn) 1 30 := ⟨by decide +kernel, rfl⟩
def d_PP_hangs (a1 : Int) (M : Mem) : Res := bcall (d_PP_isWeek a1 M) fun v1 M2 => bcall (d_PP_passes 1 v1 M2) fun v3 M4 => if w32 v3 = 0 then (some ((-1), M4)) else (bcall (d_Ba_count a1 M4) fun v6 M7 => bcall (d_Ba_leastSetThatTurns M7) fun v8 M9 => some (v8, M9))
theorem t_PP_hangs (l : Launch) (G : GX) {lev : Nat} (hlev : 6 ≤ lev) {a1 : Int} {M : Mem} {r : Int × Mem} (h : d_PP_hangs a1 M = some r) : Mt l G y_PP_hangs b_PP_hangs 2 (some .int) lev 1 [.ref (G.1 + 0), vi a1] M r := by
  refine Mt.of (by decide) (i_le rfl) ?_
  intro p e s m args below meth c C
  have C : Cx p s m args meth c G b_PP_hangs 2 "PrairiePool" (some .int) := C
  unfold d_PP_hangs at h
  refine z_sub (lv' := [(0, .ref (G.1 + 0)), (1, vi a1)]) [0, 1] rfl ?_
  refine z_aload_n C 0 x_PP_hangs_0 rfl ?_
  refine z_iconst C x_PP_hangs_1 ?_
  refine z_iload_n C 1 x_PP_hangs_2 rfl ?_
  obtain ⟨v1, M2, fv1, h⟩ := bcall_e h
  refine z_callSi C x_PP_hangs_3 cs_PP_199 (t_PP_isWeek (lev := lev - 1) l G (by omega) fv1) (by omega) rfl (i_le rfl) rfl ?_
  obtain ⟨v3, M4, fv3, h⟩ := bcall_e h
  refine z_callVi (k := 0) C x_PP_hangs_6 cv_PP_219 (t_PP_passes (lev := lev - 1) l G (by omega) fv3) nk_0 ck_0 rfl (by omega) rfl (i_le rfl) rfl ?_
  rcases ite_e h with ⟨c5, h⟩ | ⟨c5, h⟩
  · refine z_if_ne_f (tgt := 14) C x_PP_hangs_9 rfl c5 ?_
    refine z_iconst C x_PP_hangs_12 ?_
    exact z_iret C x_PP_hangs_13 h
  · refine z_if_ne_t (tgt := 14) C x_PP_hangs_9 rfl c5 ?_
    refine z_aload_n C 0 x_PP_hangs_14 rfl ?_
    refine z_getR (j := 10) C x_PP_hangs_15 nk_0 ck_0 cw_11 (i_lt rfl) rfl rf_0_10 rfl fl_PP_81 ?_
    refine z_iload_n C 1 x_PP_hangs_18 rfl ?_
    obtain ⟨v6, M7, fv6, h⟩ := bcall_e h
    refine z_callVv (k := 103) C x_PP_hangs_19 cv_PP_363 (t_Ba_count (lev := lev - 1) l G (by omega) fv6) nk_103 ck_103 rfl (by omega) rfl (i_le rfl) rfl ?_
    refine z_aload_n C 0 x_PP_hangs_22 rfl ?_
    refine z_getR (j := 10) C x_PP_hangs_23 nk_0 ck_0 cw_11 (i_lt rfl) rfl rf_0_10 rfl fl_PP_81 ?_
    obtain ⟨v8, M9, fv8, h⟩ := bcall_e h
    refine z_callVi (k := 103) C x_PP_hangs_26 cv_PP_371 (t_Ba_leastSetThatTurns (lev := lev - 1) l G (by omega) fv8) nk_103 ck_103 rfl (by omega) rfl (i_le rfl) rfl ?_
    exact z_iret C x_PP_hangs_29 h
theorem x_PP_statusOfWarm_0 : DC b_PP_statusOfWarm 0 (.aload_n 0) 1 1 := ⟨by decide +kernel, rfl⟩
theorem x_PP_statusOfWarm_1 : DC b_PP_statusOfWarm 1 (.getfield 10) 3 4 := ⟨by decide +kernel, rfl⟩
theorem x_PP_statusOfWarm_4 : DC b_PP_statusOfWarm 4 (.iload_n 1) 1 5 := ⟨by decide +kernel, rfl⟩
theorem x_PP_statusOfWarm_5 : DC b_PP_statusOfWarm 5 (.iload_n 2) 1 6 := ⟨by decide +kernel, rfl⟩
theorem x_PP_statusOfWarm_6 : DC b_PP_statusOfWarm 6 (.invokevirtual 111) 3 9 := ⟨by decide +kernel, rfl⟩
theorem x_PP_statusOfWarm_9 : DC b_PP_statusOfWarm 9 (.istore 4) 2 11 := ⟨by decide +kernel, rfl⟩
theorem x_PP_statusOfWarm_11 : DC b_PP_statusOfWarm 11 (.iload 4) 2 13 := ⟨by decide +kernel, rfl⟩
theorem x_PP_statusOfWarm_13 : DC b_PP_statusOfWarm 13 (.ifCond .eq 6) 3 16 := ⟨by decide +kernel, rfl⟩
theorem x_PP_statusOfWarm_16 : DC b_PP_statusOfWarm 16 (.iload 4) 2 18 := ⟨by decide +kernel, rfl⟩
theorem x_PP_statusOfWarm_18 : DC b_PP_statusOfWarm 18 (.ireturn) 1 19 := ⟨by decide +kernel, rfl⟩
theorem x_PP_statusOfWarm_19 : DC b_PP_statusOfWarm 19 (.iload_n 3) 1 20 := ⟨by decide +kernel, rfl⟩
theorem x_PP_statusOfWarm_20 : DC b_PP_statusOfWarm 20 (.iconst 1) 1 21 := ⟨by decide +kernel, rfl⟩
theorem x_PP_statusOfWarm_21 : DC b_PP_statusOfWarm 21 (.bipush 8) 2 23 := ⟨by decide +kernel, rfl⟩
theorem x_PP_statusOfWarm_23 : DC b_PP_statusOfWarm 23 (.invokestatic 89) 3 26 := ⟨by decide +kernel, rfl⟩
theorem x_PP_statusOfWarm_26 : DC b_PP_statusOfWarm 26 (.ifCond .ne 5) 3 29 := ⟨by decide +kernel, rfl⟩
theorem x_PP_statusOfWarm_29 : DC b_PP_statusOfWarm 29 (.iconst 5) 1 30 := ⟨by decide +kernel, rfl⟩
theorem x_PP_statusOfWarm_30 : DC b_PP_statusOfWarm 30 (.ireturn) 1 31 := ⟨by decide +kernel, rfl⟩
theorem x_PP_statusOfWarm_31 : DC b_PP_statusOfWarm 31 (.aload_n 0) 1 32 := ⟨by decide +kernel, rfl⟩
theorem x_PP_statusOfWarm_32 : DC b_PP_statusOfWarm 32 (.getfield 10) 3 35 := ⟨by decide +kernel, rfl⟩
theorem x_PP_statusOfWarm_35 : DC b_PP_statusOfWarm 35 (.getfield 414) 3 38 := ⟨by decide +kernel, rfl⟩
theorem x_PP_statusOfWarm_38 : DC b_PP_statusOfWarm 38 (.iload_n 1) 1 39 := ⟨by decide +kernel, rfl⟩
theorem x_PP_statusOfWarm_39 : DC b_PP_statusOfWarm 39 (.iaload) 1 40 := ⟨by decide +kernel, rfl⟩
theorem x_PP_statusOfWarm_40 : DC b_PP_statusOfWarm 40 (.iload_n 3) 1 41 := ⟨by decide +kernel, rfl⟩
theorem x_PP_statusOfWarm_41 : DC b_PP_statusOfWarm 41 (.if_icmp .lt 16) 3 44 := ⟨by decide +kernel, rfl⟩
theorem x_PP_statusOfWarm_44 : DC b_PP_statusOfWarm 44 (.aload_n 0) 1 45 := ⟨by decide +kernel, rfl⟩
theorem x_PP_statusOfWarm_45 : DC b_PP_statusOfWarm 45 (.getfield 10) 3 48 := ⟨by decide +kernel, rfl⟩
theorem x_PP_statusOfWarm_48 : DC b_PP_statusOfWarm 48 (.getfield 414) 3 51 := ⟨by decide +kernel, rfl⟩
theorem x_PP_statusOfWarm_51 : DC b_PP_statusOfWarm 51 (.iload_n 2) 1 52 := ⟨by decide +kernel, rfl⟩
theorem x_PP_statusOfWarm_52 : DC b_PP_statusOfWarm 52 (.iaload) 1 53 := ⟨by decide +kernel, rfl⟩
theorem x_PP_statusOfWarm_53 : DC b_PP_statusOfWarm 53 (.iload_n 3) 1 54 := ⟨by decide +kernel, rfl⟩
theorem x_PP_statusOfWarm_54 : DC b_PP_statusOfWarm 54 (.if_icmp .ge 5) 3 57 := ⟨by decide +kernel, rfl⟩
theorem x_PP_statusOfWarm_57 : DC b_PP_statusOfWarm 57 (.iconst 4) 1 58 := ⟨by decide +kernel, rfl⟩
theorem x_PP_statusOfWarm_58 : DC b_PP_statusOfWarm 58 (.ireturn) 1 59 := ⟨by decide +kernel, rfl⟩
theorem x_PP_statusOfWarm_59 : DC b_PP_statusOfWarm 59 (.aload_n 0) 1 60 := ⟨by decide +kernel, rfl⟩
theorem x_PP_statusOfWarm_60 : DC b_PP_statusOfWarm 60 (.getfield 10) 3 63 := ⟨by decide +kernel, rfl⟩
theorem x_PP_statusOfWarm_63 : DC b_PP_statusOfWarm 63 (.iload_n 1) 1 64 := ⟨by decide +kernel, rfl⟩
theorem x_PP_statusOfWarm_64 : DC b_PP_statusOfWarm 64 (.iload_n 3) 1 65 := ⟨by decide +kernel, rfl⟩
theorem x_PP_statusOfWarm_65 : DC b_PP_statusOfWarm 65 (.lconst 0) 1 66 := ⟨by decide +kernel, rfl⟩
theorem x_PP_statusOfWarm_66 : DC b_PP_statusOfWarm 66 (.ldc2_w 417) 3 69 := ⟨by decide +kernel, rfl⟩
theorem x_PP_statusOfWarm_69 : DC b_PP_statusOfWarm 69 (.invokevirtual 419) 3 72 := ⟨by decide +kernel, rfl⟩
theorem x_PP_statusOfWarm_72 : DC b_PP_statusOfWarm 72 (.ifCond .eq 23) 3 75 := ⟨by decide +kernel, rfl⟩
theorem x_PP_statusOfWarm_75 : DC b_PP_statusOfWarm 75 (.aload_n 0) 1 76 := ⟨by decide +kernel, rfl⟩
theorem x_PP_statusOfWarm_76 : DC b_PP_statusOfWarm 76 (.getfield 10) 3 79 := ⟨by decide +kernel, rfl⟩
theorem x_PP_statusOfWarm_79 : DC b_PP_statusOfWarm 79 (.iload_n 2) 1 80 := ⟨by decide +kernel, rfl⟩
theorem x_PP_statusOfWarm_80 : DC b_PP_statusOfWarm 80 (.iload_n 3) 1 81 := ⟨by decide +kernel, rfl⟩
theorem x_PP_statusOfWarm_81 : DC b_PP_statusOfWarm 81 (.lconst 1) 1 82 := ⟨by decide +kernel, rfl⟩
theorem x_PP_statusOfWarm_82 : DC b_PP_statusOfWarm 82 (.ldc2_w 423) 3 85 := ⟨by decide +kernel, rfl⟩
theorem x_PP_statusOfWarm_85 : DC b_PP_statusOfWarm 85 (.invokevirtual 419) 3 88 := ⟨by decide +kernel, rfl⟩
theorem x_PP_statusOfWarm_88 : DC b_PP_statusOfWarm 88 (.ifCond .eq 7) 3 91 := ⟨by decide +kernel, rfl⟩
theorem x_PP_statusOfWarm_91 : DC b_PP_statusOfWarm 91 (.iconst 1) 1 92 := ⟨by decide +kernel, rfl⟩
theorem x_PP_statusOfWarm_92 : DC b_PP_statusOfWarm 92 (.goto 4) 3 95 := ⟨by decide +kernel, rfl⟩
theorem x_PP_statusOfWarm_95 : DC b_PP_statusOfWarm 95 (.iconst 0) 1 96 := ⟨by decide +kernel, rfl⟩
theorem x_PP_statusOfWarm_96 : DC b_PP_statusOfWarm 96 (.istore 5) 2 98 := ⟨by decide +kernel, rfl⟩
theorem x_PP_statusOfWarm_98 : DC b_PP_statusOfWarm 98 (.iload 5) 2 100 := ⟨by decide +kernel, rfl⟩
theorem x_PP_statusOfWarm_100 : DC b_PP_statusOfWarm 100 (.ifCond .eq 7) 3 103 := ⟨by decide +kernel, rfl⟩
theorem x_PP_statusOfWarm_103 : DC b_PP_statusOfWarm 103 (.iconst 0) 1 104 := ⟨by decide +kernel, rfl⟩
theorem x_PP_statusOfWarm_104 : DC b_PP_statusOfWarm 104 (.goto 4) 3 107 := ⟨by decide +kernel, rfl⟩
theorem x_PP_statusOfWarm_107 : DC b_PP_statusOfWarm 107 (.iconst 5) 1 108 := ⟨by decide +kernel, rfl⟩
theorem x_PP_statusOfWarm_108 : DC b_PP_statusOfWarm 108 (.ireturn) 1 109 := ⟨by decide +kernel, rfl⟩
def k_PP_statusOfWarm_96 (s0 : Int) (M : Mem) : Res := if w32 s0 = 0 then (some (5, M)) else (some (0, M))
theorem z_PP_statusOfWarm_96 (C : Cx p s m args meth c G b_PP_statusOfWarm 6 "PrairiePool" (some .int)) (hlev : 3 ≤ lev) {r : Int × Mem}  {s0 : Int} {M : Mem} (h : k_PP_statusOfWarm_96 s0 M = some r) : Z p l e lev s m args below meth c G 6 (MQ below (Qm G 1 r) args s 0 0 (Ab G)) M 96 [] [vi s0] := by
  unfold k_PP_statusOfWarm_96 at h
  refine z_istore (lv' := [(5, vi s0)]) C rfl x_PP_statusOfWarm_96 (i_lt rfl) rfl ?_
  refine z_iload C 0 x_PP_statusOfWarm_98 rfl ?_
  rcases ite_e h with ⟨c1, h⟩ | ⟨c1, h⟩
  · refine z_if_eq_t (tgt := 107) C x_PP_statusOfWarm_100 rfl c1 ?_
    refine z_iconst C x_PP_statusOfWarm_107 ?_
    exact z_iret C x_PP_statusOfWarm_108 h
  · refine z_if_eq_f (tgt := 107) C x_PP_statusOfWarm_100 rfl c1 ?_
    refine z_iconst C x_PP_statusOfWarm_103 ?_
    refine z_goto (tgt := 108) C x_PP_statusOfWarm_104 rfl ?_
    exact z_iret C x_PP_statusOfWarm_108 h
def k_PP_statusOfWarm_95 (M : Mem) : Res := k_PP_statusOfWarm_96 0 M
theorem z_PP_statusOfWarm_95 (C : Cx p s m args meth c G b_PP_statusOfWarm 6 "PrairiePool" (some .int)) (hlev : 3 ≤ lev) {r : Int × Mem}  {M : Mem} (h : k_PP_statusOfWarm_95 M = some r) : Z p l e lev s m args below meth c G 6 (MQ below (Qm G 1 r) args s 0 0 (Ab G)) M 95 [] [] := by
  unfold k_PP_statusOfWarm_95 at h
  refine z_iconst C x_PP_statusOfWarm_95 ?_
  exact z_sub [] rfl (z_PP_statusOfWarm_96 C hlev h)
def d_PP_statusOfWarm (a1 a2 a3 : Int) (M : Mem) : Res := bcall (d_Tr_statusOfTwo a1 a2 M) fun v1 M2 => if w32 v1 = 0 then (bcall (d_PP_isIn a3 1 8 M2) fun v4 M5 => if w32 v4 = 0 then (some (5, M5)) else (chk (0 ≤ w32 a1 ∧ w32 a1 < 4) <| blet (M5 3 (ix a1)) fun v8 => if w32 v8 < w32 a3 then (some (4, M5)) else (chk (0 ≤ w32 a2 ∧ w32 a2 < 4) <| blet (M5 3 (ix a2)) fun v11 => if w32 v11 < w32 a3 then (some (4, M5)) else (bcall (d_Tr_areIn a1 a3 0 20 M5) fun v13 M14 => if w32 v13 = 0 then (k_PP_statusOfWarm_95 M14) else (bcall (d_Tr_areIn a2 a3 1 10000 M14) fun v16 M17 => if w32 v16 = 0 then (k_PP_statusOfWarm_95 M17) else (k_PP_statusOfWarm_96 1 M17)))))) else (some (v1, M2))
theorem t_PP_statusOfWarm (l : Launch) (G : GX) {lev : Nat} (hlev : 3 ≤ lev) {a1 a2 a3 : Int} {M : Mem} {r : Int × Mem} (h : d_PP_statusOfWarm a1 a2 a3 M = some r) : Mt l G y_PP_statusOfWarm b_PP_statusOfWarm 6 (some .int) lev 1 [.ref (G.1 + 0), vi a1, vi a2, vi a3] M r := by
  refine Mt.of (by decide) (i_le rfl) ?_
  intro p e s m args below meth c C
  have C : Cx p s m args meth c G b_PP_statusOfWarm 6 "PrairiePool" (some .int) := C
  unfold d_PP_statusOfWarm at h
  refine z_sub (lv' := [(0, .ref (G.1 + 0)), (1, vi a1), (2, vi a2), (3, vi a3)]) [0, 1, 2, 3] rfl ?_
  refine z_aload_n C 0 x_PP_statusOfWarm_0 rfl ?_
  refine z_getR (j := 1) C x_PP_statusOfWarm_1 nk_0 ck_0 cw_11 (i_lt rfl) rfl rf_0_1 rfl fl_PP_10 ?_
  refine z_iload_n C 1 x_PP_statusOfWarm_4 rfl ?_
  refine z_iload_n C 2 x_PP_statusOfWarm_5 rfl ?_
  obtain ⟨v1, M2, fv1, h⟩ := bcall_e h
  refine z_callVi (k := 1) C x_PP_statusOfWarm_6 cv_PP_111 (t_Tr_statusOfTwo (lev := lev - 1) l G (by omega) fv1) nk_1 ck_1 rfl (by omega) rfl (i_le rfl) rfl ?_
  refine z_istore (lv' := [(4, vi v1), (0, .ref (G.1 + 0)), (1, vi a1), (2, vi a2), (3, vi a3)]) C rfl x_PP_statusOfWarm_9 (i_lt rfl) rfl ?_
  refine z_iload C 0 x_PP_statusOfWarm_11 rfl ?_
  rcases ite_e h with ⟨c3, h⟩ | ⟨c3, h⟩
  · refine z_if_eq_t (tgt := 19) C x_PP_statusOfWarm_13 rfl c3 ?_
    refine z_iload_n C 4 x_PP_statusOfWarm_19 rfl ?_
    refine z_iconst C x_PP_statusOfWarm_20 ?_
    refine z_bipush C rfl x_PP_statusOfWarm_21 ?_
    obtain ⟨v4, M5, fv4, h⟩ := bcall_e h
    refine z_callSi C x_PP_statusOfWarm_23 cs_PP_89 (t_PP_isIn (lev := lev - 1) l G (by omega) fv4) (by omega) rfl (i_le rfl) rfl ?_
    rcases ite_e h with ⟨c6, h⟩ | ⟨c6, h⟩
    · refine z_if_ne_f (tgt := 31) C x_PP_statusOfWarm_26 rfl c6 ?_
      refine z_iconst C x_PP_statusOfWarm_29 ?_
      exact z_iret C x_PP_statusOfWarm_30 h
    · refine z_if_ne_t (tgt := 31) C x_PP_statusOfWarm_26 rfl c6 ?_
      refine z_aload_n C 1 x_PP_statusOfWarm_31 rfl ?_
      refine z_getR (j := 1) C x_PP_statusOfWarm_32 nk_0 ck_0 cw_11 (i_lt rfl) rfl rf_0_1 rfl fl_PP_10 ?_
      refine z_getR (j := 1) C x_PP_statusOfWarm_35 nk_1 ck_1 cw_9 (i_lt rfl) rfl rf_1_1 rfl fl_PP_414 ?_
      refine z_iload_n C 2 x_PP_statusOfWarm_38 rfl ?_
      obtain ⟨c7, h⟩ := chk_e h
      obtain ⟨v8, ev8, h⟩ := blet_e h
      refine z_iald C x_PP_statusOfWarm_39 nk_3 ck_3 c7 ev8 ?_
      refine z_iload_n C 4 x_PP_statusOfWarm_40 rfl ?_
      rcases ite_e h with ⟨c9, h⟩ | ⟨c9, h⟩
      · refine z_icmp_lt_t (tgt := 57) C x_PP_statusOfWarm_41 rfl c9 ?_
        refine z_iconst C x_PP_statusOfWarm_57 ?_
        exact z_iret C x_PP_statusOfWarm_58 h
      · refine z_icmp_lt_f (tgt := 57) C x_PP_statusOfWarm_41 rfl c9 ?_
        refine z_aload_n C 1 x_PP_statusOfWarm_44 rfl ?_
        refine z_getR (j := 1) C x_PP_statusOfWarm_45 nk_0 ck_0 cw_11 (i_lt rfl) rfl rf_0_1 rfl fl_PP_10 ?_
        refine z_getR (j := 1) C x_PP_statusOfWarm_48 nk_1 ck_1 cw_9 (i_lt rfl) rfl rf_1_1 rfl fl_PP_414 ?_
        refine z_iload_n C 3 x_PP_statusOfWarm_51 rfl ?_
        obtain ⟨c10, h⟩ := chk_e h
        obtain ⟨v11, ev11, h⟩ := blet_e h
        refine z_iald C x_PP_statusOfWarm_52 nk_3 ck_3 c10 ev11 ?_
        refine z_iload_n C 4 x_PP_statusOfWarm_53 rfl ?_
        rcases ite_e h with ⟨c12, h⟩ | ⟨c12, h⟩
        · refine z_icmp_ge_f (tgt := 59) C x_PP_statusOfWarm_54 rfl c12 ?_
          refine z_iconst C x_PP_statusOfWarm_57 ?_
          exact z_iret C x_PP_statusOfWarm_58 h
        · refine z_icmp_ge_t (tgt := 59) C x_PP_statusOfWarm_54 rfl c12 ?_
          refine z_aload_n C 1 x_PP_statusOfWarm_59 rfl ?_
          refine z_getR (j := 1) C x_PP_statusOfWarm_60 nk_0 ck_0 cw_11 (i_lt rfl) rfl rf_0_1 rfl fl_PP_10 ?_
          refine z_iload_n C 2 x_PP_statusOfWarm_63 rfl ?_
          refine z_iload_n C 4 x_PP_statusOfWarm_64 rfl ?_
          refine z_lconst0 C x_PP_statusOfWarm_65 ?_
          refine z_ldc2 C kl_PP_417 x_PP_statusOfWarm_66 ?_
          obtain ⟨v13, M14, fv13, h⟩ := bcall_e h
          refine z_callVi (k := 1) C x_PP_statusOfWarm_69 cv_PP_419 (t_Tr_areIn (lev := lev - 1) l G (by omega) fv13) nk_1 ck_1 rfl (by omega) rfl (i_le rfl) rfl ?_
          rcases ite_e h with ⟨c15, h⟩ | ⟨c15, h⟩
          · refine z_if_eq_t (tgt := 95) C x_PP_statusOfWarm_72 rfl c15 ?_
            exact z_sub [] rfl (z_PP_statusOfWarm_95 C hlev h)
          · refine z_if_eq_f (tgt := 95) C x_PP_statusOfWarm_72 rfl c15 ?_
            refine z_aload_n C 1 x_PP_statusOfWarm_75 rfl ?_
            refine z_getR (j := 1) C x_PP_statusOfWarm_76 nk_0 ck_0 cw_11 (i_lt rfl) rfl rf_0_1 rfl fl_PP_10 ?_
            refine z_iload_n C 3 x_PP_statusOfWarm_79 rfl ?_
            refine z_iload_n C 4 x_PP_statusOfWarm_80 rfl ?_
            refine z_lconst1 C x_PP_statusOfWarm_81 ?_
            refine z_ldc2 C kl_PP_423 x_PP_statusOfWarm_82 ?_
            obtain ⟨v16, M17, fv16, h⟩ := bcall_e h
            refine z_callVi (k := 1) C x_PP_statusOfWarm_85 cv_PP_419 (t_Tr_areIn (lev := lev - 1) l G (by omega) fv16) nk_1 ck_1 rfl (by omega) rfl (i_le rfl) rfl ?_
            rcases ite_e h with ⟨c18, h⟩ | ⟨c18, h⟩
            · refine z_if_eq_t (tgt := 95) C x_PP_statusOfWarm_88 rfl c18 ?_
              exact z_sub [] rfl (z_PP_statusOfWarm_95 C hlev h)
            · refine z_if_eq_f (tgt := 95) C x_PP_statusOfWarm_88 rfl c18 ?_
              refine z_iconst C x_PP_statusOfWarm_91 ?_
              refine z_goto (tgt := 96) C x_PP_statusOfWarm_92 rfl ?_
              exact z_sub [] rfl (z_PP_statusOfWarm_96 C hlev h)
  · refine z_if_eq_f (tgt := 19) C x_PP_statusOfWarm_13 rfl c3 ?_
    refine z_iload C 0 x_PP_statusOfWarm_16 rfl ?_
    exact z_iret C x_PP_statusOfWarm_18 h
theorem x_PP_warm_0 : DC b_PP_warm 0 (.aload_n 0) 1 1 := ⟨by decide +kernel, rfl⟩
theorem x_PP_warm_1 : DC b_PP_warm 1 (.aload_n 0) 1 2 := ⟨by decide +kernel, rfl⟩
theorem x_PP_warm_2 : DC b_PP_warm 2 (.iload_n 1) 1 3 := ⟨by decide +kernel, rfl⟩
theorem x_PP_warm_3 : DC b_PP_warm 3 (.iload_n 2) 1 4 := ⟨by decide +kernel, rfl⟩
theorem x_PP_warm_4 : DC b_PP_warm 4 (.iload_n 3) 1 5 := ⟨by decide +kernel, rfl⟩
theorem x_PP_warm_5 : DC b_PP_warm 5 (.invokevirtual 375) 3 8 := ⟨by decide +kernel, rfl⟩
theorem x_PP_warm_8 : DC b_PP_warm 8 (.putfield 85) 3 11 := ⟨by decide +kernel, rfl⟩
theorem x_PP_warm_11 : DC b_PP_warm 11 (.aload_n 0) 1 12 := ⟨by decide +kernel, rfl⟩
theorem x_PP_warm_12 : DC b_PP_warm 12 (.getfield 85) 3 15 := ⟨by decide +kernel, rfl⟩
theorem x_PP_warm_15 : DC b_PP_warm 15 (.ifCond .eq 5) 3 18 := ⟨by decide +kernel, rfl⟩
theorem x_PP_warm_18 : DC b_PP_warm 18 (.iconst (-1)) 1 19 := ⟨by decide +kernel, rfl⟩
theorem x_PP_warm_19 : DC b_PP_warm 19 (.ireturn) 1 20 := ⟨by decide +kernel, rfl⟩
theorem x_PP_warm_20 : DC b_PP_warm 20 (.iconst 0) 1 21 := ⟨by decide +kernel, rfl⟩
theorem x_PP_warm_21 : DC b_PP_warm 21 (.istore 4) 2 23 := ⟨by decide +kernel, rfl⟩
theorem x_PP_warm_23 : DC b_PP_warm 23 (.iload 4) 2 25 := ⟨by decide +kernel, rfl⟩
theorem x_PP_warm_25 : DC b_PP_warm 25 (.iload_n 3) 1 26 := ⟨by decide +kernel, rfl⟩
theorem x_PP_warm_26 : DC b_PP_warm 26 (.if_icmp .ge 51) 3 29 := ⟨by decide +kernel, rfl⟩
theorem x_PP_warm_29 : DC b_PP_warm 29 (.aload_n 0) 1 30 := ⟨by decide +kernel, rfl⟩
theorem x_PP_warm_30 : DC b_PP_warm 30 (.getfield 47) 3 33 := ⟨by decide +kernel, rfl⟩
theorem x_PP_warm_33 : DC b_PP_warm 33 (.getfield 378) 3 36 := ⟨by decide +kernel, rfl⟩
theorem x_PP_warm_36 : DC b_PP_warm 36 (.iload 4) 2 38 := ⟨by decide +kernel, rfl⟩
theorem x_PP_warm_38 : DC b_PP_warm 38 (.aload_n 0) 1 39 := ⟨by decide +kernel, rfl⟩
theorem x_PP_warm_39 : DC b_PP_warm 39 (.getfield 10) 3 42 := ⟨by decide +kernel, rfl⟩
theorem x_PP_warm_42 : DC b_PP_warm 42 (.iload_n 1) 1 43 := ⟨by decide +kernel, rfl⟩
theorem x_PP_warm_43 : DC b_PP_warm 43 (.iload 4) 2 45 := ⟨by decide +kernel, rfl⟩
theorem x_PP_warm_45 : DC b_PP_warm 45 (.invokevirtual 107) 3 48 := ⟨by decide +kernel, rfl⟩
theorem x_PP_warm_48 : DC b_PP_warm 48 (.l2i) 1 49 := ⟨by decide +kernel, rfl⟩
theorem x_PP_warm_49 : DC b_PP_warm 49 (.iastore) 1 50 := ⟨by decide +kernel, rfl⟩
theorem x_PP_warm_50 : DC b_PP_warm 50 (.aload_n 0) 1 51 := ⟨by decide +kernel, rfl⟩
theorem x_PP_warm_51 : DC b_PP_warm 51 (.getfield 47) 3 54 := ⟨by decide +kernel, rfl⟩
theorem x_PP_warm_54 : DC b_PP_warm 54 (.getfield 381) 3 57 := ⟨by decide +kernel, rfl⟩
theorem x_PP_warm_57 : DC b_PP_warm 57 (.iload 4) 2 59 := ⟨by decide +kernel, rfl⟩
theorem x_PP_warm_59 : DC b_PP_warm 59 (.aload_n 0) 1 60 := ⟨by decide +kernel, rfl⟩
theorem x_PP_warm_60 : DC b_PP_warm 60 (.getfield 10) 3 63 := ⟨by decide +kernel, rfl⟩
theorem x_PP_warm_63 : DC b_PP_warm 63 (.iload_n 2) 1 64 := ⟨by decide +kernel, rfl⟩
theorem x_PP_warm_64 : DC b_PP_warm 64 (.iload 4) 2 66 := ⟨by decide +kernel, rfl⟩
theorem x_PP_warm_66 : DC b_PP_warm 66 (.invokevirtual 107) 3 69 := ⟨by decide +kernel, rfl⟩
theorem x_PP_warm_69 : DC b_PP_warm 69 (.l2i) 1 70 := ⟨by decide +kernel, rfl⟩
theorem x_PP_warm_70 : DC b_PP_warm 70 (.iastore) 1 71 := ⟨by decide +kernel, rfl⟩
theorem x_PP_warm_71 : DC b_PP_warm 71 (.iinc 4 1) 3 74 := ⟨by decide +kernel, rfl⟩
theorem x_PP_warm_74 : DC b_PP_warm 74 (.goto (-51)) 3 77 := ⟨by decide +kernel, rfl⟩
theorem x_PP_warm_77 : DC b_PP_warm 77 (.aload_n 0) 1 78 := ⟨by decide +kernel, rfl⟩
theorem x_PP_warm_78 : DC b_PP_warm 78 (.getfield 47) 3 81 := ⟨by decide +kernel, rfl⟩
theorem x_PP_warm_81 : DC b_PP_warm 81 (.iload_n 3) 1 82 := ⟨by decide +kernel, rfl⟩
theorem x_PP_warm_82 : DC b_PP_warm 82 (.invokevirtual 382) 3 85 := ⟨by decide +kernel, rfl⟩
theorem x_PP_warm_85 : DC b_PP_warm 85 (.ireturn) 1 86 := ⟨by decide +kernel, rfl⟩
def k_PP_warm_23 (R23 : Int → Int → Int → Int → Mem → Res) (a1 a2 a3 a4 : Int) (M : Mem) : Res := if w32 a4 < w32 a3 then (bcall (d_Tr_get a1 a4 M) fun v2 M3 => chk (0 ≤ w32 a4 ∧ w32 a4 < 8) <| blet (sto M3 63 (ix a4) v2) fun M5 => bcall (d_Tr_get a2 a4 M5) fun v6 M7 => chk (0 ≤ w32 a4 ∧ w32 a4 < 8) <| blet (sto M7 64 (ix a4) v6) fun M9 => blet (a4 + 1) fun v10 => R23 a1 a2 a3 v10 M9) else (bcall (d_Ya_planTurning a3 M) fun v11 M12 => some (v11, M12))
theorem z_PP_warm_23 (C : Cx p s m args meth c G b_PP_warm 5 "PrairiePool" (some .int)) (hlev : 4 ≤ lev) {r : Int × Mem} {R23 : Int → Int → Int → Int → Mem → Res} (hR23 : ∀ (a1 a2 a3 a4 : Int) (M : Mem), R23 a1 a2 a3 a4 M = some r → Z p l e lev s m args below meth c G 5 (MQ below (Qm G 1 r) args s 0 0 (Ab G)) M 23 [(0, .ref (G.1 + 0)), (1, vi a1), (2, vi a2), (3, vi a3), (4, vi a4)] []) {a1 a2 a3 a4 : Int} {M : Mem} (h : k_PP_warm_23 R23 a1 a2 a3 a4 M = some r) : Z p l e lev s m args below meth c G 5 (MQ below (Qm G 1 r) args s 0 0 (Ab G)) M 23 [(0, .ref (G.1 + 0)), (1, vi a1), (2, vi a2), (3, vi a3), (4, vi a4)] [] := by
  unfold k_PP_warm_23 at h
  refine z_iload C 4 x_PP_warm_23 rfl ?_
  refine z_iload_n C 3 x_PP_warm_25 rfl ?_
  rcases ite_e h with ⟨c1, h⟩ | ⟨c1, h⟩
  · refine z_icmp_ge_f (tgt := 77) C x_PP_warm_26 rfl c1 ?_
    refine z_aload_n C 0 x_PP_warm_29 rfl ?_
    refine z_getR (j := 6) C x_PP_warm_30 nk_0 ck_0 cw_11 (i_lt rfl) rfl rf_0_6 rfl fl_PP_47 ?_
    refine z_getR (j := 0) C x_PP_warm_33 nk_62 ck_62 cw_10 (i_lt rfl) rfl rf_62_0 rfl fl_PP_378 ?_
    refine z_iload C 4 x_PP_warm_36 rfl ?_
    refine z_aload_n C 0 x_PP_warm_38 rfl ?_
    refine z_getR (j := 1) C x_PP_warm_39 nk_0 ck_0 cw_11 (i_lt rfl) rfl rf_0_1 rfl fl_PP_10 ?_
    refine z_iload_n C 1 x_PP_warm_42 rfl ?_
    refine z_iload C 4 x_PP_warm_43 rfl ?_
    obtain ⟨v2, M3, fv2, h⟩ := bcall_e h
    refine z_callVl (k := 1) C x_PP_warm_45 cv_PP_107 (t_Tr_get (lev := lev - 1) l G (by omega) fv2) nk_1 ck_1 rfl (by omega) rfl (i_le rfl) rfl ?_
    refine z_l2i C x_PP_warm_48 ?_
    obtain ⟨c4, h⟩ := chk_e h
    obtain ⟨M5, eM5, h⟩ := blet_e h
    refine z_iast C x_PP_warm_49 nk_63 ck_63 c4 eM5 ?_
    refine z_aload_n C 0 x_PP_warm_50 rfl ?_
    refine z_getR (j := 6) C x_PP_warm_51 nk_0 ck_0 cw_11 (i_lt rfl) rfl rf_0_6 rfl fl_PP_47 ?_
    refine z_getR (j := 1) C x_PP_warm_54 nk_62 ck_62 cw_10 (i_lt rfl) rfl rf_62_1 rfl fl_PP_381 ?_
    refine z_iload C 4 x_PP_warm_57 rfl ?_
    refine z_aload_n C 0 x_PP_warm_59 rfl ?_
    refine z_getR (j := 1) C x_PP_warm_60 nk_0 ck_0 cw_11 (i_lt rfl) rfl rf_0_1 rfl fl_PP_10 ?_
    refine z_iload_n C 2 x_PP_warm_63 rfl ?_
    refine z_iload C 4 x_PP_warm_64 rfl ?_
    obtain ⟨v6, M7, fv6, h⟩ := bcall_e h
    refine z_callVl (k := 1) C x_PP_warm_66 cv_PP_107 (t_Tr_get (lev := lev - 1) l G (by omega) fv6) nk_1 ck_1 rfl (by omega) rfl (i_le rfl) rfl ?_
    refine z_l2i C x_PP_warm_69 ?_
    obtain ⟨c8, h⟩ := chk_e h
    obtain ⟨M9, eM9, h⟩ := blet_e h
    refine z_iast C x_PP_warm_70 nk_64 ck_64 c8 eM9 ?_
    obtain ⟨v10, ev10, h⟩ := blet_e h
    refine z_iinc (lv' := [(4, vi v10), (0, .ref (G.1 + 0)), (1, vi a1), (2, vi a2), (3, vi a3)]) C 4 ev10 x_PP_warm_71 rfl (i_lt rfl) rfl ?_
    refine z_goto (tgt := 23) C x_PP_warm_74 rfl ?_
    exact z_sub [1, 2, 3, 4, 0] rfl (hR23 a1 a2 a3 v10 M9 h)
  · refine z_icmp_ge_t (tgt := 77) C x_PP_warm_26 rfl c1 ?_
    refine z_aload_n C 0 x_PP_warm_77 rfl ?_
    refine z_getR (j := 6) C x_PP_warm_78 nk_0 ck_0 cw_11 (i_lt rfl) rfl rf_0_6 rfl fl_PP_47 ?_
    refine z_iload_n C 3 x_PP_warm_81 rfl ?_
    obtain ⟨v11, M12, fv11, h⟩ := bcall_e h
    refine z_callVi (k := 62) C x_PP_warm_82 cv_PP_382 (t_Ya_planTurning (lev := lev - 1) l G (by omega) fv11) nk_62 ck_62 rfl (by omega) rfl (i_le rfl) rfl ?_
    exact z_iret C x_PP_warm_85 h
theorem zl_PP_warm_23 (C : Cx p s m args meth c G b_PP_warm 5 "PrairiePool" (some .int)) (hlev : 4 ≤ lev) {r : Int × Mem}  : ∀ (n : Nat) (a1 a2 a3 a4 : Int) (M : Mem), fix (fun _ _ _ _ _ => none) (k_PP_warm_23) n a1 a2 a3 a4 M = some r → Z p l e lev s m args below meth c G 5 (MQ below (Qm G 1 r) args s 0 0 (Ab G)) M 23 [(0, .ref (G.1 + 0)), (1, vi a1), (2, vi a2), (3, vi a3), (4, vi a4)] [] := by
  intro n
  induction n with
  | zero => intro a1 a2 a3 a4 M h; exact nomatch (show (none : Res) = some r from h)
  | succ n ih => intro a1 a2 a3 a4 M h; exact z_PP_warm_23 C hlev ih h
def d_PP_warm (a1 a2 a3 : Int) (M : Mem) : Res := bcall (d_PP_statusOfWarm a1 a2 a3 M) fun v1 M2 => blet (sto M2 0 0 v1) fun M3 => blet (M3 0 0) fun v4 => if w32 v4 = 0 then (fix (fun _ _ _ _ _ => none) (k_PP_warm_23) FU a1 a2 a3 0 M3) else (some ((-1), M3))
theorem t_PP_warm (l : Launch) (G : GX) {lev : Nat} (hlev : 4 ≤ lev) {a1 a2 a3 : Int} {M : Mem} {r : Int × Mem} (h : d_PP_warm a1 a2 a3 M = some r) : Mt l G y_PP_warm b_PP_warm 5 (some .int) lev 1 [.ref (G.1 + 0), vi a1, vi a2, vi a3] M r := by
  refine Mt.of (by decide) (i_le rfl) ?_
  intro p e s m args below meth c C
  have C : Cx p s m args meth c G b_PP_warm 5 "PrairiePool" (some .int) := C
  unfold d_PP_warm at h
  refine z_sub (lv' := [(0, .ref (G.1 + 0)), (1, vi a1), (2, vi a2), (3, vi a3)]) [0, 1, 2, 3] rfl ?_
  refine z_aload_n C 0 x_PP_warm_0 rfl ?_
  refine z_aload_n C 0 x_PP_warm_1 rfl ?_
  refine z_iload_n C 1 x_PP_warm_2 rfl ?_
  refine z_iload_n C 2 x_PP_warm_3 rfl ?_
  refine z_iload_n C 3 x_PP_warm_4 rfl ?_
  obtain ⟨v1, M2, fv1, h⟩ := bcall_e h
  refine z_callVi (k := 0) C x_PP_warm_5 cv_PP_375 (t_PP_statusOfWarm (lev := lev - 1) l G (by omega) fv1) nk_0 ck_0 rfl (by omega) rfl (i_le rfl) rfl ?_
  obtain ⟨M3, eM3, h⟩ := blet_e h
  refine z_putI (j := 0) C x_PP_warm_8 nk_0 ck_0 cw_11 (i_lt rfl) rfl rfl rfl rfl fl_PP_85 eM3 ?_
  refine z_aload_n C 0 x_PP_warm_11 rfl ?_
  obtain ⟨v4, ev4, h⟩ := blet_e h
  refine z_getI (j := 0) C x_PP_warm_12 nk_0 ck_0 cw_11 (i_lt rfl) rfl rfl fl_PP_85 ev4 ?_
  rcases ite_e h with ⟨c5, h⟩ | ⟨c5, h⟩
  · refine z_if_eq_t (tgt := 20) C x_PP_warm_15 rfl c5 ?_
    refine z_iconst C x_PP_warm_20 ?_
    refine z_istore (lv' := [(4, vi 0), (0, .ref (G.1 + 0)), (1, vi a1), (2, vi a2), (3, vi a3)]) C rfl x_PP_warm_21 (i_lt rfl) rfl ?_
    exact z_sub [1, 2, 3, 4, 0] rfl (zl_PP_warm_23 C hlev FU a1 a2 a3 0 M3 h)
  · refine z_if_eq_f (tgt := 20) C x_PP_warm_15 rfl c5 ?_
    refine z_iconst C x_PP_warm_18 ?_
    exact z_iret C x_PP_warm_19 h
theorem x_PP_turned_0 : DC b_PP_turned 0 (.aload_n 0) 1 1 := ⟨by decide +kernel, rfl⟩
theorem x_PP_turned_1 : DC b_PP_turned 1 (.aload_n 0) 1 2 := ⟨by decide +kernel, rfl⟩
theorem x_PP_turned_2 : DC b_PP_turned 2 (.getfield 47) 3 5 := ⟨by decide +kernel, rfl⟩
theorem x_PP_turned_5 : DC b_PP_turned 5 (.getfield 385) 3 8 := ⟨by decide +kernel, rfl⟩
theorem x_PP_turned_8 : DC b_PP_turned 8 (.ifCond .eq 17) 3 11 := ⟨by decide +kernel, rfl⟩
theorem x_PP_turned_11 : DC b_PP_turned 11 (.iload_n 1) 1 12 := ⟨by decide +kernel, rfl⟩
theorem x_PP_turned_12 : DC b_PP_turned 12 (.iconst 0) 1 13 := ⟨by decide +kernel, rfl⟩
theorem x_PP_turned_13 : DC b_PP_turned 13 (.bipush 19) 2 15 := ⟨by decide +kernel, rfl⟩
theorem x_PP_turned_15 : DC b_PP_turned 15 (.invokestatic 89) 3 18 := ⟨by decide +kernel, rfl⟩
theorem x_PP_turned_18 : DC b_PP_turned 18 (.ifCond .eq 7) 3 21 := ⟨by decide +kernel, rfl⟩
theorem x_PP_turned_21 : DC b_PP_turned 21 (.iconst 0) 1 22 := ⟨by decide +kernel, rfl⟩
theorem x_PP_turned_22 : DC b_PP_turned 22 (.goto 5) 3 25 := ⟨by decide +kernel, rfl⟩
theorem x_PP_turned_25 : DC b_PP_turned 25 (.bipush 8) 2 27 := ⟨by decide +kernel, rfl⟩
theorem x_PP_turned_27 : DC b_PP_turned 27 (.putfield 85) 3 30 := ⟨by decide +kernel, rfl⟩
theorem x_PP_turned_30 : DC b_PP_turned 30 (.aload_n 0) 1 31 := ⟨by decide +kernel, rfl⟩
theorem x_PP_turned_31 : DC b_PP_turned 31 (.getfield 85) 3 34 := ⟨by decide +kernel, rfl⟩
theorem x_PP_turned_34 : DC b_PP_turned 34 (.ifCond .eq 7) 3 37 := ⟨by decide +kernel, rfl⟩
theorem x_PP_turned_37 : DC b_PP_turned 37 (.iconst (-1)) 1 38 := ⟨by decide +kernel, rfl⟩
theorem x_PP_turned_38 : DC b_PP_turned 38 (.goto 12) 3 41 := ⟨by decide +kernel, rfl⟩
theorem x_PP_turned_41 : DC b_PP_turned 41 (.aload_n 0) 1 42 := ⟨by decide +kernel, rfl⟩
theorem x_PP_turned_42 : DC b_PP_turned 42 (.getfield 47) 3 45 := ⟨by decide +kernel, rfl⟩
theorem x_PP_turned_45 : DC b_PP_turned 45 (.getfield 389) 3 48 := ⟨by decide +kernel, rfl⟩
theorem x_PP_turned_48 : DC b_PP_turned 48 (.iload_n 1) 1 49 := ⟨by decide +kernel, rfl⟩
theorem x_PP_turned_49 : DC b_PP_turned 49 (.iaload) 1 50 := ⟨by decide +kernel, rfl⟩
theorem x_PP_turned_50 : DC b_PP_turned 50 (.ireturn) 1 51 := ⟨by decide +kernel, rfl⟩
def k_PP_turned_27 (a1 s1 : Int) (M : Mem) : Res := blet (sto M 0 0 s1) fun M1 => blet (M1 0 0) fun v2 => if w32 v2 = 0 then (chk (0 ≤ w32 a1 ∧ w32 a1 < 20) <| blet (M1 65 (ix a1)) fun v5 => some (v5, M1)) else (some ((-1), M1))
theorem z_PP_turned_27 (C : Cx p s m args meth c G b_PP_turned 2 "PrairiePool" (some .int)) (hlev : 1 ≤ lev) {r : Int × Mem}  {a1 s1 : Int} {M : Mem} (h : k_PP_turned_27 a1 s1 M = some r) : Z p l e lev s m args below meth c G 2 (MQ below (Qm G 1 r) args s 0 0 (Ab G)) M 27 [(0, .ref (G.1 + 0)), (1, vi a1)] [vi s1, .ref (G.1 + 0)] := by
  unfold k_PP_turned_27 at h
  obtain ⟨M1, eM1, h⟩ := blet_e h
  refine z_putI (j := 0) C x_PP_turned_27 nk_0 ck_0 cw_11 (i_lt rfl) rfl rfl rfl rfl fl_PP_85 eM1 ?_
  refine z_aload_n C 0 x_PP_turned_30 rfl ?_
  obtain ⟨v2, ev2, h⟩ := blet_e h
  refine z_getI (j := 0) C x_PP_turned_31 nk_0 ck_0 cw_11 (i_lt rfl) rfl rfl fl_PP_85 ev2 ?_
  rcases ite_e h with ⟨c3, h⟩ | ⟨c3, h⟩
  · refine z_if_eq_t (tgt := 41) C x_PP_turned_34 rfl c3 ?_
    refine z_aload_n C 0 x_PP_turned_41 rfl ?_
    refine z_getR (j := 6) C x_PP_turned_42 nk_0 ck_0 cw_11 (i_lt rfl) rfl rf_0_6 rfl fl_PP_47 ?_
    refine z_getR (j := 3) C x_PP_turned_45 nk_62 ck_62 cw_10 (i_lt rfl) rfl rf_62_3 rfl fl_PP_389 ?_
    refine z_iload_n C 1 x_PP_turned_48 rfl ?_
    obtain ⟨c4, h⟩ := chk_e h
    obtain ⟨v5, ev5, h⟩ := blet_e h
    refine z_iald C x_PP_turned_49 nk_65 ck_65 c4 ev5 ?_
    exact z_iret C x_PP_turned_50 h
  · refine z_if_eq_f (tgt := 41) C x_PP_turned_34 rfl c3 ?_
    refine z_iconst C x_PP_turned_37 ?_
    refine z_goto (tgt := 50) C x_PP_turned_38 rfl ?_
    exact z_iret C x_PP_turned_50 h
def k_PP_turned_25 (a1 : Int) (M : Mem) : Res := k_PP_turned_27 a1 8 M
theorem z_PP_turned_25 (C : Cx p s m args meth c G b_PP_turned 2 "PrairiePool" (some .int)) (hlev : 1 ≤ lev) {r : Int × Mem}  {a1 : Int} {M : Mem} (h : k_PP_turned_25 a1 M = some r) : Z p l e lev s m args below meth c G 2 (MQ below (Qm G 1 r) args s 0 0 (Ab G)) M 25 [(0, .ref (G.1 + 0)), (1, vi a1)] [.ref (G.1 + 0)] := by
  unfold k_PP_turned_25 at h
  refine z_bipush C rfl x_PP_turned_25 ?_
  exact z_sub [0, 1] rfl (z_PP_turned_27 C hlev h)
def d_PP_turned (a1 : Int) (M : Mem) : Res := blet (M 62 2) fun v1 => if w32 v1 = 0 then (k_PP_turned_25 a1 M) else (bcall (d_PP_isIn a1 0 19 M) fun v3 M4 => if w32 v3 = 0 then (k_PP_turned_25 a1 M4) else (k_PP_turned_27 a1 0 M4))
theorem t_PP_turned (l : Launch) (G : GX) {lev : Nat} (hlev : 1 ≤ lev) {a1 : Int} {M : Mem} {r : Int × Mem} (h : d_PP_turned a1 M = some r) : Mt l G y_PP_turned b_PP_turned 2 (some .int) lev 1 [.ref (G.1 + 0), vi a1] M r := by
  refine Mt.of (by decide) (i_le rfl) ?_
  intro p e s m args below meth c C
  have C : Cx p s m args meth c G b_PP_turned 2 "PrairiePool" (some .int) := C
  unfold d_PP_turned at h
  refine z_sub (lv' := [(0, .ref (G.1 + 0)), (1, vi a1)]) [0, 1] rfl ?_
  refine z_aload_n C 0 x_PP_turned_0 rfl ?_
  refine z_aload_n C 0 x_PP_turned_1 rfl ?_
  refine z_getR (j := 6) C x_PP_turned_2 nk_0 ck_0 cw_11 (i_lt rfl) rfl rf_0_6 rfl fl_PP_47 ?_
  obtain ⟨v1, ev1, h⟩ := blet_e h
  refine z_getI (j := 2) C x_PP_turned_5 nk_62 ck_62 cw_10 (i_lt rfl) rfl rfl fl_PP_385 ev1 ?_
  rcases ite_e h with ⟨c2, h⟩ | ⟨c2, h⟩
  · refine z_if_eq_t (tgt := 25) C x_PP_turned_8 rfl c2 ?_
    exact z_sub [0, 1] rfl (z_PP_turned_25 C hlev h)
  · refine z_if_eq_f (tgt := 25) C x_PP_turned_8 rfl c2 ?_
    refine z_iload_n C 1 x_PP_turned_11 rfl ?_
    refine z_iconst C x_PP_turned_12 ?_
    refine z_bipush C rfl x_PP_turned_13 ?_
    obtain ⟨v3, M4, fv3, h⟩ := bcall_e h
    refine z_callSi C x_PP_turned_15 cs_PP_89 (t_PP_isIn (lev := lev - 1) l G (by omega) fv3) (by omega) rfl (i_le rfl) rfl ?_
    rcases ite_e h with ⟨c5, h⟩ | ⟨c5, h⟩
    · refine z_if_eq_t (tgt := 25) C x_PP_turned_18 rfl c5 ?_
      exact z_sub [0, 1] rfl (z_PP_turned_25 C hlev h)
    · refine z_if_eq_f (tgt := 25) C x_PP_turned_18 rfl c5 ?_
      refine z_iconst C x_PP_turned_21 ?_
      refine z_goto (tgt := 27) C x_PP_turned_22 rfl ?_
      exact z_sub [0, 1] rfl (z_PP_turned_27 C hlev h)
theorem x_PP_statusOfSend_0 : DC b_PP_statusOfSend 0 (.aload_n 0) 1 1 := ⟨by decide +kernel, rfl⟩
theorem x_PP_statusOfSend_1 : DC b_PP_statusOfSend 1 (.getfield 10) 3 4 := ⟨by decide +kernel, rfl⟩
theorem x_PP_statusOfSend_4 : DC b_PP_statusOfSend 4 (.iload_n 1) 1 5 := ⟨by decide +kernel, rfl⟩
theorem x_PP_statusOfSend_5 : DC b_PP_statusOfSend 5 (.iload_n 3) 1 6 := ⟨by decide +kernel, rfl⟩
theorem x_PP_statusOfSend_6 : DC b_PP_statusOfSend 6 (.iload 5) 2 8 := ⟨by decide +kernel, rfl⟩
theorem x_PP_statusOfSend_8 : DC b_PP_statusOfSend 8 (.invokevirtual 425) 3 11 := ⟨by decide +kernel, rfl⟩
theorem x_PP_statusOfSend_11 : DC b_PP_statusOfSend 11 (.istore 6) 2 13 := ⟨by decide +kernel, rfl⟩
theorem x_PP_statusOfSend_13 : DC b_PP_statusOfSend 13 (.iload 6) 2 15 := ⟨by decide +kernel, rfl⟩
theorem x_PP_statusOfSend_15 : DC b_PP_statusOfSend 15 (.ifCond .eq 6) 3 18 := ⟨by decide +kernel, rfl⟩
theorem x_PP_statusOfSend_18 : DC b_PP_statusOfSend 18 (.iload 6) 2 20 := ⟨by decide +kernel, rfl⟩
theorem x_PP_statusOfSend_20 : DC b_PP_statusOfSend 20 (.ireturn) 1 21 := ⟨by decide +kernel, rfl⟩
theorem x_PP_statusOfSend_21 : DC b_PP_statusOfSend 21 (.iload_n 2) 1 22 := ⟨by decide +kernel, rfl⟩
theorem x_PP_statusOfSend_22 : DC b_PP_statusOfSend 22 (.iconst 1) 1 23 := ⟨by decide +kernel, rfl⟩
theorem x_PP_statusOfSend_23 : DC b_PP_statusOfSend 23 (.iconst 5) 1 24 := ⟨by decide +kernel, rfl⟩
theorem x_PP_statusOfSend_24 : DC b_PP_statusOfSend 24 (.invokestatic 89) 3 27 := ⟨by decide +kernel, rfl⟩
theorem x_PP_statusOfSend_27 : DC b_PP_statusOfSend 27 (.ifCond .eq 13) 3 30 := ⟨by decide +kernel, rfl⟩
theorem x_PP_statusOfSend_30 : DC b_PP_statusOfSend 30 (.iload 4) 2 32 := ⟨by decide +kernel, rfl⟩
theorem x_PP_statusOfSend_32 : DC b_PP_statusOfSend 32 (.iconst 1) 1 33 := ⟨by decide +kernel, rfl⟩
theorem x_PP_statusOfSend_33 : DC b_PP_statusOfSend 33 (.iconst 4) 1 34 := ⟨by decide +kernel, rfl⟩
theorem x_PP_statusOfSend_34 : DC b_PP_statusOfSend 34 (.invokestatic 89) 3 37 := ⟨by decide +kernel, rfl⟩
theorem x_PP_statusOfSend_37 : DC b_PP_statusOfSend 37 (.ifCond .ne 5) 3 40 := ⟨by decide +kernel, rfl⟩
theorem x_PP_statusOfSend_40 : DC b_PP_statusOfSend 40 (.iconst 5) 1 41 := ⟨by decide +kernel, rfl⟩
theorem x_PP_statusOfSend_41 : DC b_PP_statusOfSend 41 (.ireturn) 1 42 := ⟨by decide +kernel, rfl⟩
theorem x_PP_statusOfSend_42 : DC b_PP_statusOfSend 42 (.aload_n 0) 1 43 := ⟨by decide +kernel, rfl⟩
theorem x_PP_statusOfSend_43 : DC b_PP_statusOfSend 43 (.getfield 10) 3 46 := ⟨by decide +kernel, rfl⟩
theorem x_PP_statusOfSend_46 : DC b_PP_statusOfSend 46 (.getfield 414) 3 49 := ⟨by decide +kernel, rfl⟩
theorem x_PP_statusOfSend_49 : DC b_PP_statusOfSend 49 (.iload_n 1) 1 50 := ⟨by decide +kernel, rfl⟩
theorem x_PP_statusOfSend_50 : DC b_PP_statusOfSend 50 (.iaload) 1 51 := ⟨by decide +kernel, rfl⟩
theorem x_PP_statusOfSend_51 : DC b_PP_statusOfSend 51 (.iload_n 2) 1 52 := ⟨by decide +kernel, rfl⟩
theorem x_PP_statusOfSend_52 : DC b_PP_statusOfSend 52 (.if_icmp .lt 34) 3 55 := ⟨by decide +kernel, rfl⟩
theorem x_PP_statusOfSend_55 : DC b_PP_statusOfSend 55 (.aload_n 0) 1 56 := ⟨by decide +kernel, rfl⟩
theorem x_PP_statusOfSend_56 : DC b_PP_statusOfSend 56 (.getfield 10) 3 59 := ⟨by decide +kernel, rfl⟩
theorem x_PP_statusOfSend_59 : DC b_PP_statusOfSend 59 (.getfield 414) 3 62 := ⟨by decide +kernel, rfl⟩
theorem x_PP_statusOfSend_62 : DC b_PP_statusOfSend 62 (.iload_n 3) 1 63 := ⟨by decide +kernel, rfl⟩
theorem x_PP_statusOfSend_63 : DC b_PP_statusOfSend 63 (.iaload) 1 64 := ⟨by decide +kernel, rfl⟩
theorem x_PP_statusOfSend_64 : DC b_PP_statusOfSend 64 (.iload 4) 2 66 := ⟨by decide +kernel, rfl⟩
theorem x_PP_statusOfSend_66 : DC b_PP_statusOfSend 66 (.if_icmp .lt 20) 3 69 := ⟨by decide +kernel, rfl⟩
theorem x_PP_statusOfSend_69 : DC b_PP_statusOfSend 69 (.aload_n 0) 1 70 := ⟨by decide +kernel, rfl⟩
theorem x_PP_statusOfSend_70 : DC b_PP_statusOfSend 70 (.getfield 10) 3 73 := ⟨by decide +kernel, rfl⟩
theorem x_PP_statusOfSend_73 : DC b_PP_statusOfSend 73 (.getfield 414) 3 76 := ⟨by decide +kernel, rfl⟩
theorem x_PP_statusOfSend_76 : DC b_PP_statusOfSend 76 (.iload 5) 2 78 := ⟨by decide +kernel, rfl⟩
theorem x_PP_statusOfSend_78 : DC b_PP_statusOfSend 78 (.iaload) 1 79 := ⟨by decide +kernel, rfl⟩
theorem x_PP_statusOfSend_79 : DC b_PP_statusOfSend 79 (.iload_n 2) 1 80 := ⟨by decide +kernel, rfl⟩
theorem x_PP_statusOfSend_80 : DC b_PP_statusOfSend 80 (.iload 4) 2 82 := ⟨by decide +kernel, rfl⟩
theorem x_PP_statusOfSend_82 : DC b_PP_statusOfSend 82 (.imul) 1 83 := ⟨by decide +kernel, rfl⟩
theorem x_PP_statusOfSend_83 : DC b_PP_statusOfSend 83 (.if_icmp .ge 5) 3 86 := ⟨by decide +kernel, rfl⟩
theorem x_PP_statusOfSend_86 : DC b_PP_statusOfSend 86 (.iconst 4) 1 87 := ⟨by decide +kernel, rfl⟩
theorem x_PP_statusOfSend_87 : DC b_PP_statusOfSend 87 (.ireturn) 1 88 := ⟨by decide +kernel, rfl⟩
theorem x_PP_statusOfSend_88 : DC b_PP_statusOfSend 88 (.aload_n 0) 1 89 := ⟨by decide +kernel, rfl⟩
theorem x_PP_statusOfSend_89 : DC b_PP_statusOfSend 89 (.getfield 10) 3 92 := ⟨by decide +kernel, rfl⟩
theorem x_PP_statusOfSend_92 : DC b_PP_statusOfSend 92 (.iload_n 1) 1 93 := ⟨by decide +kernel, rfl⟩
theorem x_PP_statusOfSend_93 : DC b_PP_statusOfSend 93 (.iload_n 2) 1 94 := ⟨by decide +kernel, rfl⟩
theorem x_PP_statusOfSend_94 : DC b_PP_statusOfSend 94 (.lconst 0) 1 95 := ⟨by decide +kernel, rfl⟩
theorem x_PP_statusOfSend_95 : DC b_PP_statusOfSend 95 (.ldc2_w 428) 3 98 := ⟨by decide +kernel, rfl⟩
theorem x_PP_statusOfSend_98 : DC b_PP_statusOfSend 98 (.invokevirtual 419) 3 101 := ⟨by decide +kernel, rfl⟩
theorem x_PP_statusOfSend_101 : DC b_PP_statusOfSend 101 (.ifCond .eq 44) 3 104 := ⟨by decide +kernel, rfl⟩
theorem x_PP_statusOfSend_104 : DC b_PP_statusOfSend 104 (.aload_n 0) 1 105 := ⟨by decide +kernel, rfl⟩
theorem x_PP_statusOfSend_105 : DC b_PP_statusOfSend 105 (.getfield 10) 3 108 := ⟨by decide +kernel, rfl⟩
theorem x_PP_statusOfSend_108 : DC b_PP_statusOfSend 108 (.iload_n 3) 1 109 := ⟨by decide +kernel, rfl⟩
theorem x_PP_statusOfSend_109 : DC b_PP_statusOfSend 109 (.iload 4) 2 111 := ⟨by decide +kernel, rfl⟩
theorem x_PP_statusOfSend_111 : DC b_PP_statusOfSend 111 (.lconst 0) 1 112 := ⟨by decide +kernel, rfl⟩
theorem x_PP_statusOfSend_112 : DC b_PP_statusOfSend 112 (.ldc2_w 428) 3 115 := ⟨by decide +kernel, rfl⟩
theorem x_PP_statusOfSend_115 : DC b_PP_statusOfSend 115 (.invokevirtual 419) 3 118 := ⟨by decide +kernel, rfl⟩
theorem x_PP_statusOfSend_118 : DC b_PP_statusOfSend 118 (.ifCond .eq 27) 3 121 := ⟨by decide +kernel, rfl⟩
theorem x_PP_statusOfSend_121 : DC b_PP_statusOfSend 121 (.aload_n 0) 1 122 := ⟨by decide +kernel, rfl⟩
theorem x_PP_statusOfSend_122 : DC b_PP_statusOfSend 122 (.getfield 10) 3 125 := ⟨by decide +kernel, rfl⟩
theorem x_PP_statusOfSend_125 : DC b_PP_statusOfSend 125 (.iload 5) 2 127 := ⟨by decide +kernel, rfl⟩
theorem x_PP_statusOfSend_127 : DC b_PP_statusOfSend 127 (.iload_n 2) 1 128 := ⟨by decide +kernel, rfl⟩
theorem x_PP_statusOfSend_128 : DC b_PP_statusOfSend 128 (.iload 4) 2 130 := ⟨by decide +kernel, rfl⟩
theorem x_PP_statusOfSend_130 : DC b_PP_statusOfSend 130 (.imul) 1 131 := ⟨by decide +kernel, rfl⟩
theorem x_PP_statusOfSend_131 : DC b_PP_statusOfSend 131 (.lconst 0) 1 132 := ⟨by decide +kernel, rfl⟩
theorem x_PP_statusOfSend_132 : DC b_PP_statusOfSend 132 (.ldc2_w 430) 3 135 := ⟨by decide +kernel, rfl⟩
theorem x_PP_statusOfSend_135 : DC b_PP_statusOfSend 135 (.invokevirtual 419) 3 138 := ⟨by decide +kernel, rfl⟩
theorem x_PP_statusOfSend_138 : DC b_PP_statusOfSend 138 (.ifCond .eq 7) 3 141 := ⟨by decide +kernel, rfl⟩
theorem x_PP_statusOfSend_141 : DC b_PP_statusOfSend 141 (.iconst 1) 1 142 := ⟨by decide +kernel, rfl⟩
theorem x_PP_statusOfSend_142 : DC b_PP_statusOfSend 142 (.goto 4) 3 145 := ⟨by decide +kernel, rfl⟩
theorem x_PP_statusOfSend_145 : DC b_PP_statusOfSend 145 (.iconst 0) 1 146 := ⟨by decide +kernel, rfl⟩
theorem x_PP_statusOfSend_146 : DC b_PP_statusOfSend 146 (.istore 7) 2 148 := ⟨by decide +kernel, rfl⟩
theorem x_PP_statusOfSend_148 : DC b_PP_statusOfSend 148 (.iload 7) 2 150 := ⟨by decide +kernel, rfl⟩
theorem x_PP_statusOfSend_150 : DC b_PP_statusOfSend 150 (.ifCond .ne 5) 3 153 := ⟨by decide +kernel, rfl⟩
theorem x_PP_statusOfSend_153 : DC b_PP_statusOfSend 153 (.iconst 5) 1 154 := ⟨by decide +kernel, rfl⟩
theorem x_PP_statusOfSend_154 : DC b_PP_statusOfSend 154 (.ireturn) 1 155 := ⟨by decide +kernel, rfl⟩
theorem x_PP_statusOfSend_155 : DC b_PP_statusOfSend 155 (.aload_n 0) 1 156 := ⟨by decide +kernel, rfl⟩
theorem x_PP_statusOfSend_156 : DC b_PP_statusOfSend 156 (.getfield 10) 3 159 := ⟨by decide +kernel, rfl⟩
theorem x_PP_statusOfSend_159 : DC b_PP_statusOfSend 159 (.iload_n 1) 1 160 := ⟨by decide +kernel, rfl⟩
theorem x_PP_statusOfSend_160 : DC b_PP_statusOfSend 160 (.iload_n 2) 1 161 := ⟨by decide +kernel, rfl⟩
theorem x_PP_statusOfSend_161 : DC b_PP_statusOfSend 161 (.invokevirtual 432) 3 164 := ⟨by decide +kernel, rfl⟩
theorem x_PP_statusOfSend_164 : DC b_PP_statusOfSend 164 (.aload_n 0) 1 165 := ⟨by decide +kernel, rfl⟩
theorem x_PP_statusOfSend_165 : DC b_PP_statusOfSend 165 (.getfield 10) 3 168 := ⟨by decide +kernel, rfl⟩
theorem x_PP_statusOfSend_168 : DC b_PP_statusOfSend 168 (.iload_n 3) 1 169 := ⟨by decide +kernel, rfl⟩
theorem x_PP_statusOfSend_169 : DC b_PP_statusOfSend 169 (.iload 4) 2 171 := ⟨by decide +kernel, rfl⟩
theorem x_PP_statusOfSend_171 : DC b_PP_statusOfSend 171 (.invokevirtual 432) 3 174 := ⟨by decide +kernel, rfl⟩
theorem x_PP_statusOfSend_174 : DC b_PP_statusOfSend 174 (.lcmp) 1 175 := ⟨by decide +kernel, rfl⟩
theorem x_PP_statusOfSend_175 : DC b_PP_statusOfSend 175 (.ifCond .ge 8) 3 178 := ⟨by decide +kernel, rfl⟩
theorem x_PP_statusOfSend_178 : DC b_PP_statusOfSend 178 (.bipush 9) 2 180 := ⟨by decide +kernel, rfl⟩
theorem x_PP_statusOfSend_180 : DC b_PP_statusOfSend 180 (.goto 4) 3 183 := ⟨by decide +kernel, rfl⟩
theorem x_PP_statusOfSend_183 : DC b_PP_statusOfSend 183 (.iconst 0) 1 184 := ⟨by decide +kernel, rfl⟩
theorem x_PP_statusOfSend_184 : DC b_PP_statusOfSend 184 (.ireturn) 1 185 := ⟨by decide +kernel, rfl⟩
def k_PP_statusOfSend_146 (a1 a2 a3 a4 s0 : Int) (M : Mem) : Res := if w32 s0 = 0 then (some (5, M)) else (bcall (d_Tr_totalOf a1 a2 M) fun v2 M3 => bcall (d_Tr_totalOf a3 a4 M3) fun v4 M5 => if w64 v2 < w64 v4 then (some (9, M5)) else (some (0, M5)))
theorem z_PP_statusOfSend_146 (C : Cx p s m args meth c G b_PP_statusOfSend 8 "PrairiePool" (some .int)) (hlev : 2 ≤ lev) {r : Int × Mem}  {a1 a2 a3 a4 s0 : Int} {M : Mem} (h : k_PP_statusOfSend_146 a1 a2 a3 a4 s0 M = some r) : Z p l e lev s m args below meth c G 8 (MQ below (Qm G 1 r) args s 0 0 (Ab G)) M 146 [(0, .ref (G.1 + 0)), (1, vi a1), (2, vi a2), (3, vi a3), (4, vi a4)] [vi s0] := by
  unfold k_PP_statusOfSend_146 at h
  refine z_istore (lv' := [(7, vi s0), (0, .ref (G.1 + 0)), (1, vi a1), (2, vi a2), (3, vi a3), (4, vi a4)]) C rfl x_PP_statusOfSend_146 (i_lt rfl) rfl ?_
  refine z_iload C 0 x_PP_statusOfSend_148 rfl ?_
  rcases ite_e h with ⟨c1, h⟩ | ⟨c1, h⟩
  · refine z_if_ne_f (tgt := 155) C x_PP_statusOfSend_150 rfl c1 ?_
    refine z_iconst C x_PP_statusOfSend_153 ?_
    exact z_iret C x_PP_statusOfSend_154 h
  · refine z_if_ne_t (tgt := 155) C x_PP_statusOfSend_150 rfl c1 ?_
    refine z_aload_n C 1 x_PP_statusOfSend_155 rfl ?_
    refine z_getR (j := 1) C x_PP_statusOfSend_156 nk_0 ck_0 cw_11 (i_lt rfl) rfl rf_0_1 rfl fl_PP_10 ?_
    refine z_iload_n C 2 x_PP_statusOfSend_159 rfl ?_
    refine z_iload_n C 3 x_PP_statusOfSend_160 rfl ?_
    obtain ⟨v2, M3, fv2, h⟩ := bcall_e h
    refine z_callVl (k := 1) C x_PP_statusOfSend_161 cv_PP_432 (t_Tr_totalOf (lev := lev - 1) l G (by omega) fv2) nk_1 ck_1 rfl (by omega) rfl (i_le rfl) rfl ?_
    refine z_aload_n C 1 x_PP_statusOfSend_164 rfl ?_
    refine z_getR (j := 1) C x_PP_statusOfSend_165 nk_0 ck_0 cw_11 (i_lt rfl) rfl rf_0_1 rfl fl_PP_10 ?_
    refine z_iload_n C 4 x_PP_statusOfSend_168 rfl ?_
    refine z_iload C 5 x_PP_statusOfSend_169 rfl ?_
    obtain ⟨v4, M5, fv4, h⟩ := bcall_e h
    refine z_callVl (k := 1) C x_PP_statusOfSend_171 cv_PP_432 (t_Tr_totalOf (lev := lev - 1) l G (by omega) fv4) nk_1 ck_1 rfl (by omega) rfl (i_le rfl) rfl ?_
    refine z_lcmp C x_PP_statusOfSend_174 ?_
    rcases ite_e h with ⟨c6, h⟩ | ⟨c6, h⟩
    · refine z_if_ge_f (tgt := 183) C x_PP_statusOfSend_175 rfl (cm_lt.mpr c6) ?_
      refine z_bipush C rfl x_PP_statusOfSend_178 ?_
      refine z_goto (tgt := 184) C x_PP_statusOfSend_180 rfl ?_
      exact z_iret C x_PP_statusOfSend_184 h
    · refine z_if_ge_t (tgt := 183) C x_PP_statusOfSend_175 rfl (fun q => c6 (cm_lt.mp q)) ?_
      refine z_iconst C x_PP_statusOfSend_183 ?_
      exact z_iret C x_PP_statusOfSend_184 h
def k_PP_statusOfSend_145 (a1 a2 a3 a4 : Int) (M : Mem) : Res := k_PP_statusOfSend_146 a1 a2 a3 a4 0 M
theorem z_PP_statusOfSend_145 (C : Cx p s m args meth c G b_PP_statusOfSend 8 "PrairiePool" (some .int)) (hlev : 2 ≤ lev) {r : Int × Mem}  {a1 a2 a3 a4 : Int} {M : Mem} (h : k_PP_statusOfSend_145 a1 a2 a3 a4 M = some r) : Z p l e lev s m args below meth c G 8 (MQ below (Qm G 1 r) args s 0 0 (Ab G)) M 145 [(0, .ref (G.1 + 0)), (1, vi a1), (2, vi a2), (3, vi a3), (4, vi a4)] [] := by
  unfold k_PP_statusOfSend_145 at h
  refine z_iconst C x_PP_statusOfSend_145 ?_
  exact z_sub [0, 1, 2, 3, 4] rfl (z_PP_statusOfSend_146 C hlev h)
def d_PP_statusOfSend (a1 a2 a3 a4 a5 : Int) (M : Mem) : Res := bcall (d_Tr_statusOfThree a1 a3 a5 M) fun v1 M2 => if w32 v1 = 0 then (bcall (d_PP_isIn a2 1 5 M2) fun v4 M5 => if w32 v4 = 0 then (some (5, M5)) else (bcall (d_PP_isIn a4 1 4 M5) fun v7 M8 => if w32 v7 = 0 then (some (5, M8)) else (chk (0 ≤ w32 a1 ∧ w32 a1 < 4) <| blet (M8 3 (ix a1)) fun v11 => if w32 v11 < w32 a2 then (some (4, M8)) else (chk (0 ≤ w32 a3 ∧ w32 a3 < 4) <| blet (M8 3 (ix a3)) fun v14 => if w32 v14 < w32 a4 then (some (4, M8)) else (chk (0 ≤ w32 a5 ∧ w32 a5 < 4) <| blet (M8 3 (ix a5)) fun v17 => if w32 v17 < w32 (a2 * a4) then (some (4, M8)) else (bcall (d_Tr_areIn a1 a2 0 30 M8) fun v19 M20 => if w32 v19 = 0 then (k_PP_statusOfSend_145 a1 a2 a3 a4 M20) else (bcall (d_Tr_areIn a3 a4 0 30 M20) fun v22 M23 => if w32 v22 = 0 then (k_PP_statusOfSend_145 a1 a2 a3 a4 M23) else (bcall (d_Tr_areIn a5 (a2 * a4) 0 100 M23) fun v25 M26 => if w32 v25 = 0 then (k_PP_statusOfSend_145 a1 a2 a3 a4 M26) else (k_PP_statusOfSend_146 a1 a2 a3 a4 1 M26))))))))) else (some (v1, M2))
theorem t_PP_statusOfSend (l : Launch) (G : GX) {lev : Nat} (hlev : 2 ≤ lev) {a1 a2 a3 a4 a5 : Int} {M : Mem} {r : Int × Mem} (h : d_PP_statusOfSend a1 a2 a3 a4 a5 M = some r) : Mt l G y_PP_statusOfSend b_PP_statusOfSend 8 (some .int) lev 1 [.ref (G.1 + 0), vi a1, vi a2, vi a3, vi a4, vi a5] M r := by
  refine Mt.of (by decide) (i_le rfl) ?_
  intro p e s m args below meth c C
  have C : Cx p s m args meth c G b_PP_statusOfSend 8 "PrairiePool" (some .int) := C
  unfold d_PP_statusOfSend at h
  refine z_sub (lv' := [(0, .ref (G.1 + 0)), (1, vi a1), (2, vi a2), (3, vi a3), (4, vi a4), (5, vi a5)]) [0, 1, 2, 3, 4, 5] rfl ?_
  refine z_aload_n C 0 x_PP_statusOfSend_0 rfl ?_
  refine z_getR (j := 1) C x_PP_statusOfSend_1 nk_0 ck_0 cw_11 (i_lt rfl) rfl rf_0_1 rfl fl_PP_10 ?_
  refine z_iload_n C 1 x_PP_statusOfSend_4 rfl ?_
  refine z_iload_n C 3 x_PP_statusOfSend_5 rfl ?_
  refine z_iload C 5 x_PP_statusOfSend_6 rfl ?_
  obtain ⟨v1, M2, fv1, h⟩ := bcall_e h
  refine z_callVi (k := 1) C x_PP_statusOfSend_8 cv_PP_425 (t_Tr_statusOfThree (lev := lev - 1) l G (by omega) fv1) nk_1 ck_1 rfl (by omega) rfl (i_le rfl) rfl ?_
  refine z_istore (lv' := [(6, vi v1), (0, .ref (G.1 + 0)), (1, vi a1), (2, vi a2), (3, vi a3), (4, vi a4), (5, vi a5)]) C rfl x_PP_statusOfSend_11 (i_lt rfl) rfl ?_
  refine z_iload C 0 x_PP_statusOfSend_13 rfl ?_
  rcases ite_e h with ⟨c3, h⟩ | ⟨c3, h⟩
  · refine z_if_eq_t (tgt := 21) C x_PP_statusOfSend_15 rfl c3 ?_
    refine z_iload_n C 3 x_PP_statusOfSend_21 rfl ?_
    refine z_iconst C x_PP_statusOfSend_22 ?_
    refine z_iconst C x_PP_statusOfSend_23 ?_
    obtain ⟨v4, M5, fv4, h⟩ := bcall_e h
    refine z_callSi C x_PP_statusOfSend_24 cs_PP_89 (t_PP_isIn (lev := lev - 1) l G (by omega) fv4) (by omega) rfl (i_le rfl) rfl ?_
    rcases ite_e h with ⟨c6, h⟩ | ⟨c6, h⟩
    · refine z_if_eq_t (tgt := 40) C x_PP_statusOfSend_27 rfl c6 ?_
      refine z_iconst C x_PP_statusOfSend_40 ?_
      exact z_iret C x_PP_statusOfSend_41 h
    · refine z_if_eq_f (tgt := 40) C x_PP_statusOfSend_27 rfl c6 ?_
      refine z_iload C 5 x_PP_statusOfSend_30 rfl ?_
      refine z_iconst C x_PP_statusOfSend_32 ?_
      refine z_iconst C x_PP_statusOfSend_33 ?_
      obtain ⟨v7, M8, fv7, h⟩ := bcall_e h
      refine z_callSi C x_PP_statusOfSend_34 cs_PP_89 (t_PP_isIn (lev := lev - 1) l G (by omega) fv7) (by omega) rfl (i_le rfl) rfl ?_
      rcases ite_e h with ⟨c9, h⟩ | ⟨c9, h⟩
      · refine z_if_ne_f (tgt := 42) C x_PP_statusOfSend_37 rfl c9 ?_
        refine z_iconst C x_PP_statusOfSend_40 ?_
        exact z_iret C x_PP_statusOfSend_41 h
      · refine z_if_ne_t (tgt := 42) C x_PP_statusOfSend_37 rfl c9 ?_
        refine z_aload_n C 1 x_PP_statusOfSend_42 rfl ?_
        refine z_getR (j := 1) C x_PP_statusOfSend_43 nk_0 ck_0 cw_11 (i_lt rfl) rfl rf_0_1 rfl fl_PP_10 ?_
        refine z_getR (j := 1) C x_PP_statusOfSend_46 nk_1 ck_1 cw_9 (i_lt rfl) rfl rf_1_1 rfl fl_PP_414 ?_
        refine z_iload_n C 2 x_PP_statusOfSend_49 rfl ?_
        obtain ⟨c10, h⟩ := chk_e h
        obtain ⟨v11, ev11, h⟩ := blet_e h
        refine z_iald C x_PP_statusOfSend_50 nk_3 ck_3 c10 ev11 ?_
        refine z_iload_n C 3 x_PP_statusOfSend_51 rfl ?_
        rcases ite_e h with ⟨c12, h⟩ | ⟨c12, h⟩
        · refine z_icmp_lt_t (tgt := 86) C x_PP_statusOfSend_52 rfl c12 ?_
          refine z_iconst C x_PP_statusOfSend_86 ?_
          exact z_iret C x_PP_statusOfSend_87 h
        · refine z_icmp_lt_f (tgt := 86) C x_PP_statusOfSend_52 rfl c12 ?_
          refine z_aload_n C 1 x_PP_statusOfSend_55 rfl ?_
          refine z_getR (j := 1) C x_PP_statusOfSend_56 nk_0 ck_0 cw_11 (i_lt rfl) rfl rf_0_1 rfl fl_PP_10 ?_
          refine z_getR (j := 1) C x_PP_statusOfSend_59 nk_1 ck_1 cw_9 (i_lt rfl) rfl rf_1_1 rfl fl_PP_414 ?_
          refine z_iload_n C 4 x_PP_statusOfSend_62 rfl ?_
          obtain ⟨c13, h⟩ := chk_e h
          obtain ⟨v14, ev14, h⟩ := blet_e h
          refine z_iald C x_PP_statusOfSend_63 nk_3 ck_3 c13 ev14 ?_
          refine z_iload C 5 x_PP_statusOfSend_64 rfl ?_
          rcases ite_e h with ⟨c15, h⟩ | ⟨c15, h⟩
          · refine z_icmp_lt_t (tgt := 86) C x_PP_statusOfSend_66 rfl c15 ?_
            refine z_iconst C x_PP_statusOfSend_86 ?_
            exact z_iret C x_PP_statusOfSend_87 h
          · refine z_icmp_lt_f (tgt := 86) C x_PP_statusOfSend_66 rfl c15 ?_
            refine z_aload_n C 1 x_PP_statusOfSend_69 rfl ?_
            refine z_getR (j := 1) C x_PP_statusOfSend_70 nk_0 ck_0 cw_11 (i_lt rfl) rfl rf_0_1 rfl fl_PP_10 ?_
            refine z_getR (j := 1) C x_PP_statusOfSend_73 nk_1 ck_1 cw_9 (i_lt rfl) rfl rf_1_1 rfl fl_PP_414 ?_
            refine z_iload C 6 x_PP_statusOfSend_76 rfl ?_
            obtain ⟨c16, h⟩ := chk_e h
            obtain ⟨v17, ev17, h⟩ := blet_e h
            refine z_iald C x_PP_statusOfSend_78 nk_3 ck_3 c16 ev17 ?_
            refine z_iload_n C 3 x_PP_statusOfSend_79 rfl ?_
            refine z_iload C 5 x_PP_statusOfSend_80 rfl ?_
            refine z_imul C x_PP_statusOfSend_82 ?_
            rcases ite_e h with ⟨c18, h⟩ | ⟨c18, h⟩
            · refine z_icmp_ge_f (tgt := 88) C x_PP_statusOfSend_83 rfl c18 ?_
              refine z_iconst C x_PP_statusOfSend_86 ?_
              exact z_iret C x_PP_statusOfSend_87 h
            · refine z_icmp_ge_t (tgt := 88) C x_PP_statusOfSend_83 rfl c18 ?_
              refine z_aload_n C 1 x_PP_statusOfSend_88 rfl ?_
              refine z_getR (j := 1) C x_PP_statusOfSend_89 nk_0 ck_0 cw_11 (i_lt rfl) rfl rf_0_1 rfl fl_PP_10 ?_
              refine z_iload_n C 2 x_PP_statusOfSend_92 rfl ?_
              refine z_iload_n C 3 x_PP_statusOfSend_93 rfl ?_
              refine z_lconst0 C x_PP_statusOfSend_94 ?_
              refine z_ldc2 C kl_PP_428 x_PP_statusOfSend_95 ?_
              obtain ⟨v19, M20, fv19, h⟩ := bcall_e h
              refine z_callVi (k := 1) C x_PP_statusOfSend_98 cv_PP_419 (t_Tr_areIn (lev := lev - 1) l G (by omega) fv19) nk_1 ck_1 rfl (by omega) rfl (i_le rfl) rfl ?_
              rcases ite_e h with ⟨c21, h⟩ | ⟨c21, h⟩
              · refine z_if_eq_t (tgt := 145) C x_PP_statusOfSend_101 rfl c21 ?_
                exact z_sub [1, 2, 3, 4, 5] rfl (z_PP_statusOfSend_145 C hlev h)
              · refine z_if_eq_f (tgt := 145) C x_PP_statusOfSend_101 rfl c21 ?_
                refine z_aload_n C 1 x_PP_statusOfSend_104 rfl ?_
                refine z_getR (j := 1) C x_PP_statusOfSend_105 nk_0 ck_0 cw_11 (i_lt rfl) rfl rf_0_1 rfl fl_PP_10 ?_
                refine z_iload_n C 4 x_PP_statusOfSend_108 rfl ?_
                refine z_iload C 5 x_PP_statusOfSend_109 rfl ?_
                refine z_lconst0 C x_PP_statusOfSend_111 ?_
                refine z_ldc2 C kl_PP_428 x_PP_statusOfSend_112 ?_
                obtain ⟨v22, M23, fv22, h⟩ := bcall_e h
                refine z_callVi (k := 1) C x_PP_statusOfSend_115 cv_PP_419 (t_Tr_areIn (lev := lev - 1) l G (by omega) fv22) nk_1 ck_1 rfl (by omega) rfl (i_le rfl) rfl ?_
                rcases ite_e h with ⟨c24, h⟩ | ⟨c24, h⟩
                · refine z_if_eq_t (tgt := 145) C x_PP_statusOfSend_118 rfl c24 ?_
                  exact z_sub [1, 2, 3, 4, 5] rfl (z_PP_statusOfSend_145 C hlev h)
                · refine z_if_eq_f (tgt := 145) C x_PP_statusOfSend_118 rfl c24 ?_
                  refine z_aload_n C 1 x_PP_statusOfSend_121 rfl ?_
                  refine z_getR (j := 1) C x_PP_statusOfSend_122 nk_0 ck_0 cw_11 (i_lt rfl) rfl rf_0_1 rfl fl_PP_10 ?_
                  refine z_iload C 6 x_PP_statusOfSend_125 rfl ?_
                  refine z_iload_n C 3 x_PP_statusOfSend_127 rfl ?_
                  refine z_iload C 5 x_PP_statusOfSend_128 rfl ?_
                  refine z_imul C x_PP_statusOfSend_130 ?_
                  refine z_lconst0 C x_PP_statusOfSend_131 ?_
                  refine z_ldc2 C kl_PP_430 x_PP_statusOfSend_132 ?_
                  obtain ⟨v25, M26, fv25, h⟩ := bcall_e h
                  refine z_callVi (k := 1) C x_PP_statusOfSend_135 cv_PP_419 (t_Tr_areIn (lev := lev - 1) l G (by omega) fv25) nk_1 ck_1 rfl (by omega) rfl (i_le rfl) rfl ?_
                  rcases ite_e h with ⟨c27, h⟩ | ⟨c27, h⟩
                  · refine z_if_eq_t (tgt := 145) C x_PP_statusOfSend_138 rfl c27 ?_
                    exact z_sub [1, 2, 3, 4, 5] rfl (z_PP_statusOfSend_145 C hlev h)
                  · refine z_if_eq_f (tgt := 145) C x_PP_statusOfSend_138 rfl c27 ?_
                    refine z_iconst C x_PP_statusOfSend_141 ?_
                    refine z_goto (tgt := 146) C x_PP_statusOfSend_142 rfl ?_
                    exact z_sub [1, 2, 3, 4, 5] rfl (z_PP_statusOfSend_146 C hlev h)
  · refine z_if_eq_f (tgt := 21) C x_PP_statusOfSend_15 rfl c3 ?_
    refine z_iload C 0 x_PP_statusOfSend_18 rfl ?_
    exact z_iret C x_PP_statusOfSend_20 h
theorem x_PP_send_0 : DC b_PP_send 0 (.aload_n 0) 1 1 := ⟨by decide +kernel, rfl⟩
theorem x_PP_send_1 : DC b_PP_send 1 (.aload_n 0) 1 2 := ⟨by decide +kernel, rfl⟩
theorem x_PP_send_2 : DC b_PP_send 2 (.iload_n 1) 1 3 := ⟨by decide +kernel, rfl⟩
theorem x_PP_send_3 : DC b_PP_send 3 (.iload_n 2) 1 4 := ⟨by decide +kernel, rfl⟩
theorem x_PP_send_4 : DC b_PP_send 4 (.iload_n 3) 1 5 := ⟨by decide +kernel, rfl⟩
theorem x_PP_send_5 : DC b_PP_send 5 (.iload 4) 2 7 := ⟨by decide +kernel, rfl⟩
theorem x_PP_send_7 : DC b_PP_send 7 (.iload 5) 2 9 := ⟨by decide +kernel, rfl⟩
theorem x_PP_send_9 : DC b_PP_send 9 (.invokevirtual 392) 3 12 := ⟨by decide +kernel, rfl⟩
theorem x_PP_send_12 : DC b_PP_send 12 (.putfield 85) 3 15 := ⟨by decide +kernel, rfl⟩
theorem x_PP_send_15 : DC b_PP_send 15 (.aload_n 0) 1 16 := ⟨by decide +kernel, rfl⟩
theorem x_PP_send_16 : DC b_PP_send 16 (.getfield 85) 3 19 := ⟨by decide +kernel, rfl⟩
theorem x_PP_send_19 : DC b_PP_send 19 (.ifCond .eq 5) 3 22 := ⟨by decide +kernel, rfl⟩
theorem x_PP_send_22 : DC b_PP_send 22 (.iconst (-1)) 1 23 := ⟨by decide +kernel, rfl⟩
theorem x_PP_send_23 : DC b_PP_send 23 (.ireturn) 1 24 := ⟨by decide +kernel, rfl⟩
theorem x_PP_send_24 : DC b_PP_send 24 (.iconst 0) 1 25 := ⟨by decide +kernel, rfl⟩
theorem x_PP_send_25 : DC b_PP_send 25 (.istore 6) 2 27 := ⟨by decide +kernel, rfl⟩
theorem x_PP_send_27 : DC b_PP_send 27 (.iload 6) 2 29 := ⟨by decide +kernel, rfl⟩
theorem x_PP_send_29 : DC b_PP_send 29 (.iload_n 2) 1 30 := ⟨by decide +kernel, rfl⟩
theorem x_PP_send_30 : DC b_PP_send 30 (.if_icmp .ge 30) 3 33 := ⟨by decide +kernel, rfl⟩
theorem x_PP_send_33 : DC b_PP_send 33 (.aload_n 0) 1 34 := ⟨by decide +kernel, rfl⟩
theorem x_PP_send_34 : DC b_PP_send 34 (.getfield 47) 3 37 := ⟨by decide +kernel, rfl⟩
theorem x_PP_send_37 : DC b_PP_send 37 (.getfield 395) 3 40 := ⟨by decide +kernel, rfl⟩
theorem x_PP_send_40 : DC b_PP_send 40 (.iload 6) 2 42 := ⟨by decide +kernel, rfl⟩
theorem x_PP_send_42 : DC b_PP_send 42 (.aload_n 0) 1 43 := ⟨by decide +kernel, rfl⟩
theorem x_PP_send_43 : DC b_PP_send 43 (.getfield 10) 3 46 := ⟨by decide +kernel, rfl⟩
theorem x_PP_send_46 : DC b_PP_send 46 (.iload_n 1) 1 47 := ⟨by decide +kernel, rfl⟩
theorem x_PP_send_47 : DC b_PP_send 47 (.iload 6) 2 49 := ⟨by decide +kernel, rfl⟩
theorem x_PP_send_49 : DC b_PP_send 49 (.invokevirtual 107) 3 52 := ⟨by decide +kernel, rfl⟩
theorem x_PP_send_52 : DC b_PP_send 52 (.l2i) 1 53 := ⟨by decide +kernel, rfl⟩
theorem x_PP_send_53 : DC b_PP_send 53 (.iastore) 1 54 := ⟨by decide +kernel, rfl⟩
theorem x_PP_send_54 : DC b_PP_send 54 (.iinc 6 1) 3 57 := ⟨by decide +kernel, rfl⟩
theorem x_PP_send_57 : DC b_PP_send 57 (.goto (-30)) 3 60 := ⟨by decide +kernel, rfl⟩
theorem x_PP_send_60 : DC b_PP_send 60 (.iconst 0) 1 61 := ⟨by decide +kernel, rfl⟩
theorem x_PP_send_61 : DC b_PP_send 61 (.istore 6) 2 63 := ⟨by decide +kernel, rfl⟩
theorem x_PP_send_63 : DC b_PP_send 63 (.iload 6) 2 65 := ⟨by decide +kernel, rfl⟩
theorem x_PP_send_65 : DC b_PP_send 65 (.iload 4) 2 67 := ⟨by decide +kernel, rfl⟩
theorem x_PP_send_67 : DC b_PP_send 67 (.if_icmp .ge 30) 3 70 := ⟨by decide +kernel, rfl⟩
theorem x_PP_send_70 : DC b_PP_send 70 (.aload_n 0) 1 71 := ⟨by decide +kernel, rfl⟩
theorem x_PP_send_71 : DC b_PP_send 71 (.getfield 47) 3 74 := ⟨by decide +kernel, rfl⟩
theorem x_PP_send_74 : DC b_PP_send 74 (.getfield 398) 3 77 := ⟨by decide +kernel, rfl⟩
theorem x_PP_send_77 : DC b_PP_send 77 (.iload 6) 2 79 := ⟨by decide +kernel, rfl⟩
theorem x_PP_send_79 : DC b_PP_send 79 (.aload_n 0) 1 80 := ⟨by decide +kernel, rfl⟩
theorem x_PP_send_80 : DC b_PP_send 80 (.getfield 10) 3 83 := ⟨by decide +kernel, rfl⟩
theorem x_PP_send_83 : DC b_PP_send 83 (.iload_n 3) 1 84 := ⟨by decide +kernel, rfl⟩
theorem x_PP_send_84 : DC b_PP_send 84 (.iload 6) 2 86 := ⟨by decide +kernel, rfl⟩
theorem x_PP_send_86 : DC b_PP_send 86 (.invokevirtual 107) 3 89 := ⟨by decide +kernel, rfl⟩
theorem x_PP_send_89 : DC b_PP_send 89 (.l2i) 1 90 := ⟨by decide +kernel, rfl⟩
theorem x_PP_send_90 : DC b_PP_send 90 (.iastore) 1 91 := ⟨by decide +kernel, rfl⟩
theorem x_PP_send_91 : DC b_PP_send 91 (.iinc 6 1) 3 94 := ⟨by decide +kernel, rfl⟩
theorem x_PP_send_94 : DC b_PP_send 94 (.goto (-31)) 3 97 := ⟨by decide +kernel, rfl⟩
theorem x_PP_send_97 : DC b_PP_send 97 (.iconst 0) 1 98 := ⟨by decide +kernel, rfl⟩
theorem x_PP_send_98 : DC b_PP_send 98 (.istore 6) 2 100 := ⟨by decide +kernel, rfl⟩
theorem x_PP_send_100 : DC b_PP_send 100 (.iload 6) 2 102 := ⟨by decide +kernel, rfl⟩
theorem x_PP_send_102 : DC b_PP_send 102 (.iload_n 2) 1 103 := ⟨by decide +kernel, rfl⟩
theorem x_PP_send_103 : DC b_PP_send 103 (.iload 4) 2 105 := ⟨by decide +kernel, rfl⟩
theorem x_PP_send_105 : DC b_PP_send 105 (.imul) 1 106 := ⟨by decide +kernel, rfl⟩
theorem x_PP_send_106 : DC b_PP_send 106 (.if_icmp .ge 31) 3 109 := ⟨by decide +kernel, rfl⟩
theorem x_PP_send_109 : DC b_PP_send 109 (.aload_n 0) 1 110 := ⟨by decide +kernel, rfl⟩
theorem x_PP_send_110 : DC b_PP_send 110 (.getfield 47) 3 113 := ⟨by decide +kernel, rfl⟩
theorem x_PP_send_113 : DC b_PP_send 113 (.getfield 401) 3 116 := ⟨by decide +kernel, rfl⟩
theorem x_PP_send_116 : DC b_PP_send 116 (.iload 6) 2 118 := ⟨by decide +kernel, rfl⟩
theorem x_PP_send_118 : DC b_PP_send 118 (.aload_n 0) 1 119 := ⟨by decide +kernel, rfl⟩
theorem x_PP_send_119 : DC b_PP_send 119 (.getfield 10) 3 122 := ⟨by decide +kernel, rfl⟩
theorem x_PP_send_122 : DC b_PP_send 122 (.iload 5) 2 124 := ⟨by decide +kernel, rfl⟩
theorem x_PP_send_124 : DC b_PP_send 124 (.iload 6) 2 126 := ⟨by decide +kernel, rfl⟩
theorem x_PP_send_126 : DC b_PP_send 126 (.invokevirtual 107) 3 129 := ⟨by decide +kernel, rfl⟩
theorem x_PP_send_129 : DC b_PP_send 129 (.l2i) 1 130 := ⟨by decide +kernel, rfl⟩
theorem x_PP_send_130 : DC b_PP_send 130 (.iastore) 1 131 := ⟨by decide +kernel, rfl⟩
theorem x_PP_send_131 : DC b_PP_send 131 (.iinc 6 1) 3 134 := ⟨by decide +kernel, rfl⟩
theorem x_PP_send_134 : DC b_PP_send 134 (.goto (-34)) 3 137 := ⟨by decide +kernel, rfl⟩
theorem x_PP_send_137 : DC b_PP_send 137 (.aload_n 0) 1 138 := ⟨by decide +kernel, rfl⟩
theorem x_PP_send_138 : DC b_PP_send 138 (.getfield 47) 3 141 := ⟨by decide +kernel, rfl⟩
theorem x_PP_send_141 : DC b_PP_send 141 (.iload_n 2) 1 142 := ⟨by decide +kernel, rfl⟩
theorem x_PP_send_142 : DC b_PP_send 142 (.iload 4) 2 144 := ⟨by decide +kernel, rfl⟩
theorem x_PP_send_144 : DC b_PP_send 144 (.invokevirtual 404) 3 147 := ⟨by decide +kernel, rfl⟩
theorem x_PP_send_147 : DC b_PP_send 147 (.ireturn) 1 148 := ⟨by decide +kernel, rfl⟩
def k_PP_send_100 (R100 : Int → Int → Int → Int → Mem → Res) (a2 a4 a5 a6 : Int) (M : Mem) : Res := if w32 a6 < w32 (a2 * a4) then (bcall (d_Tr_get a5 a6 M) fun v2 M3 => chk (0 ≤ w32 a6 ∧ w32 a6 < 20) <| blet (sto M3 69 (ix a6) v2) fun M5 => blet (a6 + 1) fun v6 => R100 a2 a4 a5 v6 M5) else (bcall (d_Ya_leastCost a2 a4 M) fun v7 M8 => some (v7, M8))
theorem z_PP_send_100 (C : Cx p s m args meth c G b_PP_send 7 "PrairiePool" (some .int)) (hlev : 3 ≤ lev) {r : Int × Mem} {R100 : Int → Int → Int → Int → Mem → Res} (hR100 : ∀ (a2 a4 a5 a6 : Int) (M : Mem), R100 a2 a4 a5 a6 M = some r → Z p l e lev s m args below meth c G 7 (MQ below (Qm G 1 r) args s 0 0 (Ab G)) M 100 [(0, .ref (G.1 + 0)), (2, vi a2), (4, vi a4), (5, vi a5), (6, vi a6)] []) {a2 a4 a5 a6 : Int} {M : Mem} (h : k_PP_send_100 R100 a2 a4 a5 a6 M = some r) : Z p l e lev s m args below meth c G 7 (MQ below (Qm G 1 r) args s 0 0 (Ab G)) M 100 [(0, .ref (G.1 + 0)), (2, vi a2), (4, vi a4), (5, vi a5), (6, vi a6)] [] := by
  unfold k_PP_send_100 at h
  refine z_iload C 4 x_PP_send_100 rfl ?_
  refine z_iload_n C 1 x_PP_send_102 rfl ?_
  refine z_iload C 2 x_PP_send_103 rfl ?_
  refine z_imul C x_PP_send_105 ?_
  rcases ite_e h with ⟨c1, h⟩ | ⟨c1, h⟩
  · refine z_icmp_ge_f (tgt := 137) C x_PP_send_106 rfl c1 ?_
    refine z_aload_n C 0 x_PP_send_109 rfl ?_
    refine z_getR (j := 6) C x_PP_send_110 nk_0 ck_0 cw_11 (i_lt rfl) rfl rf_0_6 rfl fl_PP_47 ?_
    refine z_getR (j := 7) C x_PP_send_113 nk_62 ck_62 cw_10 (i_lt rfl) rfl rf_62_7 rfl fl_PP_401 ?_
    refine z_iload C 4 x_PP_send_116 rfl ?_
    refine z_aload_n C 0 x_PP_send_118 rfl ?_
    refine z_getR (j := 1) C x_PP_send_119 nk_0 ck_0 cw_11 (i_lt rfl) rfl rf_0_1 rfl fl_PP_10 ?_
    refine z_iload C 3 x_PP_send_122 rfl ?_
    refine z_iload C 4 x_PP_send_124 rfl ?_
    obtain ⟨v2, M3, fv2, h⟩ := bcall_e h
    refine z_callVl (k := 1) C x_PP_send_126 cv_PP_107 (t_Tr_get (lev := lev - 1) l G (by omega) fv2) nk_1 ck_1 rfl (by omega) rfl (i_le rfl) rfl ?_
    refine z_l2i C x_PP_send_129 ?_
    obtain ⟨c4, h⟩ := chk_e h
    obtain ⟨M5, eM5, h⟩ := blet_e h
    refine z_iast C x_PP_send_130 nk_69 ck_69 c4 eM5 ?_
    obtain ⟨v6, ev6, h⟩ := blet_e h
    refine z_iinc (lv' := [(6, vi v6), (0, .ref (G.1 + 0)), (2, vi a2), (4, vi a4), (5, vi a5)]) C 4 ev6 x_PP_send_131 rfl (i_lt rfl) rfl ?_
    refine z_goto (tgt := 100) C x_PP_send_134 rfl ?_
    exact z_sub [1, 2, 3, 4, 0] rfl (hR100 a2 a4 a5 v6 M5 h)
  · refine z_icmp_ge_t (tgt := 137) C x_PP_send_106 rfl c1 ?_
    refine z_aload_n C 0 x_PP_send_137 rfl ?_
    refine z_getR (j := 6) C x_PP_send_138 nk_0 ck_0 cw_11 (i_lt rfl) rfl rf_0_6 rfl fl_PP_47 ?_
    refine z_iload_n C 1 x_PP_send_141 rfl ?_
    refine z_iload C 2 x_PP_send_142 rfl ?_
    obtain ⟨v7, M8, fv7, h⟩ := bcall_e h
    refine z_callVi (k := 62) C x_PP_send_144 cv_PP_404 (t_Ya_leastCost (lev := lev - 1) l G (by omega) fv7) nk_62 ck_62 rfl (by omega) rfl (i_le rfl) rfl ?_
    exact z_iret C x_PP_send_147 h
theorem zl_PP_send_100 (C : Cx p s m args meth c G b_PP_send 7 "PrairiePool" (some .int)) (hlev : 3 ≤ lev) {r : Int × Mem}  : ∀ (n : Nat) (a2 a4 a5 a6 : Int) (M : Mem), fix (fun _ _ _ _ _ => none) (k_PP_send_100) n a2 a4 a5 a6 M = some r → Z p l e lev s m args below meth c G 7 (MQ below (Qm G 1 r) args s 0 0 (Ab G)) M 100 [(0, .ref (G.1 + 0)), (2, vi a2), (4, vi a4), (5, vi a5), (6, vi a6)] [] := by
  intro n
  induction n with
  | zero => intro a2 a4 a5 a6 M h; exact nomatch (show (none : Res) = some r from h)
  | succ n ih => intro a2 a4 a5 a6 M h; exact z_PP_send_100 C hlev ih h
def k_PP_send_63 (R63 : Int → Int → Int → Int → Int → Mem → Res) (a2 a3 a4 a5 a6 : Int) (M : Mem) : Res := if w32 a6 < w32 a4 then (bcall (d_Tr_get a3 a6 M) fun v2 M3 => chk (0 ≤ w32 a6 ∧ w32 a6 < 4) <| blet (sto M3 68 (ix a6) v2) fun M5 => blet (a6 + 1) fun v6 => R63 a2 a3 a4 a5 v6 M5) else (fix (fun _ _ _ _ _ => none) (k_PP_send_100) FU a2 a4 a5 0 M)
theorem z_PP_send_63 (C : Cx p s m args meth c G b_PP_send 7 "PrairiePool" (some .int)) (hlev : 3 ≤ lev) {r : Int × Mem} {R63 : Int → Int → Int → Int → Int → Mem → Res} (hR63 : ∀ (a2 a3 a4 a5 a6 : Int) (M : Mem), R63 a2 a3 a4 a5 a6 M = some r → Z p l e lev s m args below meth c G 7 (MQ below (Qm G 1 r) args s 0 0 (Ab G)) M 63 [(0, .ref (G.1 + 0)), (2, vi a2), (3, vi a3), (4, vi a4), (5, vi a5), (6, vi a6)] []) {a2 a3 a4 a5 a6 : Int} {M : Mem} (h : k_PP_send_63 R63 a2 a3 a4 a5 a6 M = some r) : Z p l e lev s m args below meth c G 7 (MQ below (Qm G 1 r) args s 0 0 (Ab G)) M 63 [(0, .ref (G.1 + 0)), (2, vi a2), (3, vi a3), (4, vi a4), (5, vi a5), (6, vi a6)] [] := by
  unfold k_PP_send_63 at h
  refine z_iload C 5 x_PP_send_63 rfl ?_
  refine z_iload C 3 x_PP_send_65 rfl ?_
  rcases ite_e h with ⟨c1, h⟩ | ⟨c1, h⟩
  · refine z_icmp_ge_f (tgt := 97) C x_PP_send_67 rfl c1 ?_
    refine z_aload_n C 0 x_PP_send_70 rfl ?_
    refine z_getR (j := 6) C x_PP_send_71 nk_0 ck_0 cw_11 (i_lt rfl) rfl rf_0_6 rfl fl_PP_47 ?_
    refine z_getR (j := 6) C x_PP_send_74 nk_62 ck_62 cw_10 (i_lt rfl) rfl rf_62_6 rfl fl_PP_398 ?_
    refine z_iload C 5 x_PP_send_77 rfl ?_
    refine z_aload_n C 0 x_PP_send_79 rfl ?_
    refine z_getR (j := 1) C x_PP_send_80 nk_0 ck_0 cw_11 (i_lt rfl) rfl rf_0_1 rfl fl_PP_10 ?_
    refine z_iload_n C 2 x_PP_send_83 rfl ?_
    refine z_iload C 5 x_PP_send_84 rfl ?_
    obtain ⟨v2, M3, fv2, h⟩ := bcall_e h
    refine z_callVl (k := 1) C x_PP_send_86 cv_PP_107 (t_Tr_get (lev := lev - 1) l G (by omega) fv2) nk_1 ck_1 rfl (by omega) rfl (i_le rfl) rfl ?_
    refine z_l2i C x_PP_send_89 ?_
    obtain ⟨c4, h⟩ := chk_e h
    obtain ⟨M5, eM5, h⟩ := blet_e h
    refine z_iast C x_PP_send_90 nk_68 ck_68 c4 eM5 ?_
    obtain ⟨v6, ev6, h⟩ := blet_e h
    refine z_iinc (lv' := [(6, vi v6), (0, .ref (G.1 + 0)), (2, vi a2), (3, vi a3), (4, vi a4), (5, vi a5)]) C 5 ev6 x_PP_send_91 rfl (i_lt rfl) rfl ?_
    refine z_goto (tgt := 63) C x_PP_send_94 rfl ?_
    exact z_sub [1, 2, 3, 4, 5, 0] rfl (hR63 a2 a3 a4 a5 v6 M5 h)
  · refine z_icmp_ge_t (tgt := 97) C x_PP_send_67 rfl c1 ?_
    refine z_iconst C x_PP_send_97 ?_
    refine z_istore (lv' := [(6, vi 0), (0, .ref (G.1 + 0)), (2, vi a2), (3, vi a3), (4, vi a4), (5, vi a5)]) C rfl x_PP_send_98 (i_lt rfl) rfl ?_
    exact z_sub [1, 2, 4, 5, 0] rfl (zl_PP_send_100 C hlev FU a2 a4 a5 0 M h)
theorem zl_PP_send_63 (C : Cx p s m args meth c G b_PP_send 7 "PrairiePool" (some .int)) (hlev : 3 ≤ lev) {r : Int × Mem}  : ∀ (n : Nat) (a2 a3 a4 a5 a6 : Int) (M : Mem), fix (fun _ _ _ _ _ _ => none) (k_PP_send_63) n a2 a3 a4 a5 a6 M = some r → Z p l e lev s m args below meth c G 7 (MQ below (Qm G 1 r) args s 0 0 (Ab G)) M 63 [(0, .ref (G.1 + 0)), (2, vi a2), (3, vi a3), (4, vi a4), (5, vi a5), (6, vi a6)] [] := by
  intro n
  induction n with
  | zero => intro a2 a3 a4 a5 a6 M h; exact nomatch (show (none : Res) = some r from h)
  | succ n ih => intro a2 a3 a4 a5 a6 M h; exact z_PP_send_63 C hlev ih h
def k_PP_send_27 (R27 : Int → Int → Int → Int → Int → Int → Mem → Res) (a1 a2 a3 a4 a5 a6 : Int) (M : Mem) : Res := if w32 a6 < w32 a2 then (bcall (d_Tr_get a1 a6 M) fun v2 M3 => chk (0 ≤ w32 a6 ∧ w32 a6 < 5) <| blet (sto M3 67 (ix a6) v2) fun M5 => blet (a6 + 1) fun v6 => R27 a1 a2 a3 a4 a5 v6 M5) else (fix (fun _ _ _ _ _ _ => none) (k_PP_send_63) FU a2 a3 a4 a5 0 M)
theorem z_PP_send_27 (C : Cx p s m args meth c G b_PP_send 7 "PrairiePool" (some .int)) (hlev : 3 ≤ lev) {r : Int × Mem} {R27 : Int → Int → Int → Int → Int → Int → Mem → Res} (hR27 : ∀ (a1 a2 a3 a4 a5 a6 : Int) (M : Mem), R27 a1 a2 a3 a4 a5 a6 M = some r → Z p l e lev s m args below meth c G 7 (MQ below (Qm G 1 r) args s 0 0 (Ab G)) M 27 [(0, .ref (G.1 + 0)), (1, vi a1), (2, vi a2), (3, vi a3), (4, vi a4), (5, vi a5), (6, vi a6)] []) {a1 a2 a3 a4 a5 a6 : Int} {M : Mem} (h : k_PP_send_27 R27 a1 a2 a3 a4 a5 a6 M = some r) : Z p l e lev s m args below meth c G 7 (MQ below (Qm G 1 r) args s 0 0 (Ab G)) M 27 [(0, .ref (G.1 + 0)), (1, vi a1), (2, vi a2), (3, vi a3), (4, vi a4), (5, vi a5), (6, vi a6)] [] := by
  unfold k_PP_send_27 at h
  refine z_iload C 6 x_PP_send_27 rfl ?_
  refine z_iload_n C 2 x_PP_send_29 rfl ?_
  rcases ite_e h with ⟨c1, h⟩ | ⟨c1, h⟩
  · refine z_icmp_ge_f (tgt := 60) C x_PP_send_30 rfl c1 ?_
    refine z_aload_n C 0 x_PP_send_33 rfl ?_
    refine z_getR (j := 6) C x_PP_send_34 nk_0 ck_0 cw_11 (i_lt rfl) rfl rf_0_6 rfl fl_PP_47 ?_
    refine z_getR (j := 5) C x_PP_send_37 nk_62 ck_62 cw_10 (i_lt rfl) rfl rf_62_5 rfl fl_PP_395 ?_
    refine z_iload C 6 x_PP_send_40 rfl ?_
    refine z_aload_n C 0 x_PP_send_42 rfl ?_
    refine z_getR (j := 1) C x_PP_send_43 nk_0 ck_0 cw_11 (i_lt rfl) rfl rf_0_1 rfl fl_PP_10 ?_
    refine z_iload_n C 1 x_PP_send_46 rfl ?_
    refine z_iload C 6 x_PP_send_47 rfl ?_
    obtain ⟨v2, M3, fv2, h⟩ := bcall_e h
    refine z_callVl (k := 1) C x_PP_send_49 cv_PP_107 (t_Tr_get (lev := lev - 1) l G (by omega) fv2) nk_1 ck_1 rfl (by omega) rfl (i_le rfl) rfl ?_
    refine z_l2i C x_PP_send_52 ?_
    obtain ⟨c4, h⟩ := chk_e h
    obtain ⟨M5, eM5, h⟩ := blet_e h
    refine z_iast C x_PP_send_53 nk_67 ck_67 c4 eM5 ?_
    obtain ⟨v6, ev6, h⟩ := blet_e h
    refine z_iinc (lv' := [(6, vi v6), (0, .ref (G.1 + 0)), (1, vi a1), (2, vi a2), (3, vi a3), (4, vi a4), (5, vi a5)]) C 6 ev6 x_PP_send_54 rfl (i_lt rfl) rfl ?_
    refine z_goto (tgt := 27) C x_PP_send_57 rfl ?_
    exact z_sub [1, 2, 3, 4, 5, 6, 0] rfl (hR27 a1 a2 a3 a4 a5 v6 M5 h)
  · refine z_icmp_ge_t (tgt := 60) C x_PP_send_30 rfl c1 ?_
    refine z_iconst C x_PP_send_60 ?_
    refine z_istore (lv' := [(6, vi 0), (0, .ref (G.1 + 0)), (1, vi a1), (2, vi a2), (3, vi a3), (4, vi a4), (5, vi a5)]) C rfl x_PP_send_61 (i_lt rfl) rfl ?_
    exact z_sub [1, 3, 4, 5, 6, 0] rfl (zl_PP_send_63 C hlev FU a2 a3 a4 a5 0 M h)
theorem zl_PP_send_27 (C : Cx p s m args meth c G b_PP_send 7 "PrairiePool" (some .int)) (hlev : 3 ≤ lev) {r : Int × Mem}  : ∀ (n : Nat) (a1 a2 a3 a4 a5 a6 : Int) (M : Mem), fix (fun _ _ _ _ _ _ _ => none) (k_PP_send_27) n a1 a2 a3 a4 a5 a6 M = some r → Z p l e lev s m args below meth c G 7 (MQ below (Qm G 1 r) args s 0 0 (Ab G)) M 27 [(0, .ref (G.1 + 0)), (1, vi a1), (2, vi a2), (3, vi a3), (4, vi a4), (5, vi a5), (6, vi a6)] [] := by
  intro n
  induction n with
  | zero => intro a1 a2 a3 a4 a5 a6 M h; exact nomatch (show (none : Res) = some r from h)
  | succ n ih => intro a1 a2 a3 a4 a5 a6 M h; exact z_PP_send_27 C hlev ih h
def d_PP_send (a1 a2 a3 a4 a5 : Int) (M : Mem) : Res := bcall (d_PP_statusOfSend a1 a2 a3 a4 a5 M) fun v1 M2 => blet (sto M2 0 0 v1) fun M3 => blet (M3 0 0) fun v4 => if w32 v4 = 0 then (fix (fun _ _ _ _ _ _ _ => none) (k_PP_send_27) FU a1 a2 a3 a4 a5 0 M3) else (some ((-1), M3))
theorem t_PP_send (l : Launch) (G : GX) {lev : Nat} (hlev : 3 ≤ lev) {a1 a2 a3 a4 a5 : Int} {M : Mem} {r : Int × Mem} (h : d_PP_send a1 a2 a3 a4 a5 M = some r) : Mt l G y_PP_send b_PP_send 7 (some .int) lev 1 [.ref (G.1 + 0), vi a1, vi a2, vi a3, vi a4, vi a5] M r := by
  refine Mt.of (by decide) (i_le rfl) ?_
  intro p e s m args below meth c C
  have C : Cx p s m args meth c G b_PP_send 7 "PrairiePool" (some .int) := C
  unfold d_PP_send at h
  refine z_sub (lv' := [(0, .ref (G.1 + 0)), (1, vi a1), (2, vi a2), (3, vi a3), (4, vi a4), (5, vi a5)]) [0, 1, 2, 3, 4, 5] rfl ?_
  refine z_aload_n C 0 x_PP_send_0 rfl ?_
  refine z_aload_n C 0 x_PP_send_1 rfl ?_
  refine z_iload_n C 1 x_PP_send_2 rfl ?_
  refine z_iload_n C 2 x_PP_send_3 rfl ?_
  refine z_iload_n C 3 x_PP_send_4 rfl ?_
  refine z_iload C 4 x_PP_send_5 rfl ?_
  refine z_iload C 5 x_PP_send_7 rfl ?_
  obtain ⟨v1, M2, fv1, h⟩ := bcall_e h
  refine z_callVi (k := 0) C x_PP_send_9 cv_PP_392 (t_PP_statusOfSend (lev := lev - 1) l G (by omega) fv1) nk_0 ck_0 rfl (by omega) rfl (i_le rfl) rfl ?_
  obtain ⟨M3, eM3, h⟩ := blet_e h
  refine z_putI (j := 0) C x_PP_send_12 nk_0 ck_0 cw_11 (i_lt rfl) rfl rfl rfl rfl fl_PP_85 eM3 ?_
  refine z_aload_n C 0 x_PP_send_15 rfl ?_
  obtain ⟨v4, ev4, h⟩ := blet_e h
  refine z_getI (j := 0) C x_PP_send_16 nk_0 ck_0 cw_11 (i_lt rfl) rfl rfl fl_PP_85 ev4 ?_
  rcases ite_e h with ⟨c5, h⟩ | ⟨c5, h⟩
  · refine z_if_eq_t (tgt := 24) C x_PP_send_19 rfl c5 ?_
    refine z_iconst C x_PP_send_24 ?_
    refine z_istore (lv' := [(6, vi 0), (0, .ref (G.1 + 0)), (1, vi a1), (2, vi a2), (3, vi a3), (4, vi a4), (5, vi a5)]) C rfl x_PP_send_25 (i_lt rfl) rfl ?_
    exact z_sub [1, 2, 3, 4, 5, 6, 0] rfl (zl_PP_send_27 C hlev FU a1 a2 a3 a4 a5 0 M3 h)
  · refine z_if_eq_f (tgt := 24) C x_PP_send_19 rfl c5 ?_
    refine z_iconst C x_PP_send_22 ?_
    exact z_iret C x_PP_send_23 h
end
