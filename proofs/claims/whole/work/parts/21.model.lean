section
variable {p : Program} {l : Launch} {e : Env} {lev : Nat} {s : State} {m : MethodId} {args : Array Value} {below : List Frame} {meth : Method} {c : Code} {G : GX}
theorem x_Mo_grade_0 : DC b_Mo_grade 0 (.aload_n 0) 1 1 := ⟨by decide +kernel, rfl⟩
theorem x_Mo_grade_1 : DC b_Mo_grade 1 (.iconst 0) 1 2 := ⟨by decide +kernel, rfl⟩
theorem x_Mo_grade_2 : DC b_Mo_grade 2 (.putfield 257) 3 5 := ⟨by decide +kernel, rfl⟩
theorem x_Mo_grade_5 : DC b_Mo_grade 5 (.aload_n 0) 1 6 := ⟨by decide +kernel, rfl⟩
theorem x_Mo_grade_6 : DC b_Mo_grade 6 (.iconst 0) 1 7 := ⟨by decide +kernel, rfl⟩
theorem x_Mo_grade_7 : DC b_Mo_grade 7 (.putfield 260) 3 10 := ⟨by decide +kernel, rfl⟩
theorem x_Mo_grade_10 : DC b_Mo_grade 10 (.aload_n 0) 1 11 := ⟨by decide +kernel, rfl⟩
theorem x_Mo_grade_11 : DC b_Mo_grade 11 (.iload_n 1) 1 12 := ⟨by decide +kernel, rfl⟩
theorem x_Mo_grade_12 : DC b_Mo_grade 12 (.invokevirtual 338) 3 15 := ⟨by decide +kernel, rfl⟩
theorem x_Mo_grade_15 : DC b_Mo_grade 15 (.ifCond .ne 9) 3 18 := ⟨by decide +kernel, rfl⟩
theorem x_Mo_grade_18 : DC b_Mo_grade 18 (.aload_n 0) 1 19 := ⟨by decide +kernel, rfl⟩
theorem x_Mo_grade_19 : DC b_Mo_grade 19 (.iconst 2) 1 20 := ⟨by decide +kernel, rfl⟩
theorem x_Mo_grade_20 : DC b_Mo_grade 20 (.invokevirtual 297) 3 23 := ⟨by decide +kernel, rfl⟩
theorem x_Mo_grade_23 : DC b_Mo_grade 23 (.ireturn) 1 24 := ⟨by decide +kernel, rfl⟩
theorem x_Mo_grade_24 : DC b_Mo_grade 24 (.iload_n 2) 1 25 := ⟨by decide +kernel, rfl⟩
theorem x_Mo_grade_25 : DC b_Mo_grade 25 (.invokestatic 306) 3 28 := ⟨by decide +kernel, rfl⟩
theorem x_Mo_grade_28 : DC b_Mo_grade 28 (.ifCond .ne 9) 3 31 := ⟨by decide +kernel, rfl⟩
theorem x_Mo_grade_31 : DC b_Mo_grade 31 (.aload_n 0) 1 32 := ⟨by decide +kernel, rfl⟩
theorem x_Mo_grade_32 : DC b_Mo_grade 32 (.iconst 5) 1 33 := ⟨by decide +kernel, rfl⟩
theorem x_Mo_grade_33 : DC b_Mo_grade 33 (.invokevirtual 297) 3 36 := ⟨by decide +kernel, rfl⟩
theorem x_Mo_grade_36 : DC b_Mo_grade 36 (.ireturn) 1 37 := ⟨by decide +kernel, rfl⟩
theorem x_Mo_grade_37 : DC b_Mo_grade 37 (.aload_n 0) 1 38 := ⟨by decide +kernel, rfl⟩
theorem x_Mo_grade_38 : DC b_Mo_grade 38 (.getfield 62) 3 41 := ⟨by decide +kernel, rfl⟩
theorem x_Mo_grade_41 : DC b_Mo_grade 41 (.iload_n 1) 1 42 := ⟨by decide +kernel, rfl⟩
theorem x_Mo_grade_42 : DC b_Mo_grade 42 (.iaload) 1 43 := ⟨by decide +kernel, rfl⟩
theorem x_Mo_grade_43 : DC b_Mo_grade 43 (.iload_n 2) 1 44 := ⟨by decide +kernel, rfl⟩
theorem x_Mo_grade_44 : DC b_Mo_grade 44 (.if_icmp .le 12) 3 47 := ⟨by decide +kernel, rfl⟩
theorem x_Mo_grade_47 : DC b_Mo_grade 47 (.aload_n 0) 1 48 := ⟨by decide +kernel, rfl⟩
theorem x_Mo_grade_48 : DC b_Mo_grade 48 (.bipush 8) 2 50 := ⟨by decide +kernel, rfl⟩
theorem x_Mo_grade_50 : DC b_Mo_grade 50 (.invokevirtual 297) 3 53 := ⟨by decide +kernel, rfl⟩
theorem x_Mo_grade_53 : DC b_Mo_grade 53 (.goto 9) 3 56 := ⟨by decide +kernel, rfl⟩
theorem x_Mo_grade_56 : DC b_Mo_grade 56 (.aload_n 0) 1 57 := ⟨by decide +kernel, rfl⟩
theorem x_Mo_grade_57 : DC b_Mo_grade 57 (.iload_n 1) 1 58 := ⟨by decide +kernel, rfl⟩
theorem x_Mo_grade_58 : DC b_Mo_grade 58 (.iload_n 2) 1 59 := ⟨by decide +kernel, rfl⟩
theorem x_Mo_grade_59 : DC b_Mo_grade 59 (.invokevirtual 363) 3 62 := ⟨by decide +kernel, rfl⟩
theorem x_Mo_grade_62 : DC b_Mo_grade 62 (.ireturn) 1 63 := ⟨by decide +kernel, rfl⟩
def d_Mo_grade (a1 a2 : Int) (M : Mem) : Res := blet (sto M 111 1 0) fun M1 => blet (sto M1 111 0 0) fun M2 => bcall (d_Mo_isLoad a1 M2) fun v3 M4 => if w32 v3 = 0 then (bcall (d_Mo_refuse 2 M4) fun v6 M7 => some (v6, M7)) else (bcall (d_Mo_isDay a2 M4) fun v8 M9 => if w32 v8 = 0 then (bcall (d_Mo_refuse 5 M9) fun v11 M12 => some (v11, M12)) else (chk (0 ≤ w32 a1 ∧ w32 a1 < 120) <| blet (M9 129 (ix a1)) fun v14 => if w32 a2 < w32 v14 then (bcall (d_Mo_refuse 8 M9) fun v16 M17 => some (v16, M17)) else (bcall (d_Mo_gradeOf a1 a2 M9) fun v18 M19 => some (v18, M19))))
theorem t_Mo_grade (l : Launch) (G : GX) {lev : Nat} (hlev : 6 ≤ lev) {a1 a2 : Int} {M : Mem} {r : Int × Mem} (h : d_Mo_grade a1 a2 M = some r) : Mt l G y_Mo_grade b_Mo_grade 3 (some .int) lev 1 [.ref (G.1 + 111), vi a1, vi a2] M r := by
  refine Mt.of (by decide) (i_le rfl) ?_
  intro p e s m args below meth c C
  have C : Cx p s m args meth c G b_Mo_grade 3 "PrairiePoolModel" (some .int) := C
  unfold d_Mo_grade at h
  refine z_sub (lv' := [(0, .ref (G.1 + 111)), (1, vi a1), (2, vi a2)]) [0, 1, 2] rfl ?_
  refine z_aload_n C 0 x_Mo_grade_0 rfl ?_
  refine z_iconst C x_Mo_grade_1 ?_
  obtain ⟨M1, eM1, h⟩ := blet_e h
  refine z_putI (j := 1) C x_Mo_grade_2 nk_111 ck_111 cw_12 (i_lt rfl) rfl rfl rfl rfl fl_Mo_257 eM1 ?_
  refine z_aload_n C 0 x_Mo_grade_5 rfl ?_
  refine z_iconst C x_Mo_grade_6 ?_
  obtain ⟨M2, eM2, h⟩ := blet_e h
  refine z_putI (j := 0) C x_Mo_grade_7 nk_111 ck_111 cw_12 (i_lt rfl) rfl rfl rfl rfl fl_Mo_260 eM2 ?_
  refine z_aload_n C 0 x_Mo_grade_10 rfl ?_
  refine z_iload_n C 1 x_Mo_grade_11 rfl ?_
  obtain ⟨v3, M4, fv3, h⟩ := bcall_e h
  refine z_callVi (k := 111) C x_Mo_grade_12 cv_Mo_338 (t_Mo_isLoad (lev := lev - 1) l G (by omega) fv3) nk_111 ck_111 rfl (by omega) rfl (i_le rfl) rfl ?_
  rcases ite_e h with ⟨c5, h⟩ | ⟨c5, h⟩
  · refine z_if_ne_f (tgt := 24) C x_Mo_grade_15 rfl c5 ?_
    refine z_aload_n C 0 x_Mo_grade_18 rfl ?_
    refine z_iconst C x_Mo_grade_19 ?_
    obtain ⟨v6, M7, fv6, h⟩ := bcall_e h
    refine z_callVi (k := 111) C x_Mo_grade_20 cv_Mo_297 (t_Mo_refuse (lev := lev - 1) l G (by omega) fv6) nk_111 ck_111 rfl (by omega) rfl (i_le rfl) rfl ?_
    exact z_iret C x_Mo_grade_23 h
  · refine z_if_ne_t (tgt := 24) C x_Mo_grade_15 rfl c5 ?_
    refine z_iload_n C 2 x_Mo_grade_24 rfl ?_
    obtain ⟨v8, M9, fv8, h⟩ := bcall_e h
    refine z_callSi C x_Mo_grade_25 cs_Mo_306 (t_Mo_isDay (lev := lev - 1) l G (by omega) fv8) (by omega) rfl (i_le rfl) rfl ?_
    rcases ite_e h with ⟨c10, h⟩ | ⟨c10, h⟩
    · refine z_if_ne_f (tgt := 37) C x_Mo_grade_28 rfl c10 ?_
      refine z_aload_n C 0 x_Mo_grade_31 rfl ?_
      refine z_iconst C x_Mo_grade_32 ?_
      obtain ⟨v11, M12, fv11, h⟩ := bcall_e h
      refine z_callVi (k := 111) C x_Mo_grade_33 cv_Mo_297 (t_Mo_refuse (lev := lev - 1) l G (by omega) fv11) nk_111 ck_111 rfl (by omega) rfl (i_le rfl) rfl ?_
      exact z_iret C x_Mo_grade_36 h
    · refine z_if_ne_t (tgt := 37) C x_Mo_grade_28 rfl c10 ?_
      refine z_aload_n C 0 x_Mo_grade_37 rfl ?_
      refine z_getR (j := 25) C x_Mo_grade_38 nk_111 ck_111 cw_12 (i_lt rfl) rfl rf_111_25 rfl fl_Mo_62 ?_
      refine z_iload_n C 1 x_Mo_grade_41 rfl ?_
      obtain ⟨c13, h⟩ := chk_e h
      obtain ⟨v14, ev14, h⟩ := blet_e h
      refine z_iald C x_Mo_grade_42 nk_129 ck_129 c13 ev14 ?_
      refine z_iload_n C 2 x_Mo_grade_43 rfl ?_
      rcases ite_e h with ⟨c15, h⟩ | ⟨c15, h⟩
      · refine z_icmp_le_f (tgt := 56) C x_Mo_grade_44 rfl c15 ?_
        refine z_aload_n C 0 x_Mo_grade_47 rfl ?_
        refine z_bipush C rfl x_Mo_grade_48 ?_
        obtain ⟨v16, M17, fv16, h⟩ := bcall_e h
        refine z_callVi (k := 111) C x_Mo_grade_50 cv_Mo_297 (t_Mo_refuse (lev := lev - 1) l G (by omega) fv16) nk_111 ck_111 rfl (by omega) rfl (i_le rfl) rfl ?_
        refine z_goto (tgt := 62) C x_Mo_grade_53 rfl ?_
        exact z_iret C x_Mo_grade_62 h
      · refine z_icmp_le_t (tgt := 56) C x_Mo_grade_44 rfl c15 ?_
        refine z_aload_n C 0 x_Mo_grade_56 rfl ?_
        refine z_iload_n C 1 x_Mo_grade_57 rfl ?_
        refine z_iload_n C 2 x_Mo_grade_58 rfl ?_
        obtain ⟨v18, M19, fv18, h⟩ := bcall_e h
        refine z_callVi (k := 111) C x_Mo_grade_59 cv_Mo_363 (t_Mo_gradeOf (lev := lev - 1) l G (by omega) fv18) nk_111 ck_111 rfl (by omega) rfl (i_le rfl) rfl ?_
        exact z_iret C x_Mo_grade_62 h
theorem x_Mo_isWho_0 : DC b_Mo_isWho 0 (.iload_n 1) 1 1 := ⟨by decide +kernel, rfl⟩
theorem x_Mo_isWho_1 : DC b_Mo_isWho 1 (.iconst (-1)) 1 2 := ⟨by decide +kernel, rfl⟩
theorem x_Mo_isWho_2 : DC b_Mo_isWho 2 (.if_icmp .eq 11) 3 5 := ⟨by decide +kernel, rfl⟩
theorem x_Mo_isWho_5 : DC b_Mo_isWho 5 (.aload_n 0) 1 6 := ⟨by decide +kernel, rfl⟩
theorem x_Mo_isWho_6 : DC b_Mo_isWho 6 (.iload_n 1) 1 7 := ⟨by decide +kernel, rfl⟩
theorem x_Mo_isWho_7 : DC b_Mo_isWho 7 (.invokevirtual 318) 3 10 := ⟨by decide +kernel, rfl⟩
theorem x_Mo_isWho_10 : DC b_Mo_isWho 10 (.ifCond .eq 7) 3 13 := ⟨by decide +kernel, rfl⟩
theorem x_Mo_isWho_13 : DC b_Mo_isWho 13 (.iconst 1) 1 14 := ⟨by decide +kernel, rfl⟩
theorem x_Mo_isWho_14 : DC b_Mo_isWho 14 (.goto 4) 3 17 := ⟨by decide +kernel, rfl⟩
theorem x_Mo_isWho_17 : DC b_Mo_isWho 17 (.iconst 0) 1 18 := ⟨by decide +kernel, rfl⟩
theorem x_Mo_isWho_18 : DC b_Mo_isWho 18 (.ireturn) 1 19 := ⟨by decide +kernel, rfl⟩
def k_Mo_isWho_13 (M : Mem) : Res := some (1, M)
theorem z_Mo_isWho_13 (C : Cx p s m args meth c G b_Mo_isWho 2 "PrairiePoolModel" (some .boolean)) (hlev : 2 ≤ lev) {r : Int × Mem}  {M : Mem} (h : k_Mo_isWho_13 M = some r) : Z p l e lev s m args below meth c G 2 (MQ below (Qm G 1 r) args s 0 0 (Ab G)) M 13 [] [] := by
  unfold k_Mo_isWho_13 at h
  refine z_iconst C x_Mo_isWho_13 ?_
  refine z_goto (tgt := 18) C x_Mo_isWho_14 rfl ?_
  exact z_zret C x_Mo_isWho_18 (by decide) h
def d_Mo_isWho (a1 : Int) (M : Mem) : Res := if w32 a1 = (-1) then (k_Mo_isWho_13 M) else (bcall (d_Mo_isFarm a1 M) fun v2 M3 => if w32 v2 = 0 then (some (0, M3)) else (k_Mo_isWho_13 M3))
theorem t_Mo_isWho (l : Launch) (G : GX) {lev : Nat} (hlev : 2 ≤ lev) {a1 : Int} {M : Mem} {r : Int × Mem} (h : d_Mo_isWho a1 M = some r) : Mt l G y_Mo_isWho b_Mo_isWho 2 (some .boolean) lev 1 [.ref (G.1 + 111), vi a1] M r := by
  refine Mt.of (by decide) (i_le rfl) ?_
  intro p e s m args below meth c C
  have C : Cx p s m args meth c G b_Mo_isWho 2 "PrairiePoolModel" (some .boolean) := C
  unfold d_Mo_isWho at h
  refine z_sub (lv' := [(0, .ref (G.1 + 111)), (1, vi a1)]) [0, 1] rfl ?_
  refine z_iload_n C 1 x_Mo_isWho_0 rfl ?_
  refine z_iconst C x_Mo_isWho_1 ?_
  rcases ite_e h with ⟨c1, h⟩ | ⟨c1, h⟩
  · refine z_icmp_eq_t (tgt := 13) C x_Mo_isWho_2 rfl c1 ?_
    exact z_sub [] rfl (z_Mo_isWho_13 C hlev h)
  · refine z_icmp_eq_f (tgt := 13) C x_Mo_isWho_2 rfl c1 ?_
    refine z_aload_n C 0 x_Mo_isWho_5 rfl ?_
    refine z_iload_n C 1 x_Mo_isWho_6 rfl ?_
    obtain ⟨v2, M3, fv2, h⟩ := bcall_e h
    refine z_callVi (k := 111) C x_Mo_isWho_7 cv_Mo_318 (t_Mo_isFarm (lev := lev - 1) l G (by omega) fv2) nk_111 ck_111 rfl (by omega) rfl (i_le rfl) rfl ?_
    rcases ite_e h with ⟨c4, h⟩ | ⟨c4, h⟩
    · refine z_if_eq_t (tgt := 17) C x_Mo_isWho_10 rfl c4 ?_
      refine z_iconst C x_Mo_isWho_17 ?_
      exact z_zret C x_Mo_isWho_18 (by decide) h
    · refine z_if_eq_f (tgt := 17) C x_Mo_isWho_10 rfl c4 ?_
      exact z_sub [] rfl (z_Mo_isWho_13 C hlev h)
theorem x_Mo_binAt_0 : DC b_Mo_binAt 0 (.bipush 20) 2 2 := ⟨by decide +kernel, rfl⟩
theorem x_Mo_binAt_2 : DC b_Mo_binAt 2 (.bipush 6) 2 4 := ⟨by decide +kernel, rfl⟩
theorem x_Mo_binAt_4 : DC b_Mo_binAt 4 (.iload_n 0) 1 5 := ⟨by decide +kernel, rfl⟩
theorem x_Mo_binAt_5 : DC b_Mo_binAt 5 (.imul) 1 6 := ⟨by decide +kernel, rfl⟩
theorem x_Mo_binAt_6 : DC b_Mo_binAt 6 (.iload_n 1) 1 7 := ⟨by decide +kernel, rfl⟩
theorem x_Mo_binAt_7 : DC b_Mo_binAt 7 (.iadd) 1 8 := ⟨by decide +kernel, rfl⟩
theorem x_Mo_binAt_8 : DC b_Mo_binAt 8 (.bipush 10) 2 10 := ⟨by decide +kernel, rfl⟩
theorem x_Mo_binAt_10 : DC b_Mo_binAt 10 (.imul) 1 11 := ⟨by decide +kernel, rfl⟩
theorem x_Mo_binAt_11 : DC b_Mo_binAt 11 (.iload_n 2) 1 12 := ⟨by decide +kernel, rfl⟩
theorem x_Mo_binAt_12 : DC b_Mo_binAt 12 (.iadd) 1 13 := ⟨by decide +kernel, rfl⟩
theorem x_Mo_binAt_13 : DC b_Mo_binAt 13 (.imul) 1 14 := ⟨by decide +kernel, rfl⟩
theorem x_Mo_binAt_14 : DC b_Mo_binAt 14 (.ireturn) 1 15 := ⟨by decide +kernel, rfl⟩
def d_Mo_binAt (a0 a1 a2 : Int) (M : Mem) : Res := some (20 * ((((6 * a0) + a1) * 10) + a2), M)
theorem t_Mo_binAt (l : Launch) (G : GX) {lev : Nat} (hlev : 0 ≤ lev) {a0 a1 a2 : Int} {M : Mem} {r : Int × Mem} (h : d_Mo_binAt a0 a1 a2 M = some r) : Mt l G y_Mo_binAt b_Mo_binAt 3 (some .int) lev 1 [vi a0, vi a1, vi a2] M r := by
  refine Mt.of (by decide) (i_le rfl) ?_
  intro p e s m args below meth c C
  have C : Cx p s m args meth c G b_Mo_binAt 3 "PrairiePoolModel" (some .int) := C
  unfold d_Mo_binAt at h
  refine z_sub (lv' := [(0, vi a0), (1, vi a1), (2, vi a2)]) [0, 1, 2] rfl ?_
  refine z_bipush C rfl x_Mo_binAt_0 ?_
  refine z_bipush C rfl x_Mo_binAt_2 ?_
  refine z_iload_n C 0 x_Mo_binAt_4 rfl ?_
  refine z_imul C x_Mo_binAt_5 ?_
  refine z_iload_n C 1 x_Mo_binAt_6 rfl ?_
  refine z_iadd C x_Mo_binAt_7 ?_
  refine z_bipush C rfl x_Mo_binAt_8 ?_
  refine z_imul C x_Mo_binAt_10 ?_
  refine z_iload_n C 2 x_Mo_binAt_11 rfl ?_
  refine z_iadd C x_Mo_binAt_12 ?_
  refine z_imul C x_Mo_binAt_13 ?_
  exact z_iret C x_Mo_binAt_14 h
theorem x_Mo_inElevator_0 : DC b_Mo_inElevator 0 (.iconst 0) 1 1 := ⟨by decide +kernel, rfl⟩
theorem x_Mo_inElevator_1 : DC b_Mo_inElevator 1 (.istore_n 2) 1 2 := ⟨by decide +kernel, rfl⟩
theorem x_Mo_inElevator_2 : DC b_Mo_inElevator 2 (.iconst 0) 1 3 := ⟨by decide +kernel, rfl⟩
theorem x_Mo_inElevator_3 : DC b_Mo_inElevator 3 (.istore_n 3) 1 4 := ⟨by decide +kernel, rfl⟩
theorem x_Mo_inElevator_4 : DC b_Mo_inElevator 4 (.iload_n 3) 1 5 := ⟨by decide +kernel, rfl⟩
theorem x_Mo_inElevator_5 : DC b_Mo_inElevator 5 (.sipush 1200) 3 8 := ⟨by decide +kernel, rfl⟩
theorem x_Mo_inElevator_8 : DC b_Mo_inElevator 8 (.if_icmp .ge 25) 3 11 := ⟨by decide +kernel, rfl⟩
theorem x_Mo_inElevator_11 : DC b_Mo_inElevator 11 (.iload_n 2) 1 12 := ⟨by decide +kernel, rfl⟩
theorem x_Mo_inElevator_12 : DC b_Mo_inElevator 12 (.aload_n 0) 1 13 := ⟨by decide +kernel, rfl⟩
theorem x_Mo_inElevator_13 : DC b_Mo_inElevator 13 (.getfield 77) 3 16 := ⟨by decide +kernel, rfl⟩
theorem x_Mo_inElevator_16 : DC b_Mo_inElevator 16 (.iload_n 1) 1 17 := ⟨by decide +kernel, rfl⟩
theorem x_Mo_inElevator_17 : DC b_Mo_inElevator 17 (.iconst 0) 1 18 := ⟨by decide +kernel, rfl⟩
theorem x_Mo_inElevator_18 : DC b_Mo_inElevator 18 (.iconst 0) 1 19 := ⟨by decide +kernel, rfl⟩
theorem x_Mo_inElevator_19 : DC b_Mo_inElevator 19 (.invokestatic 378) 3 22 := ⟨by decide +kernel, rfl⟩
theorem x_Mo_inElevator_22 : DC b_Mo_inElevator 22 (.iload_n 3) 1 23 := ⟨by decide +kernel, rfl⟩
theorem x_Mo_inElevator_23 : DC b_Mo_inElevator 23 (.iadd) 1 24 := ⟨by decide +kernel, rfl⟩
theorem x_Mo_inElevator_24 : DC b_Mo_inElevator 24 (.iaload) 1 25 := ⟨by decide +kernel, rfl⟩
theorem x_Mo_inElevator_25 : DC b_Mo_inElevator 25 (.iadd) 1 26 := ⟨by decide +kernel, rfl⟩
theorem x_Mo_inElevator_26 : DC b_Mo_inElevator 26 (.istore_n 2) 1 27 := ⟨by decide +kernel, rfl⟩
theorem x_Mo_inElevator_27 : DC b_Mo_inElevator 27 (.iinc 3 1) 3 30 := ⟨by decide +kernel, rfl⟩
theorem x_Mo_inElevator_30 : DC b_Mo_inElevator 30 (.goto (-26)) 3 33 := ⟨by decide +kernel, rfl⟩
theorem x_Mo_inElevator_33 : DC b_Mo_inElevator 33 (.iload_n 2) 1 34 := ⟨by decide +kernel, rfl⟩
theorem x_Mo_inElevator_34 : DC b_Mo_inElevator 34 (.ireturn) 1 35 := ⟨by decide +kernel, rfl⟩
def k_Mo_inElevator_4 (R4 : Int → Int → Int → Mem → Res) (a1 a2 a3 : Int) (M : Mem) : Res := if w32 a3 < 1200 then (bcall (d_Mo_binAt a1 0 0 M) fun v2 M3 => chk (0 ≤ w32 (v2 + a3) ∧ w32 (v2 + a3) < 9600) <| blet (M3 134 (ix (v2 + a3))) fun v5 => blet (a2 + v5) fun v6 => blet (a3 + 1) fun v7 => R4 a1 v6 v7 M3) else (some (a2, M))
theorem z_Mo_inElevator_4 (C : Cx p s m args meth c G b_Mo_inElevator 4 "PrairiePoolModel" (some .int)) (hlev : 1 ≤ lev) {r : Int × Mem} {R4 : Int → Int → Int → Mem → Res} (hR4 : ∀ (a1 a2 a3 : Int) (M : Mem), R4 a1 a2 a3 M = some r → Z p l e lev s m args below meth c G 4 (MQ below (Qm G 1 r) args s 0 0 (Ab G)) M 4 [(0, .ref (G.1 + 111)), (1, vi a1), (2, vi a2), (3, vi a3)] []) {a1 a2 a3 : Int} {M : Mem} (h : k_Mo_inElevator_4 R4 a1 a2 a3 M = some r) : Z p l e lev s m args below meth c G 4 (MQ below (Qm G 1 r) args s 0 0 (Ab G)) M 4 [(0, .ref (G.1 + 111)), (1, vi a1), (2, vi a2), (3, vi a3)] [] := by
  unfold k_Mo_inElevator_4 at h
  refine z_iload_n C 3 x_Mo_inElevator_4 rfl ?_
  refine z_sipush C rfl x_Mo_inElevator_5 ?_
  rcases ite_e h with ⟨c1, h⟩ | ⟨c1, h⟩
  · refine z_icmp_ge_f (tgt := 33) C x_Mo_inElevator_8 rfl c1 ?_
    refine z_iload_n C 2 x_Mo_inElevator_11 rfl ?_
    refine z_aload_n C 0 x_Mo_inElevator_12 rfl ?_
    refine z_getR (j := 30) C x_Mo_inElevator_13 nk_111 ck_111 cw_12 (i_lt rfl) rfl rf_111_30 rfl fl_Mo_77 ?_
    refine z_iload_n C 1 x_Mo_inElevator_16 rfl ?_
    refine z_iconst C x_Mo_inElevator_17 ?_
    refine z_iconst C x_Mo_inElevator_18 ?_
    obtain ⟨v2, M3, fv2, h⟩ := bcall_e h
    refine z_callSi C x_Mo_inElevator_19 cs_Mo_378 (t_Mo_binAt (lev := lev - 1) l G (by omega) fv2) (by omega) rfl (i_le rfl) rfl ?_
    refine z_iload_n C 3 x_Mo_inElevator_22 rfl ?_
    refine z_iadd C x_Mo_inElevator_23 ?_
    obtain ⟨c4, h⟩ := chk_e h
    obtain ⟨v5, ev5, h⟩ := blet_e h
    refine z_iald C x_Mo_inElevator_24 nk_134 ck_134 c4 ev5 ?_
    refine z_iadd C x_Mo_inElevator_25 ?_
    obtain ⟨v6, ev6, h⟩ := blet_e h
    refine z_istore_n (lv' := [(2, vi v6), (0, .ref (G.1 + 111)), (1, vi a1), (3, vi a3)]) C ev6 x_Mo_inElevator_26 (i_lt rfl) rfl ?_
    obtain ⟨v7, ev7, h⟩ := blet_e h
    refine z_iinc (lv' := [(3, vi v7), (2, vi v6), (0, .ref (G.1 + 111)), (1, vi a1)]) C 3 ev7 x_Mo_inElevator_27 rfl (i_lt rfl) rfl ?_
    refine z_goto (tgt := 4) C x_Mo_inElevator_30 rfl ?_
    exact z_sub [2, 3, 1, 0] rfl (hR4 a1 v6 v7 M3 h)
  · refine z_icmp_ge_t (tgt := 33) C x_Mo_inElevator_8 rfl c1 ?_
    refine z_iload_n C 2 x_Mo_inElevator_33 rfl ?_
    exact z_iret C x_Mo_inElevator_34 h
theorem zl_Mo_inElevator_4 (C : Cx p s m args meth c G b_Mo_inElevator 4 "PrairiePoolModel" (some .int)) (hlev : 1 ≤ lev) {r : Int × Mem}  : ∀ (n : Nat) (a1 a2 a3 : Int) (M : Mem), fix (fun _ _ _ _ => none) (k_Mo_inElevator_4) n a1 a2 a3 M = some r → Z p l e lev s m args below meth c G 4 (MQ below (Qm G 1 r) args s 0 0 (Ab G)) M 4 [(0, .ref (G.1 + 111)), (1, vi a1), (2, vi a2), (3, vi a3)] [] := by
  intro n
  induction n with
  | zero => intro a1 a2 a3 M h; exact nomatch (show (none : Res) = some r from h)
  | succ n ih => intro a1 a2 a3 M h; exact z_Mo_inElevator_4 C hlev ih h
def d_Mo_inElevator (a1 : Int) (M : Mem) : Res := fix (fun _ _ _ _ => none) (k_Mo_inElevator_4) FU a1 0 0 M
theorem t_Mo_inElevator (l : Launch) (G : GX) {lev : Nat} (hlev : 1 ≤ lev) {a1 : Int} {M : Mem} {r : Int × Mem} (h : d_Mo_inElevator a1 M = some r) : Mt l G y_Mo_inElevator b_Mo_inElevator 4 (some .int) lev 1 [.ref (G.1 + 111), vi a1] M r := by
  refine Mt.of (by decide) (i_le rfl) ?_
  intro p e s m args below meth c C
  have C : Cx p s m args meth c G b_Mo_inElevator 4 "PrairiePoolModel" (some .int) := C
  unfold d_Mo_inElevator at h
  refine z_sub (lv' := [(0, .ref (G.1 + 111)), (1, vi a1)]) [0, 1] rfl ?_
  refine z_iconst C x_Mo_inElevator_0 ?_
  refine z_istore_n (lv' := [(2, vi 0), (0, .ref (G.1 + 111)), (1, vi a1)]) C rfl x_Mo_inElevator_1 (i_lt rfl) rfl ?_
  refine z_iconst C x_Mo_inElevator_2 ?_
  refine z_istore_n (lv' := [(3, vi 0), (2, vi 0), (0, .ref (G.1 + 111)), (1, vi a1)]) C rfl x_Mo_inElevator_3 (i_lt rfl) rfl ?_
  exact z_sub [2, 3, 1, 0] rfl (zl_Mo_inElevator_4 C hlev FU a1 0 0 M h)
theorem x_Mo_playLoad_0 : DC b_Mo_playLoad 0 (.aload_n 0) 1 1 := ⟨by decide +kernel, rfl⟩
theorem x_Mo_playLoad_1 : DC b_Mo_playLoad 1 (.getfield 38) 3 4 := ⟨by decide +kernel, rfl⟩
theorem x_Mo_playLoad_4 : DC b_Mo_playLoad 4 (.iload_n 1) 1 5 := ⟨by decide +kernel, rfl⟩
theorem x_Mo_playLoad_5 : DC b_Mo_playLoad 5 (.iaload) 1 6 := ⟨by decide +kernel, rfl⟩
theorem x_Mo_playLoad_6 : DC b_Mo_playLoad 6 (.istore_n 3) 1 7 := ⟨by decide +kernel, rfl⟩
theorem x_Mo_playLoad_7 : DC b_Mo_playLoad 7 (.aload_n 0) 1 8 := ⟨by decide +kernel, rfl⟩
theorem x_Mo_playLoad_8 : DC b_Mo_playLoad 8 (.getfield 89) 3 11 := ⟨by decide +kernel, rfl⟩
theorem x_Mo_playLoad_11 : DC b_Mo_playLoad 11 (.iload_n 1) 1 12 := ⟨by decide +kernel, rfl⟩
theorem x_Mo_playLoad_12 : DC b_Mo_playLoad 12 (.aload_n 0) 1 13 := ⟨by decide +kernel, rfl⟩
theorem x_Mo_playLoad_13 : DC b_Mo_playLoad 13 (.iload_n 1) 1 14 := ⟨by decide +kernel, rfl⟩
theorem x_Mo_playLoad_14 : DC b_Mo_playLoad 14 (.iload_n 2) 1 15 := ⟨by decide +kernel, rfl⟩
theorem x_Mo_playLoad_15 : DC b_Mo_playLoad 15 (.invokevirtual 363) 3 18 := ⟨by decide +kernel, rfl⟩
theorem x_Mo_playLoad_18 : DC b_Mo_playLoad 18 (.iastore) 1 19 := ⟨by decide +kernel, rfl⟩
theorem x_Mo_playLoad_19 : DC b_Mo_playLoad 19 (.aload_n 0) 1 20 := ⟨by decide +kernel, rfl⟩
theorem x_Mo_playLoad_20 : DC b_Mo_playLoad 20 (.getfield 83) 3 23 := ⟨by decide +kernel, rfl⟩
theorem x_Mo_playLoad_23 : DC b_Mo_playLoad 23 (.iload_n 1) 1 24 := ⟨by decide +kernel, rfl⟩
theorem x_Mo_playLoad_24 : DC b_Mo_playLoad 24 (.iconst 0) 1 25 := ⟨by decide +kernel, rfl⟩
theorem x_Mo_playLoad_25 : DC b_Mo_playLoad 25 (.aload_n 0) 1 26 := ⟨by decide +kernel, rfl⟩
theorem x_Mo_playLoad_26 : DC b_Mo_playLoad 26 (.aload_n 0) 1 27 := ⟨by decide +kernel, rfl⟩
theorem x_Mo_playLoad_27 : DC b_Mo_playLoad 27 (.getfield 41) 3 30 := ⟨by decide +kernel, rfl⟩
theorem x_Mo_playLoad_30 : DC b_Mo_playLoad 30 (.iload_n 1) 1 31 := ⟨by decide +kernel, rfl⟩
theorem x_Mo_playLoad_31 : DC b_Mo_playLoad 31 (.iaload) 1 32 := ⟨by decide +kernel, rfl⟩
theorem x_Mo_playLoad_32 : DC b_Mo_playLoad 32 (.invokevirtual 390) 3 35 := ⟨by decide +kernel, rfl⟩
theorem x_Mo_playLoad_35 : DC b_Mo_playLoad 35 (.aload_n 0) 1 36 := ⟨by decide +kernel, rfl⟩
theorem x_Mo_playLoad_36 : DC b_Mo_playLoad 36 (.iload_n 1) 1 37 := ⟨by decide +kernel, rfl⟩
theorem x_Mo_playLoad_37 : DC b_Mo_playLoad 37 (.invokevirtual 347) 3 40 := ⟨by decide +kernel, rfl⟩
theorem x_Mo_playLoad_40 : DC b_Mo_playLoad 40 (.iadd) 1 41 := ⟨by decide +kernel, rfl⟩
theorem x_Mo_playLoad_41 : DC b_Mo_playLoad 41 (.aload_n 0) 1 42 := ⟨by decide +kernel, rfl⟩
theorem x_Mo_playLoad_42 : DC b_Mo_playLoad 42 (.getfield 32) 3 45 := ⟨by decide +kernel, rfl⟩
theorem x_Mo_playLoad_45 : DC b_Mo_playLoad 45 (.aload_n 0) 1 46 := ⟨by decide +kernel, rfl⟩
theorem x_Mo_playLoad_46 : DC b_Mo_playLoad 46 (.getfield 41) 3 49 := ⟨by decide +kernel, rfl⟩
theorem x_Mo_playLoad_49 : DC b_Mo_playLoad 49 (.iload_n 1) 1 50 := ⟨by decide +kernel, rfl⟩
theorem x_Mo_playLoad_50 : DC b_Mo_playLoad 50 (.iaload) 1 51 := ⟨by decide +kernel, rfl⟩
theorem x_Mo_playLoad_51 : DC b_Mo_playLoad 51 (.iaload) 1 52 := ⟨by decide +kernel, rfl⟩
theorem x_Mo_playLoad_52 : DC b_Mo_playLoad 52 (.isub) 1 53 := ⟨by decide +kernel, rfl⟩
theorem x_Mo_playLoad_53 : DC b_Mo_playLoad 53 (.invokestatic 393) 3 56 := ⟨by decide +kernel, rfl⟩
theorem x_Mo_playLoad_56 : DC b_Mo_playLoad 56 (.iastore) 1 57 := ⟨by decide +kernel, rfl⟩
theorem x_Mo_playLoad_57 : DC b_Mo_playLoad 57 (.aload_n 0) 1 58 := ⟨by decide +kernel, rfl⟩
theorem x_Mo_playLoad_58 : DC b_Mo_playLoad 58 (.getfield 92) 3 61 := ⟨by decide +kernel, rfl⟩
theorem x_Mo_playLoad_61 : DC b_Mo_playLoad 61 (.iload_n 3) 1 62 := ⟨by decide +kernel, rfl⟩
theorem x_Mo_playLoad_62 : DC b_Mo_playLoad 62 (.dup2) 1 63 := ⟨by decide +kernel, rfl⟩
theorem x_Mo_playLoad_63 : DC b_Mo_playLoad 63 (.iaload) 1 64 := ⟨by decide +kernel, rfl⟩
theorem x_Mo_playLoad_64 : DC b_Mo_playLoad 64 (.aload_n 0) 1 65 := ⟨by decide +kernel, rfl⟩
theorem x_Mo_playLoad_65 : DC b_Mo_playLoad 65 (.getfield 53) 3 68 := ⟨by decide +kernel, rfl⟩
theorem x_Mo_playLoad_68 : DC b_Mo_playLoad 68 (.iload_n 1) 1 69 := ⟨by decide +kernel, rfl⟩
theorem x_Mo_playLoad_69 : DC b_Mo_playLoad 69 (.iaload) 1 70 := ⟨by decide +kernel, rfl⟩
theorem x_Mo_playLoad_70 : DC b_Mo_playLoad 70 (.aload_n 0) 1 71 := ⟨by decide +kernel, rfl⟩
theorem x_Mo_playLoad_71 : DC b_Mo_playLoad 71 (.iload_n 1) 1 72 := ⟨by decide +kernel, rfl⟩
theorem x_Mo_playLoad_72 : DC b_Mo_playLoad 72 (.invokevirtual 347) 3 75 := ⟨by decide +kernel, rfl⟩
theorem x_Mo_playLoad_75 : DC b_Mo_playLoad 75 (.isub) 1 76 := ⟨by decide +kernel, rfl⟩
theorem x_Mo_playLoad_76 : DC b_Mo_playLoad 76 (.iadd) 1 77 := ⟨by decide +kernel, rfl⟩
theorem x_Mo_playLoad_77 : DC b_Mo_playLoad 77 (.iastore) 1 78 := ⟨by decide +kernel, rfl⟩
theorem x_Mo_playLoad_78 : DC b_Mo_playLoad 78 (.aload_n 0) 1 79 := ⟨by decide +kernel, rfl⟩
theorem x_Mo_playLoad_79 : DC b_Mo_playLoad 79 (.getfield 95) 3 82 := ⟨by decide +kernel, rfl⟩
theorem x_Mo_playLoad_82 : DC b_Mo_playLoad 82 (.iload_n 3) 1 83 := ⟨by decide +kernel, rfl⟩
theorem x_Mo_playLoad_83 : DC b_Mo_playLoad 83 (.dup2) 1 84 := ⟨by decide +kernel, rfl⟩
theorem x_Mo_playLoad_84 : DC b_Mo_playLoad 84 (.iaload) 1 85 := ⟨by decide +kernel, rfl⟩
theorem x_Mo_playLoad_85 : DC b_Mo_playLoad 85 (.aload_n 0) 1 86 := ⟨by decide +kernel, rfl⟩
theorem x_Mo_playLoad_86 : DC b_Mo_playLoad 86 (.getfield 83) 3 89 := ⟨by decide +kernel, rfl⟩
theorem x_Mo_playLoad_89 : DC b_Mo_playLoad 89 (.iload_n 1) 1 90 := ⟨by decide +kernel, rfl⟩
theorem x_Mo_playLoad_90 : DC b_Mo_playLoad 90 (.iaload) 1 91 := ⟨by decide +kernel, rfl⟩
theorem x_Mo_playLoad_91 : DC b_Mo_playLoad 91 (.iadd) 1 92 := ⟨by decide +kernel, rfl⟩
theorem x_Mo_playLoad_92 : DC b_Mo_playLoad 92 (.iastore) 1 93 := ⟨by decide +kernel, rfl⟩
theorem x_Mo_playLoad_93 : DC b_Mo_playLoad 93 (.aload_n 0) 1 94 := ⟨by decide +kernel, rfl⟩
theorem x_Mo_playLoad_94 : DC b_Mo_playLoad 94 (.getfield 77) 3 97 := ⟨by decide +kernel, rfl⟩
theorem x_Mo_playLoad_97 : DC b_Mo_playLoad 97 (.aload_n 0) 1 98 := ⟨by decide +kernel, rfl⟩
theorem x_Mo_playLoad_98 : DC b_Mo_playLoad 98 (.getfield 41) 3 101 := ⟨by decide +kernel, rfl⟩
theorem x_Mo_playLoad_101 : DC b_Mo_playLoad 101 (.iload_n 1) 1 102 := ⟨by decide +kernel, rfl⟩
theorem x_Mo_playLoad_102 : DC b_Mo_playLoad 102 (.iaload) 1 103 := ⟨by decide +kernel, rfl⟩
theorem x_Mo_playLoad_103 : DC b_Mo_playLoad 103 (.aload_n 0) 1 104 := ⟨by decide +kernel, rfl⟩
theorem x_Mo_playLoad_104 : DC b_Mo_playLoad 104 (.getfield 89) 3 107 := ⟨by decide +kernel, rfl⟩
theorem x_Mo_playLoad_107 : DC b_Mo_playLoad 107 (.iload_n 1) 1 108 := ⟨by decide +kernel, rfl⟩
theorem x_Mo_playLoad_108 : DC b_Mo_playLoad 108 (.iaload) 1 109 := ⟨by decide +kernel, rfl⟩
theorem x_Mo_playLoad_109 : DC b_Mo_playLoad 109 (.aload_n 0) 1 110 := ⟨by decide +kernel, rfl⟩
theorem x_Mo_playLoad_110 : DC b_Mo_playLoad 110 (.getfield 50) 3 113 := ⟨by decide +kernel, rfl⟩
theorem x_Mo_playLoad_113 : DC b_Mo_playLoad 113 (.iload_n 1) 1 114 := ⟨by decide +kernel, rfl⟩
theorem x_Mo_playLoad_114 : DC b_Mo_playLoad 114 (.iaload) 1 115 := ⟨by decide +kernel, rfl⟩
theorem x_Mo_playLoad_115 : DC b_Mo_playLoad 115 (.invokestatic 378) 3 118 := ⟨by decide +kernel, rfl⟩
theorem x_Mo_playLoad_118 : DC b_Mo_playLoad 118 (.iload_n 3) 1 119 := ⟨by decide +kernel, rfl⟩
theorem x_Mo_playLoad_119 : DC b_Mo_playLoad 119 (.iadd) 1 120 := ⟨by decide +kernel, rfl⟩
theorem x_Mo_playLoad_120 : DC b_Mo_playLoad 120 (.dup2) 1 121 := ⟨by decide +kernel, rfl⟩
theorem x_Mo_playLoad_121 : DC b_Mo_playLoad 121 (.iaload) 1 122 := ⟨by decide +kernel, rfl⟩
theorem x_Mo_playLoad_122 : DC b_Mo_playLoad 122 (.aload_n 0) 1 123 := ⟨by decide +kernel, rfl⟩
theorem x_Mo_playLoad_123 : DC b_Mo_playLoad 123 (.iload_n 1) 1 124 := ⟨by decide +kernel, rfl⟩
theorem x_Mo_playLoad_124 : DC b_Mo_playLoad 124 (.invokevirtual 347) 3 127 := ⟨by decide +kernel, rfl⟩
theorem x_Mo_playLoad_127 : DC b_Mo_playLoad 127 (.aload_n 0) 1 128 := ⟨by decide +kernel, rfl⟩
theorem x_Mo_playLoad_128 : DC b_Mo_playLoad 128 (.getfield 83) 3 131 := ⟨by decide +kernel, rfl⟩
theorem x_Mo_playLoad_131 : DC b_Mo_playLoad 131 (.iload_n 1) 1 132 := ⟨by decide +kernel, rfl⟩
theorem x_Mo_playLoad_132 : DC b_Mo_playLoad 132 (.iaload) 1 133 := ⟨by decide +kernel, rfl⟩
theorem x_Mo_playLoad_133 : DC b_Mo_playLoad 133 (.isub) 1 134 := ⟨by decide +kernel, rfl⟩
theorem x_Mo_playLoad_134 : DC b_Mo_playLoad 134 (.iadd) 1 135 := ⟨by decide +kernel, rfl⟩
theorem x_Mo_playLoad_135 : DC b_Mo_playLoad 135 (.iastore) 1 136 := ⟨by decide +kernel, rfl⟩
theorem x_Mo_playLoad_136 : DC b_Mo_playLoad 136 (.return_) 1 137 := ⟨by decide +kernel, rfl⟩
def d_Mo_playLoad (a1 a2 : Int) (M : Mem) : Res := chk (0 ≤ w32 a1 ∧ w32 a1 < 120) <| blet (M 121 (ix a1)) fun v2 => bcall (d_Mo_gradeOf a1 a2 M) fun v3 M4 => chk (0 ≤ w32 a1 ∧ w32 a1 < 120) <| blet (sto M4 138 (ix a1) v3) fun M6 => chk (0 ≤ w32 a1 ∧ w32 a1 < 120) <| blet (M6 122 (ix a1)) fun v8 => bcall (d_Mo_inElevator v8 M6) fun v9 M10 => bcall (d_Mo_net a1 M10) fun v11 M12 => chk (0 ≤ w32 a1 ∧ w32 a1 < 120) <| blet (M12 122 (ix a1)) fun v14 => chk (0 ≤ w32 v14 ∧ w32 v14 < 8) <| blet (M12 119 (ix v14)) fun v16 => chk (0 ≤ w32 a1 ∧ w32 a1 < 120) <| blet (sto M12 136 (ix a1) (mx32 0 ((v9 + v11) - v16))) fun M18 => chk (0 ≤ w32 v2 ∧ w32 v2 < 20) <| blet (M18 139 (ix v2)) fun v20 => chk (0 ≤ w32 a1 ∧ w32 a1 < 120) <| blet (M18 126 (ix a1)) fun v22 => bcall (d_Mo_net a1 M18) fun v23 M24 => chk (0 ≤ w32 v2 ∧ w32 v2 < 20) <| blet (sto M24 139 (ix v2) (v20 + (v22 - v23))) fun M26 => chk (0 ≤ w32 v2 ∧ w32 v2 < 20) <| blet (M26 140 (ix v2)) fun v28 => chk (0 ≤ w32 a1 ∧ w32 a1 < 120) <| blet (M26 136 (ix a1)) fun v30 => chk (0 ≤ w32 v2 ∧ w32 v2 < 20) <| blet (sto M26 140 (ix v2) (v28 + v30)) fun M32 => chk (0 ≤ w32 a1 ∧ w32 a1 < 120) <| blet (M32 122 (ix a1)) fun v34 => chk (0 ≤ w32 a1 ∧ w32 a1 < 120) <| blet (M32 138 (ix a1)) fun v36 => chk (0 ≤ w32 a1 ∧ w32 a1 < 120) <| blet (M32 125 (ix a1)) fun v38 => bcall (d_Mo_binAt v34 v36 v38 M32) fun v39 M40 => chk (0 ≤ w32 (v39 + v2) ∧ w32 (v39 + v2) < 9600) <| blet (M40 134 (ix (v39 + v2))) fun v42 => bcall (d_Mo_net a1 M40) fun v43 M44 => chk (0 ≤ w32 a1 ∧ w32 a1 < 120) <| blet (M44 136 (ix a1)) fun v46 => chk (0 ≤ w32 (v39 + v2) ∧ w32 (v39 + v2) < 9600) <| blet (sto M44 134 (ix (v39 + v2)) (v42 + (v43 - v46))) fun M48 => some (0, M48)
theorem t_Mo_playLoad (l : Launch) (G : GX) {lev : Nat} (hlev : 6 ≤ lev) {a1 a2 : Int} {M : Mem} {r : Int × Mem} (h : d_Mo_playLoad a1 a2 M = some r) : Mt l G y_Mo_playLoad b_Mo_playLoad 4 none lev 0 [.ref (G.1 + 111), vi a1, vi a2] M r := by
  refine Mt.of (by decide) (i_le rfl) ?_
  intro p e s m args below meth c C
  have C : Cx p s m args meth c G b_Mo_playLoad 4 "PrairiePoolModel" none := C
  unfold d_Mo_playLoad at h
  refine z_sub (lv' := [(0, .ref (G.1 + 111)), (1, vi a1), (2, vi a2)]) [0, 1, 2] rfl ?_
  refine z_aload_n C 0 x_Mo_playLoad_0 rfl ?_
  refine z_getR (j := 17) C x_Mo_playLoad_1 nk_111 ck_111 cw_12 (i_lt rfl) rfl rf_111_17 rfl fl_Mo_38 ?_
  refine z_iload_n C 1 x_Mo_playLoad_4 rfl ?_
  obtain ⟨c1, h⟩ := chk_e h
  obtain ⟨v2, ev2, h⟩ := blet_e h
  refine z_iald C x_Mo_playLoad_5 nk_121 ck_121 c1 ev2 ?_
  refine z_istore_n (lv' := [(3, vi v2), (0, .ref (G.1 + 111)), (1, vi a1), (2, vi a2)]) C rfl x_Mo_playLoad_6 (i_lt rfl) rfl ?_
  refine z_aload_n C 1 x_Mo_playLoad_7 rfl ?_
  refine z_getR (j := 34) C x_Mo_playLoad_8 nk_111 ck_111 cw_12 (i_lt rfl) rfl rf_111_34 rfl fl_Mo_89 ?_
  refine z_iload_n C 2 x_Mo_playLoad_11 rfl ?_
  refine z_aload_n C 1 x_Mo_playLoad_12 rfl ?_
  refine z_iload_n C 2 x_Mo_playLoad_13 rfl ?_
  refine z_iload_n C 3 x_Mo_playLoad_14 rfl ?_
  obtain ⟨v3, M4, fv3, h⟩ := bcall_e h
  refine z_callVi (k := 111) C x_Mo_playLoad_15 cv_Mo_363 (t_Mo_gradeOf (lev := lev - 1) l G (by omega) fv3) nk_111 ck_111 rfl (by omega) rfl (i_le rfl) rfl ?_
  obtain ⟨c5, h⟩ := chk_e h
  obtain ⟨M6, eM6, h⟩ := blet_e h
  refine z_iast C x_Mo_playLoad_18 nk_138 ck_138 c5 eM6 ?_
  refine z_aload_n C 1 x_Mo_playLoad_19 rfl ?_
  refine z_getR (j := 32) C x_Mo_playLoad_20 nk_111 ck_111 cw_12 (i_lt rfl) rfl rf_111_32 rfl fl_Mo_83 ?_
  refine z_iload_n C 2 x_Mo_playLoad_23 rfl ?_
  refine z_iconst C x_Mo_playLoad_24 ?_
  refine z_aload_n C 1 x_Mo_playLoad_25 rfl ?_
  refine z_aload_n C 1 x_Mo_playLoad_26 rfl ?_
  refine z_getR (j := 18) C x_Mo_playLoad_27 nk_111 ck_111 cw_12 (i_lt rfl) rfl rf_111_18 rfl fl_Mo_41 ?_
  refine z_iload_n C 2 x_Mo_playLoad_30 rfl ?_
  obtain ⟨c7, h⟩ := chk_e h
  obtain ⟨v8, ev8, h⟩ := blet_e h
  refine z_iald C x_Mo_playLoad_31 nk_122 ck_122 c7 ev8 ?_
  obtain ⟨v9, M10, fv9, h⟩ := bcall_e h
  refine z_callVi (k := 111) C x_Mo_playLoad_32 cv_Mo_390 (t_Mo_inElevator (lev := lev - 1) l G (by omega) fv9) nk_111 ck_111 rfl (by omega) rfl (i_le rfl) rfl ?_
  refine z_aload_n C 1 x_Mo_playLoad_35 rfl ?_
  refine z_iload_n C 2 x_Mo_playLoad_36 rfl ?_
  obtain ⟨v11, M12, fv11, h⟩ := bcall_e h
  refine z_callVi (k := 111) C x_Mo_playLoad_37 cv_Mo_347 (t_Mo_net (lev := lev - 1) l G (by omega) fv11) nk_111 ck_111 rfl (by omega) rfl (i_le rfl) rfl ?_
  refine z_iadd C x_Mo_playLoad_40 ?_
  refine z_aload_n C 1 x_Mo_playLoad_41 rfl ?_
  refine z_getR (j := 15) C x_Mo_playLoad_42 nk_111 ck_111 cw_12 (i_lt rfl) rfl rf_111_15 rfl fl_Mo_32 ?_
  refine z_aload_n C 1 x_Mo_playLoad_45 rfl ?_
  refine z_getR (j := 18) C x_Mo_playLoad_46 nk_111 ck_111 cw_12 (i_lt rfl) rfl rf_111_18 rfl fl_Mo_41 ?_
  refine z_iload_n C 2 x_Mo_playLoad_49 rfl ?_
  obtain ⟨c13, h⟩ := chk_e h
  obtain ⟨v14, ev14, h⟩ := blet_e h
  refine z_iald C x_Mo_playLoad_50 nk_122 ck_122 c13 ev14 ?_
  obtain ⟨c15, h⟩ := chk_e h
  obtain ⟨v16, ev16, h⟩ := blet_e h
  refine z_iald C x_Mo_playLoad_51 nk_119 ck_119 c15 ev16 ?_
  refine z_isub C x_Mo_playLoad_52 ?_
  refine z_mx32 C x_Mo_playLoad_53 cs_Mo_393 (by omega) (i_le rfl) ?_
  obtain ⟨c17, h⟩ := chk_e h
  obtain ⟨M18, eM18, h⟩ := blet_e h
  refine z_iast C x_Mo_playLoad_56 nk_136 ck_136 c17 eM18 ?_
  refine z_aload_n C 1 x_Mo_playLoad_57 rfl ?_
  refine z_getR (j := 35) C x_Mo_playLoad_58 nk_111 ck_111 cw_12 (i_lt rfl) rfl rf_111_35 rfl fl_Mo_92 ?_
  refine z_iload_n C 0 x_Mo_playLoad_61 rfl ?_
  refine z_dup2 C x_Mo_playLoad_62 rfl rfl ?_
  obtain ⟨c19, h⟩ := chk_e h
  obtain ⟨v20, ev20, h⟩ := blet_e h
  refine z_iald C x_Mo_playLoad_63 nk_139 ck_139 c19 ev20 ?_
  refine z_aload_n C 1 x_Mo_playLoad_64 rfl ?_
  refine z_getR (j := 22) C x_Mo_playLoad_65 nk_111 ck_111 cw_12 (i_lt rfl) rfl rf_111_22 rfl fl_Mo_53 ?_
  refine z_iload_n C 2 x_Mo_playLoad_68 rfl ?_
  obtain ⟨c21, h⟩ := chk_e h
  obtain ⟨v22, ev22, h⟩ := blet_e h
  refine z_iald C x_Mo_playLoad_69 nk_126 ck_126 c21 ev22 ?_
  refine z_aload_n C 1 x_Mo_playLoad_70 rfl ?_
  refine z_iload_n C 2 x_Mo_playLoad_71 rfl ?_
  obtain ⟨v23, M24, fv23, h⟩ := bcall_e h
  refine z_callVi (k := 111) C x_Mo_playLoad_72 cv_Mo_347 (t_Mo_net (lev := lev - 1) l G (by omega) fv23) nk_111 ck_111 rfl (by omega) rfl (i_le rfl) rfl ?_
  refine z_isub C x_Mo_playLoad_75 ?_
  refine z_iadd C x_Mo_playLoad_76 ?_
  obtain ⟨c25, h⟩ := chk_e h
  obtain ⟨M26, eM26, h⟩ := blet_e h
  refine z_iast C x_Mo_playLoad_77 nk_139 ck_139 c25 eM26 ?_
  refine z_aload_n C 1 x_Mo_playLoad_78 rfl ?_
  refine z_getR (j := 36) C x_Mo_playLoad_79 nk_111 ck_111 cw_12 (i_lt rfl) rfl rf_111_36 rfl fl_Mo_95 ?_
  refine z_iload_n C 0 x_Mo_playLoad_82 rfl ?_
  refine z_dup2 C x_Mo_playLoad_83 rfl rfl ?_
  obtain ⟨c27, h⟩ := chk_e h
  obtain ⟨v28, ev28, h⟩ := blet_e h
  refine z_iald C x_Mo_playLoad_84 nk_140 ck_140 c27 ev28 ?_
  refine z_aload_n C 1 x_Mo_playLoad_85 rfl ?_
  refine z_getR (j := 32) C x_Mo_playLoad_86 nk_111 ck_111 cw_12 (i_lt rfl) rfl rf_111_32 rfl fl_Mo_83 ?_
  refine z_iload_n C 2 x_Mo_playLoad_89 rfl ?_
  obtain ⟨c29, h⟩ := chk_e h
  obtain ⟨v30, ev30, h⟩ := blet_e h
  refine z_iald C x_Mo_playLoad_90 nk_136 ck_136 c29 ev30 ?_
  refine z_iadd C x_Mo_playLoad_91 ?_
  obtain ⟨c31, h⟩ := chk_e h
  obtain ⟨M32, eM32, h⟩ := blet_e h
  refine z_iast C x_Mo_playLoad_92 nk_140 ck_140 c31 eM32 ?_
  refine z_aload_n C 1 x_Mo_playLoad_93 rfl ?_
  refine z_getR (j := 30) C x_Mo_playLoad_94 nk_111 ck_111 cw_12 (i_lt rfl) rfl rf_111_30 rfl fl_Mo_77 ?_
  refine z_aload_n C 1 x_Mo_playLoad_97 rfl ?_
  refine z_getR (j := 18) C x_Mo_playLoad_98 nk_111 ck_111 cw_12 (i_lt rfl) rfl rf_111_18 rfl fl_Mo_41 ?_
  refine z_iload_n C 2 x_Mo_playLoad_101 rfl ?_
  obtain ⟨c33, h⟩ := chk_e h
  obtain ⟨v34, ev34, h⟩ := blet_e h
  refine z_iald C x_Mo_playLoad_102 nk_122 ck_122 c33 ev34 ?_
  refine z_aload_n C 1 x_Mo_playLoad_103 rfl ?_
  refine z_getR (j := 34) C x_Mo_playLoad_104 nk_111 ck_111 cw_12 (i_lt rfl) rfl rf_111_34 rfl fl_Mo_89 ?_
  refine z_iload_n C 2 x_Mo_playLoad_107 rfl ?_
  obtain ⟨c35, h⟩ := chk_e h
  obtain ⟨v36, ev36, h⟩ := blet_e h
  refine z_iald C x_Mo_playLoad_108 nk_138 ck_138 c35 ev36 ?_
  refine z_aload_n C 1 x_Mo_playLoad_109 rfl ?_
  refine z_getR (j := 21) C x_Mo_playLoad_110 nk_111 ck_111 cw_12 (i_lt rfl) rfl rf_111_21 rfl fl_Mo_50 ?_
  refine z_iload_n C 2 x_Mo_playLoad_113 rfl ?_
  obtain ⟨c37, h⟩ := chk_e h
  obtain ⟨v38, ev38, h⟩ := blet_e h
  refine z_iald C x_Mo_playLoad_114 nk_125 ck_125 c37 ev38 ?_
  obtain ⟨v39, M40, fv39, h⟩ := bcall_e h
  refine z_callSi C x_Mo_playLoad_115 cs_Mo_378 (t_Mo_binAt (lev := lev - 1) l G (by omega) fv39) (by omega) rfl (i_le rfl) rfl ?_
  refine z_iload_n C 0 x_Mo_playLoad_118 rfl ?_
  refine z_iadd C x_Mo_playLoad_119 ?_
  refine z_dup2 C x_Mo_playLoad_120 rfl rfl ?_
  obtain ⟨c41, h⟩ := chk_e h
  obtain ⟨v42, ev42, h⟩ := blet_e h
  refine z_iald C x_Mo_playLoad_121 nk_134 ck_134 c41 ev42 ?_
  refine z_aload_n C 1 x_Mo_playLoad_122 rfl ?_
  refine z_iload_n C 2 x_Mo_playLoad_123 rfl ?_
  obtain ⟨v43, M44, fv43, h⟩ := bcall_e h
  refine z_callVi (k := 111) C x_Mo_playLoad_124 cv_Mo_347 (t_Mo_net (lev := lev - 1) l G (by omega) fv43) nk_111 ck_111 rfl (by omega) rfl (i_le rfl) rfl ?_
  refine z_aload_n C 1 x_Mo_playLoad_127 rfl ?_
  refine z_getR (j := 32) C x_Mo_playLoad_128 nk_111 ck_111 cw_12 (i_lt rfl) rfl rf_111_32 rfl fl_Mo_83 ?_
  refine z_iload_n C 2 x_Mo_playLoad_131 rfl ?_
  obtain ⟨c45, h⟩ := chk_e h
  obtain ⟨v46, ev46, h⟩ := blet_e h
  refine z_iald C x_Mo_playLoad_132 nk_136 ck_136 c45 ev46 ?_
  refine z_isub C x_Mo_playLoad_133 ?_
  refine z_iadd C x_Mo_playLoad_134 ?_
  obtain ⟨c47, h⟩ := chk_e h
  obtain ⟨M48, eM48, h⟩ := blet_e h
  refine z_iast C x_Mo_playLoad_135 nk_134 ck_134 c47 eM48 ?_
  exact z_vret C x_Mo_playLoad_136 h
theorem x_Mo_parts_0 : DC b_Mo_parts 0 (.lconst 0) 1 1 := ⟨by decide +kernel, rfl⟩
theorem x_Mo_parts_1 : DC b_Mo_parts 1 (.lstore_n 3) 1 2 := ⟨by decide +kernel, rfl⟩
theorem x_Mo_parts_2 : DC b_Mo_parts 2 (.iconst 0) 1 3 := ⟨by decide +kernel, rfl⟩
theorem x_Mo_parts_3 : DC b_Mo_parts 3 (.istore 5) 2 5 := ⟨by decide +kernel, rfl⟩
theorem x_Mo_parts_5 : DC b_Mo_parts 5 (.iload 5) 2 7 := ⟨by decide +kernel, rfl⟩
theorem x_Mo_parts_7 : DC b_Mo_parts 7 (.aload_n 0) 1 8 := ⟨by decide +kernel, rfl⟩
theorem x_Mo_parts_8 : DC b_Mo_parts 8 (.getfield 291) 3 11 := ⟨by decide +kernel, rfl⟩
theorem x_Mo_parts_11 : DC b_Mo_parts 11 (.if_icmp .ge 19) 3 14 := ⟨by decide +kernel, rfl⟩
theorem x_Mo_parts_14 : DC b_Mo_parts 14 (.lload_n 3) 1 15 := ⟨by decide +kernel, rfl⟩
theorem x_Mo_parts_15 : DC b_Mo_parts 15 (.aload_n 0) 1 16 := ⟨by decide +kernel, rfl⟩
theorem x_Mo_parts_16 : DC b_Mo_parts 16 (.getfield 104) 3 19 := ⟨by decide +kernel, rfl⟩
theorem x_Mo_parts_19 : DC b_Mo_parts 19 (.iload 5) 2 21 := ⟨by decide +kernel, rfl⟩
theorem x_Mo_parts_21 : DC b_Mo_parts 21 (.laload) 1 22 := ⟨by decide +kernel, rfl⟩
theorem x_Mo_parts_22 : DC b_Mo_parts 22 (.ladd) 1 23 := ⟨by decide +kernel, rfl⟩
theorem x_Mo_parts_23 : DC b_Mo_parts 23 (.lstore_n 3) 1 24 := ⟨by decide +kernel, rfl⟩
theorem x_Mo_parts_24 : DC b_Mo_parts 24 (.iinc 5 1) 3 27 := ⟨by decide +kernel, rfl⟩
theorem x_Mo_parts_27 : DC b_Mo_parts 27 (.goto (-22)) 3 30 := ⟨by decide +kernel, rfl⟩
theorem x_Mo_parts_30 : DC b_Mo_parts 30 (.lload_n 1) 1 31 := ⟨by decide +kernel, rfl⟩
theorem x_Mo_parts_31 : DC b_Mo_parts 31 (.lstore 5) 2 33 := ⟨by decide +kernel, rfl⟩
theorem x_Mo_parts_33 : DC b_Mo_parts 33 (.iconst 0) 1 34 := ⟨by decide +kernel, rfl⟩
theorem x_Mo_parts_34 : DC b_Mo_parts 34 (.istore 7) 2 36 := ⟨by decide +kernel, rfl⟩
theorem x_Mo_parts_36 : DC b_Mo_parts 36 (.iload 7) 2 38 := ⟨by decide +kernel, rfl⟩
theorem x_Mo_parts_38 : DC b_Mo_parts 38 (.aload_n 0) 1 39 := ⟨by decide +kernel, rfl⟩
theorem x_Mo_parts_39 : DC b_Mo_parts 39 (.getfield 291) 3 42 := ⟨by decide +kernel, rfl⟩
theorem x_Mo_parts_42 : DC b_Mo_parts 42 (.if_icmp .ge 77) 3 45 := ⟨by decide +kernel, rfl⟩
theorem x_Mo_parts_45 : DC b_Mo_parts 45 (.aload_n 0) 1 46 := ⟨by decide +kernel, rfl⟩
theorem x_Mo_parts_46 : DC b_Mo_parts 46 (.getfield 107) 3 49 := ⟨by decide +kernel, rfl⟩
theorem x_Mo_parts_49 : DC b_Mo_parts 49 (.iload 7) 2 51 := ⟨by decide +kernel, rfl⟩
theorem x_Mo_parts_51 : DC b_Mo_parts 51 (.lload_n 3) 1 52 := ⟨by decide +kernel, rfl⟩
theorem x_Mo_parts_52 : DC b_Mo_parts 52 (.lconst 0) 1 53 := ⟨by decide +kernel, rfl⟩
theorem x_Mo_parts_53 : DC b_Mo_parts 53 (.lcmp) 1 54 := ⟨by decide +kernel, rfl⟩
theorem x_Mo_parts_54 : DC b_Mo_parts 54 (.ifCond .ne 7) 3 57 := ⟨by decide +kernel, rfl⟩
theorem x_Mo_parts_57 : DC b_Mo_parts 57 (.lconst 0) 1 58 := ⟨by decide +kernel, rfl⟩
theorem x_Mo_parts_58 : DC b_Mo_parts 58 (.goto 14) 3 61 := ⟨by decide +kernel, rfl⟩
theorem x_Mo_parts_61 : DC b_Mo_parts 61 (.lload_n 1) 1 62 := ⟨by decide +kernel, rfl⟩
theorem x_Mo_parts_62 : DC b_Mo_parts 62 (.aload_n 0) 1 63 := ⟨by decide +kernel, rfl⟩
theorem x_Mo_parts_63 : DC b_Mo_parts 63 (.getfield 104) 3 66 := ⟨by decide +kernel, rfl⟩
theorem x_Mo_parts_66 : DC b_Mo_parts 66 (.iload 7) 2 68 := ⟨by decide +kernel, rfl⟩
theorem x_Mo_parts_68 : DC b_Mo_parts 68 (.laload) 1 69 := ⟨by decide +kernel, rfl⟩
theorem x_Mo_parts_69 : DC b_Mo_parts 69 (.lmul) 1 70 := ⟨by decide +kernel, rfl⟩
theorem x_Mo_parts_70 : DC b_Mo_parts 70 (.lload_n 3) 1 71 := ⟨by decide +kernel, rfl⟩
theorem x_Mo_parts_71 : DC b_Mo_parts 71 (.ldiv) 1 72 := ⟨by decide +kernel, rfl⟩
theorem x_Mo_parts_72 : DC b_Mo_parts 72 (.lastore) 1 73 := ⟨by decide +kernel, rfl⟩
theorem x_Mo_parts_73 : DC b_Mo_parts 73 (.aload_n 0) 1 74 := ⟨by decide +kernel, rfl⟩
theorem x_Mo_parts_74 : DC b_Mo_parts 74 (.getfield 110) 3 77 := ⟨by decide +kernel, rfl⟩
theorem x_Mo_parts_77 : DC b_Mo_parts 77 (.iload 7) 2 79 := ⟨by decide +kernel, rfl⟩
theorem x_Mo_parts_79 : DC b_Mo_parts 79 (.lload_n 3) 1 80 := ⟨by decide +kernel, rfl⟩
theorem x_Mo_parts_80 : DC b_Mo_parts 80 (.lconst 0) 1 81 := ⟨by decide +kernel, rfl⟩
theorem x_Mo_parts_81 : DC b_Mo_parts 81 (.lcmp) 1 82 := ⟨by decide +kernel, rfl⟩
theorem x_Mo_parts_82 : DC b_Mo_parts 82 (.ifCond .ne 7) 3 85 := ⟨by decide +kernel, rfl⟩
theorem x_Mo_parts_85 : DC b_Mo_parts 85 (.lconst 0) 1 86 := ⟨by decide +kernel, rfl⟩
theorem x_Mo_parts_86 : DC b_Mo_parts 86 (.goto 14) 3 89 := ⟨by decide +kernel, rfl⟩
theorem x_Mo_parts_89 : DC b_Mo_parts 89 (.lload_n 1) 1 90 := ⟨by decide +kernel, rfl⟩
theorem x_Mo_parts_90 : DC b_Mo_parts 90 (.aload_n 0) 1 91 := ⟨by decide +kernel, rfl⟩
theorem x_Mo_parts_91 : DC b_Mo_parts 91 (.getfield 104) 3 94 := ⟨by decide +kernel, rfl⟩
theorem x_Mo_parts_94 : DC b_Mo_parts 94 (.iload 7) 2 96 := ⟨by decide +kernel, rfl⟩
theorem x_Mo_parts_96 : DC b_Mo_parts 96 (.laload) 1 97 := ⟨by decide +kernel, rfl⟩
theorem x_Mo_parts_97 : DC b_Mo_parts 97 (.lmul) 1 98 := ⟨by decide +kernel, rfl⟩
theorem x_Mo_parts_98 : DC b_Mo_parts 98 (.lload_n 3) 1 99 := ⟨by decide +kernel, rfl⟩
theorem x_Mo_parts_99 : DC b_Mo_parts 99 (.lrem) 1 100 := ⟨by decide +kernel, rfl⟩
theorem x_Mo_parts_100 : DC b_Mo_parts 100 (.lastore) 1 101 := ⟨by decide +kernel, rfl⟩
theorem x_Mo_parts_101 : DC b_Mo_parts 101 (.lload 5) 2 103 := ⟨by decide +kernel, rfl⟩
theorem x_Mo_parts_103 : DC b_Mo_parts 103 (.aload_n 0) 1 104 := ⟨by decide +kernel, rfl⟩
theorem x_Mo_parts_104 : DC b_Mo_parts 104 (.getfield 107) 3 107 := ⟨by decide +kernel, rfl⟩
theorem x_Mo_parts_107 : DC b_Mo_parts 107 (.iload 7) 2 109 := ⟨by decide +kernel, rfl⟩
theorem x_Mo_parts_109 : DC b_Mo_parts 109 (.laload) 1 110 := ⟨by decide +kernel, rfl⟩
theorem x_Mo_parts_110 : DC b_Mo_parts 110 (.lsub) 1 111 := ⟨by decide +kernel, rfl⟩
theorem x_Mo_parts_111 : DC b_Mo_parts 111 (.lstore 5) 2 113 := ⟨by decide +kernel, rfl⟩
theorem x_Mo_parts_113 : DC b_Mo_parts 113 (.iinc 7 1) 3 116 := ⟨by decide +kernel, rfl⟩
theorem x_Mo_parts_116 : DC b_Mo_parts 116 (.goto (-80)) 3 119 := ⟨by decide +kernel, rfl⟩
theorem x_Mo_parts_119 : DC b_Mo_parts 119 (.lload_n 3) 1 120 := ⟨by decide +kernel, rfl⟩
theorem x_Mo_parts_120 : DC b_Mo_parts 120 (.lconst 0) 1 121 := ⟨by decide +kernel, rfl⟩
theorem x_Mo_parts_121 : DC b_Mo_parts 121 (.lcmp) 1 122 := ⟨by decide +kernel, rfl⟩
theorem x_Mo_parts_122 : DC b_Mo_parts 122 (.ifCond .le 88) 3 125 := ⟨by decide +kernel, rfl⟩
theorem x_Mo_parts_125 : DC b_Mo_parts 125 (.lload 5) 2 127 := ⟨by decide +kernel, rfl⟩
theorem x_Mo_parts_127 : DC b_Mo_parts 127 (.lconst 0) 1 128 := ⟨by decide +kernel, rfl⟩
theorem x_Mo_parts_128 : DC b_Mo_parts 128 (.lcmp) 1 129 := ⟨by decide +kernel, rfl⟩
theorem x_Mo_parts_129 : DC b_Mo_parts 129 (.ifCond .le 81) 3 132 := ⟨by decide +kernel, rfl⟩
theorem x_Mo_parts_132 : DC b_Mo_parts 132 (.iconst 0) 1 133 := ⟨by decide +kernel, rfl⟩
theorem x_Mo_parts_133 : DC b_Mo_parts 133 (.istore 7) 2 135 := ⟨by decide +kernel, rfl⟩
theorem x_Mo_parts_135 : DC b_Mo_parts 135 (.iconst 1) 1 136 := ⟨by decide +kernel, rfl⟩
theorem x_Mo_parts_136 : DC b_Mo_parts 136 (.istore 8) 2 138 := ⟨by decide +kernel, rfl⟩
theorem x_Mo_parts_138 : DC b_Mo_parts 138 (.iload 8) 2 140 := ⟨by decide +kernel, rfl⟩
theorem x_Mo_parts_140 : DC b_Mo_parts 140 (.aload_n 0) 1 141 := ⟨by decide +kernel, rfl⟩
theorem x_Mo_parts_141 : DC b_Mo_parts 141 (.getfield 291) 3 144 := ⟨by decide +kernel, rfl⟩
theorem x_Mo_parts_144 : DC b_Mo_parts 144 (.if_icmp .ge 36) 3 147 := ⟨by decide +kernel, rfl⟩
theorem x_Mo_parts_147 : DC b_Mo_parts 147 (.aload_n 0) 1 148 := ⟨by decide +kernel, rfl⟩
theorem x_Mo_parts_148 : DC b_Mo_parts 148 (.getfield 110) 3 151 := ⟨by decide +kernel, rfl⟩
theorem x_Mo_parts_151 : DC b_Mo_parts 151 (.iload 8) 2 153 := ⟨by decide +kernel, rfl⟩
theorem x_Mo_parts_153 : DC b_Mo_parts 153 (.laload) 1 154 := ⟨by decide +kernel, rfl⟩
theorem x_Mo_parts_154 : DC b_Mo_parts 154 (.aload_n 0) 1 155 := ⟨by decide +kernel, rfl⟩
theorem x_Mo_parts_155 : DC b_Mo_parts 155 (.getfield 110) 3 158 := ⟨by decide +kernel, rfl⟩
theorem x_Mo_parts_158 : DC b_Mo_parts 158 (.iload 7) 2 160 := ⟨by decide +kernel, rfl⟩
theorem x_Mo_parts_160 : DC b_Mo_parts 160 (.laload) 1 161 := ⟨by decide +kernel, rfl⟩
theorem x_Mo_parts_161 : DC b_Mo_parts 161 (.lcmp) 1 162 := ⟨by decide +kernel, rfl⟩
theorem x_Mo_parts_162 : DC b_Mo_parts 162 (.ifCond .le 8) 3 165 := ⟨by decide +kernel, rfl⟩
theorem x_Mo_parts_165 : DC b_Mo_parts 165 (.iload 8) 2 167 := ⟨by decide +kernel, rfl⟩
theorem x_Mo_parts_167 : DC b_Mo_parts 167 (.goto 5) 3 170 := ⟨by decide +kernel, rfl⟩
theorem x_Mo_parts_170 : DC b_Mo_parts 170 (.iload 7) 2 172 := ⟨by decide +kernel, rfl⟩
theorem x_Mo_parts_172 : DC b_Mo_parts 172 (.istore 7) 2 174 := ⟨by decide +kernel, rfl⟩
theorem x_Mo_parts_174 : DC b_Mo_parts 174 (.iinc 8 1) 3 177 := ⟨by decide +kernel, rfl⟩
theorem x_Mo_parts_177 : DC b_Mo_parts 177 (.goto (-39)) 3 180 := ⟨by decide +kernel, rfl⟩
theorem x_Mo_parts_180 : DC b_Mo_parts 180 (.aload_n 0) 1 181 := ⟨by decide +kernel, rfl⟩
theorem x_Mo_parts_181 : DC b_Mo_parts 181 (.getfield 107) 3 184 := ⟨by decide +kernel, rfl⟩
theorem x_Mo_parts_184 : DC b_Mo_parts 184 (.iload 7) 2 186 := ⟨by decide +kernel, rfl⟩
theorem x_Mo_parts_186 : DC b_Mo_parts 186 (.dup2) 1 187 := ⟨by decide +kernel, rfl⟩
theorem x_Mo_parts_187 : DC b_Mo_parts 187 (.laload) 1 188 := ⟨by decide +kernel, rfl⟩
theorem x_Mo_parts_188 : DC b_Mo_parts 188 (.lconst 1) 1 189 := ⟨by decide +kernel, rfl⟩
theorem x_Mo_parts_189 : DC b_Mo_parts 189 (.ladd) 1 190 := ⟨by decide +kernel, rfl⟩
theorem x_Mo_parts_190 : DC b_Mo_parts 190 (.lastore) 1 191 := ⟨by decide +kernel, rfl⟩
theorem x_Mo_parts_191 : DC b_Mo_parts 191 (.aload_n 0) 1 192 := ⟨by decide +kernel, rfl⟩
theorem x_Mo_parts_192 : DC b_Mo_parts 192 (.getfield 110) 3 195 := ⟨by decide +kernel, rfl⟩
theorem x_Mo_parts_195 : DC b_Mo_parts 195 (.iload 7) 2 197 := ⟨by decide +kernel, rfl⟩
theorem x_Mo_parts_197 : DC b_Mo_parts 197 (.ldc2_w 289) 3 200 := ⟨by decide +kernel, rfl⟩
theorem x_Mo_parts_200 : DC b_Mo_parts 200 (.lastore) 1 201 := ⟨by decide +kernel, rfl⟩
theorem x_Mo_parts_201 : DC b_Mo_parts 201 (.lload 5) 2 203 := ⟨by decide +kernel, rfl⟩
theorem x_Mo_parts_203 : DC b_Mo_parts 203 (.lconst 1) 1 204 := ⟨by decide +kernel, rfl⟩
theorem x_Mo_parts_204 : DC b_Mo_parts 204 (.lsub) 1 205 := ⟨by decide +kernel, rfl⟩
theorem x_Mo_parts_205 : DC b_Mo_parts 205 (.lstore 5) 2 207 := ⟨by decide +kernel, rfl⟩
theorem x_Mo_parts_207 : DC b_Mo_parts 207 (.goto (-88)) 3 210 := ⟨by decide +kernel, rfl⟩
theorem x_Mo_parts_210 : DC b_Mo_parts 210 (.return_) 1 211 := ⟨by decide +kernel, rfl⟩
def k_Mo_parts_172 (R119 : Int → Int → Mem → Res) (R138 : Int → Int → Int → Int → Mem → Res) (a3 a5 a8 s0 : Int) (M : Mem) : Res := blet (a8 + 1) fun v1 => R138 a3 a5 s0 v1 M
theorem z_Mo_parts_172 (C : Cx p s m args meth c G b_Mo_parts 9 "PrairiePoolModel" none) (hlev : 0 ≤ lev) {r : Int × Mem} {R119 : Int → Int → Mem → Res} {R138 : Int → Int → Int → Int → Mem → Res} (hR119 : ∀ (a3 a5 : Int) (M : Mem), R119 a3 a5 M = some r → Z p l e lev s m args below meth c G 9 (MQ below (Qm G 0 r) args s 0 0 (Ab G)) M 119 [(0, .ref (G.1 + 111)), (3, vl a3), (5, vl a5)] []) (hR138 : ∀ (a3 a5 a7 a8 : Int) (M : Mem), R138 a3 a5 a7 a8 M = some r → Z p l e lev s m args below meth c G 9 (MQ below (Qm G 0 r) args s 0 0 (Ab G)) M 138 [(0, .ref (G.1 + 111)), (3, vl a3), (5, vl a5), (7, vi a7), (8, vi a8)] []) {a3 a5 a8 s0 : Int} {M : Mem} (h : k_Mo_parts_172 R119 R138 a3 a5 a8 s0 M = some r) : Z p l e lev s m args below meth c G 9 (MQ below (Qm G 0 r) args s 0 0 (Ab G)) M 172 [(0, .ref (G.1 + 111)), (3, vl a3), (5, vl a5), (8, vi a8)] [vi s0] := by
  unfold k_Mo_parts_172 at h
  refine z_istore (lv' := [(7, vi s0), (0, .ref (G.1 + 111)), (3, vl a3), (5, vl a5), (8, vi a8)]) C rfl x_Mo_parts_172 (i_lt rfl) rfl ?_
  obtain ⟨v1, ev1, h⟩ := blet_e h
  refine z_iinc (lv' := [(8, vi v1), (7, vi s0), (0, .ref (G.1 + 111)), (3, vl a3), (5, vl a5)]) C 4 ev1 x_Mo_parts_174 rfl (i_lt rfl) rfl ?_
  refine z_goto (tgt := 138) C x_Mo_parts_177 rfl ?_
  exact z_sub [2, 3, 4, 1, 0] rfl (hR138 a3 a5 s0 v1 M h)
def k_Mo_parts_138 (R119 : Int → Int → Mem → Res) (R138 : Int → Int → Int → Int → Mem → Res) (a3 a5 a7 a8 : Int) (M : Mem) : Res := blet (M 111 5) fun v1 => if w32 a8 < w32 v1 then (chk (0 ≤ w32 a8 ∧ w32 a8 < 20) <| blet (M 145 (ix a8)) fun v4 => chk (0 ≤ w32 a7 ∧ w32 a7 < 20) <| blet (M 145 (ix a7)) fun v6 => if w64 v6 < w64 v4 then (k_Mo_parts_172 R119 R138 a3 a5 a8 a8 M) else (k_Mo_parts_172 R119 R138 a3 a5 a8 a7 M)) else (chk (0 ≤ w32 a7 ∧ w32 a7 < 20) <| blet (M 144 (ix a7)) fun v9 => chk (0 ≤ w32 a7 ∧ w32 a7 < 20) <| blet (sto M 144 (ix a7) (v9 + 1)) fun M11 => chk (0 ≤ w32 a7 ∧ w32 a7 < 20) <| blet (sto M11 145 (ix a7) (-1)) fun M13 => blet (a5 - 1) fun v14 => R119 a3 v14 M13)
theorem z_Mo_parts_138 (C : Cx p s m args meth c G b_Mo_parts 9 "PrairiePoolModel" none) (hlev : 0 ≤ lev) {r : Int × Mem} {R119 : Int → Int → Mem → Res} {R138 : Int → Int → Int → Int → Mem → Res} (hR119 : ∀ (a3 a5 : Int) (M : Mem), R119 a3 a5 M = some r → Z p l e lev s m args below meth c G 9 (MQ below (Qm G 0 r) args s 0 0 (Ab G)) M 119 [(0, .ref (G.1 + 111)), (3, vl a3), (5, vl a5)] []) (hR138 : ∀ (a3 a5 a7 a8 : Int) (M : Mem), R138 a3 a5 a7 a8 M = some r → Z p l e lev s m args below meth c G 9 (MQ below (Qm G 0 r) args s 0 0 (Ab G)) M 138 [(0, .ref (G.1 + 111)), (3, vl a3), (5, vl a5), (7, vi a7), (8, vi a8)] []) {a3 a5 a7 a8 : Int} {M : Mem} (h : k_Mo_parts_138 R119 R138 a3 a5 a7 a8 M = some r) : Z p l e lev s m args below meth c G 9 (MQ below (Qm G 0 r) args s 0 0 (Ab G)) M 138 [(0, .ref (G.1 + 111)), (3, vl a3), (5, vl a5), (7, vi a7), (8, vi a8)] [] := by
  unfold k_Mo_parts_138 at h
  refine z_iload C 4 x_Mo_parts_138 rfl ?_
  refine z_aload_n C 0 x_Mo_parts_140 rfl ?_
  obtain ⟨v1, ev1, h⟩ := blet_e h
  refine z_getI (j := 5) C x_Mo_parts_141 nk_111 ck_111 cw_12 (i_lt rfl) rfl rfl fl_Mo_291 ev1 ?_
  rcases ite_e h with ⟨c2, h⟩ | ⟨c2, h⟩
  · refine z_icmp_ge_f (tgt := 180) C x_Mo_parts_144 rfl c2 ?_
    refine z_aload_n C 0 x_Mo_parts_147 rfl ?_
    refine z_getR (j := 42) C x_Mo_parts_148 nk_111 ck_111 cw_12 (i_lt rfl) rfl rf_111_42 rfl fl_Mo_110 ?_
    refine z_iload C 4 x_Mo_parts_151 rfl ?_
    obtain ⟨c3, h⟩ := chk_e h
    obtain ⟨v4, ev4, h⟩ := blet_e h
    refine z_lald C x_Mo_parts_153 nk_145 ck_145 c3 ev4 ?_
    refine z_aload_n C 0 x_Mo_parts_154 rfl ?_
    refine z_getR (j := 42) C x_Mo_parts_155 nk_111 ck_111 cw_12 (i_lt rfl) rfl rf_111_42 rfl fl_Mo_110 ?_
    refine z_iload C 3 x_Mo_parts_158 rfl ?_
    obtain ⟨c5, h⟩ := chk_e h
    obtain ⟨v6, ev6, h⟩ := blet_e h
    refine z_lald C x_Mo_parts_160 nk_145 ck_145 c5 ev6 ?_
    refine z_lcmp C x_Mo_parts_161 ?_
    rcases ite_e h with ⟨c7, h⟩ | ⟨c7, h⟩
    · refine z_if_le_f (tgt := 170) C x_Mo_parts_162 rfl (cm_gt.mpr c7) ?_
      refine z_iload C 4 x_Mo_parts_165 rfl ?_
      refine z_goto (tgt := 172) C x_Mo_parts_167 rfl ?_
      exact z_sub [0, 1, 2, 4] rfl (z_Mo_parts_172 C hlev hR119 hR138 h)
    · refine z_if_le_t (tgt := 170) C x_Mo_parts_162 rfl (fun q => c7 (cm_gt.mp q)) ?_
      refine z_iload C 3 x_Mo_parts_170 rfl ?_
      exact z_sub [0, 1, 2, 4] rfl (z_Mo_parts_172 C hlev hR119 hR138 h)
  · refine z_icmp_ge_t (tgt := 180) C x_Mo_parts_144 rfl c2 ?_
    refine z_aload_n C 0 x_Mo_parts_180 rfl ?_
    refine z_getR (j := 41) C x_Mo_parts_181 nk_111 ck_111 cw_12 (i_lt rfl) rfl rf_111_41 rfl fl_Mo_107 ?_
    refine z_iload C 3 x_Mo_parts_184 rfl ?_
    refine z_dup2 C x_Mo_parts_186 rfl rfl ?_
    obtain ⟨c8, h⟩ := chk_e h
    obtain ⟨v9, ev9, h⟩ := blet_e h
    refine z_lald C x_Mo_parts_187 nk_144 ck_144 c8 ev9 ?_
    refine z_lconst1 C x_Mo_parts_188 ?_
    refine z_ladd C x_Mo_parts_189 ?_
    obtain ⟨c10, h⟩ := chk_e h
    obtain ⟨M11, eM11, h⟩ := blet_e h
    refine z_last C x_Mo_parts_190 nk_144 ck_144 c10 eM11 ?_
    refine z_aload_n C 0 x_Mo_parts_191 rfl ?_
    refine z_getR (j := 42) C x_Mo_parts_192 nk_111 ck_111 cw_12 (i_lt rfl) rfl rf_111_42 rfl fl_Mo_110 ?_
    refine z_iload C 3 x_Mo_parts_195 rfl ?_
    refine z_ldc2 C kl_Mo_289 x_Mo_parts_197 ?_
    obtain ⟨c12, h⟩ := chk_e h
    obtain ⟨M13, eM13, h⟩ := blet_e h
    refine z_last C x_Mo_parts_200 nk_145 ck_145 c12 eM13 ?_
    refine z_lload C 2 x_Mo_parts_201 rfl ?_
    refine z_lconst1 C x_Mo_parts_203 ?_
    refine z_lsub C x_Mo_parts_204 ?_
    obtain ⟨v14, ev14, h⟩ := blet_e h
    refine z_lstore (lv' := [(5, vl v14), (0, .ref (G.1 + 111)), (3, vl a3), (7, vi a7), (8, vi a8)]) C ev14 x_Mo_parts_205 (i_lt rfl) rfl ?_
    refine z_goto (tgt := 119) C x_Mo_parts_207 rfl ?_
    exact z_sub [1, 2, 0] rfl (hR119 a3 v14 M13 h)
theorem zl_Mo_parts_138 (C : Cx p s m args meth c G b_Mo_parts 9 "PrairiePoolModel" none) (hlev : 0 ≤ lev) {r : Int × Mem} {R119 : Int → Int → Mem → Res} (hR119 : ∀ (a3 a5 : Int) (M : Mem), R119 a3 a5 M = some r → Z p l e lev s m args below meth c G 9 (MQ below (Qm G 0 r) args s 0 0 (Ab G)) M 119 [(0, .ref (G.1 + 111)), (3, vl a3), (5, vl a5)] []) : ∀ (n : Nat) (a3 a5 a7 a8 : Int) (M : Mem), fix (fun _ _ _ _ _ => none) (k_Mo_parts_138 R119) n a3 a5 a7 a8 M = some r → Z p l e lev s m args below meth c G 9 (MQ below (Qm G 0 r) args s 0 0 (Ab G)) M 138 [(0, .ref (G.1 + 111)), (3, vl a3), (5, vl a5), (7, vi a7), (8, vi a8)] [] := by
  intro n
  induction n with
  | zero => intro a3 a5 a7 a8 M h; exact nomatch (show (none : Res) = some r from h)
  | succ n ih => intro a3 a5 a7 a8 M h; exact z_Mo_parts_138 C hlev hR119 ih h
def k_Mo_parts_119 (R119 : Int → Int → Mem → Res) (a3 a5 : Int) (M : Mem) : Res := if 0 < w64 a3 then (if 0 < w64 a5 then (fix (fun _ _ _ _ _ => none) (k_Mo_parts_138 R119) FU a3 a5 0 1 M) else (some (0, M))) else (some (0, M))
theorem z_Mo_parts_119 (C : Cx p s m args meth c G b_Mo_parts 9 "PrairiePoolModel" none) (hlev : 0 ≤ lev) {r : Int × Mem} {R119 : Int → Int → Mem → Res} (hR119 : ∀ (a3 a5 : Int) (M : Mem), R119 a3 a5 M = some r → Z p l e lev s m args below meth c G 9 (MQ below (Qm G 0 r) args s 0 0 (Ab G)) M 119 [(0, .ref (G.1 + 111)), (3, vl a3), (5, vl a5)] []) {a3 a5 : Int} {M : Mem} (h : k_Mo_parts_119 R119 a3 a5 M = some r) : Z p l e lev s m args below meth c G 9 (MQ below (Qm G 0 r) args s 0 0 (Ab G)) M 119 [(0, .ref (G.1 + 111)), (3, vl a3), (5, vl a5)] [] := by
  unfold k_Mo_parts_119 at h
  refine z_lload_n C 1 x_Mo_parts_119 rfl ?_
  refine z_lconst0 C x_Mo_parts_120 ?_
  refine z_lcmp C x_Mo_parts_121 ?_
  rcases ite_e h with ⟨c1, h⟩ | ⟨c1, h⟩
  · refine z_if_le_f (tgt := 210) C x_Mo_parts_122 rfl (cm_gt.mpr c1) ?_
    refine z_lload C 2 x_Mo_parts_125 rfl ?_
    refine z_lconst0 C x_Mo_parts_127 ?_
    refine z_lcmp C x_Mo_parts_128 ?_
    rcases ite_e h with ⟨c2, h⟩ | ⟨c2, h⟩
    · refine z_if_le_f (tgt := 210) C x_Mo_parts_129 rfl (cm_gt.mpr c2) ?_
      refine z_iconst C x_Mo_parts_132 ?_
      refine z_istore (lv' := [(7, vi 0), (0, .ref (G.1 + 111)), (3, vl a3), (5, vl a5)]) C rfl x_Mo_parts_133 (i_lt rfl) rfl ?_
      refine z_iconst C x_Mo_parts_135 ?_
      refine z_istore (lv' := [(8, vi 1), (7, vi 0), (0, .ref (G.1 + 111)), (3, vl a3), (5, vl a5)]) C rfl x_Mo_parts_136 (i_lt rfl) rfl ?_
      exact z_sub [2, 3, 4, 1, 0] rfl (zl_Mo_parts_138 C hlev hR119 FU a3 a5 0 1 M h)
    · refine z_if_le_t (tgt := 210) C x_Mo_parts_129 rfl (fun q => c2 (cm_gt.mp q)) ?_
      exact z_vret C x_Mo_parts_210 h
  · refine z_if_le_t (tgt := 210) C x_Mo_parts_122 rfl (fun q => c1 (cm_gt.mp q)) ?_
    exact z_vret C x_Mo_parts_210 h
theorem zl_Mo_parts_119 (C : Cx p s m args meth c G b_Mo_parts 9 "PrairiePoolModel" none) (hlev : 0 ≤ lev) {r : Int × Mem}  : ∀ (n : Nat) (a3 a5 : Int) (M : Mem), fix (fun _ _ _ => none) (k_Mo_parts_119) n a3 a5 M = some r → Z p l e lev s m args below meth c G 9 (MQ below (Qm G 0 r) args s 0 0 (Ab G)) M 119 [(0, .ref (G.1 + 111)), (3, vl a3), (5, vl a5)] [] := by
  intro n
  induction n with
  | zero => intro a3 a5 M h; exact nomatch (show (none : Res) = some r from h)
  | succ n ih => intro a3 a5 M h; exact z_Mo_parts_119 C hlev ih h
def k_Mo_parts_100 (R36 : Int → Int → Int → Int → Mem → Res) (a1 a3 a5 a7 s1 s2 : Int) (M : Mem) : Res := chk (0 ≤ w32 s1 ∧ w32 s1 < 20) <| blet (sto M 145 (ix s1) s2) fun M2 => chk (0 ≤ w32 a7 ∧ w32 a7 < 20) <| blet (M2 144 (ix a7)) fun v4 => blet (a5 - v4) fun v5 => blet (a7 + 1) fun v6 => R36 a1 a3 v5 v6 M2
theorem z_Mo_parts_100 (C : Cx p s m args meth c G b_Mo_parts 9 "PrairiePoolModel" none) (hlev : 0 ≤ lev) {r : Int × Mem} {R36 : Int → Int → Int → Int → Mem → Res} (hR36 : ∀ (a1 a3 a5 a7 : Int) (M : Mem), R36 a1 a3 a5 a7 M = some r → Z p l e lev s m args below meth c G 9 (MQ below (Qm G 0 r) args s 0 0 (Ab G)) M 36 [(0, .ref (G.1 + 111)), (1, vl a1), (3, vl a3), (5, vl a5), (7, vi a7)] []) {a1 a3 a5 a7 s1 s2 : Int} {M : Mem} (h : k_Mo_parts_100 R36 a1 a3 a5 a7 s1 s2 M = some r) : Z p l e lev s m args below meth c G 9 (MQ below (Qm G 0 r) args s 0 0 (Ab G)) M 100 [(0, .ref (G.1 + 111)), (1, vl a1), (3, vl a3), (5, vl a5), (7, vi a7)] [vl s2, vi s1, .ref (G.1 + 145)] := by
  unfold k_Mo_parts_100 at h
  obtain ⟨c1, h⟩ := chk_e h
  obtain ⟨M2, eM2, h⟩ := blet_e h
  refine z_last C x_Mo_parts_100 nk_145 ck_145 c1 eM2 ?_
  refine z_lload C 3 x_Mo_parts_101 rfl ?_
  refine z_aload_n C 0 x_Mo_parts_103 rfl ?_
  refine z_getR (j := 41) C x_Mo_parts_104 nk_111 ck_111 cw_12 (i_lt rfl) rfl rf_111_41 rfl fl_Mo_107 ?_
  refine z_iload C 4 x_Mo_parts_107 rfl ?_
  obtain ⟨c3, h⟩ := chk_e h
  obtain ⟨v4, ev4, h⟩ := blet_e h
  refine z_lald C x_Mo_parts_109 nk_144 ck_144 c3 ev4 ?_
  refine z_lsub C x_Mo_parts_110 ?_
  obtain ⟨v5, ev5, h⟩ := blet_e h
  refine z_lstore (lv' := [(5, vl v5), (0, .ref (G.1 + 111)), (1, vl a1), (3, vl a3), (7, vi a7)]) C ev5 x_Mo_parts_111 (i_lt rfl) rfl ?_
  obtain ⟨v6, ev6, h⟩ := blet_e h
  refine z_iinc (lv' := [(7, vi v6), (5, vl v5), (0, .ref (G.1 + 111)), (1, vl a1), (3, vl a3)]) C 4 ev6 x_Mo_parts_113 rfl (i_lt rfl) rfl ?_
  refine z_goto (tgt := 36) C x_Mo_parts_116 rfl ?_
  exact z_sub [2, 3, 4, 1, 0] rfl (hR36 a1 a3 v5 v6 M2 h)
def k_Mo_parts_72 (R36 : Int → Int → Int → Int → Mem → Res) (a1 a3 a5 a7 s1 s2 : Int) (M : Mem) : Res := chk (0 ≤ w32 s1 ∧ w32 s1 < 20) <| blet (sto M 144 (ix s1) s2) fun M2 => if w64 a3 = 0 then (k_Mo_parts_100 R36 a1 a3 a5 a7 a7 0 M2) else (chk (0 ≤ w32 a7 ∧ w32 a7 < 20) <| blet (M2 143 (ix a7)) fun v5 => chk (¬ w64 a3 = 0) <| k_Mo_parts_100 R36 a1 a3 a5 a7 a7 (rm64 (a1 * v5) a3) M2)
theorem z_Mo_parts_72 (C : Cx p s m args meth c G b_Mo_parts 9 "PrairiePoolModel" none) (hlev : 0 ≤ lev) {r : Int × Mem} {R36 : Int → Int → Int → Int → Mem → Res} (hR36 : ∀ (a1 a3 a5 a7 : Int) (M : Mem), R36 a1 a3 a5 a7 M = some r → Z p l e lev s m args below meth c G 9 (MQ below (Qm G 0 r) args s 0 0 (Ab G)) M 36 [(0, .ref (G.1 + 111)), (1, vl a1), (3, vl a3), (5, vl a5), (7, vi a7)] []) {a1 a3 a5 a7 s1 s2 : Int} {M : Mem} (h : k_Mo_parts_72 R36 a1 a3 a5 a7 s1 s2 M = some r) : Z p l e lev s m args below meth c G 9 (MQ below (Qm G 0 r) args s 0 0 (Ab G)) M 72 [(0, .ref (G.1 + 111)), (1, vl a1), (3, vl a3), (5, vl a5), (7, vi a7)] [vl s2, vi s1, .ref (G.1 + 144)] := by
  unfold k_Mo_parts_72 at h
  obtain ⟨c1, h⟩ := chk_e h
  obtain ⟨M2, eM2, h⟩ := blet_e h
  refine z_last C x_Mo_parts_72 nk_144 ck_144 c1 eM2 ?_
  refine z_aload_n C 0 x_Mo_parts_73 rfl ?_
  refine z_getR (j := 42) C x_Mo_parts_74 nk_111 ck_111 cw_12 (i_lt rfl) rfl rf_111_42 rfl fl_Mo_110 ?_
  refine z_iload C 4 x_Mo_parts_77 rfl ?_
  refine z_lload_n C 2 x_Mo_parts_79 rfl ?_
  refine z_lconst0 C x_Mo_parts_80 ?_
  refine z_lcmp C x_Mo_parts_81 ?_
  rcases ite_e h with ⟨c3, h⟩ | ⟨c3, h⟩
  · refine z_if_ne_f (tgt := 89) C x_Mo_parts_82 rfl (cm_eqz.mpr c3) ?_
    refine z_lconst0 C x_Mo_parts_85 ?_
    refine z_goto (tgt := 100) C x_Mo_parts_86 rfl ?_
    exact z_sub [0, 1, 2, 3, 4] rfl (z_Mo_parts_100 C hlev hR36 h)
  · refine z_if_ne_t (tgt := 89) C x_Mo_parts_82 rfl (fun q => c3 (cm_eqz.mp q)) ?_
    refine z_lload_n C 1 x_Mo_parts_89 rfl ?_
    refine z_aload_n C 0 x_Mo_parts_90 rfl ?_
    refine z_getR (j := 40) C x_Mo_parts_91 nk_111 ck_111 cw_12 (i_lt rfl) rfl rf_111_40 rfl fl_Mo_104 ?_
    refine z_iload C 4 x_Mo_parts_94 rfl ?_
    obtain ⟨c4, h⟩ := chk_e h
    obtain ⟨v5, ev5, h⟩ := blet_e h
    refine z_lald C x_Mo_parts_96 nk_143 ck_143 c4 ev5 ?_
    refine z_lmul C x_Mo_parts_97 ?_
    refine z_lload_n C 2 x_Mo_parts_98 rfl ?_
    obtain ⟨c6, h⟩ := chk_e h
    refine z_lrem C c6 x_Mo_parts_99 ?_
    exact z_sub [0, 1, 2, 3, 4] rfl (z_Mo_parts_100 C hlev hR36 h)
def k_Mo_parts_36 (R36 : Int → Int → Int → Int → Mem → Res) (a1 a3 a5 a7 : Int) (M : Mem) : Res := blet (M 111 5) fun v1 => if w32 a7 < w32 v1 then (if w64 a3 = 0 then (k_Mo_parts_72 R36 a1 a3 a5 a7 a7 0 M) else (chk (0 ≤ w32 a7 ∧ w32 a7 < 20) <| blet (M 143 (ix a7)) fun v5 => chk (¬ w64 a3 = 0) <| k_Mo_parts_72 R36 a1 a3 a5 a7 a7 (dv64 (a1 * v5) a3) M)) else (fix (fun _ _ _ => none) (k_Mo_parts_119) FU a3 a5 M)
theorem z_Mo_parts_36 (C : Cx p s m args meth c G b_Mo_parts 9 "PrairiePoolModel" none) (hlev : 0 ≤ lev) {r : Int × Mem} {R36 : Int → Int → Int → Int → Mem → Res} (hR36 : ∀ (a1 a3 a5 a7 : Int) (M : Mem), R36 a1 a3 a5 a7 M = some r → Z p l e lev s m args below meth c G 9 (MQ below (Qm G 0 r) args s 0 0 (Ab G)) M 36 [(0, .ref (G.1 + 111)), (1, vl a1), (3, vl a3), (5, vl a5), (7, vi a7)] []) {a1 a3 a5 a7 : Int} {M : Mem} (h : k_Mo_parts_36 R36 a1 a3 a5 a7 M = some r) : Z p l e lev s m args below meth c G 9 (MQ below (Qm G 0 r) args s 0 0 (Ab G)) M 36 [(0, .ref (G.1 + 111)), (1, vl a1), (3, vl a3), (5, vl a5), (7, vi a7)] [] := by
  unfold k_Mo_parts_36 at h
  refine z_iload C 4 x_Mo_parts_36 rfl ?_
  refine z_aload_n C 0 x_Mo_parts_38 rfl ?_
  obtain ⟨v1, ev1, h⟩ := blet_e h
  refine z_getI (j := 5) C x_Mo_parts_39 nk_111 ck_111 cw_12 (i_lt rfl) rfl rfl fl_Mo_291 ev1 ?_
  rcases ite_e h with ⟨c2, h⟩ | ⟨c2, h⟩
  · refine z_icmp_ge_f (tgt := 119) C x_Mo_parts_42 rfl c2 ?_
    refine z_aload_n C 0 x_Mo_parts_45 rfl ?_
    refine z_getR (j := 41) C x_Mo_parts_46 nk_111 ck_111 cw_12 (i_lt rfl) rfl rf_111_41 rfl fl_Mo_107 ?_
    refine z_iload C 4 x_Mo_parts_49 rfl ?_
    refine z_lload_n C 2 x_Mo_parts_51 rfl ?_
    refine z_lconst0 C x_Mo_parts_52 ?_
    refine z_lcmp C x_Mo_parts_53 ?_
    rcases ite_e h with ⟨c3, h⟩ | ⟨c3, h⟩
    · refine z_if_ne_f (tgt := 61) C x_Mo_parts_54 rfl (cm_eqz.mpr c3) ?_
      refine z_lconst0 C x_Mo_parts_57 ?_
      refine z_goto (tgt := 72) C x_Mo_parts_58 rfl ?_
      exact z_sub [0, 1, 2, 3, 4] rfl (z_Mo_parts_72 C hlev hR36 h)
    · refine z_if_ne_t (tgt := 61) C x_Mo_parts_54 rfl (fun q => c3 (cm_eqz.mp q)) ?_
      refine z_lload_n C 1 x_Mo_parts_61 rfl ?_
      refine z_aload_n C 0 x_Mo_parts_62 rfl ?_
      refine z_getR (j := 40) C x_Mo_parts_63 nk_111 ck_111 cw_12 (i_lt rfl) rfl rf_111_40 rfl fl_Mo_104 ?_
      refine z_iload C 4 x_Mo_parts_66 rfl ?_
      obtain ⟨c4, h⟩ := chk_e h
      obtain ⟨v5, ev5, h⟩ := blet_e h
      refine z_lald C x_Mo_parts_68 nk_143 ck_143 c4 ev5 ?_
      refine z_lmul C x_Mo_parts_69 ?_
      refine z_lload_n C 2 x_Mo_parts_70 rfl ?_
      obtain ⟨c6, h⟩ := chk_e h
      refine z_ldiv C c6 x_Mo_parts_71 ?_
      exact z_sub [0, 1, 2, 3, 4] rfl (z_Mo_parts_72 C hlev hR36 h)
  · refine z_icmp_ge_t (tgt := 119) C x_Mo_parts_42 rfl c2 ?_
    exact z_sub [0, 2, 3] rfl (zl_Mo_parts_119 C hlev FU a3 a5 M h)
theorem zl_Mo_parts_36 (C : Cx p s m args meth c G b_Mo_parts 9 "PrairiePoolModel" none) (hlev : 0 ≤ lev) {r : Int × Mem}  : ∀ (n : Nat) (a1 a3 a5 a7 : Int) (M : Mem), fix (fun _ _ _ _ _ => none) (k_Mo_parts_36) n a1 a3 a5 a7 M = some r → Z p l e lev s m args below meth c G 9 (MQ below (Qm G 0 r) args s 0 0 (Ab G)) M 36 [(0, .ref (G.1 + 111)), (1, vl a1), (3, vl a3), (5, vl a5), (7, vi a7)] [] := by
  intro n
  induction n with
  | zero => intro a1 a3 a5 a7 M h; exact nomatch (show (none : Res) = some r from h)
  | succ n ih => intro a1 a3 a5 a7 M h; exact z_Mo_parts_36 C hlev ih h
def k_Mo_parts_5 (R5 : Int → Int → Int → Mem → Res) (a1 a3 a5 : Int) (M : Mem) : Res := blet (M 111 5) fun v1 => if w32 a5 < w32 v1 then (chk (0 ≤ w32 a5 ∧ w32 a5 < 20) <| blet (M 143 (ix a5)) fun v4 => blet (a3 + v4) fun v5 => blet (a5 + 1) fun v6 => R5 a1 v5 v6 M) else (fix (fun _ _ _ _ _ => none) (k_Mo_parts_36) FU a1 a3 a1 0 M)
theorem z_Mo_parts_5 (C : Cx p s m args meth c G b_Mo_parts 9 "PrairiePoolModel" none) (hlev : 0 ≤ lev) {r : Int × Mem} {R5 : Int → Int → Int → Mem → Res} (hR5 : ∀ (a1 a3 a5 : Int) (M : Mem), R5 a1 a3 a5 M = some r → Z p l e lev s m args below meth c G 9 (MQ below (Qm G 0 r) args s 0 0 (Ab G)) M 5 [(0, .ref (G.1 + 111)), (1, vl a1), (3, vl a3), (5, vi a5)] []) {a1 a3 a5 : Int} {M : Mem} (h : k_Mo_parts_5 R5 a1 a3 a5 M = some r) : Z p l e lev s m args below meth c G 9 (MQ below (Qm G 0 r) args s 0 0 (Ab G)) M 5 [(0, .ref (G.1 + 111)), (1, vl a1), (3, vl a3), (5, vi a5)] [] := by
  unfold k_Mo_parts_5 at h
  refine z_iload C 3 x_Mo_parts_5 rfl ?_
  refine z_aload_n C 0 x_Mo_parts_7 rfl ?_
  obtain ⟨v1, ev1, h⟩ := blet_e h
  refine z_getI (j := 5) C x_Mo_parts_8 nk_111 ck_111 cw_12 (i_lt rfl) rfl rfl fl_Mo_291 ev1 ?_
  rcases ite_e h with ⟨c2, h⟩ | ⟨c2, h⟩
  · refine z_icmp_ge_f (tgt := 30) C x_Mo_parts_11 rfl c2 ?_
    refine z_lload_n C 2 x_Mo_parts_14 rfl ?_
    refine z_aload_n C 0 x_Mo_parts_15 rfl ?_
    refine z_getR (j := 40) C x_Mo_parts_16 nk_111 ck_111 cw_12 (i_lt rfl) rfl rf_111_40 rfl fl_Mo_104 ?_
    refine z_iload C 3 x_Mo_parts_19 rfl ?_
    obtain ⟨c3, h⟩ := chk_e h
    obtain ⟨v4, ev4, h⟩ := blet_e h
    refine z_lald C x_Mo_parts_21 nk_143 ck_143 c3 ev4 ?_
    refine z_ladd C x_Mo_parts_22 ?_
    obtain ⟨v5, ev5, h⟩ := blet_e h
    refine z_lstore_n (lv' := [(3, vl v5), (0, .ref (G.1 + 111)), (1, vl a1), (5, vi a5)]) C ev5 x_Mo_parts_23 (i_lt rfl) rfl ?_
    obtain ⟨v6, ev6, h⟩ := blet_e h
    refine z_iinc (lv' := [(5, vi v6), (3, vl v5), (0, .ref (G.1 + 111)), (1, vl a1)]) C 3 ev6 x_Mo_parts_24 rfl (i_lt rfl) rfl ?_
    refine z_goto (tgt := 5) C x_Mo_parts_27 rfl ?_
    exact z_sub [2, 3, 1, 0] rfl (hR5 a1 v5 v6 M h)
  · refine z_icmp_ge_t (tgt := 30) C x_Mo_parts_11 rfl c2 ?_
    refine z_lload_n C 1 x_Mo_parts_30 rfl ?_
    refine z_lstore (lv' := [(5, vl a1), (0, .ref (G.1 + 111)), (1, vl a1), (3, vl a3)]) C rfl x_Mo_parts_31 (i_lt rfl) rfl ?_
    refine z_iconst C x_Mo_parts_33 ?_
    refine z_istore (lv' := [(7, vi 0), (5, vl a1), (0, .ref (G.1 + 111)), (1, vl a1), (3, vl a3)]) C rfl x_Mo_parts_34 (i_lt rfl) rfl ?_
    exact z_sub [2, 3, 4, 1, 0] rfl (zl_Mo_parts_36 C hlev FU a1 a3 a1 0 M h)
theorem zl_Mo_parts_5 (C : Cx p s m args meth c G b_Mo_parts 9 "PrairiePoolModel" none) (hlev : 0 ≤ lev) {r : Int × Mem}  : ∀ (n : Nat) (a1 a3 a5 : Int) (M : Mem), fix (fun _ _ _ _ => none) (k_Mo_parts_5) n a1 a3 a5 M = some r → Z p l e lev s m args below meth c G 9 (MQ below (Qm G 0 r) args s 0 0 (Ab G)) M 5 [(0, .ref (G.1 + 111)), (1, vl a1), (3, vl a3), (5, vi a5)] [] := by
  intro n
  induction n with
  | zero => intro a1 a3 a5 M h; exact nomatch (show (none : Res) = some r from h)
  | succ n ih => intro a1 a3 a5 M h; exact z_Mo_parts_5 C hlev ih h
def d_Mo_parts (a1 : Int) (M : Mem) : Res := fix (fun _ _ _ _ => none) (k_Mo_parts_5) FU a1 0 0 M
theorem t_Mo_parts (l : Launch) (G : GX) {lev : Nat} (hlev : 0 ≤ lev) {a1 : Int} {M : Mem} {r : Int × Mem} (h : d_Mo_parts a1 M = some r) : Mt l G y_Mo_parts b_Mo_parts 9 none lev 0 [.ref (G.1 + 111), vl a1] M r := by
  refine Mt.of (by decide) (i_le rfl) ?_
  intro p e s m args below meth c C
  have C : Cx p s m args meth c G b_Mo_parts 9 "PrairiePoolModel" none := C
  unfold d_Mo_parts at h
  refine z_sub (lv' := [(0, .ref (G.1 + 111)), (1, vl a1)]) [0, 1] rfl ?_
  refine z_lconst0 C x_Mo_parts_0 ?_
  refine z_lstore_n (lv' := [(3, vl 0), (0, .ref (G.1 + 111)), (1, vl a1)]) C rfl x_Mo_parts_1 (i_lt rfl) rfl ?_
  refine z_iconst C x_Mo_parts_2 ?_
  refine z_istore (lv' := [(5, vi 0), (3, vl 0), (0, .ref (G.1 + 111)), (1, vl a1)]) C rfl x_Mo_parts_3 (i_lt rfl) rfl ?_
  exact z_sub [2, 3, 1, 0] rfl (zl_Mo_parts_5 C hlev FU a1 0 0 M h)
theorem x_Mo_takeBin_0 : DC b_Mo_takeBin 0 (.iconst 0) 1 1 := ⟨by decide +kernel, rfl⟩
theorem x_Mo_takeBin_1 : DC b_Mo_takeBin 1 (.istore 4) 2 3 := ⟨by decide +kernel, rfl⟩
theorem x_Mo_takeBin_3 : DC b_Mo_takeBin 3 (.iconst 0) 1 4 := ⟨by decide +kernel, rfl⟩
theorem x_Mo_takeBin_4 : DC b_Mo_takeBin 4 (.istore 5) 2 6 := ⟨by decide +kernel, rfl⟩
theorem x_Mo_takeBin_6 : DC b_Mo_takeBin 6 (.iload 5) 2 8 := ⟨by decide +kernel, rfl⟩
theorem x_Mo_takeBin_8 : DC b_Mo_takeBin 8 (.aload_n 0) 1 9 := ⟨by decide +kernel, rfl⟩
theorem x_Mo_takeBin_9 : DC b_Mo_takeBin 9 (.getfield 291) 3 12 := ⟨by decide +kernel, rfl⟩
theorem x_Mo_takeBin_12 : DC b_Mo_takeBin 12 (.if_icmp .ge 56) 3 15 := ⟨by decide +kernel, rfl⟩
theorem x_Mo_takeBin_15 : DC b_Mo_takeBin 15 (.aload_n 0) 1 16 := ⟨by decide +kernel, rfl⟩
theorem x_Mo_takeBin_16 : DC b_Mo_takeBin 16 (.getfield 104) 3 19 := ⟨by decide +kernel, rfl⟩
theorem x_Mo_takeBin_19 : DC b_Mo_takeBin 19 (.iload 5) 2 21 := ⟨by decide +kernel, rfl⟩
theorem x_Mo_takeBin_21 : DC b_Mo_takeBin 21 (.iload_n 3) 1 22 := ⟨by decide +kernel, rfl⟩
theorem x_Mo_takeBin_22 : DC b_Mo_takeBin 22 (.ifCond .eq 16) 3 25 := ⟨by decide +kernel, rfl⟩
theorem x_Mo_takeBin_25 : DC b_Mo_takeBin 25 (.aload_n 0) 1 26 := ⟨by decide +kernel, rfl⟩
theorem x_Mo_takeBin_26 : DC b_Mo_takeBin 26 (.getfield 80) 3 29 := ⟨by decide +kernel, rfl⟩
theorem x_Mo_takeBin_29 : DC b_Mo_takeBin 29 (.iload_n 1) 1 30 := ⟨by decide +kernel, rfl⟩
theorem x_Mo_takeBin_30 : DC b_Mo_takeBin 30 (.iload 5) 2 32 := ⟨by decide +kernel, rfl⟩
theorem x_Mo_takeBin_32 : DC b_Mo_takeBin 32 (.iadd) 1 33 := ⟨by decide +kernel, rfl⟩
theorem x_Mo_takeBin_33 : DC b_Mo_takeBin 33 (.iaload) 1 34 := ⟨by decide +kernel, rfl⟩
theorem x_Mo_takeBin_34 : DC b_Mo_takeBin 34 (.i2l) 1 35 := ⟨by decide +kernel, rfl⟩
theorem x_Mo_takeBin_35 : DC b_Mo_takeBin 35 (.goto 13) 3 38 := ⟨by decide +kernel, rfl⟩
theorem x_Mo_takeBin_38 : DC b_Mo_takeBin 38 (.aload_n 0) 1 39 := ⟨by decide +kernel, rfl⟩
theorem x_Mo_takeBin_39 : DC b_Mo_takeBin 39 (.getfield 77) 3 42 := ⟨by decide +kernel, rfl⟩
theorem x_Mo_takeBin_42 : DC b_Mo_takeBin 42 (.iload_n 1) 1 43 := ⟨by decide +kernel, rfl⟩
theorem x_Mo_takeBin_43 : DC b_Mo_takeBin 43 (.iload 5) 2 45 := ⟨by decide +kernel, rfl⟩
theorem x_Mo_takeBin_45 : DC b_Mo_takeBin 45 (.iadd) 1 46 := ⟨by decide +kernel, rfl⟩
theorem x_Mo_takeBin_46 : DC b_Mo_takeBin 46 (.iaload) 1 47 := ⟨by decide +kernel, rfl⟩
theorem x_Mo_takeBin_47 : DC b_Mo_takeBin 47 (.i2l) 1 48 := ⟨by decide +kernel, rfl⟩
theorem x_Mo_takeBin_48 : DC b_Mo_takeBin 48 (.lastore) 1 49 := ⟨by decide +kernel, rfl⟩
theorem x_Mo_takeBin_49 : DC b_Mo_takeBin 49 (.iload 4) 2 51 := ⟨by decide +kernel, rfl⟩
theorem x_Mo_takeBin_51 : DC b_Mo_takeBin 51 (.aload_n 0) 1 52 := ⟨by decide +kernel, rfl⟩
theorem x_Mo_takeBin_52 : DC b_Mo_takeBin 52 (.getfield 104) 3 55 := ⟨by decide +kernel, rfl⟩
theorem x_Mo_takeBin_55 : DC b_Mo_takeBin 55 (.iload 5) 2 57 := ⟨by decide +kernel, rfl⟩
theorem x_Mo_takeBin_57 : DC b_Mo_takeBin 57 (.laload) 1 58 := ⟨by decide +kernel, rfl⟩
theorem x_Mo_takeBin_58 : DC b_Mo_takeBin 58 (.l2i) 1 59 := ⟨by decide +kernel, rfl⟩
theorem x_Mo_takeBin_59 : DC b_Mo_takeBin 59 (.iadd) 1 60 := ⟨by decide +kernel, rfl⟩
theorem x_Mo_takeBin_60 : DC b_Mo_takeBin 60 (.istore 4) 2 62 := ⟨by decide +kernel, rfl⟩
theorem x_Mo_takeBin_62 : DC b_Mo_takeBin 62 (.iinc 5 1) 3 65 := ⟨by decide +kernel, rfl⟩
theorem x_Mo_takeBin_65 : DC b_Mo_takeBin 65 (.goto (-59)) 3 68 := ⟨by decide +kernel, rfl⟩
theorem x_Mo_takeBin_68 : DC b_Mo_takeBin 68 (.iload_n 2) 1 69 := ⟨by decide +kernel, rfl⟩
theorem x_Mo_takeBin_69 : DC b_Mo_takeBin 69 (.iload 4) 2 71 := ⟨by decide +kernel, rfl⟩
theorem x_Mo_takeBin_71 : DC b_Mo_takeBin 71 (.invokestatic 366) 3 74 := ⟨by decide +kernel, rfl⟩
theorem x_Mo_takeBin_74 : DC b_Mo_takeBin 74 (.istore 5) 2 76 := ⟨by decide +kernel, rfl⟩
theorem x_Mo_takeBin_76 : DC b_Mo_takeBin 76 (.aload_n 0) 1 77 := ⟨by decide +kernel, rfl⟩
theorem x_Mo_takeBin_77 : DC b_Mo_takeBin 77 (.dup) 1 78 := ⟨by decide +kernel, rfl⟩
theorem x_Mo_takeBin_78 : DC b_Mo_takeBin 78 (.getfield 371) 3 81 := ⟨by decide +kernel, rfl⟩
theorem x_Mo_takeBin_81 : DC b_Mo_takeBin 81 (.iload_n 2) 1 82 := ⟨by decide +kernel, rfl⟩
theorem x_Mo_takeBin_82 : DC b_Mo_takeBin 82 (.iload 5) 2 84 := ⟨by decide +kernel, rfl⟩
theorem x_Mo_takeBin_84 : DC b_Mo_takeBin 84 (.isub) 1 85 := ⟨by decide +kernel, rfl⟩
theorem x_Mo_takeBin_85 : DC b_Mo_takeBin 85 (.iadd) 1 86 := ⟨by decide +kernel, rfl⟩
theorem x_Mo_takeBin_86 : DC b_Mo_takeBin 86 (.putfield 371) 3 89 := ⟨by decide +kernel, rfl⟩
theorem x_Mo_takeBin_89 : DC b_Mo_takeBin 89 (.aload_n 0) 1 90 := ⟨by decide +kernel, rfl⟩
theorem x_Mo_takeBin_90 : DC b_Mo_takeBin 90 (.iload 5) 2 92 := ⟨by decide +kernel, rfl⟩
theorem x_Mo_takeBin_92 : DC b_Mo_takeBin 92 (.i2l) 1 93 := ⟨by decide +kernel, rfl⟩
theorem x_Mo_takeBin_93 : DC b_Mo_takeBin 93 (.invokevirtual 374) 3 96 := ⟨by decide +kernel, rfl⟩
theorem x_Mo_takeBin_96 : DC b_Mo_takeBin 96 (.iload 5) 2 98 := ⟨by decide +kernel, rfl⟩
theorem x_Mo_takeBin_98 : DC b_Mo_takeBin 98 (.ireturn) 1 99 := ⟨by decide +kernel, rfl⟩
def k_Mo_takeBin_48 (R6 : Int → Int → Int → Int → Int → Mem → Res) (a1 a2 a3 a4 a5 s1 s2 : Int) (M : Mem) : Res := chk (0 ≤ w32 s1 ∧ w32 s1 < 20) <| blet (sto M 143 (ix s1) s2) fun M2 => chk (0 ≤ w32 a5 ∧ w32 a5 < 20) <| blet (M2 143 (ix a5)) fun v4 => blet (a4 + v4) fun v5 => blet (a5 + 1) fun v6 => R6 a1 a2 a3 v5 v6 M2
theorem z_Mo_takeBin_48 (C : Cx p s m args meth c G b_Mo_takeBin 6 "PrairiePoolModel" (some .int)) (hlev : 1 ≤ lev) {r : Int × Mem} {R6 : Int → Int → Int → Int → Int → Mem → Res} (hR6 : ∀ (a1 a2 a3 a4 a5 : Int) (M : Mem), R6 a1 a2 a3 a4 a5 M = some r → Z p l e lev s m args below meth c G 6 (MQ below (Qm G 1 r) args s 0 0 (Ab G)) M 6 [(0, .ref (G.1 + 111)), (1, vi a1), (2, vi a2), (3, vi a3), (4, vi a4), (5, vi a5)] []) {a1 a2 a3 a4 a5 s1 s2 : Int} {M : Mem} (h : k_Mo_takeBin_48 R6 a1 a2 a3 a4 a5 s1 s2 M = some r) : Z p l e lev s m args below meth c G 6 (MQ below (Qm G 1 r) args s 0 0 (Ab G)) M 48 [(0, .ref (G.1 + 111)), (1, vi a1), (2, vi a2), (3, vi a3), (4, vi a4), (5, vi a5)] [vl s2, vi s1, .ref (G.1 + 143)] := by
  unfold k_Mo_takeBin_48 at h
  obtain ⟨c1, h⟩ := chk_e h
  obtain ⟨M2, eM2, h⟩ := blet_e h
  refine z_last C x_Mo_takeBin_48 nk_143 ck_143 c1 eM2 ?_
  refine z_iload C 4 x_Mo_takeBin_49 rfl ?_
  refine z_aload_n C 0 x_Mo_takeBin_51 rfl ?_
  refine z_getR (j := 40) C x_Mo_takeBin_52 nk_111 ck_111 cw_12 (i_lt rfl) rfl rf_111_40 rfl fl_Mo_104 ?_
  refine z_iload C 5 x_Mo_takeBin_55 rfl ?_
  obtain ⟨c3, h⟩ := chk_e h
  obtain ⟨v4, ev4, h⟩ := blet_e h
  refine z_lald C x_Mo_takeBin_57 nk_143 ck_143 c3 ev4 ?_
  refine z_l2i C x_Mo_takeBin_58 ?_
  refine z_iadd C x_Mo_takeBin_59 ?_
  obtain ⟨v5, ev5, h⟩ := blet_e h
  refine z_istore (lv' := [(4, vi v5), (0, .ref (G.1 + 111)), (1, vi a1), (2, vi a2), (3, vi a3), (5, vi a5)]) C ev5 x_Mo_takeBin_60 (i_lt rfl) rfl ?_
  obtain ⟨v6, ev6, h⟩ := blet_e h
  refine z_iinc (lv' := [(5, vi v6), (4, vi v5), (0, .ref (G.1 + 111)), (1, vi a1), (2, vi a2), (3, vi a3)]) C 5 ev6 x_Mo_takeBin_62 rfl (i_lt rfl) rfl ?_
  refine z_goto (tgt := 6) C x_Mo_takeBin_65 rfl ?_
  exact z_sub [2, 3, 4, 5, 1, 0] rfl (hR6 a1 a2 a3 v5 v6 M2 h)
def k_Mo_takeBin_6 (R6 : Int → Int → Int → Int → Int → Mem → Res) (a1 a2 a3 a4 a5 : Int) (M : Mem) : Res := blet (M 111 5) fun v1 => if w32 a5 < w32 v1 then (if w32 a3 = 0 then (chk (0 ≤ w32 (a1 + a5) ∧ w32 (a1 + a5) < 9600) <| blet (M 134 (ix (a1 + a5))) fun v5 => k_Mo_takeBin_48 R6 a1 a2 a3 a4 a5 a5 (w32 v5) M) else (chk (0 ≤ w32 (a1 + a5) ∧ w32 (a1 + a5) < 2400) <| blet (M 135 (ix (a1 + a5))) fun v7 => k_Mo_takeBin_48 R6 a1 a2 a3 a4 a5 a5 (w32 v7) M)) else (blet (mn32 a2 a4) fun v8 => blet (M 111 39) fun v9 => blet (sto M 111 39 (v9 + (a2 - v8))) fun M10 => bcall (d_Mo_parts (w32 v8) M10) fun v11 M12 => some (v8, M12))
theorem z_Mo_takeBin_6 (C : Cx p s m args meth c G b_Mo_takeBin 6 "PrairiePoolModel" (some .int)) (hlev : 1 ≤ lev) {r : Int × Mem} {R6 : Int → Int → Int → Int → Int → Mem → Res} (hR6 : ∀ (a1 a2 a3 a4 a5 : Int) (M : Mem), R6 a1 a2 a3 a4 a5 M = some r → Z p l e lev s m args below meth c G 6 (MQ below (Qm G 1 r) args s 0 0 (Ab G)) M 6 [(0, .ref (G.1 + 111)), (1, vi a1), (2, vi a2), (3, vi a3), (4, vi a4), (5, vi a5)] []) {a1 a2 a3 a4 a5 : Int} {M : Mem} (h : k_Mo_takeBin_6 R6 a1 a2 a3 a4 a5 M = some r) : Z p l e lev s m args below meth c G 6 (MQ below (Qm G 1 r) args s 0 0 (Ab G)) M 6 [(0, .ref (G.1 + 111)), (1, vi a1), (2, vi a2), (3, vi a3), (4, vi a4), (5, vi a5)] [] := by
  unfold k_Mo_takeBin_6 at h
  refine z_iload C 5 x_Mo_takeBin_6 rfl ?_
  refine z_aload_n C 0 x_Mo_takeBin_8 rfl ?_
  obtain ⟨v1, ev1, h⟩ := blet_e h
  refine z_getI (j := 5) C x_Mo_takeBin_9 nk_111 ck_111 cw_12 (i_lt rfl) rfl rfl fl_Mo_291 ev1 ?_
  rcases ite_e h with ⟨c2, h⟩ | ⟨c2, h⟩
  · refine z_icmp_ge_f (tgt := 68) C x_Mo_takeBin_12 rfl c2 ?_
    refine z_aload_n C 0 x_Mo_takeBin_15 rfl ?_
    refine z_getR (j := 40) C x_Mo_takeBin_16 nk_111 ck_111 cw_12 (i_lt rfl) rfl rf_111_40 rfl fl_Mo_104 ?_
    refine z_iload C 5 x_Mo_takeBin_19 rfl ?_
    refine z_iload_n C 3 x_Mo_takeBin_21 rfl ?_
    rcases ite_e h with ⟨c3, h⟩ | ⟨c3, h⟩
    · refine z_if_eq_t (tgt := 38) C x_Mo_takeBin_22 rfl c3 ?_
      refine z_aload_n C 0 x_Mo_takeBin_38 rfl ?_
      refine z_getR (j := 30) C x_Mo_takeBin_39 nk_111 ck_111 cw_12 (i_lt rfl) rfl rf_111_30 rfl fl_Mo_77 ?_
      refine z_iload_n C 1 x_Mo_takeBin_42 rfl ?_
      refine z_iload C 5 x_Mo_takeBin_43 rfl ?_
      refine z_iadd C x_Mo_takeBin_45 ?_
      obtain ⟨c4, h⟩ := chk_e h
      obtain ⟨v5, ev5, h⟩ := blet_e h
      refine z_iald C x_Mo_takeBin_46 nk_134 ck_134 c4 ev5 ?_
      refine z_i2l C x_Mo_takeBin_47 ?_
      exact z_sub [0, 1, 2, 3, 4, 5] rfl (z_Mo_takeBin_48 C hlev hR6 h)
    · refine z_if_eq_f (tgt := 38) C x_Mo_takeBin_22 rfl c3 ?_
      refine z_aload_n C 0 x_Mo_takeBin_25 rfl ?_
      refine z_getR (j := 31) C x_Mo_takeBin_26 nk_111 ck_111 cw_12 (i_lt rfl) rfl rf_111_31 rfl fl_Mo_80 ?_
      refine z_iload_n C 1 x_Mo_takeBin_29 rfl ?_
      refine z_iload C 5 x_Mo_takeBin_30 rfl ?_
      refine z_iadd C x_Mo_takeBin_32 ?_
      obtain ⟨c6, h⟩ := chk_e h
      obtain ⟨v7, ev7, h⟩ := blet_e h
      refine z_iald C x_Mo_takeBin_33 nk_135 ck_135 c6 ev7 ?_
      refine z_i2l C x_Mo_takeBin_34 ?_
      refine z_goto (tgt := 48) C x_Mo_takeBin_35 rfl ?_
      exact z_sub [0, 1, 2, 3, 4, 5] rfl (z_Mo_takeBin_48 C hlev hR6 h)
  · refine z_icmp_ge_t (tgt := 68) C x_Mo_takeBin_12 rfl c2 ?_
    refine z_iload_n C 2 x_Mo_takeBin_68 rfl ?_
    refine z_iload C 4 x_Mo_takeBin_69 rfl ?_
    refine z_mn32 C x_Mo_takeBin_71 cs_Mo_366 (by omega) (i_le rfl) ?_
    obtain ⟨v8, ev8, h⟩ := blet_e h
    refine z_istore (lv' := [(5, vi v8), (0, .ref (G.1 + 111)), (1, vi a1), (2, vi a2), (3, vi a3), (4, vi a4)]) C ev8 x_Mo_takeBin_74 (i_lt rfl) rfl ?_
    refine z_aload_n C 1 x_Mo_takeBin_76 rfl ?_
    refine z_dup C x_Mo_takeBin_77 rfl ?_
    obtain ⟨v9, ev9, h⟩ := blet_e h
    refine z_getI (j := 39) C x_Mo_takeBin_78 nk_111 ck_111 cw_12 (i_lt rfl) rfl rfl fl_Mo_371 ev9 ?_
    refine z_iload_n C 3 x_Mo_takeBin_81 rfl ?_
    refine z_iload C 0 x_Mo_takeBin_82 rfl ?_
    refine z_isub C x_Mo_takeBin_84 ?_
    refine z_iadd C x_Mo_takeBin_85 ?_
    obtain ⟨M10, eM10, h⟩ := blet_e h
    refine z_putI (j := 39) C x_Mo_takeBin_86 nk_111 ck_111 cw_12 (i_lt rfl) rfl rfl rfl rfl fl_Mo_371 eM10 ?_
    refine z_aload_n C 1 x_Mo_takeBin_89 rfl ?_
    refine z_iload C 0 x_Mo_takeBin_90 rfl ?_
    refine z_i2l C x_Mo_takeBin_92 ?_
    obtain ⟨v11, M12, fv11, h⟩ := bcall_e h
    refine z_callVv (k := 111) C x_Mo_takeBin_93 cv_Mo_374 (t_Mo_parts (lev := lev - 1) l G (by omega) fv11) nk_111 ck_111 rfl (by omega) rfl (i_le rfl) rfl ?_
    refine z_iload C 0 x_Mo_takeBin_96 rfl ?_
    exact z_iret C x_Mo_takeBin_98 h
theorem zl_Mo_takeBin_6 (C : Cx p s m args meth c G b_Mo_takeBin 6 "PrairiePoolModel" (some .int)) (hlev : 1 ≤ lev) {r : Int × Mem}  : ∀ (n : Nat) (a1 a2 a3 a4 a5 : Int) (M : Mem), fix (fun _ _ _ _ _ _ => none) (k_Mo_takeBin_6) n a1 a2 a3 a4 a5 M = some r → Z p l e lev s m args below meth c G 6 (MQ below (Qm G 1 r) args s 0 0 (Ab G)) M 6 [(0, .ref (G.1 + 111)), (1, vi a1), (2, vi a2), (3, vi a3), (4, vi a4), (5, vi a5)] [] := by
  intro n
  induction n with
  | zero => intro a1 a2 a3 a4 a5 M h; exact nomatch (show (none : Res) = some r from h)
  | succ n ih => intro a1 a2 a3 a4 a5 M h; exact z_Mo_takeBin_6 C hlev ih h
def d_Mo_takeBin (a1 a2 a3 : Int) (M : Mem) : Res := fix (fun _ _ _ _ _ _ => none) (k_Mo_takeBin_6) FU a1 a2 a3 0 0 M
theorem t_Mo_takeBin (l : Launch) (G : GX) {lev : Nat} (hlev : 1 ≤ lev) {a1 a2 a3 : Int} {M : Mem} {r : Int × Mem} (h : d_Mo_takeBin a1 a2 a3 M = some r) : Mt l G y_Mo_takeBin b_Mo_takeBin 6 (some .int) lev 1 [.ref (G.1 + 111), vi a1, vi a2, vi a3] M r := by
  refine Mt.of (by decide) (i_le rfl) ?_
  intro p e s m args below meth c C
  have C : Cx p s m args meth c G b_Mo_takeBin 6 "PrairiePoolModel" (some .int) := C
  unfold d_Mo_takeBin at h
  refine z_sub (lv' := [(0, .ref (G.1 + 111)), (1, vi a1), (2, vi a2), (3, vi a3)]) [0, 1, 2, 3] rfl ?_
  refine z_iconst C x_Mo_takeBin_0 ?_
  refine z_istore (lv' := [(4, vi 0), (0, .ref (G.1 + 111)), (1, vi a1), (2, vi a2), (3, vi a3)]) C rfl x_Mo_takeBin_1 (i_lt rfl) rfl ?_
  refine z_iconst C x_Mo_takeBin_3 ?_
  refine z_istore (lv' := [(5, vi 0), (4, vi 0), (0, .ref (G.1 + 111)), (1, vi a1), (2, vi a2), (3, vi a3)]) C rfl x_Mo_takeBin_4 (i_lt rfl) rfl ?_
  exact z_sub [2, 3, 4, 5, 1, 0] rfl (zl_Mo_takeBin_6 C hlev FU a1 a2 a3 0 0 M h)
theorem x_Mo_playOther_0 : DC b_Mo_playOther 0 (.aload_n 0) 1 1 := ⟨by decide +kernel, rfl⟩
theorem x_Mo_playOther_1 : DC b_Mo_playOther 1 (.getfield 35) 3 4 := ⟨by decide +kernel, rfl⟩
theorem x_Mo_playOther_4 : DC b_Mo_playOther 4 (.iload_n 1) 1 5 := ⟨by decide +kernel, rfl⟩
theorem x_Mo_playOther_5 : DC b_Mo_playOther 5 (.iaload) 1 6 := ⟨by decide +kernel, rfl⟩
theorem x_Mo_playOther_6 : DC b_Mo_playOther 6 (.iconst 2) 1 7 := ⟨by decide +kernel, rfl⟩
theorem x_Mo_playOther_7 : DC b_Mo_playOther 7 (.if_icmp .ne 7) 3 10 := ⟨by decide +kernel, rfl⟩
theorem x_Mo_playOther_10 : DC b_Mo_playOther 10 (.iconst 1) 1 11 := ⟨by decide +kernel, rfl⟩
theorem x_Mo_playOther_11 : DC b_Mo_playOther 11 (.goto 4) 3 14 := ⟨by decide +kernel, rfl⟩
theorem x_Mo_playOther_14 : DC b_Mo_playOther 14 (.iconst 0) 1 15 := ⟨by decide +kernel, rfl⟩
theorem x_Mo_playOther_15 : DC b_Mo_playOther 15 (.istore_n 2) 1 16 := ⟨by decide +kernel, rfl⟩
theorem x_Mo_playOther_16 : DC b_Mo_playOther 16 (.aload_n 0) 1 17 := ⟨by decide +kernel, rfl⟩
theorem x_Mo_playOther_17 : DC b_Mo_playOther 17 (.getfield 41) 3 20 := ⟨by decide +kernel, rfl⟩
theorem x_Mo_playOther_20 : DC b_Mo_playOther 20 (.iload_n 1) 1 21 := ⟨by decide +kernel, rfl⟩
theorem x_Mo_playOther_21 : DC b_Mo_playOther 21 (.iaload) 1 22 := ⟨by decide +kernel, rfl⟩
theorem x_Mo_playOther_22 : DC b_Mo_playOther 22 (.aload_n 0) 1 23 := ⟨by decide +kernel, rfl⟩
theorem x_Mo_playOther_23 : DC b_Mo_playOther 23 (.getfield 47) 3 26 := ⟨by decide +kernel, rfl⟩
theorem x_Mo_playOther_26 : DC b_Mo_playOther 26 (.iload_n 1) 1 27 := ⟨by decide +kernel, rfl⟩
theorem x_Mo_playOther_27 : DC b_Mo_playOther 27 (.iaload) 1 28 := ⟨by decide +kernel, rfl⟩
theorem x_Mo_playOther_28 : DC b_Mo_playOther 28 (.aload_n 0) 1 29 := ⟨by decide +kernel, rfl⟩
theorem x_Mo_playOther_29 : DC b_Mo_playOther 29 (.getfield 50) 3 32 := ⟨by decide +kernel, rfl⟩
theorem x_Mo_playOther_32 : DC b_Mo_playOther 32 (.iload_n 1) 1 33 := ⟨by decide +kernel, rfl⟩
theorem x_Mo_playOther_33 : DC b_Mo_playOther 33 (.iaload) 1 34 := ⟨by decide +kernel, rfl⟩
theorem x_Mo_playOther_34 : DC b_Mo_playOther 34 (.invokestatic 378) 3 37 := ⟨by decide +kernel, rfl⟩
theorem x_Mo_playOther_37 : DC b_Mo_playOther 37 (.istore_n 3) 1 38 := ⟨by decide +kernel, rfl⟩
theorem x_Mo_playOther_38 : DC b_Mo_playOther 38 (.aload_n 0) 1 39 := ⟨by decide +kernel, rfl⟩
theorem x_Mo_playOther_39 : DC b_Mo_playOther 39 (.getfield 86) 3 42 := ⟨by decide +kernel, rfl⟩
theorem x_Mo_playOther_42 : DC b_Mo_playOther 42 (.iload_n 1) 1 43 := ⟨by decide +kernel, rfl⟩
theorem x_Mo_playOther_43 : DC b_Mo_playOther 43 (.aload_n 0) 1 44 := ⟨by decide +kernel, rfl⟩
theorem x_Mo_playOther_44 : DC b_Mo_playOther 44 (.iload_n 3) 1 45 := ⟨by decide +kernel, rfl⟩
theorem x_Mo_playOther_45 : DC b_Mo_playOther 45 (.aload_n 0) 1 46 := ⟨by decide +kernel, rfl⟩
theorem x_Mo_playOther_46 : DC b_Mo_playOther 46 (.getfield 53) 3 49 := ⟨by decide +kernel, rfl⟩
theorem x_Mo_playOther_49 : DC b_Mo_playOther 49 (.iload_n 1) 1 50 := ⟨by decide +kernel, rfl⟩
theorem x_Mo_playOther_50 : DC b_Mo_playOther 50 (.iaload) 1 51 := ⟨by decide +kernel, rfl⟩
theorem x_Mo_playOther_51 : DC b_Mo_playOther 51 (.iload_n 2) 1 52 := ⟨by decide +kernel, rfl⟩
theorem x_Mo_playOther_52 : DC b_Mo_playOther 52 (.invokevirtual 396) 3 55 := ⟨by decide +kernel, rfl⟩
theorem x_Mo_playOther_55 : DC b_Mo_playOther 55 (.iastore) 1 56 := ⟨by decide +kernel, rfl⟩
theorem x_Mo_playOther_56 : DC b_Mo_playOther 56 (.iconst 0) 1 57 := ⟨by decide +kernel, rfl⟩
theorem x_Mo_playOther_57 : DC b_Mo_playOther 57 (.istore 4) 2 59 := ⟨by decide +kernel, rfl⟩
theorem x_Mo_playOther_59 : DC b_Mo_playOther 59 (.iload 4) 2 61 := ⟨by decide +kernel, rfl⟩
theorem x_Mo_playOther_61 : DC b_Mo_playOther 61 (.aload_n 0) 1 62 := ⟨by decide +kernel, rfl⟩
theorem x_Mo_playOther_62 : DC b_Mo_playOther 62 (.getfield 291) 3 65 := ⟨by decide +kernel, rfl⟩
theorem x_Mo_playOther_65 : DC b_Mo_playOther 65 (.if_icmp .ge 144) 3 68 := ⟨by decide +kernel, rfl⟩
theorem x_Mo_playOther_68 : DC b_Mo_playOther 68 (.aload_n 0) 1 69 := ⟨by decide +kernel, rfl⟩
theorem x_Mo_playOther_69 : DC b_Mo_playOther 69 (.getfield 107) 3 72 := ⟨by decide +kernel, rfl⟩
theorem x_Mo_playOther_72 : DC b_Mo_playOther 72 (.iload 4) 2 74 := ⟨by decide +kernel, rfl⟩
theorem x_Mo_playOther_74 : DC b_Mo_playOther 74 (.laload) 1 75 := ⟨by decide +kernel, rfl⟩
theorem x_Mo_playOther_75 : DC b_Mo_playOther 75 (.l2i) 1 76 := ⟨by decide +kernel, rfl⟩
theorem x_Mo_playOther_76 : DC b_Mo_playOther 76 (.istore 5) 2 78 := ⟨by decide +kernel, rfl⟩
theorem x_Mo_playOther_78 : DC b_Mo_playOther 78 (.iload_n 2) 1 79 := ⟨by decide +kernel, rfl⟩
theorem x_Mo_playOther_79 : DC b_Mo_playOther 79 (.ifCond .eq 20) 3 82 := ⟨by decide +kernel, rfl⟩
theorem x_Mo_playOther_82 : DC b_Mo_playOther 82 (.aload_n 0) 1 83 := ⟨by decide +kernel, rfl⟩
theorem x_Mo_playOther_83 : DC b_Mo_playOther 83 (.getfield 80) 3 86 := ⟨by decide +kernel, rfl⟩
theorem x_Mo_playOther_86 : DC b_Mo_playOther 86 (.iload_n 3) 1 87 := ⟨by decide +kernel, rfl⟩
theorem x_Mo_playOther_87 : DC b_Mo_playOther 87 (.iload 4) 2 89 := ⟨by decide +kernel, rfl⟩
theorem x_Mo_playOther_89 : DC b_Mo_playOther 89 (.iadd) 1 90 := ⟨by decide +kernel, rfl⟩
theorem x_Mo_playOther_90 : DC b_Mo_playOther 90 (.dup2) 1 91 := ⟨by decide +kernel, rfl⟩
theorem x_Mo_playOther_91 : DC b_Mo_playOther 91 (.iaload) 1 92 := ⟨by decide +kernel, rfl⟩
theorem x_Mo_playOther_92 : DC b_Mo_playOther 92 (.iload 5) 2 94 := ⟨by decide +kernel, rfl⟩
theorem x_Mo_playOther_94 : DC b_Mo_playOther 94 (.isub) 1 95 := ⟨by decide +kernel, rfl⟩
theorem x_Mo_playOther_95 : DC b_Mo_playOther 95 (.iastore) 1 96 := ⟨by decide +kernel, rfl⟩
theorem x_Mo_playOther_96 : DC b_Mo_playOther 96 (.goto 17) 3 99 := ⟨by decide +kernel, rfl⟩
theorem x_Mo_playOther_99 : DC b_Mo_playOther 99 (.aload_n 0) 1 100 := ⟨by decide +kernel, rfl⟩
theorem x_Mo_playOther_100 : DC b_Mo_playOther 100 (.getfield 77) 3 103 := ⟨by decide +kernel, rfl⟩
theorem x_Mo_playOther_103 : DC b_Mo_playOther 103 (.iload_n 3) 1 104 := ⟨by decide +kernel, rfl⟩
theorem x_Mo_playOther_104 : DC b_Mo_playOther 104 (.iload 4) 2 106 := ⟨by decide +kernel, rfl⟩
theorem x_Mo_playOther_106 : DC b_Mo_playOther 106 (.iadd) 1 107 := ⟨by decide +kernel, rfl⟩
theorem x_Mo_playOther_107 : DC b_Mo_playOther 107 (.dup2) 1 108 := ⟨by decide +kernel, rfl⟩
theorem x_Mo_playOther_108 : DC b_Mo_playOther 108 (.iaload) 1 109 := ⟨by decide +kernel, rfl⟩
theorem x_Mo_playOther_109 : DC b_Mo_playOther 109 (.iload 5) 2 111 := ⟨by decide +kernel, rfl⟩
theorem x_Mo_playOther_111 : DC b_Mo_playOther 111 (.isub) 1 112 := ⟨by decide +kernel, rfl⟩
theorem x_Mo_playOther_112 : DC b_Mo_playOther 112 (.iastore) 1 113 := ⟨by decide +kernel, rfl⟩
theorem x_Mo_playOther_113 : DC b_Mo_playOther 113 (.aload_n 0) 1 114 := ⟨by decide +kernel, rfl⟩
theorem x_Mo_playOther_114 : DC b_Mo_playOther 114 (.getfield 35) 3 117 := ⟨by decide +kernel, rfl⟩
theorem x_Mo_playOther_117 : DC b_Mo_playOther 117 (.iload_n 1) 1 118 := ⟨by decide +kernel, rfl⟩
theorem x_Mo_playOther_118 : DC b_Mo_playOther 118 (.iaload) 1 119 := ⟨by decide +kernel, rfl⟩
theorem x_Mo_playOther_119 : DC b_Mo_playOther 119 (.iconst 1) 1 120 := ⟨by decide +kernel, rfl⟩
theorem x_Mo_playOther_120 : DC b_Mo_playOther 120 (.if_icmp .ne 37) 3 123 := ⟨by decide +kernel, rfl⟩
theorem x_Mo_playOther_123 : DC b_Mo_playOther 123 (.aload_n 0) 1 124 := ⟨by decide +kernel, rfl⟩
theorem x_Mo_playOther_124 : DC b_Mo_playOther 124 (.getfield 80) 3 127 := ⟨by decide +kernel, rfl⟩
theorem x_Mo_playOther_127 : DC b_Mo_playOther 127 (.aload_n 0) 1 128 := ⟨by decide +kernel, rfl⟩
theorem x_Mo_playOther_128 : DC b_Mo_playOther 128 (.getfield 44) 3 131 := ⟨by decide +kernel, rfl⟩
theorem x_Mo_playOther_131 : DC b_Mo_playOther 131 (.iload_n 1) 1 132 := ⟨by decide +kernel, rfl⟩
theorem x_Mo_playOther_132 : DC b_Mo_playOther 132 (.iaload) 1 133 := ⟨by decide +kernel, rfl⟩
theorem x_Mo_playOther_133 : DC b_Mo_playOther 133 (.aload_n 0) 1 134 := ⟨by decide +kernel, rfl⟩
theorem x_Mo_playOther_134 : DC b_Mo_playOther 134 (.getfield 47) 3 137 := ⟨by decide +kernel, rfl⟩
theorem x_Mo_playOther_137 : DC b_Mo_playOther 137 (.iload_n 1) 1 138 := ⟨by decide +kernel, rfl⟩
theorem x_Mo_playOther_138 : DC b_Mo_playOther 138 (.iaload) 1 139 := ⟨by decide +kernel, rfl⟩
theorem x_Mo_playOther_139 : DC b_Mo_playOther 139 (.aload_n 0) 1 140 := ⟨by decide +kernel, rfl⟩
theorem x_Mo_playOther_140 : DC b_Mo_playOther 140 (.getfield 50) 3 143 := ⟨by decide +kernel, rfl⟩
theorem x_Mo_playOther_143 : DC b_Mo_playOther 143 (.iload_n 1) 1 144 := ⟨by decide +kernel, rfl⟩
theorem x_Mo_playOther_144 : DC b_Mo_playOther 144 (.iaload) 1 145 := ⟨by decide +kernel, rfl⟩
theorem x_Mo_playOther_145 : DC b_Mo_playOther 145 (.invokestatic 378) 3 148 := ⟨by decide +kernel, rfl⟩
theorem x_Mo_playOther_148 : DC b_Mo_playOther 148 (.iload 4) 2 150 := ⟨by decide +kernel, rfl⟩
theorem x_Mo_playOther_150 : DC b_Mo_playOther 150 (.iadd) 1 151 := ⟨by decide +kernel, rfl⟩
theorem x_Mo_playOther_151 : DC b_Mo_playOther 151 (.dup2) 1 152 := ⟨by decide +kernel, rfl⟩
theorem x_Mo_playOther_152 : DC b_Mo_playOther 152 (.iaload) 1 153 := ⟨by decide +kernel, rfl⟩
theorem x_Mo_playOther_153 : DC b_Mo_playOther 153 (.iload 5) 2 155 := ⟨by decide +kernel, rfl⟩
theorem x_Mo_playOther_155 : DC b_Mo_playOther 155 (.iadd) 1 156 := ⟨by decide +kernel, rfl⟩
theorem x_Mo_playOther_156 : DC b_Mo_playOther 156 (.iastore) 1 157 := ⟨by decide +kernel, rfl⟩
theorem x_Mo_playOther_157 : DC b_Mo_playOther 157 (.aload_n 0) 1 158 := ⟨by decide +kernel, rfl⟩
theorem x_Mo_playOther_158 : DC b_Mo_playOther 158 (.getfield 98) 3 161 := ⟨by decide +kernel, rfl⟩
theorem x_Mo_playOther_161 : DC b_Mo_playOther 161 (.iload 4) 2 163 := ⟨by decide +kernel, rfl⟩
theorem x_Mo_playOther_163 : DC b_Mo_playOther 163 (.dup2) 1 164 := ⟨by decide +kernel, rfl⟩
theorem x_Mo_playOther_164 : DC b_Mo_playOther 164 (.iaload) 1 165 := ⟨by decide +kernel, rfl⟩
theorem x_Mo_playOther_165 : DC b_Mo_playOther 165 (.iload_n 2) 1 166 := ⟨by decide +kernel, rfl⟩
theorem x_Mo_playOther_166 : DC b_Mo_playOther 166 (.ifCond .eq 8) 3 169 := ⟨by decide +kernel, rfl⟩
theorem x_Mo_playOther_169 : DC b_Mo_playOther 169 (.iload 5) 2 171 := ⟨by decide +kernel, rfl⟩
theorem x_Mo_playOther_171 : DC b_Mo_playOther 171 (.goto 4) 3 174 := ⟨by decide +kernel, rfl⟩
theorem x_Mo_playOther_174 : DC b_Mo_playOther 174 (.iconst 0) 1 175 := ⟨by decide +kernel, rfl⟩
theorem x_Mo_playOther_175 : DC b_Mo_playOther 175 (.iadd) 1 176 := ⟨by decide +kernel, rfl⟩
theorem x_Mo_playOther_176 : DC b_Mo_playOther 176 (.iastore) 1 177 := ⟨by decide +kernel, rfl⟩
theorem x_Mo_playOther_177 : DC b_Mo_playOther 177 (.aload_n 0) 1 178 := ⟨by decide +kernel, rfl⟩
theorem x_Mo_playOther_178 : DC b_Mo_playOther 178 (.getfield 101) 3 181 := ⟨by decide +kernel, rfl⟩
theorem x_Mo_playOther_181 : DC b_Mo_playOther 181 (.iload 4) 2 183 := ⟨by decide +kernel, rfl⟩
theorem x_Mo_playOther_183 : DC b_Mo_playOther 183 (.dup2) 1 184 := ⟨by decide +kernel, rfl⟩
theorem x_Mo_playOther_184 : DC b_Mo_playOther 184 (.iaload) 1 185 := ⟨by decide +kernel, rfl⟩
theorem x_Mo_playOther_185 : DC b_Mo_playOther 185 (.aload_n 0) 1 186 := ⟨by decide +kernel, rfl⟩
theorem x_Mo_playOther_186 : DC b_Mo_playOther 186 (.getfield 35) 3 189 := ⟨by decide +kernel, rfl⟩
theorem x_Mo_playOther_189 : DC b_Mo_playOther 189 (.iload_n 1) 1 190 := ⟨by decide +kernel, rfl⟩
theorem x_Mo_playOther_190 : DC b_Mo_playOther 190 (.iaload) 1 191 := ⟨by decide +kernel, rfl⟩
theorem x_Mo_playOther_191 : DC b_Mo_playOther 191 (.iconst 3) 1 192 := ⟨by decide +kernel, rfl⟩
theorem x_Mo_playOther_192 : DC b_Mo_playOther 192 (.if_icmp .ne 8) 3 195 := ⟨by decide +kernel, rfl⟩
theorem x_Mo_playOther_195 : DC b_Mo_playOther 195 (.iload 5) 2 197 := ⟨by decide +kernel, rfl⟩
theorem x_Mo_playOther_197 : DC b_Mo_playOther 197 (.goto 4) 3 200 := ⟨by decide +kernel, rfl⟩
theorem x_Mo_playOther_200 : DC b_Mo_playOther 200 (.iconst 0) 1 201 := ⟨by decide +kernel, rfl⟩
theorem x_Mo_playOther_201 : DC b_Mo_playOther 201 (.iadd) 1 202 := ⟨by decide +kernel, rfl⟩
theorem x_Mo_playOther_202 : DC b_Mo_playOther 202 (.iastore) 1 203 := ⟨by decide +kernel, rfl⟩
theorem x_Mo_playOther_203 : DC b_Mo_playOther 203 (.iinc 4 1) 3 206 := ⟨by decide +kernel, rfl⟩
theorem x_Mo_playOther_206 : DC b_Mo_playOther 206 (.goto (-147)) 3 209 := ⟨by decide +kernel, rfl⟩
theorem x_Mo_playOther_209 : DC b_Mo_playOther 209 (.return_) 1 210 := ⟨by decide +kernel, rfl⟩
def k_Mo_playOther_201 (R59 : Int → Int → Int → Int → Mem → Res) (a1 a2 a3 a4 s1 s2 s3 : Int) (M : Mem) : Res := chk (0 ≤ w32 s1 ∧ w32 s1 < 20) <| blet (sto M 142 (ix s1) (s2 + s3)) fun M2 => blet (a4 + 1) fun v3 => R59 a1 a2 a3 v3 M2
theorem z_Mo_playOther_201 (C : Cx p s m args meth c G b_Mo_playOther 6 "PrairiePoolModel" none) (hlev : 2 ≤ lev) {r : Int × Mem} {R59 : Int → Int → Int → Int → Mem → Res} (hR59 : ∀ (a1 a2 a3 a4 : Int) (M : Mem), R59 a1 a2 a3 a4 M = some r → Z p l e lev s m args below meth c G 6 (MQ below (Qm G 0 r) args s 0 0 (Ab G)) M 59 [(0, .ref (G.1 + 111)), (1, vi a1), (2, vi a2), (3, vi a3), (4, vi a4)] []) {a1 a2 a3 a4 s1 s2 s3 : Int} {M : Mem} (h : k_Mo_playOther_201 R59 a1 a2 a3 a4 s1 s2 s3 M = some r) : Z p l e lev s m args below meth c G 6 (MQ below (Qm G 0 r) args s 0 0 (Ab G)) M 201 [(0, .ref (G.1 + 111)), (1, vi a1), (2, vi a2), (3, vi a3), (4, vi a4)] [vi s3, vi s2, vi s1, .ref (G.1 + 142)] := by
  unfold k_Mo_playOther_201 at h
  refine z_iadd C x_Mo_playOther_201 ?_
  obtain ⟨c1, h⟩ := chk_e h
  obtain ⟨M2, eM2, h⟩ := blet_e h
  refine z_iast C x_Mo_playOther_202 nk_142 ck_142 c1 eM2 ?_
  obtain ⟨v3, ev3, h⟩ := blet_e h
  refine z_iinc (lv' := [(4, vi v3), (0, .ref (G.1 + 111)), (1, vi a1), (2, vi a2), (3, vi a3)]) C 4 ev3 x_Mo_playOther_203 rfl (i_lt rfl) rfl ?_
  refine z_goto (tgt := 59) C x_Mo_playOther_206 rfl ?_
  exact z_sub [1, 2, 3, 4, 0] rfl (hR59 a1 a2 a3 v3 M2 h)
def k_Mo_playOther_175 (R59 : Int → Int → Int → Int → Mem → Res) (a1 a2 a3 a4 a5 s1 s2 s3 : Int) (M : Mem) : Res := chk (0 ≤ w32 s1 ∧ w32 s1 < 20) <| blet (sto M 141 (ix s1) (s2 + s3)) fun M2 => chk (0 ≤ w32 a4 ∧ w32 a4 < 20) <| blet (M2 142 (ix a4)) fun v4 => chk (0 ≤ w32 a1 ∧ w32 a1 < 120) <| blet (M2 120 (ix a1)) fun v6 => if w32 v6 = 3 then (k_Mo_playOther_201 R59 a1 a2 a3 a4 a4 v4 a5 M2) else (k_Mo_playOther_201 R59 a1 a2 a3 a4 a4 v4 0 M2)
theorem z_Mo_playOther_175 (C : Cx p s m args meth c G b_Mo_playOther 6 "PrairiePoolModel" none) (hlev : 2 ≤ lev) {r : Int × Mem} {R59 : Int → Int → Int → Int → Mem → Res} (hR59 : ∀ (a1 a2 a3 a4 : Int) (M : Mem), R59 a1 a2 a3 a4 M = some r → Z p l e lev s m args below meth c G 6 (MQ below (Qm G 0 r) args s 0 0 (Ab G)) M 59 [(0, .ref (G.1 + 111)), (1, vi a1), (2, vi a2), (3, vi a3), (4, vi a4)] []) {a1 a2 a3 a4 a5 s1 s2 s3 : Int} {M : Mem} (h : k_Mo_playOther_175 R59 a1 a2 a3 a4 a5 s1 s2 s3 M = some r) : Z p l e lev s m args below meth c G 6 (MQ below (Qm G 0 r) args s 0 0 (Ab G)) M 175 [(0, .ref (G.1 + 111)), (1, vi a1), (2, vi a2), (3, vi a3), (4, vi a4), (5, vi a5)] [vi s3, vi s2, vi s1, .ref (G.1 + 141)] := by
  unfold k_Mo_playOther_175 at h
  refine z_iadd C x_Mo_playOther_175 ?_
  obtain ⟨c1, h⟩ := chk_e h
  obtain ⟨M2, eM2, h⟩ := blet_e h
  refine z_iast C x_Mo_playOther_176 nk_141 ck_141 c1 eM2 ?_
  refine z_aload_n C 0 x_Mo_playOther_177 rfl ?_
  refine z_getR (j := 38) C x_Mo_playOther_178 nk_111 ck_111 cw_12 (i_lt rfl) rfl rf_111_38 rfl fl_Mo_101 ?_
  refine z_iload C 4 x_Mo_playOther_181 rfl ?_
  refine z_dup2 C x_Mo_playOther_183 rfl rfl ?_
  obtain ⟨c3, h⟩ := chk_e h
  obtain ⟨v4, ev4, h⟩ := blet_e h
  refine z_iald C x_Mo_playOther_184 nk_142 ck_142 c3 ev4 ?_
  refine z_aload_n C 0 x_Mo_playOther_185 rfl ?_
  refine z_getR (j := 16) C x_Mo_playOther_186 nk_111 ck_111 cw_12 (i_lt rfl) rfl rf_111_16 rfl fl_Mo_35 ?_
  refine z_iload_n C 1 x_Mo_playOther_189 rfl ?_
  obtain ⟨c5, h⟩ := chk_e h
  obtain ⟨v6, ev6, h⟩ := blet_e h
  refine z_iald C x_Mo_playOther_190 nk_120 ck_120 c5 ev6 ?_
  refine z_iconst C x_Mo_playOther_191 ?_
  rcases ite_e h with ⟨c7, h⟩ | ⟨c7, h⟩
  · refine z_icmp_ne_f (tgt := 200) C x_Mo_playOther_192 rfl c7 ?_
    refine z_iload C 5 x_Mo_playOther_195 rfl ?_
    refine z_goto (tgt := 201) C x_Mo_playOther_197 rfl ?_
    exact z_sub [0, 1, 2, 3, 4] rfl (z_Mo_playOther_201 C hlev hR59 h)
  · refine z_icmp_ne_t (tgt := 200) C x_Mo_playOther_192 rfl c7 ?_
    refine z_iconst C x_Mo_playOther_200 ?_
    exact z_sub [0, 1, 2, 3, 4] rfl (z_Mo_playOther_201 C hlev hR59 h)
def k_Mo_playOther_157 (R59 : Int → Int → Int → Int → Mem → Res) (a1 a2 a3 a4 a5 : Int) (M : Mem) : Res := chk (0 ≤ w32 a4 ∧ w32 a4 < 20) <| blet (M 141 (ix a4)) fun v2 => if w32 a2 = 0 then (k_Mo_playOther_175 R59 a1 a2 a3 a4 a5 a4 v2 0 M) else (k_Mo_playOther_175 R59 a1 a2 a3 a4 a5 a4 v2 a5 M)
theorem z_Mo_playOther_157 (C : Cx p s m args meth c G b_Mo_playOther 6 "PrairiePoolModel" none) (hlev : 2 ≤ lev) {r : Int × Mem} {R59 : Int → Int → Int → Int → Mem → Res} (hR59 : ∀ (a1 a2 a3 a4 : Int) (M : Mem), R59 a1 a2 a3 a4 M = some r → Z p l e lev s m args below meth c G 6 (MQ below (Qm G 0 r) args s 0 0 (Ab G)) M 59 [(0, .ref (G.1 + 111)), (1, vi a1), (2, vi a2), (3, vi a3), (4, vi a4)] []) {a1 a2 a3 a4 a5 : Int} {M : Mem} (h : k_Mo_playOther_157 R59 a1 a2 a3 a4 a5 M = some r) : Z p l e lev s m args below meth c G 6 (MQ below (Qm G 0 r) args s 0 0 (Ab G)) M 157 [(0, .ref (G.1 + 111)), (1, vi a1), (2, vi a2), (3, vi a3), (4, vi a4), (5, vi a5)] [] := by
  unfold k_Mo_playOther_157 at h
  refine z_aload_n C 0 x_Mo_playOther_157 rfl ?_
  refine z_getR (j := 37) C x_Mo_playOther_158 nk_111 ck_111 cw_12 (i_lt rfl) rfl rf_111_37 rfl fl_Mo_98 ?_
  refine z_iload C 4 x_Mo_playOther_161 rfl ?_
  refine z_dup2 C x_Mo_playOther_163 rfl rfl ?_
  obtain ⟨c1, h⟩ := chk_e h
  obtain ⟨v2, ev2, h⟩ := blet_e h
  refine z_iald C x_Mo_playOther_164 nk_141 ck_141 c1 ev2 ?_
  refine z_iload_n C 2 x_Mo_playOther_165 rfl ?_
  rcases ite_e h with ⟨c3, h⟩ | ⟨c3, h⟩
  · refine z_if_eq_t (tgt := 174) C x_Mo_playOther_166 rfl c3 ?_
    refine z_iconst C x_Mo_playOther_174 ?_
    exact z_sub [0, 1, 2, 3, 4, 5] rfl (z_Mo_playOther_175 C hlev hR59 h)
  · refine z_if_eq_f (tgt := 174) C x_Mo_playOther_166 rfl c3 ?_
    refine z_iload C 5 x_Mo_playOther_169 rfl ?_
    refine z_goto (tgt := 175) C x_Mo_playOther_171 rfl ?_
    exact z_sub [0, 1, 2, 3, 4, 5] rfl (z_Mo_playOther_175 C hlev hR59 h)
def k_Mo_playOther_113 (R59 : Int → Int → Int → Int → Mem → Res) (a1 a2 a3 a4 a5 : Int) (M : Mem) : Res := chk (0 ≤ w32 a1 ∧ w32 a1 < 120) <| blet (M 120 (ix a1)) fun v2 => if w32 v2 = 1 then (chk (0 ≤ w32 a1 ∧ w32 a1 < 120) <| blet (M 123 (ix a1)) fun v5 => chk (0 ≤ w32 a1 ∧ w32 a1 < 120) <| blet (M 124 (ix a1)) fun v7 => chk (0 ≤ w32 a1 ∧ w32 a1 < 120) <| blet (M 125 (ix a1)) fun v9 => bcall (d_Mo_binAt v5 v7 v9 M) fun v10 M11 => chk (0 ≤ w32 (v10 + a4) ∧ w32 (v10 + a4) < 2400) <| blet (M11 135 (ix (v10 + a4))) fun v13 => chk (0 ≤ w32 (v10 + a4) ∧ w32 (v10 + a4) < 2400) <| blet (sto M11 135 (ix (v10 + a4)) (v13 + a5)) fun M15 => k_Mo_playOther_157 R59 a1 a2 a3 a4 a5 M15) else (k_Mo_playOther_157 R59 a1 a2 a3 a4 a5 M)
theorem z_Mo_playOther_113 (C : Cx p s m args meth c G b_Mo_playOther 6 "PrairiePoolModel" none) (hlev : 2 ≤ lev) {r : Int × Mem} {R59 : Int → Int → Int → Int → Mem → Res} (hR59 : ∀ (a1 a2 a3 a4 : Int) (M : Mem), R59 a1 a2 a3 a4 M = some r → Z p l e lev s m args below meth c G 6 (MQ below (Qm G 0 r) args s 0 0 (Ab G)) M 59 [(0, .ref (G.1 + 111)), (1, vi a1), (2, vi a2), (3, vi a3), (4, vi a4)] []) {a1 a2 a3 a4 a5 : Int} {M : Mem} (h : k_Mo_playOther_113 R59 a1 a2 a3 a4 a5 M = some r) : Z p l e lev s m args below meth c G 6 (MQ below (Qm G 0 r) args s 0 0 (Ab G)) M 113 [(0, .ref (G.1 + 111)), (1, vi a1), (2, vi a2), (3, vi a3), (4, vi a4), (5, vi a5)] [] := by
  unfold k_Mo_playOther_113 at h
  refine z_aload_n C 0 x_Mo_playOther_113 rfl ?_
  refine z_getR (j := 16) C x_Mo_playOther_114 nk_111 ck_111 cw_12 (i_lt rfl) rfl rf_111_16 rfl fl_Mo_35 ?_
  refine z_iload_n C 1 x_Mo_playOther_117 rfl ?_
  obtain ⟨c1, h⟩ := chk_e h
  obtain ⟨v2, ev2, h⟩ := blet_e h
  refine z_iald C x_Mo_playOther_118 nk_120 ck_120 c1 ev2 ?_
  refine z_iconst C x_Mo_playOther_119 ?_
  rcases ite_e h with ⟨c3, h⟩ | ⟨c3, h⟩
  · refine z_icmp_ne_f (tgt := 157) C x_Mo_playOther_120 rfl c3 ?_
    refine z_aload_n C 0 x_Mo_playOther_123 rfl ?_
    refine z_getR (j := 31) C x_Mo_playOther_124 nk_111 ck_111 cw_12 (i_lt rfl) rfl rf_111_31 rfl fl_Mo_80 ?_
    refine z_aload_n C 0 x_Mo_playOther_127 rfl ?_
    refine z_getR (j := 19) C x_Mo_playOther_128 nk_111 ck_111 cw_12 (i_lt rfl) rfl rf_111_19 rfl fl_Mo_44 ?_
    refine z_iload_n C 1 x_Mo_playOther_131 rfl ?_
    obtain ⟨c4, h⟩ := chk_e h
    obtain ⟨v5, ev5, h⟩ := blet_e h
    refine z_iald C x_Mo_playOther_132 nk_123 ck_123 c4 ev5 ?_
    refine z_aload_n C 0 x_Mo_playOther_133 rfl ?_
    refine z_getR (j := 20) C x_Mo_playOther_134 nk_111 ck_111 cw_12 (i_lt rfl) rfl rf_111_20 rfl fl_Mo_47 ?_
    refine z_iload_n C 1 x_Mo_playOther_137 rfl ?_
    obtain ⟨c6, h⟩ := chk_e h
    obtain ⟨v7, ev7, h⟩ := blet_e h
    refine z_iald C x_Mo_playOther_138 nk_124 ck_124 c6 ev7 ?_
    refine z_aload_n C 0 x_Mo_playOther_139 rfl ?_
    refine z_getR (j := 21) C x_Mo_playOther_140 nk_111 ck_111 cw_12 (i_lt rfl) rfl rf_111_21 rfl fl_Mo_50 ?_
    refine z_iload_n C 1 x_Mo_playOther_143 rfl ?_
    obtain ⟨c8, h⟩ := chk_e h
    obtain ⟨v9, ev9, h⟩ := blet_e h
    refine z_iald C x_Mo_playOther_144 nk_125 ck_125 c8 ev9 ?_
    obtain ⟨v10, M11, fv10, h⟩ := bcall_e h
    refine z_callSi C x_Mo_playOther_145 cs_Mo_378 (t_Mo_binAt (lev := lev - 1) l G (by omega) fv10) (by omega) rfl (i_le rfl) rfl ?_
    refine z_iload C 4 x_Mo_playOther_148 rfl ?_
    refine z_iadd C x_Mo_playOther_150 ?_
    refine z_dup2 C x_Mo_playOther_151 rfl rfl ?_
    obtain ⟨c12, h⟩ := chk_e h
    obtain ⟨v13, ev13, h⟩ := blet_e h
    refine z_iald C x_Mo_playOther_152 nk_135 ck_135 c12 ev13 ?_
    refine z_iload C 5 x_Mo_playOther_153 rfl ?_
    refine z_iadd C x_Mo_playOther_155 ?_
    obtain ⟨c14, h⟩ := chk_e h
    obtain ⟨M15, eM15, h⟩ := blet_e h
    refine z_iast C x_Mo_playOther_156 nk_135 ck_135 c14 eM15 ?_
    exact z_sub [0, 1, 2, 3, 4, 5] rfl (z_Mo_playOther_157 C hlev hR59 h)
  · refine z_icmp_ne_t (tgt := 157) C x_Mo_playOther_120 rfl c3 ?_
    exact z_sub [0, 1, 2, 3, 4, 5] rfl (z_Mo_playOther_157 C hlev hR59 h)
def k_Mo_playOther_59 (R59 : Int → Int → Int → Int → Mem → Res) (a1 a2 a3 a4 : Int) (M : Mem) : Res := blet (M 111 5) fun v1 => if w32 a4 < w32 v1 then (chk (0 ≤ w32 a4 ∧ w32 a4 < 20) <| blet (M 144 (ix a4)) fun v4 => if w32 a2 = 0 then (chk (0 ≤ w32 (a3 + a4) ∧ w32 (a3 + a4) < 9600) <| blet (M 134 (ix (a3 + a4))) fun v7 => chk (0 ≤ w32 (a3 + a4) ∧ w32 (a3 + a4) < 9600) <| blet (sto M 134 (ix (a3 + a4)) (v7 - v4)) fun M9 => k_Mo_playOther_113 R59 a1 a2 a3 a4 v4 M9) else (chk (0 ≤ w32 (a3 + a4) ∧ w32 (a3 + a4) < 2400) <| blet (M 135 (ix (a3 + a4))) fun v11 => chk (0 ≤ w32 (a3 + a4) ∧ w32 (a3 + a4) < 2400) <| blet (sto M 135 (ix (a3 + a4)) (v11 - v4)) fun M13 => k_Mo_playOther_113 R59 a1 a2 a3 a4 v4 M13)) else (some (0, M))
theorem z_Mo_playOther_59 (C : Cx p s m args meth c G b_Mo_playOther 6 "PrairiePoolModel" none) (hlev : 2 ≤ lev) {r : Int × Mem} {R59 : Int → Int → Int → Int → Mem → Res} (hR59 : ∀ (a1 a2 a3 a4 : Int) (M : Mem), R59 a1 a2 a3 a4 M = some r → Z p l e lev s m args below meth c G 6 (MQ below (Qm G 0 r) args s 0 0 (Ab G)) M 59 [(0, .ref (G.1 + 111)), (1, vi a1), (2, vi a2), (3, vi a3), (4, vi a4)] []) {a1 a2 a3 a4 : Int} {M : Mem} (h : k_Mo_playOther_59 R59 a1 a2 a3 a4 M = some r) : Z p l e lev s m args below meth c G 6 (MQ below (Qm G 0 r) args s 0 0 (Ab G)) M 59 [(0, .ref (G.1 + 111)), (1, vi a1), (2, vi a2), (3, vi a3), (4, vi a4)] [] := by
  unfold k_Mo_playOther_59 at h
  refine z_iload C 4 x_Mo_playOther_59 rfl ?_
  refine z_aload_n C 0 x_Mo_playOther_61 rfl ?_
  obtain ⟨v1, ev1, h⟩ := blet_e h
  refine z_getI (j := 5) C x_Mo_playOther_62 nk_111 ck_111 cw_12 (i_lt rfl) rfl rfl fl_Mo_291 ev1 ?_
  rcases ite_e h with ⟨c2, h⟩ | ⟨c2, h⟩
  · refine z_icmp_ge_f (tgt := 209) C x_Mo_playOther_65 rfl c2 ?_
    refine z_aload_n C 0 x_Mo_playOther_68 rfl ?_
    refine z_getR (j := 41) C x_Mo_playOther_69 nk_111 ck_111 cw_12 (i_lt rfl) rfl rf_111_41 rfl fl_Mo_107 ?_
    refine z_iload C 4 x_Mo_playOther_72 rfl ?_
    obtain ⟨c3, h⟩ := chk_e h
    obtain ⟨v4, ev4, h⟩ := blet_e h
    refine z_lald C x_Mo_playOther_74 nk_144 ck_144 c3 ev4 ?_
    refine z_l2i C x_Mo_playOther_75 ?_
    refine z_istore (lv' := [(5, vi v4), (0, .ref (G.1 + 111)), (1, vi a1), (2, vi a2), (3, vi a3), (4, vi a4)]) C rfl x_Mo_playOther_76 (i_lt rfl) rfl ?_
    refine z_iload_n C 3 x_Mo_playOther_78 rfl ?_
    rcases ite_e h with ⟨c5, h⟩ | ⟨c5, h⟩
    · refine z_if_eq_t (tgt := 99) C x_Mo_playOther_79 rfl c5 ?_
      refine z_aload_n C 1 x_Mo_playOther_99 rfl ?_
      refine z_getR (j := 30) C x_Mo_playOther_100 nk_111 ck_111 cw_12 (i_lt rfl) rfl rf_111_30 rfl fl_Mo_77 ?_
      refine z_iload_n C 4 x_Mo_playOther_103 rfl ?_
      refine z_iload C 5 x_Mo_playOther_104 rfl ?_
      refine z_iadd C x_Mo_playOther_106 ?_
      refine z_dup2 C x_Mo_playOther_107 rfl rfl ?_
      obtain ⟨c6, h⟩ := chk_e h
      obtain ⟨v7, ev7, h⟩ := blet_e h
      refine z_iald C x_Mo_playOther_108 nk_134 ck_134 c6 ev7 ?_
      refine z_iload C 0 x_Mo_playOther_109 rfl ?_
      refine z_isub C x_Mo_playOther_111 ?_
      obtain ⟨c8, h⟩ := chk_e h
      obtain ⟨M9, eM9, h⟩ := blet_e h
      refine z_iast C x_Mo_playOther_112 nk_134 ck_134 c8 eM9 ?_
      exact z_sub [1, 2, 3, 4, 5, 0] rfl (z_Mo_playOther_113 C hlev hR59 h)
    · refine z_if_eq_f (tgt := 99) C x_Mo_playOther_79 rfl c5 ?_
      refine z_aload_n C 1 x_Mo_playOther_82 rfl ?_
      refine z_getR (j := 31) C x_Mo_playOther_83 nk_111 ck_111 cw_12 (i_lt rfl) rfl rf_111_31 rfl fl_Mo_80 ?_
      refine z_iload_n C 4 x_Mo_playOther_86 rfl ?_
      refine z_iload C 5 x_Mo_playOther_87 rfl ?_
      refine z_iadd C x_Mo_playOther_89 ?_
      refine z_dup2 C x_Mo_playOther_90 rfl rfl ?_
      obtain ⟨c10, h⟩ := chk_e h
      obtain ⟨v11, ev11, h⟩ := blet_e h
      refine z_iald C x_Mo_playOther_91 nk_135 ck_135 c10 ev11 ?_
      refine z_iload C 0 x_Mo_playOther_92 rfl ?_
      refine z_isub C x_Mo_playOther_94 ?_
      obtain ⟨c12, h⟩ := chk_e h
      obtain ⟨M13, eM13, h⟩ := blet_e h
      refine z_iast C x_Mo_playOther_95 nk_135 ck_135 c12 eM13 ?_
      refine z_goto (tgt := 113) C x_Mo_playOther_96 rfl ?_
      exact z_sub [1, 2, 3, 4, 5, 0] rfl (z_Mo_playOther_113 C hlev hR59 h)
  · refine z_icmp_ge_t (tgt := 209) C x_Mo_playOther_65 rfl c2 ?_
    exact z_vret C x_Mo_playOther_209 h
theorem zl_Mo_playOther_59 (C : Cx p s m args meth c G b_Mo_playOther 6 "PrairiePoolModel" none) (hlev : 2 ≤ lev) {r : Int × Mem}  : ∀ (n : Nat) (a1 a2 a3 a4 : Int) (M : Mem), fix (fun _ _ _ _ _ => none) (k_Mo_playOther_59) n a1 a2 a3 a4 M = some r → Z p l e lev s m args below meth c G 6 (MQ below (Qm G 0 r) args s 0 0 (Ab G)) M 59 [(0, .ref (G.1 + 111)), (1, vi a1), (2, vi a2), (3, vi a3), (4, vi a4)] [] := by
  intro n
  induction n with
  | zero => intro a1 a2 a3 a4 M h; exact nomatch (show (none : Res) = some r from h)
  | succ n ih => intro a1 a2 a3 a4 M h; exact z_Mo_playOther_59 C hlev ih h
def k_Mo_playOther_15 (a1 s0 : Int) (M : Mem) : Res := chk (0 ≤ w32 a1 ∧ w32 a1 < 120) <| blet (M 122 (ix a1)) fun v2 => chk (0 ≤ w32 a1 ∧ w32 a1 < 120) <| blet (M 124 (ix a1)) fun v4 => chk (0 ≤ w32 a1 ∧ w32 a1 < 120) <| blet (M 125 (ix a1)) fun v6 => bcall (d_Mo_binAt v2 v4 v6 M) fun v7 M8 => chk (0 ≤ w32 a1 ∧ w32 a1 < 120) <| blet (M8 126 (ix a1)) fun v10 => bcall (d_Mo_takeBin v7 v10 s0 M8) fun v11 M12 => chk (0 ≤ w32 a1 ∧ w32 a1 < 120) <| blet (sto M12 137 (ix a1) v11) fun M14 => fix (fun _ _ _ _ _ => none) (k_Mo_playOther_59) FU a1 s0 v7 0 M14
theorem z_Mo_playOther_15 (C : Cx p s m args meth c G b_Mo_playOther 6 "PrairiePoolModel" none) (hlev : 2 ≤ lev) {r : Int × Mem}  {a1 s0 : Int} {M : Mem} (h : k_Mo_playOther_15 a1 s0 M = some r) : Z p l e lev s m args below meth c G 6 (MQ below (Qm G 0 r) args s 0 0 (Ab G)) M 15 [(0, .ref (G.1 + 111)), (1, vi a1)] [vi s0] := by
  unfold k_Mo_playOther_15 at h
  refine z_istore_n (lv' := [(2, vi s0), (0, .ref (G.1 + 111)), (1, vi a1)]) C rfl x_Mo_playOther_15 (i_lt rfl) rfl ?_
  refine z_aload_n C 1 x_Mo_playOther_16 rfl ?_
  refine z_getR (j := 18) C x_Mo_playOther_17 nk_111 ck_111 cw_12 (i_lt rfl) rfl rf_111_18 rfl fl_Mo_41 ?_
  refine z_iload_n C 2 x_Mo_playOther_20 rfl ?_
  obtain ⟨c1, h⟩ := chk_e h
  obtain ⟨v2, ev2, h⟩ := blet_e h
  refine z_iald C x_Mo_playOther_21 nk_122 ck_122 c1 ev2 ?_
  refine z_aload_n C 1 x_Mo_playOther_22 rfl ?_
  refine z_getR (j := 20) C x_Mo_playOther_23 nk_111 ck_111 cw_12 (i_lt rfl) rfl rf_111_20 rfl fl_Mo_47 ?_
  refine z_iload_n C 2 x_Mo_playOther_26 rfl ?_
  obtain ⟨c3, h⟩ := chk_e h
  obtain ⟨v4, ev4, h⟩ := blet_e h
  refine z_iald C x_Mo_playOther_27 nk_124 ck_124 c3 ev4 ?_
  refine z_aload_n C 1 x_Mo_playOther_28 rfl ?_
  refine z_getR (j := 21) C x_Mo_playOther_29 nk_111 ck_111 cw_12 (i_lt rfl) rfl rf_111_21 rfl fl_Mo_50 ?_
  refine z_iload_n C 2 x_Mo_playOther_32 rfl ?_
  obtain ⟨c5, h⟩ := chk_e h
  obtain ⟨v6, ev6, h⟩ := blet_e h
  refine z_iald C x_Mo_playOther_33 nk_125 ck_125 c5 ev6 ?_
  obtain ⟨v7, M8, fv7, h⟩ := bcall_e h
  refine z_callSi C x_Mo_playOther_34 cs_Mo_378 (t_Mo_binAt (lev := lev - 1) l G (by omega) fv7) (by omega) rfl (i_le rfl) rfl ?_
  refine z_istore_n (lv' := [(3, vi v7), (2, vi s0), (0, .ref (G.1 + 111)), (1, vi a1)]) C rfl x_Mo_playOther_37 (i_lt rfl) rfl ?_
  refine z_aload_n C 2 x_Mo_playOther_38 rfl ?_
  refine z_getR (j := 33) C x_Mo_playOther_39 nk_111 ck_111 cw_12 (i_lt rfl) rfl rf_111_33 rfl fl_Mo_86 ?_
  refine z_iload_n C 3 x_Mo_playOther_42 rfl ?_
  refine z_aload_n C 2 x_Mo_playOther_43 rfl ?_
  refine z_iload_n C 0 x_Mo_playOther_44 rfl ?_
  refine z_aload_n C 2 x_Mo_playOther_45 rfl ?_
  refine z_getR (j := 22) C x_Mo_playOther_46 nk_111 ck_111 cw_12 (i_lt rfl) rfl rf_111_22 rfl fl_Mo_53 ?_
  refine z_iload_n C 3 x_Mo_playOther_49 rfl ?_
  obtain ⟨c9, h⟩ := chk_e h
  obtain ⟨v10, ev10, h⟩ := blet_e h
  refine z_iald C x_Mo_playOther_50 nk_126 ck_126 c9 ev10 ?_
  refine z_iload_n C 1 x_Mo_playOther_51 rfl ?_
  obtain ⟨v11, M12, fv11, h⟩ := bcall_e h
  refine z_callVi (k := 111) C x_Mo_playOther_52 cv_Mo_396 (t_Mo_takeBin (lev := lev - 1) l G (by omega) fv11) nk_111 ck_111 rfl (by omega) rfl (i_le rfl) rfl ?_
  obtain ⟨c13, h⟩ := chk_e h
  obtain ⟨M14, eM14, h⟩ := blet_e h
  refine z_iast C x_Mo_playOther_55 nk_137 ck_137 c13 eM14 ?_
  refine z_iconst C x_Mo_playOther_56 ?_
  refine z_istore (lv' := [(4, vi 0), (3, vi v7), (2, vi s0), (0, .ref (G.1 + 111)), (1, vi a1)]) C rfl x_Mo_playOther_57 (i_lt rfl) rfl ?_
  exact z_sub [3, 4, 2, 1, 0] rfl (zl_Mo_playOther_59 C hlev FU a1 s0 v7 0 M14 h)
def d_Mo_playOther (a1 : Int) (M : Mem) : Res := chk (0 ≤ w32 a1 ∧ w32 a1 < 120) <| blet (M 120 (ix a1)) fun v2 => if w32 v2 = 2 then (k_Mo_playOther_15 a1 1 M) else (k_Mo_playOther_15 a1 0 M)
theorem t_Mo_playOther (l : Launch) (G : GX) {lev : Nat} (hlev : 2 ≤ lev) {a1 : Int} {M : Mem} {r : Int × Mem} (h : d_Mo_playOther a1 M = some r) : Mt l G y_Mo_playOther b_Mo_playOther 6 none lev 0 [.ref (G.1 + 111), vi a1] M r := by
  refine Mt.of (by decide) (i_le rfl) ?_
  intro p e s m args below meth c C
  have C : Cx p s m args meth c G b_Mo_playOther 6 "PrairiePoolModel" none := C
  unfold d_Mo_playOther at h
  refine z_sub (lv' := [(0, .ref (G.1 + 111)), (1, vi a1)]) [0, 1] rfl ?_
  refine z_aload_n C 0 x_Mo_playOther_0 rfl ?_
  refine z_getR (j := 16) C x_Mo_playOther_1 nk_111 ck_111 cw_12 (i_lt rfl) rfl rf_111_16 rfl fl_Mo_35 ?_
  refine z_iload_n C 1 x_Mo_playOther_4 rfl ?_
  obtain ⟨c1, h⟩ := chk_e h
  obtain ⟨v2, ev2, h⟩ := blet_e h
  refine z_iald C x_Mo_playOther_5 nk_120 ck_120 c1 ev2 ?_
  refine z_iconst C x_Mo_playOther_6 ?_
  rcases ite_e h with ⟨c3, h⟩ | ⟨c3, h⟩
  · refine z_icmp_ne_f (tgt := 14) C x_Mo_playOther_7 rfl c3 ?_
    refine z_iconst C x_Mo_playOther_10 ?_
    refine z_goto (tgt := 15) C x_Mo_playOther_11 rfl ?_
    exact z_sub [0, 1] rfl (z_Mo_playOther_15 C hlev h)
  · refine z_icmp_ne_t (tgt := 14) C x_Mo_playOther_7 rfl c3 ?_
    refine z_iconst C x_Mo_playOther_14 ?_
    exact z_sub [0, 1] rfl (z_Mo_playOther_15 C hlev h)
theorem x_Mo_play_0 : DC b_Mo_play 0 (.iconst 0) 1 1 := ⟨by decide +kernel, rfl⟩
theorem x_Mo_play_1 : DC b_Mo_play 1 (.istore_n 2) 1 2 := ⟨by decide +kernel, rfl⟩
theorem x_Mo_play_2 : DC b_Mo_play 2 (.iload_n 2) 1 3 := ⟨by decide +kernel, rfl⟩
theorem x_Mo_play_3 : DC b_Mo_play 3 (.sipush 9600) 3 6 := ⟨by decide +kernel, rfl⟩
theorem x_Mo_play_6 : DC b_Mo_play 6 (.if_icmp .ge 16) 3 9 := ⟨by decide +kernel, rfl⟩
theorem x_Mo_play_9 : DC b_Mo_play 9 (.aload_n 0) 1 10 := ⟨by decide +kernel, rfl⟩
theorem x_Mo_play_10 : DC b_Mo_play 10 (.getfield 77) 3 13 := ⟨by decide +kernel, rfl⟩
theorem x_Mo_play_13 : DC b_Mo_play 13 (.iload_n 2) 1 14 := ⟨by decide +kernel, rfl⟩
theorem x_Mo_play_14 : DC b_Mo_play 14 (.iconst 0) 1 15 := ⟨by decide +kernel, rfl⟩
theorem x_Mo_play_15 : DC b_Mo_play 15 (.iastore) 1 16 := ⟨by decide +kernel, rfl⟩
theorem x_Mo_play_16 : DC b_Mo_play 16 (.iinc 2 1) 3 19 := ⟨by decide +kernel, rfl⟩
theorem x_Mo_play_19 : DC b_Mo_play 19 (.goto (-17)) 3 22 := ⟨by decide +kernel, rfl⟩
theorem x_Mo_play_22 : DC b_Mo_play 22 (.iconst 0) 1 23 := ⟨by decide +kernel, rfl⟩
theorem x_Mo_play_23 : DC b_Mo_play 23 (.istore_n 2) 1 24 := ⟨by decide +kernel, rfl⟩
theorem x_Mo_play_24 : DC b_Mo_play 24 (.iload_n 2) 1 25 := ⟨by decide +kernel, rfl⟩
theorem x_Mo_play_25 : DC b_Mo_play 25 (.sipush 2400) 3 28 := ⟨by decide +kernel, rfl⟩
theorem x_Mo_play_28 : DC b_Mo_play 28 (.if_icmp .ge 16) 3 31 := ⟨by decide +kernel, rfl⟩
theorem x_Mo_play_31 : DC b_Mo_play 31 (.aload_n 0) 1 32 := ⟨by decide +kernel, rfl⟩
theorem x_Mo_play_32 : DC b_Mo_play 32 (.getfield 80) 3 35 := ⟨by decide +kernel, rfl⟩
theorem x_Mo_play_35 : DC b_Mo_play 35 (.iload_n 2) 1 36 := ⟨by decide +kernel, rfl⟩
theorem x_Mo_play_36 : DC b_Mo_play 36 (.iconst 0) 1 37 := ⟨by decide +kernel, rfl⟩
theorem x_Mo_play_37 : DC b_Mo_play 37 (.iastore) 1 38 := ⟨by decide +kernel, rfl⟩
theorem x_Mo_play_38 : DC b_Mo_play 38 (.iinc 2 1) 3 41 := ⟨by decide +kernel, rfl⟩
theorem x_Mo_play_41 : DC b_Mo_play 41 (.goto (-17)) 3 44 := ⟨by decide +kernel, rfl⟩
theorem x_Mo_play_44 : DC b_Mo_play 44 (.iconst 0) 1 45 := ⟨by decide +kernel, rfl⟩
theorem x_Mo_play_45 : DC b_Mo_play 45 (.istore_n 2) 1 46 := ⟨by decide +kernel, rfl⟩
theorem x_Mo_play_46 : DC b_Mo_play 46 (.iload_n 2) 1 47 := ⟨by decide +kernel, rfl⟩
theorem x_Mo_play_47 : DC b_Mo_play 47 (.bipush 20) 2 49 := ⟨by decide +kernel, rfl⟩
theorem x_Mo_play_49 : DC b_Mo_play 49 (.if_icmp .ge 37) 3 52 := ⟨by decide +kernel, rfl⟩
theorem x_Mo_play_52 : DC b_Mo_play 52 (.aload_n 0) 1 53 := ⟨by decide +kernel, rfl⟩
theorem x_Mo_play_53 : DC b_Mo_play 53 (.getfield 92) 3 56 := ⟨by decide +kernel, rfl⟩
theorem x_Mo_play_56 : DC b_Mo_play 56 (.iload_n 2) 1 57 := ⟨by decide +kernel, rfl⟩
theorem x_Mo_play_57 : DC b_Mo_play 57 (.iconst 0) 1 58 := ⟨by decide +kernel, rfl⟩
theorem x_Mo_play_58 : DC b_Mo_play 58 (.iastore) 1 59 := ⟨by decide +kernel, rfl⟩
theorem x_Mo_play_59 : DC b_Mo_play 59 (.aload_n 0) 1 60 := ⟨by decide +kernel, rfl⟩
theorem x_Mo_play_60 : DC b_Mo_play 60 (.getfield 95) 3 63 := ⟨by decide +kernel, rfl⟩
theorem x_Mo_play_63 : DC b_Mo_play 63 (.iload_n 2) 1 64 := ⟨by decide +kernel, rfl⟩
theorem x_Mo_play_64 : DC b_Mo_play 64 (.iconst 0) 1 65 := ⟨by decide +kernel, rfl⟩
theorem x_Mo_play_65 : DC b_Mo_play 65 (.iastore) 1 66 := ⟨by decide +kernel, rfl⟩
theorem x_Mo_play_66 : DC b_Mo_play 66 (.aload_n 0) 1 67 := ⟨by decide +kernel, rfl⟩
theorem x_Mo_play_67 : DC b_Mo_play 67 (.getfield 98) 3 70 := ⟨by decide +kernel, rfl⟩
theorem x_Mo_play_70 : DC b_Mo_play 70 (.iload_n 2) 1 71 := ⟨by decide +kernel, rfl⟩
theorem x_Mo_play_71 : DC b_Mo_play 71 (.iconst 0) 1 72 := ⟨by decide +kernel, rfl⟩
theorem x_Mo_play_72 : DC b_Mo_play 72 (.iastore) 1 73 := ⟨by decide +kernel, rfl⟩
theorem x_Mo_play_73 : DC b_Mo_play 73 (.aload_n 0) 1 74 := ⟨by decide +kernel, rfl⟩
theorem x_Mo_play_74 : DC b_Mo_play 74 (.getfield 101) 3 77 := ⟨by decide +kernel, rfl⟩
theorem x_Mo_play_77 : DC b_Mo_play 77 (.iload_n 2) 1 78 := ⟨by decide +kernel, rfl⟩
theorem x_Mo_play_78 : DC b_Mo_play 78 (.iconst 0) 1 79 := ⟨by decide +kernel, rfl⟩
theorem x_Mo_play_79 : DC b_Mo_play 79 (.iastore) 1 80 := ⟨by decide +kernel, rfl⟩
theorem x_Mo_play_80 : DC b_Mo_play 80 (.iinc 2 1) 3 83 := ⟨by decide +kernel, rfl⟩
theorem x_Mo_play_83 : DC b_Mo_play 83 (.goto (-37)) 3 86 := ⟨by decide +kernel, rfl⟩
theorem x_Mo_play_86 : DC b_Mo_play 86 (.aload_n 0) 1 87 := ⟨by decide +kernel, rfl⟩
theorem x_Mo_play_87 : DC b_Mo_play 87 (.iconst 0) 1 88 := ⟨by decide +kernel, rfl⟩
theorem x_Mo_play_88 : DC b_Mo_play 88 (.putfield 371) 3 91 := ⟨by decide +kernel, rfl⟩
theorem x_Mo_play_91 : DC b_Mo_play 91 (.iconst 0) 1 92 := ⟨by decide +kernel, rfl⟩
theorem x_Mo_play_92 : DC b_Mo_play 92 (.istore_n 2) 1 93 := ⟨by decide +kernel, rfl⟩
theorem x_Mo_play_93 : DC b_Mo_play 93 (.iload_n 2) 1 94 := ⟨by decide +kernel, rfl⟩
theorem x_Mo_play_94 : DC b_Mo_play 94 (.aload_n 0) 1 95 := ⟨by decide +kernel, rfl⟩
theorem x_Mo_play_95 : DC b_Mo_play 95 (.getfield 309) 3 98 := ⟨by decide +kernel, rfl⟩
theorem x_Mo_play_98 : DC b_Mo_play 98 (.if_icmp .ge 59) 3 101 := ⟨by decide +kernel, rfl⟩
theorem x_Mo_play_101 : DC b_Mo_play 101 (.aload_n 0) 1 102 := ⟨by decide +kernel, rfl⟩
theorem x_Mo_play_102 : DC b_Mo_play 102 (.getfield 83) 3 105 := ⟨by decide +kernel, rfl⟩
theorem x_Mo_play_105 : DC b_Mo_play 105 (.iload_n 2) 1 106 := ⟨by decide +kernel, rfl⟩
theorem x_Mo_play_106 : DC b_Mo_play 106 (.iconst 0) 1 107 := ⟨by decide +kernel, rfl⟩
theorem x_Mo_play_107 : DC b_Mo_play 107 (.iastore) 1 108 := ⟨by decide +kernel, rfl⟩
theorem x_Mo_play_108 : DC b_Mo_play 108 (.aload_n 0) 1 109 := ⟨by decide +kernel, rfl⟩
theorem x_Mo_play_109 : DC b_Mo_play 109 (.getfield 86) 3 112 := ⟨by decide +kernel, rfl⟩
theorem x_Mo_play_112 : DC b_Mo_play 112 (.iload_n 2) 1 113 := ⟨by decide +kernel, rfl⟩
theorem x_Mo_play_113 : DC b_Mo_play 113 (.iconst 0) 1 114 := ⟨by decide +kernel, rfl⟩
theorem x_Mo_play_114 : DC b_Mo_play 114 (.iastore) 1 115 := ⟨by decide +kernel, rfl⟩
theorem x_Mo_play_115 : DC b_Mo_play 115 (.aload_n 0) 1 116 := ⟨by decide +kernel, rfl⟩
theorem x_Mo_play_116 : DC b_Mo_play 116 (.getfield 62) 3 119 := ⟨by decide +kernel, rfl⟩
theorem x_Mo_play_119 : DC b_Mo_play 119 (.iload_n 2) 1 120 := ⟨by decide +kernel, rfl⟩
theorem x_Mo_play_120 : DC b_Mo_play 120 (.iaload) 1 121 := ⟨by decide +kernel, rfl⟩
theorem x_Mo_play_121 : DC b_Mo_play 121 (.iload_n 1) 1 122 := ⟨by decide +kernel, rfl⟩
theorem x_Mo_play_122 : DC b_Mo_play 122 (.if_icmp .le 6) 3 125 := ⟨by decide +kernel, rfl⟩
theorem x_Mo_play_125 : DC b_Mo_play 125 (.goto 26) 3 128 := ⟨by decide +kernel, rfl⟩
theorem x_Mo_play_128 : DC b_Mo_play 128 (.aload_n 0) 1 129 := ⟨by decide +kernel, rfl⟩
theorem x_Mo_play_129 : DC b_Mo_play 129 (.getfield 35) 3 132 := ⟨by decide +kernel, rfl⟩
theorem x_Mo_play_132 : DC b_Mo_play 132 (.iload_n 2) 1 133 := ⟨by decide +kernel, rfl⟩
theorem x_Mo_play_133 : DC b_Mo_play 133 (.iaload) 1 134 := ⟨by decide +kernel, rfl⟩
theorem x_Mo_play_134 : DC b_Mo_play 134 (.ifCond .ne 12) 3 137 := ⟨by decide +kernel, rfl⟩
theorem x_Mo_play_137 : DC b_Mo_play 137 (.aload_n 0) 1 138 := ⟨by decide +kernel, rfl⟩
theorem x_Mo_play_138 : DC b_Mo_play 138 (.iload_n 2) 1 139 := ⟨by decide +kernel, rfl⟩
theorem x_Mo_play_139 : DC b_Mo_play 139 (.iload_n 1) 1 140 := ⟨by decide +kernel, rfl⟩
theorem x_Mo_play_140 : DC b_Mo_play 140 (.invokevirtual 382) 3 143 := ⟨by decide +kernel, rfl⟩
theorem x_Mo_play_143 : DC b_Mo_play 143 (.goto 8) 3 146 := ⟨by decide +kernel, rfl⟩
theorem x_Mo_play_146 : DC b_Mo_play 146 (.aload_n 0) 1 147 := ⟨by decide +kernel, rfl⟩
theorem x_Mo_play_147 : DC b_Mo_play 147 (.iload_n 2) 1 148 := ⟨by decide +kernel, rfl⟩
theorem x_Mo_play_148 : DC b_Mo_play 148 (.invokevirtual 386) 3 151 := ⟨by decide +kernel, rfl⟩
theorem x_Mo_play_151 : DC b_Mo_play 151 (.iinc 2 1) 3 154 := ⟨by decide +kernel, rfl⟩
theorem x_Mo_play_154 : DC b_Mo_play 154 (.goto (-61)) 3 157 := ⟨by decide +kernel, rfl⟩
theorem x_Mo_play_157 : DC b_Mo_play 157 (.return_) 1 158 := ⟨by decide +kernel, rfl⟩
def k_Mo_play_151 (R93 : Int → Int → Mem → Res) (a1 a2 : Int) (M : Mem) : Res := blet (a2 + 1) fun v1 => R93 a1 v1 M
theorem z_Mo_play_151 (C : Cx p s m args meth c G b_Mo_play 3 "PrairiePoolModel" none) (hlev : 7 ≤ lev) {r : Int × Mem} {R93 : Int → Int → Mem → Res} (hR93 : ∀ (a1 a2 : Int) (M : Mem), R93 a1 a2 M = some r → Z p l e lev s m args below meth c G 3 (MQ below (Qm G 0 r) args s 0 0 (Ab G)) M 93 [(0, .ref (G.1 + 111)), (1, vi a1), (2, vi a2)] []) {a1 a2 : Int} {M : Mem} (h : k_Mo_play_151 R93 a1 a2 M = some r) : Z p l e lev s m args below meth c G 3 (MQ below (Qm G 0 r) args s 0 0 (Ab G)) M 151 [(0, .ref (G.1 + 111)), (1, vi a1), (2, vi a2)] [] := by
  unfold k_Mo_play_151 at h
  obtain ⟨v1, ev1, h⟩ := blet_e h
  refine z_iinc (lv' := [(2, vi v1), (0, .ref (G.1 + 111)), (1, vi a1)]) C 2 ev1 x_Mo_play_151 rfl (i_lt rfl) rfl ?_
  refine z_goto (tgt := 93) C x_Mo_play_154 rfl ?_
  exact z_sub [1, 2, 0] rfl (hR93 a1 v1 M h)
def k_Mo_play_93 (R93 : Int → Int → Mem → Res) (a1 a2 : Int) (M : Mem) : Res := blet (M 111 7) fun v1 => if w32 a2 < w32 v1 then (chk (0 ≤ w32 a2 ∧ w32 a2 < 120) <| blet (sto M 136 (ix a2) 0) fun M4 => chk (0 ≤ w32 a2 ∧ w32 a2 < 120) <| blet (sto M4 137 (ix a2) 0) fun M6 => chk (0 ≤ w32 a2 ∧ w32 a2 < 120) <| blet (M6 129 (ix a2)) fun v8 => if w32 a1 < w32 v8 then (k_Mo_play_151 R93 a1 a2 M6) else (chk (0 ≤ w32 a2 ∧ w32 a2 < 120) <| blet (M6 120 (ix a2)) fun v11 => if w32 v11 = 0 then (bcall (d_Mo_playLoad a2 a1 M6) fun v13 M14 => k_Mo_play_151 R93 a1 a2 M14) else (bcall (d_Mo_playOther a2 M6) fun v15 M16 => k_Mo_play_151 R93 a1 a2 M16))) else (some (0, M))
theorem z_Mo_play_93 (C : Cx p s m args meth c G b_Mo_play 3 "PrairiePoolModel" none) (hlev : 7 ≤ lev) {r : Int × Mem} {R93 : Int → Int → Mem → Res} (hR93 : ∀ (a1 a2 : Int) (M : Mem), R93 a1 a2 M = some r → Z p l e lev s m args below meth c G 3 (MQ below (Qm G 0 r) args s 0 0 (Ab G)) M 93 [(0, .ref (G.1 + 111)), (1, vi a1), (2, vi a2)] []) {a1 a2 : Int} {M : Mem} (h : k_Mo_play_93 R93 a1 a2 M = some r) : Z p l e lev s m args below meth c G 3 (MQ below (Qm G 0 r) args s 0 0 (Ab G)) M 93 [(0, .ref (G.1 + 111)), (1, vi a1), (2, vi a2)] [] := by
  unfold k_Mo_play_93 at h
  refine z_iload_n C 2 x_Mo_play_93 rfl ?_
  refine z_aload_n C 0 x_Mo_play_94 rfl ?_
  obtain ⟨v1, ev1, h⟩ := blet_e h
  refine z_getI (j := 7) C x_Mo_play_95 nk_111 ck_111 cw_12 (i_lt rfl) rfl rfl fl_Mo_309 ev1 ?_
  rcases ite_e h with ⟨c2, h⟩ | ⟨c2, h⟩
  · refine z_icmp_ge_f (tgt := 157) C x_Mo_play_98 rfl c2 ?_
    refine z_aload_n C 0 x_Mo_play_101 rfl ?_
    refine z_getR (j := 32) C x_Mo_play_102 nk_111 ck_111 cw_12 (i_lt rfl) rfl rf_111_32 rfl fl_Mo_83 ?_
    refine z_iload_n C 2 x_Mo_play_105 rfl ?_
    refine z_iconst C x_Mo_play_106 ?_
    obtain ⟨c3, h⟩ := chk_e h
    obtain ⟨M4, eM4, h⟩ := blet_e h
    refine z_iast C x_Mo_play_107 nk_136 ck_136 c3 eM4 ?_
    refine z_aload_n C 0 x_Mo_play_108 rfl ?_
    refine z_getR (j := 33) C x_Mo_play_109 nk_111 ck_111 cw_12 (i_lt rfl) rfl rf_111_33 rfl fl_Mo_86 ?_
    refine z_iload_n C 2 x_Mo_play_112 rfl ?_
    refine z_iconst C x_Mo_play_113 ?_
    obtain ⟨c5, h⟩ := chk_e h
    obtain ⟨M6, eM6, h⟩ := blet_e h
    refine z_iast C x_Mo_play_114 nk_137 ck_137 c5 eM6 ?_
    refine z_aload_n C 0 x_Mo_play_115 rfl ?_
    refine z_getR (j := 25) C x_Mo_play_116 nk_111 ck_111 cw_12 (i_lt rfl) rfl rf_111_25 rfl fl_Mo_62 ?_
    refine z_iload_n C 2 x_Mo_play_119 rfl ?_
    obtain ⟨c7, h⟩ := chk_e h
    obtain ⟨v8, ev8, h⟩ := blet_e h
    refine z_iald C x_Mo_play_120 nk_129 ck_129 c7 ev8 ?_
    refine z_iload_n C 1 x_Mo_play_121 rfl ?_
    rcases ite_e h with ⟨c9, h⟩ | ⟨c9, h⟩
    · refine z_icmp_le_f (tgt := 128) C x_Mo_play_122 rfl c9 ?_
      refine z_goto (tgt := 151) C x_Mo_play_125 rfl ?_
      exact z_sub [0, 1, 2] rfl (z_Mo_play_151 C hlev hR93 h)
    · refine z_icmp_le_t (tgt := 128) C x_Mo_play_122 rfl c9 ?_
      refine z_aload_n C 0 x_Mo_play_128 rfl ?_
      refine z_getR (j := 16) C x_Mo_play_129 nk_111 ck_111 cw_12 (i_lt rfl) rfl rf_111_16 rfl fl_Mo_35 ?_
      refine z_iload_n C 2 x_Mo_play_132 rfl ?_
      obtain ⟨c10, h⟩ := chk_e h
      obtain ⟨v11, ev11, h⟩ := blet_e h
      refine z_iald C x_Mo_play_133 nk_120 ck_120 c10 ev11 ?_
      rcases ite_e h with ⟨c12, h⟩ | ⟨c12, h⟩
      · refine z_if_ne_f (tgt := 146) C x_Mo_play_134 rfl c12 ?_
        refine z_aload_n C 0 x_Mo_play_137 rfl ?_
        refine z_iload_n C 2 x_Mo_play_138 rfl ?_
        refine z_iload_n C 1 x_Mo_play_139 rfl ?_
        obtain ⟨v13, M14, fv13, h⟩ := bcall_e h
        refine z_callVv (k := 111) C x_Mo_play_140 cv_Mo_382 (t_Mo_playLoad (lev := lev - 1) l G (by omega) fv13) nk_111 ck_111 rfl (by omega) rfl (i_le rfl) rfl ?_
        refine z_goto (tgt := 151) C x_Mo_play_143 rfl ?_
        exact z_sub [0, 1, 2] rfl (z_Mo_play_151 C hlev hR93 h)
      · refine z_if_ne_t (tgt := 146) C x_Mo_play_134 rfl c12 ?_
        refine z_aload_n C 0 x_Mo_play_146 rfl ?_
        refine z_iload_n C 2 x_Mo_play_147 rfl ?_
        obtain ⟨v15, M16, fv15, h⟩ := bcall_e h
        refine z_callVv (k := 111) C x_Mo_play_148 cv_Mo_386 (t_Mo_playOther (lev := lev - 1) l G (by omega) fv15) nk_111 ck_111 rfl (by omega) rfl (i_le rfl) rfl ?_
        exact z_sub [0, 1, 2] rfl (z_Mo_play_151 C hlev hR93 h)
  · refine z_icmp_ge_t (tgt := 157) C x_Mo_play_98 rfl c2 ?_
    exact z_vret C x_Mo_play_157 h
theorem zl_Mo_play_93 (C : Cx p s m args meth c G b_Mo_play 3 "PrairiePoolModel" none) (hlev : 7 ≤ lev) {r : Int × Mem}  : ∀ (n : Nat) (a1 a2 : Int) (M : Mem), fix (fun _ _ _ => none) (k_Mo_play_93) n a1 a2 M = some r → Z p l e lev s m args below meth c G 3 (MQ below (Qm G 0 r) args s 0 0 (Ab G)) M 93 [(0, .ref (G.1 + 111)), (1, vi a1), (2, vi a2)] [] := by
  intro n
  induction n with
  | zero => intro a1 a2 M h; exact nomatch (show (none : Res) = some r from h)
  | succ n ih => intro a1 a2 M h; exact z_Mo_play_93 C hlev ih h
def k_Mo_play_46 (R46 : Int → Int → Mem → Res) (a1 a2 : Int) (M : Mem) : Res := if w32 a2 < 20 then (chk (0 ≤ w32 a2 ∧ w32 a2 < 20) <| blet (sto M 139 (ix a2) 0) fun M3 => chk (0 ≤ w32 a2 ∧ w32 a2 < 20) <| blet (sto M3 140 (ix a2) 0) fun M5 => chk (0 ≤ w32 a2 ∧ w32 a2 < 20) <| blet (sto M5 141 (ix a2) 0) fun M7 => chk (0 ≤ w32 a2 ∧ w32 a2 < 20) <| blet (sto M7 142 (ix a2) 0) fun M9 => blet (a2 + 1) fun v10 => R46 a1 v10 M9) else (blet (sto M 111 39 0) fun M11 => fix (fun _ _ _ => none) (k_Mo_play_93) FU a1 0 M11)
theorem z_Mo_play_46 (C : Cx p s m args meth c G b_Mo_play 3 "PrairiePoolModel" none) (hlev : 7 ≤ lev) {r : Int × Mem} {R46 : Int → Int → Mem → Res} (hR46 : ∀ (a1 a2 : Int) (M : Mem), R46 a1 a2 M = some r → Z p l e lev s m args below meth c G 3 (MQ below (Qm G 0 r) args s 0 0 (Ab G)) M 46 [(0, .ref (G.1 + 111)), (1, vi a1), (2, vi a2)] []) {a1 a2 : Int} {M : Mem} (h : k_Mo_play_46 R46 a1 a2 M = some r) : Z p l e lev s m args below meth c G 3 (MQ below (Qm G 0 r) args s 0 0 (Ab G)) M 46 [(0, .ref (G.1 + 111)), (1, vi a1), (2, vi a2)] [] := by
  unfold k_Mo_play_46 at h
  refine z_iload_n C 2 x_Mo_play_46 rfl ?_
  refine z_bipush C rfl x_Mo_play_47 ?_
  rcases ite_e h with ⟨c1, h⟩ | ⟨c1, h⟩
  · refine z_icmp_ge_f (tgt := 86) C x_Mo_play_49 rfl c1 ?_
    refine z_aload_n C 0 x_Mo_play_52 rfl ?_
    refine z_getR (j := 35) C x_Mo_play_53 nk_111 ck_111 cw_12 (i_lt rfl) rfl rf_111_35 rfl fl_Mo_92 ?_
    refine z_iload_n C 2 x_Mo_play_56 rfl ?_
    refine z_iconst C x_Mo_play_57 ?_
    obtain ⟨c2, h⟩ := chk_e h
    obtain ⟨M3, eM3, h⟩ := blet_e h
    refine z_iast C x_Mo_play_58 nk_139 ck_139 c2 eM3 ?_
    refine z_aload_n C 0 x_Mo_play_59 rfl ?_
    refine z_getR (j := 36) C x_Mo_play_60 nk_111 ck_111 cw_12 (i_lt rfl) rfl rf_111_36 rfl fl_Mo_95 ?_
    refine z_iload_n C 2 x_Mo_play_63 rfl ?_
    refine z_iconst C x_Mo_play_64 ?_
    obtain ⟨c4, h⟩ := chk_e h
    obtain ⟨M5, eM5, h⟩ := blet_e h
    refine z_iast C x_Mo_play_65 nk_140 ck_140 c4 eM5 ?_
    refine z_aload_n C 0 x_Mo_play_66 rfl ?_
    refine z_getR (j := 37) C x_Mo_play_67 nk_111 ck_111 cw_12 (i_lt rfl) rfl rf_111_37 rfl fl_Mo_98 ?_
    refine z_iload_n C 2 x_Mo_play_70 rfl ?_
    refine z_iconst C x_Mo_play_71 ?_
    obtain ⟨c6, h⟩ := chk_e h
    obtain ⟨M7, eM7, h⟩ := blet_e h
    refine z_iast C x_Mo_play_72 nk_141 ck_141 c6 eM7 ?_
    refine z_aload_n C 0 x_Mo_play_73 rfl ?_
    refine z_getR (j := 38) C x_Mo_play_74 nk_111 ck_111 cw_12 (i_lt rfl) rfl rf_111_38 rfl fl_Mo_101 ?_
    refine z_iload_n C 2 x_Mo_play_77 rfl ?_
    refine z_iconst C x_Mo_play_78 ?_
    obtain ⟨c8, h⟩ := chk_e h
    obtain ⟨M9, eM9, h⟩ := blet_e h
    refine z_iast C x_Mo_play_79 nk_142 ck_142 c8 eM9 ?_
    obtain ⟨v10, ev10, h⟩ := blet_e h
    refine z_iinc (lv' := [(2, vi v10), (0, .ref (G.1 + 111)), (1, vi a1)]) C 2 ev10 x_Mo_play_80 rfl (i_lt rfl) rfl ?_
    refine z_goto (tgt := 46) C x_Mo_play_83 rfl ?_
    exact z_sub [1, 2, 0] rfl (hR46 a1 v10 M9 h)
  · refine z_icmp_ge_t (tgt := 86) C x_Mo_play_49 rfl c1 ?_
    refine z_aload_n C 0 x_Mo_play_86 rfl ?_
    refine z_iconst C x_Mo_play_87 ?_
    obtain ⟨M11, eM11, h⟩ := blet_e h
    refine z_putI (j := 39) C x_Mo_play_88 nk_111 ck_111 cw_12 (i_lt rfl) rfl rfl rfl rfl fl_Mo_371 eM11 ?_
    refine z_iconst C x_Mo_play_91 ?_
    refine z_istore_n (lv' := [(2, vi 0), (0, .ref (G.1 + 111)), (1, vi a1)]) C rfl x_Mo_play_92 (i_lt rfl) rfl ?_
    exact z_sub [1, 2, 0] rfl (zl_Mo_play_93 C hlev FU a1 0 M11 h)
theorem zl_Mo_play_46 (C : Cx p s m args meth c G b_Mo_play 3 "PrairiePoolModel" none) (hlev : 7 ≤ lev) {r : Int × Mem}  : ∀ (n : Nat) (a1 a2 : Int) (M : Mem), fix (fun _ _ _ => none) (k_Mo_play_46) n a1 a2 M = some r → Z p l e lev s m args below meth c G 3 (MQ below (Qm G 0 r) args s 0 0 (Ab G)) M 46 [(0, .ref (G.1 + 111)), (1, vi a1), (2, vi a2)] [] := by
  intro n
  induction n with
  | zero => intro a1 a2 M h; exact nomatch (show (none : Res) = some r from h)
  | succ n ih => intro a1 a2 M h; exact z_Mo_play_46 C hlev ih h
def k_Mo_play_24 (R24 : Int → Int → Mem → Res) (a1 a2 : Int) (M : Mem) : Res := if w32 a2 < 2400 then (chk (0 ≤ w32 a2 ∧ w32 a2 < 2400) <| blet (sto M 135 (ix a2) 0) fun M3 => blet (a2 + 1) fun v4 => R24 a1 v4 M3) else (fix (fun _ _ _ => none) (k_Mo_play_46) FU a1 0 M)
theorem z_Mo_play_24 (C : Cx p s m args meth c G b_Mo_play 3 "PrairiePoolModel" none) (hlev : 7 ≤ lev) {r : Int × Mem} {R24 : Int → Int → Mem → Res} (hR24 : ∀ (a1 a2 : Int) (M : Mem), R24 a1 a2 M = some r → Z p l e lev s m args below meth c G 3 (MQ below (Qm G 0 r) args s 0 0 (Ab G)) M 24 [(0, .ref (G.1 + 111)), (1, vi a1), (2, vi a2)] []) {a1 a2 : Int} {M : Mem} (h : k_Mo_play_24 R24 a1 a2 M = some r) : Z p l e lev s m args below meth c G 3 (MQ below (Qm G 0 r) args s 0 0 (Ab G)) M 24 [(0, .ref (G.1 + 111)), (1, vi a1), (2, vi a2)] [] := by
  unfold k_Mo_play_24 at h
  refine z_iload_n C 2 x_Mo_play_24 rfl ?_
  refine z_sipush C rfl x_Mo_play_25 ?_
  rcases ite_e h with ⟨c1, h⟩ | ⟨c1, h⟩
  · refine z_icmp_ge_f (tgt := 44) C x_Mo_play_28 rfl c1 ?_
    refine z_aload_n C 0 x_Mo_play_31 rfl ?_
    refine z_getR (j := 31) C x_Mo_play_32 nk_111 ck_111 cw_12 (i_lt rfl) rfl rf_111_31 rfl fl_Mo_80 ?_
    refine z_iload_n C 2 x_Mo_play_35 rfl ?_
    refine z_iconst C x_Mo_play_36 ?_
    obtain ⟨c2, h⟩ := chk_e h
    obtain ⟨M3, eM3, h⟩ := blet_e h
    refine z_iast C x_Mo_play_37 nk_135 ck_135 c2 eM3 ?_
    obtain ⟨v4, ev4, h⟩ := blet_e h
    refine z_iinc (lv' := [(2, vi v4), (0, .ref (G.1 + 111)), (1, vi a1)]) C 2 ev4 x_Mo_play_38 rfl (i_lt rfl) rfl ?_
    refine z_goto (tgt := 24) C x_Mo_play_41 rfl ?_
    exact z_sub [1, 2, 0] rfl (hR24 a1 v4 M3 h)
  · refine z_icmp_ge_t (tgt := 44) C x_Mo_play_28 rfl c1 ?_
    refine z_iconst C x_Mo_play_44 ?_
    refine z_istore_n (lv' := [(2, vi 0), (0, .ref (G.1 + 111)), (1, vi a1)]) C rfl x_Mo_play_45 (i_lt rfl) rfl ?_
    exact z_sub [1, 2, 0] rfl (zl_Mo_play_46 C hlev FU a1 0 M h)
theorem zl_Mo_play_24 (C : Cx p s m args meth c G b_Mo_play 3 "PrairiePoolModel" none) (hlev : 7 ≤ lev) {r : Int × Mem}  : ∀ (n : Nat) (a1 a2 : Int) (M : Mem), fix (fun _ _ _ => none) (k_Mo_play_24) n a1 a2 M = some r → Z p l e lev s m args below meth c G 3 (MQ below (Qm G 0 r) args s 0 0 (Ab G)) M 24 [(0, .ref (G.1 + 111)), (1, vi a1), (2, vi a2)] [] := by
  intro n
  induction n with
  | zero => intro a1 a2 M h; exact nomatch (show (none : Res) = some r from h)
  | succ n ih => intro a1 a2 M h; exact z_Mo_play_24 C hlev ih h
def k_Mo_play_2 (R2 : Int → Int → Mem → Res) (a1 a2 : Int) (M : Mem) : Res := if w32 a2 < 9600 then (chk (0 ≤ w32 a2 ∧ w32 a2 < 9600) <| blet (sto M 134 (ix a2) 0) fun M3 => blet (a2 + 1) fun v4 => R2 a1 v4 M3) else (fix (fun _ _ _ => none) (k_Mo_play_24) FU a1 0 M)
theorem z_Mo_play_2 (C : Cx p s m args meth c G b_Mo_play 3 "PrairiePoolModel" none) (hlev : 7 ≤ lev) {r : Int × Mem} {R2 : Int → Int → Mem → Res} (hR2 : ∀ (a1 a2 : Int) (M : Mem), R2 a1 a2 M = some r → Z p l e lev s m args below meth c G 3 (MQ below (Qm G 0 r) args s 0 0 (Ab G)) M 2 [(0, .ref (G.1 + 111)), (1, vi a1), (2, vi a2)] []) {a1 a2 : Int} {M : Mem} (h : k_Mo_play_2 R2 a1 a2 M = some r) : Z p l e lev s m args below meth c G 3 (MQ below (Qm G 0 r) args s 0 0 (Ab G)) M 2 [(0, .ref (G.1 + 111)), (1, vi a1), (2, vi a2)] [] := by
  unfold k_Mo_play_2 at h
  refine z_iload_n C 2 x_Mo_play_2 rfl ?_
  refine z_sipush C rfl x_Mo_play_3 ?_
  rcases ite_e h with ⟨c1, h⟩ | ⟨c1, h⟩
  · refine z_icmp_ge_f (tgt := 22) C x_Mo_play_6 rfl c1 ?_
    refine z_aload_n C 0 x_Mo_play_9 rfl ?_
    refine z_getR (j := 30) C x_Mo_play_10 nk_111 ck_111 cw_12 (i_lt rfl) rfl rf_111_30 rfl fl_Mo_77 ?_
    refine z_iload_n C 2 x_Mo_play_13 rfl ?_
    refine z_iconst C x_Mo_play_14 ?_
    obtain ⟨c2, h⟩ := chk_e h
    obtain ⟨M3, eM3, h⟩ := blet_e h
    refine z_iast C x_Mo_play_15 nk_134 ck_134 c2 eM3 ?_
    obtain ⟨v4, ev4, h⟩ := blet_e h
    refine z_iinc (lv' := [(2, vi v4), (0, .ref (G.1 + 111)), (1, vi a1)]) C 2 ev4 x_Mo_play_16 rfl (i_lt rfl) rfl ?_
    refine z_goto (tgt := 2) C x_Mo_play_19 rfl ?_
    exact z_sub [1, 2, 0] rfl (hR2 a1 v4 M3 h)
  · refine z_icmp_ge_t (tgt := 22) C x_Mo_play_6 rfl c1 ?_
    refine z_iconst C x_Mo_play_22 ?_
    refine z_istore_n (lv' := [(2, vi 0), (0, .ref (G.1 + 111)), (1, vi a1)]) C rfl x_Mo_play_23 (i_lt rfl) rfl ?_
    exact z_sub [1, 2, 0] rfl (zl_Mo_play_24 C hlev FU a1 0 M h)
theorem zl_Mo_play_2 (C : Cx p s m args meth c G b_Mo_play 3 "PrairiePoolModel" none) (hlev : 7 ≤ lev) {r : Int × Mem}  : ∀ (n : Nat) (a1 a2 : Int) (M : Mem), fix (fun _ _ _ => none) (k_Mo_play_2) n a1 a2 M = some r → Z p l e lev s m args below meth c G 3 (MQ below (Qm G 0 r) args s 0 0 (Ab G)) M 2 [(0, .ref (G.1 + 111)), (1, vi a1), (2, vi a2)] [] := by
  intro n
  induction n with
  | zero => intro a1 a2 M h; exact nomatch (show (none : Res) = some r from h)
  | succ n ih => intro a1 a2 M h; exact z_Mo_play_2 C hlev ih h
def d_Mo_play (a1 : Int) (M : Mem) : Res := fix (fun _ _ _ => none) (k_Mo_play_2) FU a1 0 M
theorem t_Mo_play (l : Launch) (G : GX) {lev : Nat} (hlev : 7 ≤ lev) {a1 : Int} {M : Mem} {r : Int × Mem} (h : d_Mo_play a1 M = some r) : Mt l G y_Mo_play b_Mo_play 3 none lev 0 [.ref (G.1 + 111), vi a1] M r := by
  refine Mt.of (by decide) (i_le rfl) ?_
  intro p e s m args below meth c C
  have C : Cx p s m args meth c G b_Mo_play 3 "PrairiePoolModel" none := C
  unfold d_Mo_play at h
  refine z_sub (lv' := [(0, .ref (G.1 + 111)), (1, vi a1)]) [0, 1] rfl ?_
  refine z_iconst C x_Mo_play_0 ?_
  refine z_istore_n (lv' := [(2, vi 0), (0, .ref (G.1 + 111)), (1, vi a1)]) C rfl x_Mo_play_1 (i_lt rfl) rfl ?_
  exact z_sub [1, 2, 0] rfl (zl_Mo_play_2 C hlev FU a1 0 M h)
theorem x_Mo_bin_0 : DC b_Mo_bin 0 (.aload_n 0) 1 1 := ⟨by decide +kernel, rfl⟩
theorem x_Mo_bin_1 : DC b_Mo_bin 1 (.iconst 0) 1 2 := ⟨by decide +kernel, rfl⟩
theorem x_Mo_bin_2 : DC b_Mo_bin 2 (.putfield 257) 3 5 := ⟨by decide +kernel, rfl⟩
theorem x_Mo_bin_5 : DC b_Mo_bin 5 (.aload_n 0) 1 6 := ⟨by decide +kernel, rfl⟩
theorem x_Mo_bin_6 : DC b_Mo_bin 6 (.iconst 0) 1 7 := ⟨by decide +kernel, rfl⟩
theorem x_Mo_bin_7 : DC b_Mo_bin 7 (.putfield 260) 3 10 := ⟨by decide +kernel, rfl⟩
theorem x_Mo_bin_10 : DC b_Mo_bin 10 (.aload_n 0) 1 11 := ⟨by decide +kernel, rfl⟩
theorem x_Mo_bin_11 : DC b_Mo_bin 11 (.iload_n 1) 1 12 := ⟨by decide +kernel, rfl⟩
theorem x_Mo_bin_12 : DC b_Mo_bin 12 (.invokevirtual 321) 3 15 := ⟨by decide +kernel, rfl⟩
theorem x_Mo_bin_15 : DC b_Mo_bin 15 (.ifCond .eq 19) 3 18 := ⟨by decide +kernel, rfl⟩
theorem x_Mo_bin_18 : DC b_Mo_bin 18 (.iload_n 2) 1 19 := ⟨by decide +kernel, rfl⟩
theorem x_Mo_bin_19 : DC b_Mo_bin 19 (.invokestatic 332) 3 22 := ⟨by decide +kernel, rfl⟩
theorem x_Mo_bin_22 : DC b_Mo_bin 22 (.ifCond .eq 12) 3 25 := ⟨by decide +kernel, rfl⟩
theorem x_Mo_bin_25 : DC b_Mo_bin 25 (.aload_n 0) 1 26 := ⟨by decide +kernel, rfl⟩
theorem x_Mo_bin_26 : DC b_Mo_bin 26 (.iload 4) 2 28 := ⟨by decide +kernel, rfl⟩
theorem x_Mo_bin_28 : DC b_Mo_bin 28 (.invokevirtual 400) 3 31 := ⟨by decide +kernel, rfl⟩
theorem x_Mo_bin_31 : DC b_Mo_bin 31 (.ifCond .ne 9) 3 34 := ⟨by decide +kernel, rfl⟩
theorem x_Mo_bin_34 : DC b_Mo_bin 34 (.aload_n 0) 1 35 := ⟨by decide +kernel, rfl⟩
theorem x_Mo_bin_35 : DC b_Mo_bin 35 (.iconst 2) 1 36 := ⟨by decide +kernel, rfl⟩
theorem x_Mo_bin_36 : DC b_Mo_bin 36 (.invokevirtual 297) 3 39 := ⟨by decide +kernel, rfl⟩
theorem x_Mo_bin_39 : DC b_Mo_bin 39 (.ireturn) 1 40 := ⟨by decide +kernel, rfl⟩
theorem x_Mo_bin_40 : DC b_Mo_bin 40 (.iload_n 3) 1 41 := ⟨by decide +kernel, rfl⟩
theorem x_Mo_bin_41 : DC b_Mo_bin 41 (.invokestatic 335) 3 44 := ⟨by decide +kernel, rfl⟩
theorem x_Mo_bin_44 : DC b_Mo_bin 44 (.ifCond .eq 11) 3 47 := ⟨by decide +kernel, rfl⟩
theorem x_Mo_bin_47 : DC b_Mo_bin 47 (.iload 5) 2 49 := ⟨by decide +kernel, rfl⟩
theorem x_Mo_bin_49 : DC b_Mo_bin 49 (.invokestatic 306) 3 52 := ⟨by decide +kernel, rfl⟩
theorem x_Mo_bin_52 : DC b_Mo_bin 52 (.ifCond .ne 9) 3 55 := ⟨by decide +kernel, rfl⟩
theorem x_Mo_bin_55 : DC b_Mo_bin 55 (.aload_n 0) 1 56 := ⟨by decide +kernel, rfl⟩
theorem x_Mo_bin_56 : DC b_Mo_bin 56 (.iconst 5) 1 57 := ⟨by decide +kernel, rfl⟩
theorem x_Mo_bin_57 : DC b_Mo_bin 57 (.invokevirtual 297) 3 60 := ⟨by decide +kernel, rfl⟩
theorem x_Mo_bin_60 : DC b_Mo_bin 60 (.ireturn) 1 61 := ⟨by decide +kernel, rfl⟩
theorem x_Mo_bin_61 : DC b_Mo_bin 61 (.aload_n 0) 1 62 := ⟨by decide +kernel, rfl⟩
theorem x_Mo_bin_62 : DC b_Mo_bin 62 (.iload 5) 2 64 := ⟨by decide +kernel, rfl⟩
theorem x_Mo_bin_64 : DC b_Mo_bin 64 (.invokevirtual 403) 3 67 := ⟨by decide +kernel, rfl⟩
theorem x_Mo_bin_67 : DC b_Mo_bin 67 (.iconst 0) 1 68 := ⟨by decide +kernel, rfl⟩
theorem x_Mo_bin_68 : DC b_Mo_bin 68 (.istore 6) 2 70 := ⟨by decide +kernel, rfl⟩
theorem x_Mo_bin_70 : DC b_Mo_bin 70 (.iconst 0) 1 71 := ⟨by decide +kernel, rfl⟩
theorem x_Mo_bin_71 : DC b_Mo_bin 71 (.istore 7) 2 73 := ⟨by decide +kernel, rfl⟩
theorem x_Mo_bin_73 : DC b_Mo_bin 73 (.iload 7) 2 75 := ⟨by decide +kernel, rfl⟩
theorem x_Mo_bin_75 : DC b_Mo_bin 75 (.bipush 20) 2 77 := ⟨by decide +kernel, rfl⟩
theorem x_Mo_bin_77 : DC b_Mo_bin 77 (.if_icmp .ge 45) 3 80 := ⟨by decide +kernel, rfl⟩
theorem x_Mo_bin_80 : DC b_Mo_bin 80 (.iload 6) 2 82 := ⟨by decide +kernel, rfl⟩
theorem x_Mo_bin_82 : DC b_Mo_bin 82 (.iload 4) 2 84 := ⟨by decide +kernel, rfl⟩
theorem x_Mo_bin_84 : DC b_Mo_bin 84 (.iconst (-1)) 1 85 := ⟨by decide +kernel, rfl⟩
theorem x_Mo_bin_85 : DC b_Mo_bin 85 (.if_icmp .eq 10) 3 88 := ⟨by decide +kernel, rfl⟩
theorem x_Mo_bin_88 : DC b_Mo_bin 88 (.iload 4) 2 90 := ⟨by decide +kernel, rfl⟩
theorem x_Mo_bin_90 : DC b_Mo_bin 90 (.iload 7) 2 92 := ⟨by decide +kernel, rfl⟩
theorem x_Mo_bin_92 : DC b_Mo_bin 92 (.if_icmp .ne 20) 3 95 := ⟨by decide +kernel, rfl⟩
theorem x_Mo_bin_95 : DC b_Mo_bin 95 (.aload_n 0) 1 96 := ⟨by decide +kernel, rfl⟩
theorem x_Mo_bin_96 : DC b_Mo_bin 96 (.getfield 77) 3 99 := ⟨by decide +kernel, rfl⟩
theorem x_Mo_bin_99 : DC b_Mo_bin 99 (.iload_n 1) 1 100 := ⟨by decide +kernel, rfl⟩
theorem x_Mo_bin_100 : DC b_Mo_bin 100 (.iload_n 2) 1 101 := ⟨by decide +kernel, rfl⟩
theorem x_Mo_bin_101 : DC b_Mo_bin 101 (.iload_n 3) 1 102 := ⟨by decide +kernel, rfl⟩
theorem x_Mo_bin_102 : DC b_Mo_bin 102 (.invokestatic 378) 3 105 := ⟨by decide +kernel, rfl⟩
theorem x_Mo_bin_105 : DC b_Mo_bin 105 (.iload 7) 2 107 := ⟨by decide +kernel, rfl⟩
theorem x_Mo_bin_107 : DC b_Mo_bin 107 (.iadd) 1 108 := ⟨by decide +kernel, rfl⟩
theorem x_Mo_bin_108 : DC b_Mo_bin 108 (.iaload) 1 109 := ⟨by decide +kernel, rfl⟩
theorem x_Mo_bin_109 : DC b_Mo_bin 109 (.goto 4) 3 112 := ⟨by decide +kernel, rfl⟩
theorem x_Mo_bin_112 : DC b_Mo_bin 112 (.iconst 0) 1 113 := ⟨by decide +kernel, rfl⟩
theorem x_Mo_bin_113 : DC b_Mo_bin 113 (.iadd) 1 114 := ⟨by decide +kernel, rfl⟩
theorem x_Mo_bin_114 : DC b_Mo_bin 114 (.istore 6) 2 116 := ⟨by decide +kernel, rfl⟩
theorem x_Mo_bin_116 : DC b_Mo_bin 116 (.iinc 7 1) 3 119 := ⟨by decide +kernel, rfl⟩
theorem x_Mo_bin_119 : DC b_Mo_bin 119 (.goto (-46)) 3 122 := ⟨by decide +kernel, rfl⟩
theorem x_Mo_bin_122 : DC b_Mo_bin 122 (.iload 6) 2 124 := ⟨by decide +kernel, rfl⟩
theorem x_Mo_bin_124 : DC b_Mo_bin 124 (.ireturn) 1 125 := ⟨by decide +kernel, rfl⟩
def k_Mo_bin_113 (R73 : Int → Int → Int → Int → Int → Int → Mem → Res) (a1 a2 a3 a4 a7 s0 s1 : Int) (M : Mem) : Res := blet (s0 + s1) fun v1 => blet (a7 + 1) fun v2 => R73 a1 a2 a3 a4 v1 v2 M
theorem z_Mo_bin_113 (C : Cx p s m args meth c G b_Mo_bin 8 "PrairiePoolModel" (some .int)) (hlev : 8 ≤ lev) {r : Int × Mem} {R73 : Int → Int → Int → Int → Int → Int → Mem → Res} (hR73 : ∀ (a1 a2 a3 a4 a6 a7 : Int) (M : Mem), R73 a1 a2 a3 a4 a6 a7 M = some r → Z p l e lev s m args below meth c G 8 (MQ below (Qm G 1 r) args s 0 0 (Ab G)) M 73 [(0, .ref (G.1 + 111)), (1, vi a1), (2, vi a2), (3, vi a3), (4, vi a4), (6, vi a6), (7, vi a7)] []) {a1 a2 a3 a4 a7 s0 s1 : Int} {M : Mem} (h : k_Mo_bin_113 R73 a1 a2 a3 a4 a7 s0 s1 M = some r) : Z p l e lev s m args below meth c G 8 (MQ below (Qm G 1 r) args s 0 0 (Ab G)) M 113 [(0, .ref (G.1 + 111)), (1, vi a1), (2, vi a2), (3, vi a3), (4, vi a4), (7, vi a7)] [vi s1, vi s0] := by
  unfold k_Mo_bin_113 at h
  refine z_iadd C x_Mo_bin_113 ?_
  obtain ⟨v1, ev1, h⟩ := blet_e h
  refine z_istore (lv' := [(6, vi v1), (0, .ref (G.1 + 111)), (1, vi a1), (2, vi a2), (3, vi a3), (4, vi a4), (7, vi a7)]) C ev1 x_Mo_bin_114 (i_lt rfl) rfl ?_
  obtain ⟨v2, ev2, h⟩ := blet_e h
  refine z_iinc (lv' := [(7, vi v2), (6, vi v1), (0, .ref (G.1 + 111)), (1, vi a1), (2, vi a2), (3, vi a3), (4, vi a4)]) C 6 ev2 x_Mo_bin_116 rfl (i_lt rfl) rfl ?_
  refine z_goto (tgt := 73) C x_Mo_bin_119 rfl ?_
  exact z_sub [2, 3, 4, 5, 6, 1, 0] rfl (hR73 a1 a2 a3 a4 v1 v2 M h)
def k_Mo_bin_95 (R73 : Int → Int → Int → Int → Int → Int → Mem → Res) (a1 a2 a3 a4 a7 s0 : Int) (M : Mem) : Res := bcall (d_Mo_binAt a1 a2 a3 M) fun v1 M2 => chk (0 ≤ w32 (v1 + a7) ∧ w32 (v1 + a7) < 9600) <| blet (M2 134 (ix (v1 + a7))) fun v4 => k_Mo_bin_113 R73 a1 a2 a3 a4 a7 s0 v4 M2
theorem z_Mo_bin_95 (C : Cx p s m args meth c G b_Mo_bin 8 "PrairiePoolModel" (some .int)) (hlev : 8 ≤ lev) {r : Int × Mem} {R73 : Int → Int → Int → Int → Int → Int → Mem → Res} (hR73 : ∀ (a1 a2 a3 a4 a6 a7 : Int) (M : Mem), R73 a1 a2 a3 a4 a6 a7 M = some r → Z p l e lev s m args below meth c G 8 (MQ below (Qm G 1 r) args s 0 0 (Ab G)) M 73 [(0, .ref (G.1 + 111)), (1, vi a1), (2, vi a2), (3, vi a3), (4, vi a4), (6, vi a6), (7, vi a7)] []) {a1 a2 a3 a4 a7 s0 : Int} {M : Mem} (h : k_Mo_bin_95 R73 a1 a2 a3 a4 a7 s0 M = some r) : Z p l e lev s m args below meth c G 8 (MQ below (Qm G 1 r) args s 0 0 (Ab G)) M 95 [(0, .ref (G.1 + 111)), (1, vi a1), (2, vi a2), (3, vi a3), (4, vi a4), (7, vi a7)] [vi s0] := by
  unfold k_Mo_bin_95 at h
  refine z_aload_n C 0 x_Mo_bin_95 rfl ?_
  refine z_getR (j := 30) C x_Mo_bin_96 nk_111 ck_111 cw_12 (i_lt rfl) rfl rf_111_30 rfl fl_Mo_77 ?_
  refine z_iload_n C 1 x_Mo_bin_99 rfl ?_
  refine z_iload_n C 2 x_Mo_bin_100 rfl ?_
  refine z_iload_n C 3 x_Mo_bin_101 rfl ?_
  obtain ⟨v1, M2, fv1, h⟩ := bcall_e h
  refine z_callSi C x_Mo_bin_102 cs_Mo_378 (t_Mo_binAt (lev := lev - 1) l G (by omega) fv1) (by omega) rfl (i_le rfl) rfl ?_
  refine z_iload C 5 x_Mo_bin_105 rfl ?_
  refine z_iadd C x_Mo_bin_107 ?_
  obtain ⟨c3, h⟩ := chk_e h
  obtain ⟨v4, ev4, h⟩ := blet_e h
  refine z_iald C x_Mo_bin_108 nk_134 ck_134 c3 ev4 ?_
  refine z_goto (tgt := 113) C x_Mo_bin_109 rfl ?_
  exact z_sub [0, 1, 2, 3, 4, 5] rfl (z_Mo_bin_113 C hlev hR73 h)
def k_Mo_bin_73 (R73 : Int → Int → Int → Int → Int → Int → Mem → Res) (a1 a2 a3 a4 a6 a7 : Int) (M : Mem) : Res := if w32 a7 < 20 then (if w32 a4 = (-1) then (k_Mo_bin_95 R73 a1 a2 a3 a4 a7 a6 M) else (if w32 a4 = w32 a7 then (k_Mo_bin_95 R73 a1 a2 a3 a4 a7 a6 M) else (k_Mo_bin_113 R73 a1 a2 a3 a4 a7 a6 0 M))) else (some (a6, M))
theorem z_Mo_bin_73 (C : Cx p s m args meth c G b_Mo_bin 8 "PrairiePoolModel" (some .int)) (hlev : 8 ≤ lev) {r : Int × Mem} {R73 : Int → Int → Int → Int → Int → Int → Mem → Res} (hR73 : ∀ (a1 a2 a3 a4 a6 a7 : Int) (M : Mem), R73 a1 a2 a3 a4 a6 a7 M = some r → Z p l e lev s m args below meth c G 8 (MQ below (Qm G 1 r) args s 0 0 (Ab G)) M 73 [(0, .ref (G.1 + 111)), (1, vi a1), (2, vi a2), (3, vi a3), (4, vi a4), (6, vi a6), (7, vi a7)] []) {a1 a2 a3 a4 a6 a7 : Int} {M : Mem} (h : k_Mo_bin_73 R73 a1 a2 a3 a4 a6 a7 M = some r) : Z p l e lev s m args below meth c G 8 (MQ below (Qm G 1 r) args s 0 0 (Ab G)) M 73 [(0, .ref (G.1 + 111)), (1, vi a1), (2, vi a2), (3, vi a3), (4, vi a4), (6, vi a6), (7, vi a7)] [] := by
  unfold k_Mo_bin_73 at h
  refine z_iload C 6 x_Mo_bin_73 rfl ?_
  refine z_bipush C rfl x_Mo_bin_75 ?_
  rcases ite_e h with ⟨c1, h⟩ | ⟨c1, h⟩
  · refine z_icmp_ge_f (tgt := 122) C x_Mo_bin_77 rfl c1 ?_
    refine z_iload C 5 x_Mo_bin_80 rfl ?_
    refine z_iload C 4 x_Mo_bin_82 rfl ?_
    refine z_iconst C x_Mo_bin_84 ?_
    rcases ite_e h with ⟨c2, h⟩ | ⟨c2, h⟩
    · refine z_icmp_eq_t (tgt := 95) C x_Mo_bin_85 rfl c2 ?_
      exact z_sub [0, 1, 2, 3, 4, 6] rfl (z_Mo_bin_95 C hlev hR73 h)
    · refine z_icmp_eq_f (tgt := 95) C x_Mo_bin_85 rfl c2 ?_
      refine z_iload C 4 x_Mo_bin_88 rfl ?_
      refine z_iload C 6 x_Mo_bin_90 rfl ?_
      rcases ite_e h with ⟨c3, h⟩ | ⟨c3, h⟩
      · refine z_icmp_ne_f (tgt := 112) C x_Mo_bin_92 rfl c3 ?_
        exact z_sub [0, 1, 2, 3, 4, 6] rfl (z_Mo_bin_95 C hlev hR73 h)
      · refine z_icmp_ne_t (tgt := 112) C x_Mo_bin_92 rfl c3 ?_
        refine z_iconst C x_Mo_bin_112 ?_
        exact z_sub [0, 1, 2, 3, 4, 6] rfl (z_Mo_bin_113 C hlev hR73 h)
  · refine z_icmp_ge_t (tgt := 122) C x_Mo_bin_77 rfl c1 ?_
    refine z_iload C 5 x_Mo_bin_122 rfl ?_
    exact z_iret C x_Mo_bin_124 h
theorem zl_Mo_bin_73 (C : Cx p s m args meth c G b_Mo_bin 8 "PrairiePoolModel" (some .int)) (hlev : 8 ≤ lev) {r : Int × Mem}  : ∀ (n : Nat) (a1 a2 a3 a4 a6 a7 : Int) (M : Mem), fix (fun _ _ _ _ _ _ _ => none) (k_Mo_bin_73) n a1 a2 a3 a4 a6 a7 M = some r → Z p l e lev s m args below meth c G 8 (MQ below (Qm G 1 r) args s 0 0 (Ab G)) M 73 [(0, .ref (G.1 + 111)), (1, vi a1), (2, vi a2), (3, vi a3), (4, vi a4), (6, vi a6), (7, vi a7)] [] := by
  intro n
  induction n with
  | zero => intro a1 a2 a3 a4 a6 a7 M h; exact nomatch (show (none : Res) = some r from h)
  | succ n ih => intro a1 a2 a3 a4 a6 a7 M h; exact z_Mo_bin_73 C hlev ih h
def k_Mo_bin_55 (M : Mem) : Res := bcall (d_Mo_refuse 5 M) fun v1 M2 => some (v1, M2)
theorem z_Mo_bin_55 (C : Cx p s m args meth c G b_Mo_bin 8 "PrairiePoolModel" (some .int)) (hlev : 8 ≤ lev) {r : Int × Mem}  {M : Mem} (h : k_Mo_bin_55 M = some r) : Z p l e lev s m args below meth c G 8 (MQ below (Qm G 1 r) args s 0 0 (Ab G)) M 55 [(0, .ref (G.1 + 111))] [] := by
  unfold k_Mo_bin_55 at h
  refine z_aload_n C 0 x_Mo_bin_55 rfl ?_
  refine z_iconst C x_Mo_bin_56 ?_
  obtain ⟨v1, M2, fv1, h⟩ := bcall_e h
  refine z_callVi (k := 111) C x_Mo_bin_57 cv_Mo_297 (t_Mo_refuse (lev := lev - 1) l G (by omega) fv1) nk_111 ck_111 rfl (by omega) rfl (i_le rfl) rfl ?_
  exact z_iret C x_Mo_bin_60 h
def k_Mo_bin_34 (M : Mem) : Res := bcall (d_Mo_refuse 2 M) fun v1 M2 => some (v1, M2)
theorem z_Mo_bin_34 (C : Cx p s m args meth c G b_Mo_bin 8 "PrairiePoolModel" (some .int)) (hlev : 8 ≤ lev) {r : Int × Mem}  {M : Mem} (h : k_Mo_bin_34 M = some r) : Z p l e lev s m args below meth c G 8 (MQ below (Qm G 1 r) args s 0 0 (Ab G)) M 34 [(0, .ref (G.1 + 111))] [] := by
  unfold k_Mo_bin_34 at h
  refine z_aload_n C 0 x_Mo_bin_34 rfl ?_
  refine z_iconst C x_Mo_bin_35 ?_
  obtain ⟨v1, M2, fv1, h⟩ := bcall_e h
  refine z_callVi (k := 111) C x_Mo_bin_36 cv_Mo_297 (t_Mo_refuse (lev := lev - 1) l G (by omega) fv1) nk_111 ck_111 rfl (by omega) rfl (i_le rfl) rfl ?_
  exact z_iret C x_Mo_bin_39 h
def d_Mo_bin (a1 a2 a3 a4 a5 : Int) (M : Mem) : Res := blet (sto M 111 1 0) fun M1 => blet (sto M1 111 0 0) fun M2 => bcall (d_Mo_isElevator a1 M2) fun v3 M4 => if w32 v3 = 0 then (k_Mo_bin_34 M4) else (bcall (d_Mo_isGrade a2 M4) fun v6 M7 => if w32 v6 = 0 then (k_Mo_bin_34 M7) else (bcall (d_Mo_isWho a4 M7) fun v9 M10 => if w32 v9 = 0 then (k_Mo_bin_34 M10) else (bcall (d_Mo_isYear a3 M10) fun v12 M13 => if w32 v12 = 0 then (k_Mo_bin_55 M13) else (bcall (d_Mo_isDay a5 M13) fun v15 M16 => if w32 v15 = 0 then (k_Mo_bin_55 M16) else (bcall (d_Mo_play a5 M16) fun v18 M19 => fix (fun _ _ _ _ _ _ _ => none) (k_Mo_bin_73) FU a1 a2 a3 a4 0 0 M19)))))
theorem t_Mo_bin (l : Launch) (G : GX) {lev : Nat} (hlev : 8 ≤ lev) {a1 a2 a3 a4 a5 : Int} {M : Mem} {r : Int × Mem} (h : d_Mo_bin a1 a2 a3 a4 a5 M = some r) : Mt l G y_Mo_bin b_Mo_bin 8 (some .int) lev 1 [.ref (G.1 + 111), vi a1, vi a2, vi a3, vi a4, vi a5] M r := by
  refine Mt.of (by decide) (i_le rfl) ?_
  intro p e s m args below meth c C
  have C : Cx p s m args meth c G b_Mo_bin 8 "PrairiePoolModel" (some .int) := C
  unfold d_Mo_bin at h
  refine z_sub (lv' := [(0, .ref (G.1 + 111)), (1, vi a1), (2, vi a2), (3, vi a3), (4, vi a4), (5, vi a5)]) [0, 1, 2, 3, 4, 5] rfl ?_
  refine z_aload_n C 0 x_Mo_bin_0 rfl ?_
  refine z_iconst C x_Mo_bin_1 ?_
  obtain ⟨M1, eM1, h⟩ := blet_e h
  refine z_putI (j := 1) C x_Mo_bin_2 nk_111 ck_111 cw_12 (i_lt rfl) rfl rfl rfl rfl fl_Mo_257 eM1 ?_
  refine z_aload_n C 0 x_Mo_bin_5 rfl ?_
  refine z_iconst C x_Mo_bin_6 ?_
  obtain ⟨M2, eM2, h⟩ := blet_e h
  refine z_putI (j := 0) C x_Mo_bin_7 nk_111 ck_111 cw_12 (i_lt rfl) rfl rfl rfl rfl fl_Mo_260 eM2 ?_
  refine z_aload_n C 0 x_Mo_bin_10 rfl ?_
  refine z_iload_n C 1 x_Mo_bin_11 rfl ?_
  obtain ⟨v3, M4, fv3, h⟩ := bcall_e h
  refine z_callVi (k := 111) C x_Mo_bin_12 cv_Mo_321 (t_Mo_isElevator (lev := lev - 1) l G (by omega) fv3) nk_111 ck_111 rfl (by omega) rfl (i_le rfl) rfl ?_
  rcases ite_e h with ⟨c5, h⟩ | ⟨c5, h⟩
  · refine z_if_eq_t (tgt := 34) C x_Mo_bin_15 rfl c5 ?_
    exact z_sub [0] rfl (z_Mo_bin_34 C hlev h)
  · refine z_if_eq_f (tgt := 34) C x_Mo_bin_15 rfl c5 ?_
    refine z_iload_n C 2 x_Mo_bin_18 rfl ?_
    obtain ⟨v6, M7, fv6, h⟩ := bcall_e h
    refine z_callSi C x_Mo_bin_19 cs_Mo_332 (t_Mo_isGrade (lev := lev - 1) l G (by omega) fv6) (by omega) rfl (i_le rfl) rfl ?_
    rcases ite_e h with ⟨c8, h⟩ | ⟨c8, h⟩
    · refine z_if_eq_t (tgt := 34) C x_Mo_bin_22 rfl c8 ?_
      exact z_sub [0] rfl (z_Mo_bin_34 C hlev h)
    · refine z_if_eq_f (tgt := 34) C x_Mo_bin_22 rfl c8 ?_
      refine z_aload_n C 0 x_Mo_bin_25 rfl ?_
      refine z_iload C 4 x_Mo_bin_26 rfl ?_
      obtain ⟨v9, M10, fv9, h⟩ := bcall_e h
      refine z_callVi (k := 111) C x_Mo_bin_28 cv_Mo_400 (t_Mo_isWho (lev := lev - 1) l G (by omega) fv9) nk_111 ck_111 rfl (by omega) rfl (i_le rfl) rfl ?_
      rcases ite_e h with ⟨c11, h⟩ | ⟨c11, h⟩
      · refine z_if_ne_f (tgt := 40) C x_Mo_bin_31 rfl c11 ?_
        exact z_sub [0] rfl (z_Mo_bin_34 C hlev h)
      · refine z_if_ne_t (tgt := 40) C x_Mo_bin_31 rfl c11 ?_
        refine z_iload_n C 3 x_Mo_bin_40 rfl ?_
        obtain ⟨v12, M13, fv12, h⟩ := bcall_e h
        refine z_callSi C x_Mo_bin_41 cs_Mo_335 (t_Mo_isYear (lev := lev - 1) l G (by omega) fv12) (by omega) rfl (i_le rfl) rfl ?_
        rcases ite_e h with ⟨c14, h⟩ | ⟨c14, h⟩
        · refine z_if_eq_t (tgt := 55) C x_Mo_bin_44 rfl c14 ?_
          exact z_sub [0] rfl (z_Mo_bin_55 C hlev h)
        · refine z_if_eq_f (tgt := 55) C x_Mo_bin_44 rfl c14 ?_
          refine z_iload C 5 x_Mo_bin_47 rfl ?_
          obtain ⟨v15, M16, fv15, h⟩ := bcall_e h
          refine z_callSi C x_Mo_bin_49 cs_Mo_306 (t_Mo_isDay (lev := lev - 1) l G (by omega) fv15) (by omega) rfl (i_le rfl) rfl ?_
          rcases ite_e h with ⟨c17, h⟩ | ⟨c17, h⟩
          · refine z_if_ne_f (tgt := 61) C x_Mo_bin_52 rfl c17 ?_
            exact z_sub [0] rfl (z_Mo_bin_55 C hlev h)
          · refine z_if_ne_t (tgt := 61) C x_Mo_bin_52 rfl c17 ?_
            refine z_aload_n C 0 x_Mo_bin_61 rfl ?_
            refine z_iload C 5 x_Mo_bin_62 rfl ?_
            obtain ⟨v18, M19, fv18, h⟩ := bcall_e h
            refine z_callVv (k := 111) C x_Mo_bin_64 cv_Mo_403 (t_Mo_play (lev := lev - 1) l G (by omega) fv18) nk_111 ck_111 rfl (by omega) rfl (i_le rfl) rfl ?_
            refine z_iconst C x_Mo_bin_67 ?_
            refine z_istore (lv' := [(6, vi 0), (0, .ref (G.1 + 111)), (1, vi a1), (2, vi a2), (3, vi a3), (4, vi a4), (5, vi a5)]) C rfl x_Mo_bin_68 (i_lt rfl) rfl ?_
            refine z_iconst C x_Mo_bin_70 ?_
            refine z_istore (lv' := [(7, vi 0), (6, vi 0), (0, .ref (G.1 + 111)), (1, vi a1), (2, vi a2), (3, vi a3), (4, vi a4), (5, vi a5)]) C rfl x_Mo_bin_71 (i_lt rfl) rfl ?_
            exact z_sub [2, 3, 4, 5, 6, 1, 0] rfl (zl_Mo_bin_73 C hlev FU a1 a2 a3 a4 0 0 M19 h)
theorem x_Mo_port_0 : DC b_Mo_port 0 (.aload_n 0) 1 1 := ⟨by decide +kernel, rfl⟩
theorem x_Mo_port_1 : DC b_Mo_port 1 (.iconst 0) 1 2 := ⟨by decide +kernel, rfl⟩
theorem x_Mo_port_2 : DC b_Mo_port 2 (.putfield 257) 3 5 := ⟨by decide +kernel, rfl⟩
theorem x_Mo_port_5 : DC b_Mo_port 5 (.aload_n 0) 1 6 := ⟨by decide +kernel, rfl⟩
theorem x_Mo_port_6 : DC b_Mo_port 6 (.iconst 0) 1 7 := ⟨by decide +kernel, rfl⟩
theorem x_Mo_port_7 : DC b_Mo_port 7 (.putfield 260) 3 10 := ⟨by decide +kernel, rfl⟩
theorem x_Mo_port_10 : DC b_Mo_port 10 (.iload_n 1) 1 11 := ⟨by decide +kernel, rfl⟩
theorem x_Mo_port_11 : DC b_Mo_port 11 (.i2l) 1 12 := ⟨by decide +kernel, rfl⟩
theorem x_Mo_port_12 : DC b_Mo_port 12 (.lconst 0) 1 13 := ⟨by decide +kernel, rfl⟩
theorem x_Mo_port_13 : DC b_Mo_port 13 (.lconst 1) 1 14 := ⟨by decide +kernel, rfl⟩
theorem x_Mo_port_14 : DC b_Mo_port 14 (.invokestatic 265) 3 17 := ⟨by decide +kernel, rfl⟩
theorem x_Mo_port_17 : DC b_Mo_port 17 (.ifCond .eq 19) 3 20 := ⟨by decide +kernel, rfl⟩
theorem x_Mo_port_20 : DC b_Mo_port 20 (.iload_n 2) 1 21 := ⟨by decide +kernel, rfl⟩
theorem x_Mo_port_21 : DC b_Mo_port 21 (.invokestatic 332) 3 24 := ⟨by decide +kernel, rfl⟩
theorem x_Mo_port_24 : DC b_Mo_port 24 (.ifCond .eq 12) 3 27 := ⟨by decide +kernel, rfl⟩
theorem x_Mo_port_27 : DC b_Mo_port 27 (.aload_n 0) 1 28 := ⟨by decide +kernel, rfl⟩
theorem x_Mo_port_28 : DC b_Mo_port 28 (.iload 4) 2 30 := ⟨by decide +kernel, rfl⟩
theorem x_Mo_port_30 : DC b_Mo_port 30 (.invokevirtual 400) 3 33 := ⟨by decide +kernel, rfl⟩
theorem x_Mo_port_33 : DC b_Mo_port 33 (.ifCond .ne 9) 3 36 := ⟨by decide +kernel, rfl⟩
theorem x_Mo_port_36 : DC b_Mo_port 36 (.aload_n 0) 1 37 := ⟨by decide +kernel, rfl⟩
theorem x_Mo_port_37 : DC b_Mo_port 37 (.iconst 2) 1 38 := ⟨by decide +kernel, rfl⟩
theorem x_Mo_port_38 : DC b_Mo_port 38 (.invokevirtual 297) 3 41 := ⟨by decide +kernel, rfl⟩
theorem x_Mo_port_41 : DC b_Mo_port 41 (.ireturn) 1 42 := ⟨by decide +kernel, rfl⟩
theorem x_Mo_port_42 : DC b_Mo_port 42 (.iload_n 3) 1 43 := ⟨by decide +kernel, rfl⟩
theorem x_Mo_port_43 : DC b_Mo_port 43 (.invokestatic 335) 3 46 := ⟨by decide +kernel, rfl⟩
theorem x_Mo_port_46 : DC b_Mo_port 46 (.ifCond .eq 11) 3 49 := ⟨by decide +kernel, rfl⟩
theorem x_Mo_port_49 : DC b_Mo_port 49 (.iload 5) 2 51 := ⟨by decide +kernel, rfl⟩
theorem x_Mo_port_51 : DC b_Mo_port 51 (.invokestatic 306) 3 54 := ⟨by decide +kernel, rfl⟩
theorem x_Mo_port_54 : DC b_Mo_port 54 (.ifCond .ne 9) 3 57 := ⟨by decide +kernel, rfl⟩
theorem x_Mo_port_57 : DC b_Mo_port 57 (.aload_n 0) 1 58 := ⟨by decide +kernel, rfl⟩
theorem x_Mo_port_58 : DC b_Mo_port 58 (.iconst 5) 1 59 := ⟨by decide +kernel, rfl⟩
theorem x_Mo_port_59 : DC b_Mo_port 59 (.invokevirtual 297) 3 62 := ⟨by decide +kernel, rfl⟩
theorem x_Mo_port_62 : DC b_Mo_port 62 (.ireturn) 1 63 := ⟨by decide +kernel, rfl⟩
theorem x_Mo_port_63 : DC b_Mo_port 63 (.aload_n 0) 1 64 := ⟨by decide +kernel, rfl⟩
theorem x_Mo_port_64 : DC b_Mo_port 64 (.iload 5) 2 66 := ⟨by decide +kernel, rfl⟩
theorem x_Mo_port_66 : DC b_Mo_port 66 (.invokevirtual 403) 3 69 := ⟨by decide +kernel, rfl⟩
theorem x_Mo_port_69 : DC b_Mo_port 69 (.iconst 0) 1 70 := ⟨by decide +kernel, rfl⟩
theorem x_Mo_port_70 : DC b_Mo_port 70 (.istore 6) 2 72 := ⟨by decide +kernel, rfl⟩
theorem x_Mo_port_72 : DC b_Mo_port 72 (.iconst 0) 1 73 := ⟨by decide +kernel, rfl⟩
theorem x_Mo_port_73 : DC b_Mo_port 73 (.istore 7) 2 75 := ⟨by decide +kernel, rfl⟩
theorem x_Mo_port_75 : DC b_Mo_port 75 (.iload 7) 2 77 := ⟨by decide +kernel, rfl⟩
theorem x_Mo_port_77 : DC b_Mo_port 77 (.bipush 20) 2 79 := ⟨by decide +kernel, rfl⟩
theorem x_Mo_port_79 : DC b_Mo_port 79 (.if_icmp .ge 45) 3 82 := ⟨by decide +kernel, rfl⟩
theorem x_Mo_port_82 : DC b_Mo_port 82 (.iload 6) 2 84 := ⟨by decide +kernel, rfl⟩
theorem x_Mo_port_84 : DC b_Mo_port 84 (.iload 4) 2 86 := ⟨by decide +kernel, rfl⟩
theorem x_Mo_port_86 : DC b_Mo_port 86 (.iconst (-1)) 1 87 := ⟨by decide +kernel, rfl⟩
theorem x_Mo_port_87 : DC b_Mo_port 87 (.if_icmp .eq 10) 3 90 := ⟨by decide +kernel, rfl⟩
theorem x_Mo_port_90 : DC b_Mo_port 90 (.iload 4) 2 92 := ⟨by decide +kernel, rfl⟩
theorem x_Mo_port_92 : DC b_Mo_port 92 (.iload 7) 2 94 := ⟨by decide +kernel, rfl⟩
theorem x_Mo_port_94 : DC b_Mo_port 94 (.if_icmp .ne 20) 3 97 := ⟨by decide +kernel, rfl⟩
theorem x_Mo_port_97 : DC b_Mo_port 97 (.aload_n 0) 1 98 := ⟨by decide +kernel, rfl⟩
theorem x_Mo_port_98 : DC b_Mo_port 98 (.getfield 80) 3 101 := ⟨by decide +kernel, rfl⟩
theorem x_Mo_port_101 : DC b_Mo_port 101 (.iload_n 1) 1 102 := ⟨by decide +kernel, rfl⟩
theorem x_Mo_port_102 : DC b_Mo_port 102 (.iload_n 2) 1 103 := ⟨by decide +kernel, rfl⟩
theorem x_Mo_port_103 : DC b_Mo_port 103 (.iload_n 3) 1 104 := ⟨by decide +kernel, rfl⟩
theorem x_Mo_port_104 : DC b_Mo_port 104 (.invokestatic 378) 3 107 := ⟨by decide +kernel, rfl⟩
theorem x_Mo_port_107 : DC b_Mo_port 107 (.iload 7) 2 109 := ⟨by decide +kernel, rfl⟩
theorem x_Mo_port_109 : DC b_Mo_port 109 (.iadd) 1 110 := ⟨by decide +kernel, rfl⟩
theorem x_Mo_port_110 : DC b_Mo_port 110 (.iaload) 1 111 := ⟨by decide +kernel, rfl⟩
theorem x_Mo_port_111 : DC b_Mo_port 111 (.goto 4) 3 114 := ⟨by decide +kernel, rfl⟩
theorem x_Mo_port_114 : DC b_Mo_port 114 (.iconst 0) 1 115 := ⟨by decide +kernel, rfl⟩
theorem x_Mo_port_115 : DC b_Mo_port 115 (.iadd) 1 116 := ⟨by decide +kernel, rfl⟩
theorem x_Mo_port_116 : DC b_Mo_port 116 (.istore 6) 2 118 := ⟨by decide +kernel, rfl⟩
theorem x_Mo_port_118 : DC b_Mo_port 118 (.iinc 7 1) 3 121 := ⟨by decide +kernel, rfl⟩
theorem x_Mo_port_121 : DC b_Mo_port 121 (.goto (-46)) 3 124 := ⟨by decide +kernel, rfl⟩
theorem x_Mo_port_124 : DC b_Mo_port 124 (.iload 6) 2 126 := ⟨by decide +kernel, rfl⟩
theorem x_Mo_port_126 : DC b_Mo_port 126 (.ireturn) 1 127 := ⟨by decide +kernel, rfl⟩
def k_Mo_port_115 (R75 : Int → Int → Int → Int → Int → Int → Mem → Res) (a1 a2 a3 a4 a7 s0 s1 : Int) (M : Mem) : Res := blet (s0 + s1) fun v1 => blet (a7 + 1) fun v2 => R75 a1 a2 a3 a4 v1 v2 M
theorem z_Mo_port_115 (C : Cx p s m args meth c G b_Mo_port 8 "PrairiePoolModel" (some .int)) (hlev : 8 ≤ lev) {r : Int × Mem} {R75 : Int → Int → Int → Int → Int → Int → Mem → Res} (hR75 : ∀ (a1 a2 a3 a4 a6 a7 : Int) (M : Mem), R75 a1 a2 a3 a4 a6 a7 M = some r → Z p l e lev s m args below meth c G 8 (MQ below (Qm G 1 r) args s 0 0 (Ab G)) M 75 [(0, .ref (G.1 + 111)), (1, vi a1), (2, vi a2), (3, vi a3), (4, vi a4), (6, vi a6), (7, vi a7)] []) {a1 a2 a3 a4 a7 s0 s1 : Int} {M : Mem} (h : k_Mo_port_115 R75 a1 a2 a3 a4 a7 s0 s1 M = some r) : Z p l e lev s m args below meth c G 8 (MQ below (Qm G 1 r) args s 0 0 (Ab G)) M 115 [(0, .ref (G.1 + 111)), (1, vi a1), (2, vi a2), (3, vi a3), (4, vi a4), (7, vi a7)] [vi s1, vi s0] := by
  unfold k_Mo_port_115 at h
  refine z_iadd C x_Mo_port_115 ?_
  obtain ⟨v1, ev1, h⟩ := blet_e h
  refine z_istore (lv' := [(6, vi v1), (0, .ref (G.1 + 111)), (1, vi a1), (2, vi a2), (3, vi a3), (4, vi a4), (7, vi a7)]) C ev1 x_Mo_port_116 (i_lt rfl) rfl ?_
  obtain ⟨v2, ev2, h⟩ := blet_e h
  refine z_iinc (lv' := [(7, vi v2), (6, vi v1), (0, .ref (G.1 + 111)), (1, vi a1), (2, vi a2), (3, vi a3), (4, vi a4)]) C 6 ev2 x_Mo_port_118 rfl (i_lt rfl) rfl ?_
  refine z_goto (tgt := 75) C x_Mo_port_121 rfl ?_
  exact z_sub [2, 3, 4, 5, 6, 1, 0] rfl (hR75 a1 a2 a3 a4 v1 v2 M h)
def k_Mo_port_97 (R75 : Int → Int → Int → Int → Int → Int → Mem → Res) (a1 a2 a3 a4 a7 s0 : Int) (M : Mem) : Res := bcall (d_Mo_binAt a1 a2 a3 M) fun v1 M2 => chk (0 ≤ w32 (v1 + a7) ∧ w32 (v1 + a7) < 2400) <| blet (M2 135 (ix (v1 + a7))) fun v4 => k_Mo_port_115 R75 a1 a2 a3 a4 a7 s0 v4 M2
theorem z_Mo_port_97 (C : Cx p s m args meth c G b_Mo_port 8 "PrairiePoolModel" (some .int)) (hlev : 8 ≤ lev) {r : Int × Mem} {R75 : Int → Int → Int → Int → Int → Int → Mem → Res} (hR75 : ∀ (a1 a2 a3 a4 a6 a7 : Int) (M : Mem), R75 a1 a2 a3 a4 a6 a7 M = some r → Z p l e lev s m args below meth c G 8 (MQ below (Qm G 1 r) args s 0 0 (Ab G)) M 75 [(0, .ref (G.1 + 111)), (1, vi a1), (2, vi a2), (3, vi a3), (4, vi a4), (6, vi a6), (7, vi a7)] []) {a1 a2 a3 a4 a7 s0 : Int} {M : Mem} (h : k_Mo_port_97 R75 a1 a2 a3 a4 a7 s0 M = some r) : Z p l e lev s m args below meth c G 8 (MQ below (Qm G 1 r) args s 0 0 (Ab G)) M 97 [(0, .ref (G.1 + 111)), (1, vi a1), (2, vi a2), (3, vi a3), (4, vi a4), (7, vi a7)] [vi s0] := by
  unfold k_Mo_port_97 at h
  refine z_aload_n C 0 x_Mo_port_97 rfl ?_
  refine z_getR (j := 31) C x_Mo_port_98 nk_111 ck_111 cw_12 (i_lt rfl) rfl rf_111_31 rfl fl_Mo_80 ?_
  refine z_iload_n C 1 x_Mo_port_101 rfl ?_
  refine z_iload_n C 2 x_Mo_port_102 rfl ?_
  refine z_iload_n C 3 x_Mo_port_103 rfl ?_
  obtain ⟨v1, M2, fv1, h⟩ := bcall_e h
  refine z_callSi C x_Mo_port_104 cs_Mo_378 (t_Mo_binAt (lev := lev - 1) l G (by omega) fv1) (by omega) rfl (i_le rfl) rfl ?_
  refine z_iload C 5 x_Mo_port_107 rfl ?_
  refine z_iadd C x_Mo_port_109 ?_
  obtain ⟨c3, h⟩ := chk_e h
  obtain ⟨v4, ev4, h⟩ := blet_e h
  refine z_iald C x_Mo_port_110 nk_135 ck_135 c3 ev4 ?_
  refine z_goto (tgt := 115) C x_Mo_port_111 rfl ?_
  exact z_sub [0, 1, 2, 3, 4, 5] rfl (z_Mo_port_115 C hlev hR75 h)
def k_Mo_port_75 (R75 : Int → Int → Int → Int → Int → Int → Mem → Res) (a1 a2 a3 a4 a6 a7 : Int) (M : Mem) : Res := if w32 a7 < 20 then (if w32 a4 = (-1) then (k_Mo_port_97 R75 a1 a2 a3 a4 a7 a6 M) else (if w32 a4 = w32 a7 then (k_Mo_port_97 R75 a1 a2 a3 a4 a7 a6 M) else (k_Mo_port_115 R75 a1 a2 a3 a4 a7 a6 0 M))) else (some (a6, M))
theorem z_Mo_port_75 (C : Cx p s m args meth c G b_Mo_port 8 "PrairiePoolModel" (some .int)) (hlev : 8 ≤ lev) {r : Int × Mem} {R75 : Int → Int → Int → Int → Int → Int → Mem → Res} (hR75 : ∀ (a1 a2 a3 a4 a6 a7 : Int) (M : Mem), R75 a1 a2 a3 a4 a6 a7 M = some r → Z p l e lev s m args below meth c G 8 (MQ below (Qm G 1 r) args s 0 0 (Ab G)) M 75 [(0, .ref (G.1 + 111)), (1, vi a1), (2, vi a2), (3, vi a3), (4, vi a4), (6, vi a6), (7, vi a7)] []) {a1 a2 a3 a4 a6 a7 : Int} {M : Mem} (h : k_Mo_port_75 R75 a1 a2 a3 a4 a6 a7 M = some r) : Z p l e lev s m args below meth c G 8 (MQ below (Qm G 1 r) args s 0 0 (Ab G)) M 75 [(0, .ref (G.1 + 111)), (1, vi a1), (2, vi a2), (3, vi a3), (4, vi a4), (6, vi a6), (7, vi a7)] [] := by
  unfold k_Mo_port_75 at h
  refine z_iload C 6 x_Mo_port_75 rfl ?_
  refine z_bipush C rfl x_Mo_port_77 ?_
  rcases ite_e h with ⟨c1, h⟩ | ⟨c1, h⟩
  · refine z_icmp_ge_f (tgt := 124) C x_Mo_port_79 rfl c1 ?_
    refine z_iload C 5 x_Mo_port_82 rfl ?_
    refine z_iload C 4 x_Mo_port_84 rfl ?_
    refine z_iconst C x_Mo_port_86 ?_
    rcases ite_e h with ⟨c2, h⟩ | ⟨c2, h⟩
    · refine z_icmp_eq_t (tgt := 97) C x_Mo_port_87 rfl c2 ?_
      exact z_sub [0, 1, 2, 3, 4, 6] rfl (z_Mo_port_97 C hlev hR75 h)
    · refine z_icmp_eq_f (tgt := 97) C x_Mo_port_87 rfl c2 ?_
      refine z_iload C 4 x_Mo_port_90 rfl ?_
      refine z_iload C 6 x_Mo_port_92 rfl ?_
      rcases ite_e h with ⟨c3, h⟩ | ⟨c3, h⟩
      · refine z_icmp_ne_f (tgt := 114) C x_Mo_port_94 rfl c3 ?_
        exact z_sub [0, 1, 2, 3, 4, 6] rfl (z_Mo_port_97 C hlev hR75 h)
      · refine z_icmp_ne_t (tgt := 114) C x_Mo_port_94 rfl c3 ?_
        refine z_iconst C x_Mo_port_114 ?_
        exact z_sub [0, 1, 2, 3, 4, 6] rfl (z_Mo_port_115 C hlev hR75 h)
  · refine z_icmp_ge_t (tgt := 124) C x_Mo_port_79 rfl c1 ?_
    refine z_iload C 5 x_Mo_port_124 rfl ?_
    exact z_iret C x_Mo_port_126 h
theorem zl_Mo_port_75 (C : Cx p s m args meth c G b_Mo_port 8 "PrairiePoolModel" (some .int)) (hlev : 8 ≤ lev) {r : Int × Mem}  : ∀ (n : Nat) (a1 a2 a3 a4 a6 a7 : Int) (M : Mem), fix (fun _ _ _ _ _ _ _ => none) (k_Mo_port_75) n a1 a2 a3 a4 a6 a7 M = some r → Z p l e lev s m args below meth c G 8 (MQ below (Qm G 1 r) args s 0 0 (Ab G)) M 75 [(0, .ref (G.1 + 111)), (1, vi a1), (2, vi a2), (3, vi a3), (4, vi a4), (6, vi a6), (7, vi a7)] [] := by
  intro n
  induction n with
  | zero => intro a1 a2 a3 a4 a6 a7 M h; exact nomatch (show (none : Res) = some r from h)
  | succ n ih => intro a1 a2 a3 a4 a6 a7 M h; exact z_Mo_port_75 C hlev ih h
def k_Mo_port_57 (M : Mem) : Res := bcall (d_Mo_refuse 5 M) fun v1 M2 => some (v1, M2)
theorem z_Mo_port_57 (C : Cx p s m args meth c G b_Mo_port 8 "PrairiePoolModel" (some .int)) (hlev : 8 ≤ lev) {r : Int × Mem}  {M : Mem} (h : k_Mo_port_57 M = some r) : Z p l e lev s m args below meth c G 8 (MQ below (Qm G 1 r) args s 0 0 (Ab G)) M 57 [(0, .ref (G.1 + 111))] [] := by
  unfold k_Mo_port_57 at h
  refine z_aload_n C 0 x_Mo_port_57 rfl ?_
  refine z_iconst C x_Mo_port_58 ?_
  obtain ⟨v1, M2, fv1, h⟩ := bcall_e h
  refine z_callVi (k := 111) C x_Mo_port_59 cv_Mo_297 (t_Mo_refuse (lev := lev - 1) l G (by omega) fv1) nk_111 ck_111 rfl (by omega) rfl (i_le rfl) rfl ?_
  exact z_iret C x_Mo_port_62 h
def k_Mo_port_36 (M : Mem) : Res := bcall (d_Mo_refuse 2 M) fun v1 M2 => some (v1, M2)
theorem z_Mo_port_36 (C : Cx p s m args meth c G b_Mo_port 8 "PrairiePoolModel" (some .int)) (hlev : 8 ≤ lev) {r : Int × Mem}  {M : Mem} (h : k_Mo_port_36 M = some r) : Z p l e lev s m args below meth c G 8 (MQ below (Qm G 1 r) args s 0 0 (Ab G)) M 36 [(0, .ref (G.1 + 111))] [] := by
  unfold k_Mo_port_36 at h
  refine z_aload_n C 0 x_Mo_port_36 rfl ?_
  refine z_iconst C x_Mo_port_37 ?_
  obtain ⟨v1, M2, fv1, h⟩ := bcall_e h
  refine z_callVi (k := 111) C x_Mo_port_38 cv_Mo_297 (t_Mo_refuse (lev := lev - 1) l G (by omega) fv1) nk_111 ck_111 rfl (by omega) rfl (i_le rfl) rfl ?_
  exact z_iret C x_Mo_port_41 h
def d_Mo_port (a1 a2 a3 a4 a5 : Int) (M : Mem) : Res := blet (sto M 111 1 0) fun M1 => blet (sto M1 111 0 0) fun M2 => bcall (d_Mo_isIn (w32 a1) 0 1 M2) fun v3 M4 => if w32 v3 = 0 then (k_Mo_port_36 M4) else (bcall (d_Mo_isGrade a2 M4) fun v6 M7 => if w32 v6 = 0 then (k_Mo_port_36 M7) else (bcall (d_Mo_isWho a4 M7) fun v9 M10 => if w32 v9 = 0 then (k_Mo_port_36 M10) else (bcall (d_Mo_isYear a3 M10) fun v12 M13 => if w32 v12 = 0 then (k_Mo_port_57 M13) else (bcall (d_Mo_isDay a5 M13) fun v15 M16 => if w32 v15 = 0 then (k_Mo_port_57 M16) else (bcall (d_Mo_play a5 M16) fun v18 M19 => fix (fun _ _ _ _ _ _ _ => none) (k_Mo_port_75) FU a1 a2 a3 a4 0 0 M19)))))
theorem t_Mo_port (l : Launch) (G : GX) {lev : Nat} (hlev : 8 ≤ lev) {a1 a2 a3 a4 a5 : Int} {M : Mem} {r : Int × Mem} (h : d_Mo_port a1 a2 a3 a4 a5 M = some r) : Mt l G y_Mo_port b_Mo_port 8 (some .int) lev 1 [.ref (G.1 + 111), vi a1, vi a2, vi a3, vi a4, vi a5] M r := by
  refine Mt.of (by decide) (i_le rfl) ?_
  intro p e s m args below meth c C
  have C : Cx p s m args meth c G b_Mo_port 8 "PrairiePoolModel" (some .int) := C
  unfold d_Mo_port at h
  refine z_sub (lv' := [(0, .ref (G.1 + 111)), (1, vi a1), (2, vi a2), (3, vi a3), (4, vi a4), (5, vi a5)]) [0, 1, 2, 3, 4, 5] rfl ?_
  refine z_aload_n C 0 x_Mo_port_0 rfl ?_
  refine z_iconst C x_Mo_port_1 ?_
  obtain ⟨M1, eM1, h⟩ := blet_e h
  refine z_putI (j := 1) C x_Mo_port_2 nk_111 ck_111 cw_12 (i_lt rfl) rfl rfl rfl rfl fl_Mo_257 eM1 ?_
  refine z_aload_n C 0 x_Mo_port_5 rfl ?_
  refine z_iconst C x_Mo_port_6 ?_
  obtain ⟨M2, eM2, h⟩ := blet_e h
  refine z_putI (j := 0) C x_Mo_port_7 nk_111 ck_111 cw_12 (i_lt rfl) rfl rfl rfl rfl fl_Mo_260 eM2 ?_
  refine z_iload_n C 1 x_Mo_port_10 rfl ?_
  refine z_i2l C x_Mo_port_11 ?_
  refine z_lconst0 C x_Mo_port_12 ?_
  refine z_lconst1 C x_Mo_port_13 ?_
  obtain ⟨v3, M4, fv3, h⟩ := bcall_e h
  refine z_callSi C x_Mo_port_14 cs_Mo_265 (t_Mo_isIn (lev := lev - 1) l G (by omega) fv3) (by omega) rfl (i_le rfl) rfl ?_
  rcases ite_e h with ⟨c5, h⟩ | ⟨c5, h⟩
  · refine z_if_eq_t (tgt := 36) C x_Mo_port_17 rfl c5 ?_
    exact z_sub [0] rfl (z_Mo_port_36 C hlev h)
  · refine z_if_eq_f (tgt := 36) C x_Mo_port_17 rfl c5 ?_
    refine z_iload_n C 2 x_Mo_port_20 rfl ?_
    obtain ⟨v6, M7, fv6, h⟩ := bcall_e h
    refine z_callSi C x_Mo_port_21 cs_Mo_332 (t_Mo_isGrade (lev := lev - 1) l G (by omega) fv6) (by omega) rfl (i_le rfl) rfl ?_
    rcases ite_e h with ⟨c8, h⟩ | ⟨c8, h⟩
    · refine z_if_eq_t (tgt := 36) C x_Mo_port_24 rfl c8 ?_
      exact z_sub [0] rfl (z_Mo_port_36 C hlev h)
    · refine z_if_eq_f (tgt := 36) C x_Mo_port_24 rfl c8 ?_
      refine z_aload_n C 0 x_Mo_port_27 rfl ?_
      refine z_iload C 4 x_Mo_port_28 rfl ?_
      obtain ⟨v9, M10, fv9, h⟩ := bcall_e h
      refine z_callVi (k := 111) C x_Mo_port_30 cv_Mo_400 (t_Mo_isWho (lev := lev - 1) l G (by omega) fv9) nk_111 ck_111 rfl (by omega) rfl (i_le rfl) rfl ?_
      rcases ite_e h with ⟨c11, h⟩ | ⟨c11, h⟩
      · refine z_if_ne_f (tgt := 42) C x_Mo_port_33 rfl c11 ?_
        exact z_sub [0] rfl (z_Mo_port_36 C hlev h)
      · refine z_if_ne_t (tgt := 42) C x_Mo_port_33 rfl c11 ?_
        refine z_iload_n C 3 x_Mo_port_42 rfl ?_
        obtain ⟨v12, M13, fv12, h⟩ := bcall_e h
        refine z_callSi C x_Mo_port_43 cs_Mo_335 (t_Mo_isYear (lev := lev - 1) l G (by omega) fv12) (by omega) rfl (i_le rfl) rfl ?_
        rcases ite_e h with ⟨c14, h⟩ | ⟨c14, h⟩
        · refine z_if_eq_t (tgt := 57) C x_Mo_port_46 rfl c14 ?_
          exact z_sub [0] rfl (z_Mo_port_57 C hlev h)
        · refine z_if_eq_f (tgt := 57) C x_Mo_port_46 rfl c14 ?_
          refine z_iload C 5 x_Mo_port_49 rfl ?_
          obtain ⟨v15, M16, fv15, h⟩ := bcall_e h
          refine z_callSi C x_Mo_port_51 cs_Mo_306 (t_Mo_isDay (lev := lev - 1) l G (by omega) fv15) (by omega) rfl (i_le rfl) rfl ?_
          rcases ite_e h with ⟨c17, h⟩ | ⟨c17, h⟩
          · refine z_if_ne_f (tgt := 63) C x_Mo_port_54 rfl c17 ?_
            exact z_sub [0] rfl (z_Mo_port_57 C hlev h)
          · refine z_if_ne_t (tgt := 63) C x_Mo_port_54 rfl c17 ?_
            refine z_aload_n C 0 x_Mo_port_63 rfl ?_
            refine z_iload C 5 x_Mo_port_64 rfl ?_
            obtain ⟨v18, M19, fv18, h⟩ := bcall_e h
            refine z_callVv (k := 111) C x_Mo_port_66 cv_Mo_403 (t_Mo_play (lev := lev - 1) l G (by omega) fv18) nk_111 ck_111 rfl (by omega) rfl (i_le rfl) rfl ?_
            refine z_iconst C x_Mo_port_69 ?_
            refine z_istore (lv' := [(6, vi 0), (0, .ref (G.1 + 111)), (1, vi a1), (2, vi a2), (3, vi a3), (4, vi a4), (5, vi a5)]) C rfl x_Mo_port_70 (i_lt rfl) rfl ?_
            refine z_iconst C x_Mo_port_72 ?_
            refine z_istore (lv' := [(7, vi 0), (6, vi 0), (0, .ref (G.1 + 111)), (1, vi a1), (2, vi a2), (3, vi a3), (4, vi a4), (5, vi a5)]) C rfl x_Mo_port_73 (i_lt rfl) rfl ?_
            exact z_sub [2, 3, 4, 5, 6, 1, 0] rfl (zl_Mo_port_75 C hlev FU a1 a2 a3 a4 0 0 M19 h)
theorem x_Mo_sum_0 : DC b_Mo_sum 0 (.aload_n 0) 1 1 := ⟨by decide +kernel, rfl⟩
theorem x_Mo_sum_1 : DC b_Mo_sum 1 (.iconst 0) 1 2 := ⟨by decide +kernel, rfl⟩
theorem x_Mo_sum_2 : DC b_Mo_sum 2 (.putfield 257) 3 5 := ⟨by decide +kernel, rfl⟩
theorem x_Mo_sum_5 : DC b_Mo_sum 5 (.aload_n 0) 1 6 := ⟨by decide +kernel, rfl⟩
theorem x_Mo_sum_6 : DC b_Mo_sum 6 (.iconst 0) 1 7 := ⟨by decide +kernel, rfl⟩
theorem x_Mo_sum_7 : DC b_Mo_sum 7 (.putfield 260) 3 10 := ⟨by decide +kernel, rfl⟩
theorem x_Mo_sum_10 : DC b_Mo_sum 10 (.aload_n 0) 1 11 := ⟨by decide +kernel, rfl⟩
theorem x_Mo_sum_11 : DC b_Mo_sum 11 (.iload_n 1) 1 12 := ⟨by decide +kernel, rfl⟩
theorem x_Mo_sum_12 : DC b_Mo_sum 12 (.invokevirtual 400) 3 15 := ⟨by decide +kernel, rfl⟩
theorem x_Mo_sum_15 : DC b_Mo_sum 15 (.ifCond .ne 9) 3 18 := ⟨by decide +kernel, rfl⟩
theorem x_Mo_sum_18 : DC b_Mo_sum 18 (.aload_n 0) 1 19 := ⟨by decide +kernel, rfl⟩
theorem x_Mo_sum_19 : DC b_Mo_sum 19 (.iconst 2) 1 20 := ⟨by decide +kernel, rfl⟩
theorem x_Mo_sum_20 : DC b_Mo_sum 20 (.invokevirtual 297) 3 23 := ⟨by decide +kernel, rfl⟩
theorem x_Mo_sum_23 : DC b_Mo_sum 23 (.ireturn) 1 24 := ⟨by decide +kernel, rfl⟩
theorem x_Mo_sum_24 : DC b_Mo_sum 24 (.iload_n 2) 1 25 := ⟨by decide +kernel, rfl⟩
theorem x_Mo_sum_25 : DC b_Mo_sum 25 (.i2l) 1 26 := ⟨by decide +kernel, rfl⟩
theorem x_Mo_sum_26 : DC b_Mo_sum 26 (.lconst 0) 1 27 := ⟨by decide +kernel, rfl⟩
theorem x_Mo_sum_27 : DC b_Mo_sum 27 (.iload_n 1) 1 28 := ⟨by decide +kernel, rfl⟩
theorem x_Mo_sum_28 : DC b_Mo_sum 28 (.iconst (-1)) 1 29 := ⟨by decide +kernel, rfl⟩
theorem x_Mo_sum_29 : DC b_Mo_sum 29 (.if_icmp .ne 9) 3 32 := ⟨by decide +kernel, rfl⟩
theorem x_Mo_sum_32 : DC b_Mo_sum 32 (.ldc2_w 406) 3 35 := ⟨by decide +kernel, rfl⟩
theorem x_Mo_sum_35 : DC b_Mo_sum 35 (.goto 6) 3 38 := ⟨by decide +kernel, rfl⟩
theorem x_Mo_sum_38 : DC b_Mo_sum 38 (.ldc2_w 408) 3 41 := ⟨by decide +kernel, rfl⟩
theorem x_Mo_sum_41 : DC b_Mo_sum 41 (.invokestatic 265) 3 44 := ⟨by decide +kernel, rfl⟩
theorem x_Mo_sum_44 : DC b_Mo_sum 44 (.ifCond .eq 10) 3 47 := ⟨by decide +kernel, rfl⟩
theorem x_Mo_sum_47 : DC b_Mo_sum 47 (.iload_n 3) 1 48 := ⟨by decide +kernel, rfl⟩
theorem x_Mo_sum_48 : DC b_Mo_sum 48 (.invokestatic 306) 3 51 := ⟨by decide +kernel, rfl⟩
theorem x_Mo_sum_51 : DC b_Mo_sum 51 (.ifCond .ne 9) 3 54 := ⟨by decide +kernel, rfl⟩
theorem x_Mo_sum_54 : DC b_Mo_sum 54 (.aload_n 0) 1 55 := ⟨by decide +kernel, rfl⟩
theorem x_Mo_sum_55 : DC b_Mo_sum 55 (.iconst 5) 1 56 := ⟨by decide +kernel, rfl⟩
theorem x_Mo_sum_56 : DC b_Mo_sum 56 (.invokevirtual 297) 3 59 := ⟨by decide +kernel, rfl⟩
theorem x_Mo_sum_59 : DC b_Mo_sum 59 (.ireturn) 1 60 := ⟨by decide +kernel, rfl⟩
theorem x_Mo_sum_60 : DC b_Mo_sum 60 (.aload_n 0) 1 61 := ⟨by decide +kernel, rfl⟩
theorem x_Mo_sum_61 : DC b_Mo_sum 61 (.iload_n 3) 1 62 := ⟨by decide +kernel, rfl⟩
theorem x_Mo_sum_62 : DC b_Mo_sum 62 (.invokevirtual 403) 3 65 := ⟨by decide +kernel, rfl⟩
theorem x_Mo_sum_65 : DC b_Mo_sum 65 (.iload_n 2) 1 66 := ⟨by decide +kernel, rfl⟩
theorem x_Mo_sum_66 : DC b_Mo_sum 66 (.iconst 4) 1 67 := ⟨by decide +kernel, rfl⟩
theorem x_Mo_sum_67 : DC b_Mo_sum 67 (.if_icmp .ne 8) 3 70 := ⟨by decide +kernel, rfl⟩
theorem x_Mo_sum_70 : DC b_Mo_sum 70 (.aload_n 0) 1 71 := ⟨by decide +kernel, rfl⟩
theorem x_Mo_sum_71 : DC b_Mo_sum 71 (.getfield 371) 3 74 := ⟨by decide +kernel, rfl⟩
theorem x_Mo_sum_74 : DC b_Mo_sum 74 (.ireturn) 1 75 := ⟨by decide +kernel, rfl⟩
theorem x_Mo_sum_75 : DC b_Mo_sum 75 (.iconst 0) 1 76 := ⟨by decide +kernel, rfl⟩
theorem x_Mo_sum_76 : DC b_Mo_sum 76 (.istore 4) 2 78 := ⟨by decide +kernel, rfl⟩
theorem x_Mo_sum_78 : DC b_Mo_sum 78 (.iconst 0) 1 79 := ⟨by decide +kernel, rfl⟩
theorem x_Mo_sum_79 : DC b_Mo_sum 79 (.istore 5) 2 81 := ⟨by decide +kernel, rfl⟩
theorem x_Mo_sum_81 : DC b_Mo_sum 81 (.iload 5) 2 83 := ⟨by decide +kernel, rfl⟩
theorem x_Mo_sum_83 : DC b_Mo_sum 83 (.bipush 20) 2 85 := ⟨by decide +kernel, rfl⟩
theorem x_Mo_sum_85 : DC b_Mo_sum 85 (.if_icmp .ge 79) 3 88 := ⟨by decide +kernel, rfl⟩
theorem x_Mo_sum_88 : DC b_Mo_sum 88 (.iload_n 1) 1 89 := ⟨by decide +kernel, rfl⟩
theorem x_Mo_sum_89 : DC b_Mo_sum 89 (.iconst (-1)) 1 90 := ⟨by decide +kernel, rfl⟩
theorem x_Mo_sum_90 : DC b_Mo_sum 90 (.if_icmp .eq 12) 3 93 := ⟨by decide +kernel, rfl⟩
theorem x_Mo_sum_93 : DC b_Mo_sum 93 (.iload_n 1) 1 94 := ⟨by decide +kernel, rfl⟩
theorem x_Mo_sum_94 : DC b_Mo_sum 94 (.iload 5) 2 96 := ⟨by decide +kernel, rfl⟩
theorem x_Mo_sum_96 : DC b_Mo_sum 96 (.if_icmp .eq 6) 3 99 := ⟨by decide +kernel, rfl⟩
theorem x_Mo_sum_99 : DC b_Mo_sum 99 (.goto 59) 3 102 := ⟨by decide +kernel, rfl⟩
theorem x_Mo_sum_102 : DC b_Mo_sum 102 (.iload 4) 2 104 := ⟨by decide +kernel, rfl⟩
theorem x_Mo_sum_104 : DC b_Mo_sum 104 (.iload_n 2) 1 105 := ⟨by decide +kernel, rfl⟩
theorem x_Mo_sum_105 : DC b_Mo_sum 105 (.ifCond .ne 13) 3 108 := ⟨by decide +kernel, rfl⟩
theorem x_Mo_sum_108 : DC b_Mo_sum 108 (.aload_n 0) 1 109 := ⟨by decide +kernel, rfl⟩
theorem x_Mo_sum_109 : DC b_Mo_sum 109 (.getfield 92) 3 112 := ⟨by decide +kernel, rfl⟩
theorem x_Mo_sum_112 : DC b_Mo_sum 112 (.iload 5) 2 114 := ⟨by decide +kernel, rfl⟩
theorem x_Mo_sum_114 : DC b_Mo_sum 114 (.iaload) 1 115 := ⟨by decide +kernel, rfl⟩
theorem x_Mo_sum_115 : DC b_Mo_sum 115 (.goto 40) 3 118 := ⟨by decide +kernel, rfl⟩
theorem x_Mo_sum_118 : DC b_Mo_sum 118 (.iload_n 2) 1 119 := ⟨by decide +kernel, rfl⟩
theorem x_Mo_sum_119 : DC b_Mo_sum 119 (.iconst 1) 1 120 := ⟨by decide +kernel, rfl⟩
theorem x_Mo_sum_120 : DC b_Mo_sum 120 (.if_icmp .ne 13) 3 123 := ⟨by decide +kernel, rfl⟩
theorem x_Mo_sum_123 : DC b_Mo_sum 123 (.aload_n 0) 1 124 := ⟨by decide +kernel, rfl⟩
theorem x_Mo_sum_124 : DC b_Mo_sum 124 (.getfield 95) 3 127 := ⟨by decide +kernel, rfl⟩
theorem x_Mo_sum_127 : DC b_Mo_sum 127 (.iload 5) 2 129 := ⟨by decide +kernel, rfl⟩
theorem x_Mo_sum_129 : DC b_Mo_sum 129 (.iaload) 1 130 := ⟨by decide +kernel, rfl⟩
theorem x_Mo_sum_130 : DC b_Mo_sum 130 (.goto 25) 3 133 := ⟨by decide +kernel, rfl⟩
theorem x_Mo_sum_133 : DC b_Mo_sum 133 (.iload_n 2) 1 134 := ⟨by decide +kernel, rfl⟩
theorem x_Mo_sum_134 : DC b_Mo_sum 134 (.iconst 2) 1 135 := ⟨by decide +kernel, rfl⟩
theorem x_Mo_sum_135 : DC b_Mo_sum 135 (.if_icmp .ne 13) 3 138 := ⟨by decide +kernel, rfl⟩
theorem x_Mo_sum_138 : DC b_Mo_sum 138 (.aload_n 0) 1 139 := ⟨by decide +kernel, rfl⟩
theorem x_Mo_sum_139 : DC b_Mo_sum 139 (.getfield 98) 3 142 := ⟨by decide +kernel, rfl⟩
theorem x_Mo_sum_142 : DC b_Mo_sum 142 (.iload 5) 2 144 := ⟨by decide +kernel, rfl⟩
theorem x_Mo_sum_144 : DC b_Mo_sum 144 (.iaload) 1 145 := ⟨by decide +kernel, rfl⟩
theorem x_Mo_sum_145 : DC b_Mo_sum 145 (.goto 10) 3 148 := ⟨by decide +kernel, rfl⟩
theorem x_Mo_sum_148 : DC b_Mo_sum 148 (.aload_n 0) 1 149 := ⟨by decide +kernel, rfl⟩
theorem x_Mo_sum_149 : DC b_Mo_sum 149 (.getfield 101) 3 152 := ⟨by decide +kernel, rfl⟩
theorem x_Mo_sum_152 : DC b_Mo_sum 152 (.iload 5) 2 154 := ⟨by decide +kernel, rfl⟩
theorem x_Mo_sum_154 : DC b_Mo_sum 154 (.iaload) 1 155 := ⟨by decide +kernel, rfl⟩
theorem x_Mo_sum_155 : DC b_Mo_sum 155 (.iadd) 1 156 := ⟨by decide +kernel, rfl⟩
theorem x_Mo_sum_156 : DC b_Mo_sum 156 (.istore 4) 2 158 := ⟨by decide +kernel, rfl⟩
theorem x_Mo_sum_158 : DC b_Mo_sum 158 (.iinc 5 1) 3 161 := ⟨by decide +kernel, rfl⟩
theorem x_Mo_sum_161 : DC b_Mo_sum 161 (.goto (-80)) 3 164 := ⟨by decide +kernel, rfl⟩
theorem x_Mo_sum_164 : DC b_Mo_sum 164 (.iload 4) 2 166 := ⟨by decide +kernel, rfl⟩
theorem x_Mo_sum_166 : DC b_Mo_sum 166 (.ireturn) 1 167 := ⟨by decide +kernel, rfl⟩
def k_Mo_sum_158 (R81 : Int → Int → Int → Int → Mem → Res) (a1 a2 a4 a5 : Int) (M : Mem) : Res := blet (a5 + 1) fun v1 => R81 a1 a2 a4 v1 M
theorem z_Mo_sum_158 (C : Cx p s m args meth c G b_Mo_sum 6 "PrairiePoolModel" (some .int)) (hlev : 8 ≤ lev) {r : Int × Mem} {R81 : Int → Int → Int → Int → Mem → Res} (hR81 : ∀ (a1 a2 a4 a5 : Int) (M : Mem), R81 a1 a2 a4 a5 M = some r → Z p l e lev s m args below meth c G 6 (MQ below (Qm G 1 r) args s 0 0 (Ab G)) M 81 [(0, .ref (G.1 + 111)), (1, vi a1), (2, vi a2), (4, vi a4), (5, vi a5)] []) {a1 a2 a4 a5 : Int} {M : Mem} (h : k_Mo_sum_158 R81 a1 a2 a4 a5 M = some r) : Z p l e lev s m args below meth c G 6 (MQ below (Qm G 1 r) args s 0 0 (Ab G)) M 158 [(0, .ref (G.1 + 111)), (1, vi a1), (2, vi a2), (4, vi a4), (5, vi a5)] [] := by
  unfold k_Mo_sum_158 at h
  obtain ⟨v1, ev1, h⟩ := blet_e h
  refine z_iinc (lv' := [(5, vi v1), (0, .ref (G.1 + 111)), (1, vi a1), (2, vi a2), (4, vi a4)]) C 4 ev1 x_Mo_sum_158 rfl (i_lt rfl) rfl ?_
  refine z_goto (tgt := 81) C x_Mo_sum_161 rfl ?_
  exact z_sub [1, 2, 3, 4, 0] rfl (hR81 a1 a2 a4 v1 M h)
def k_Mo_sum_155 (R81 : Int → Int → Int → Int → Mem → Res) (a1 a2 a5 s0 s1 : Int) (M : Mem) : Res := blet (s0 + s1) fun v1 => k_Mo_sum_158 R81 a1 a2 v1 a5 M
theorem z_Mo_sum_155 (C : Cx p s m args meth c G b_Mo_sum 6 "PrairiePoolModel" (some .int)) (hlev : 8 ≤ lev) {r : Int × Mem} {R81 : Int → Int → Int → Int → Mem → Res} (hR81 : ∀ (a1 a2 a4 a5 : Int) (M : Mem), R81 a1 a2 a4 a5 M = some r → Z p l e lev s m args below meth c G 6 (MQ below (Qm G 1 r) args s 0 0 (Ab G)) M 81 [(0, .ref (G.1 + 111)), (1, vi a1), (2, vi a2), (4, vi a4), (5, vi a5)] []) {a1 a2 a5 s0 s1 : Int} {M : Mem} (h : k_Mo_sum_155 R81 a1 a2 a5 s0 s1 M = some r) : Z p l e lev s m args below meth c G 6 (MQ below (Qm G 1 r) args s 0 0 (Ab G)) M 155 [(0, .ref (G.1 + 111)), (1, vi a1), (2, vi a2), (5, vi a5)] [vi s1, vi s0] := by
  unfold k_Mo_sum_155 at h
  refine z_iadd C x_Mo_sum_155 ?_
  obtain ⟨v1, ev1, h⟩ := blet_e h
  refine z_istore (lv' := [(4, vi v1), (0, .ref (G.1 + 111)), (1, vi a1), (2, vi a2), (5, vi a5)]) C ev1 x_Mo_sum_156 (i_lt rfl) rfl ?_
  exact z_sub [1, 2, 3, 0, 4] rfl (z_Mo_sum_158 C hlev hR81 h)
def k_Mo_sum_102 (R81 : Int → Int → Int → Int → Mem → Res) (a1 a2 a4 a5 : Int) (M : Mem) : Res := if w32 a2 = 0 then (chk (0 ≤ w32 a5 ∧ w32 a5 < 20) <| blet (M 139 (ix a5)) fun v3 => k_Mo_sum_155 R81 a1 a2 a5 a4 v3 M) else (if w32 a2 = 1 then (chk (0 ≤ w32 a5 ∧ w32 a5 < 20) <| blet (M 140 (ix a5)) fun v6 => k_Mo_sum_155 R81 a1 a2 a5 a4 v6 M) else (if w32 a2 = 2 then (chk (0 ≤ w32 a5 ∧ w32 a5 < 20) <| blet (M 141 (ix a5)) fun v9 => k_Mo_sum_155 R81 a1 a2 a5 a4 v9 M) else (chk (0 ≤ w32 a5 ∧ w32 a5 < 20) <| blet (M 142 (ix a5)) fun v11 => k_Mo_sum_155 R81 a1 a2 a5 a4 v11 M)))
theorem z_Mo_sum_102 (C : Cx p s m args meth c G b_Mo_sum 6 "PrairiePoolModel" (some .int)) (hlev : 8 ≤ lev) {r : Int × Mem} {R81 : Int → Int → Int → Int → Mem → Res} (hR81 : ∀ (a1 a2 a4 a5 : Int) (M : Mem), R81 a1 a2 a4 a5 M = some r → Z p l e lev s m args below meth c G 6 (MQ below (Qm G 1 r) args s 0 0 (Ab G)) M 81 [(0, .ref (G.1 + 111)), (1, vi a1), (2, vi a2), (4, vi a4), (5, vi a5)] []) {a1 a2 a4 a5 : Int} {M : Mem} (h : k_Mo_sum_102 R81 a1 a2 a4 a5 M = some r) : Z p l e lev s m args below meth c G 6 (MQ below (Qm G 1 r) args s 0 0 (Ab G)) M 102 [(0, .ref (G.1 + 111)), (1, vi a1), (2, vi a2), (4, vi a4), (5, vi a5)] [] := by
  unfold k_Mo_sum_102 at h
  refine z_iload C 3 x_Mo_sum_102 rfl ?_
  refine z_iload_n C 2 x_Mo_sum_104 rfl ?_
  rcases ite_e h with ⟨c1, h⟩ | ⟨c1, h⟩
  · refine z_if_ne_f (tgt := 118) C x_Mo_sum_105 rfl c1 ?_
    refine z_aload_n C 0 x_Mo_sum_108 rfl ?_
    refine z_getR (j := 35) C x_Mo_sum_109 nk_111 ck_111 cw_12 (i_lt rfl) rfl rf_111_35 rfl fl_Mo_92 ?_
    refine z_iload C 4 x_Mo_sum_112 rfl ?_
    obtain ⟨c2, h⟩ := chk_e h
    obtain ⟨v3, ev3, h⟩ := blet_e h
    refine z_iald C x_Mo_sum_114 nk_139 ck_139 c2 ev3 ?_
    refine z_goto (tgt := 155) C x_Mo_sum_115 rfl ?_
    exact z_sub [0, 1, 2, 4] rfl (z_Mo_sum_155 C hlev hR81 h)
  · refine z_if_ne_t (tgt := 118) C x_Mo_sum_105 rfl c1 ?_
    refine z_iload_n C 2 x_Mo_sum_118 rfl ?_
    refine z_iconst C x_Mo_sum_119 ?_
    rcases ite_e h with ⟨c4, h⟩ | ⟨c4, h⟩
    · refine z_icmp_ne_f (tgt := 133) C x_Mo_sum_120 rfl c4 ?_
      refine z_aload_n C 0 x_Mo_sum_123 rfl ?_
      refine z_getR (j := 36) C x_Mo_sum_124 nk_111 ck_111 cw_12 (i_lt rfl) rfl rf_111_36 rfl fl_Mo_95 ?_
      refine z_iload C 4 x_Mo_sum_127 rfl ?_
      obtain ⟨c5, h⟩ := chk_e h
      obtain ⟨v6, ev6, h⟩ := blet_e h
      refine z_iald C x_Mo_sum_129 nk_140 ck_140 c5 ev6 ?_
      refine z_goto (tgt := 155) C x_Mo_sum_130 rfl ?_
      exact z_sub [0, 1, 2, 4] rfl (z_Mo_sum_155 C hlev hR81 h)
    · refine z_icmp_ne_t (tgt := 133) C x_Mo_sum_120 rfl c4 ?_
      refine z_iload_n C 2 x_Mo_sum_133 rfl ?_
      refine z_iconst C x_Mo_sum_134 ?_
      rcases ite_e h with ⟨c7, h⟩ | ⟨c7, h⟩
      · refine z_icmp_ne_f (tgt := 148) C x_Mo_sum_135 rfl c7 ?_
        refine z_aload_n C 0 x_Mo_sum_138 rfl ?_
        refine z_getR (j := 37) C x_Mo_sum_139 nk_111 ck_111 cw_12 (i_lt rfl) rfl rf_111_37 rfl fl_Mo_98 ?_
        refine z_iload C 4 x_Mo_sum_142 rfl ?_
        obtain ⟨c8, h⟩ := chk_e h
        obtain ⟨v9, ev9, h⟩ := blet_e h
        refine z_iald C x_Mo_sum_144 nk_141 ck_141 c8 ev9 ?_
        refine z_goto (tgt := 155) C x_Mo_sum_145 rfl ?_
        exact z_sub [0, 1, 2, 4] rfl (z_Mo_sum_155 C hlev hR81 h)
      · refine z_icmp_ne_t (tgt := 148) C x_Mo_sum_135 rfl c7 ?_
        refine z_aload_n C 0 x_Mo_sum_148 rfl ?_
        refine z_getR (j := 38) C x_Mo_sum_149 nk_111 ck_111 cw_12 (i_lt rfl) rfl rf_111_38 rfl fl_Mo_101 ?_
        refine z_iload C 4 x_Mo_sum_152 rfl ?_
        obtain ⟨c10, h⟩ := chk_e h
        obtain ⟨v11, ev11, h⟩ := blet_e h
        refine z_iald C x_Mo_sum_154 nk_142 ck_142 c10 ev11 ?_
        exact z_sub [0, 1, 2, 4] rfl (z_Mo_sum_155 C hlev hR81 h)
def k_Mo_sum_81 (R81 : Int → Int → Int → Int → Mem → Res) (a1 a2 a4 a5 : Int) (M : Mem) : Res := if w32 a5 < 20 then (if w32 a1 = (-1) then (k_Mo_sum_102 R81 a1 a2 a4 a5 M) else (if w32 a1 = w32 a5 then (k_Mo_sum_102 R81 a1 a2 a4 a5 M) else (k_Mo_sum_158 R81 a1 a2 a4 a5 M))) else (some (a4, M))
theorem z_Mo_sum_81 (C : Cx p s m args meth c G b_Mo_sum 6 "PrairiePoolModel" (some .int)) (hlev : 8 ≤ lev) {r : Int × Mem} {R81 : Int → Int → Int → Int → Mem → Res} (hR81 : ∀ (a1 a2 a4 a5 : Int) (M : Mem), R81 a1 a2 a4 a5 M = some r → Z p l e lev s m args below meth c G 6 (MQ below (Qm G 1 r) args s 0 0 (Ab G)) M 81 [(0, .ref (G.1 + 111)), (1, vi a1), (2, vi a2), (4, vi a4), (5, vi a5)] []) {a1 a2 a4 a5 : Int} {M : Mem} (h : k_Mo_sum_81 R81 a1 a2 a4 a5 M = some r) : Z p l e lev s m args below meth c G 6 (MQ below (Qm G 1 r) args s 0 0 (Ab G)) M 81 [(0, .ref (G.1 + 111)), (1, vi a1), (2, vi a2), (4, vi a4), (5, vi a5)] [] := by
  unfold k_Mo_sum_81 at h
  refine z_iload C 4 x_Mo_sum_81 rfl ?_
  refine z_bipush C rfl x_Mo_sum_83 ?_
  rcases ite_e h with ⟨c1, h⟩ | ⟨c1, h⟩
  · refine z_icmp_ge_f (tgt := 164) C x_Mo_sum_85 rfl c1 ?_
    refine z_iload_n C 1 x_Mo_sum_88 rfl ?_
    refine z_iconst C x_Mo_sum_89 ?_
    rcases ite_e h with ⟨c2, h⟩ | ⟨c2, h⟩
    · refine z_icmp_eq_t (tgt := 102) C x_Mo_sum_90 rfl c2 ?_
      exact z_sub [0, 1, 2, 3, 4] rfl (z_Mo_sum_102 C hlev hR81 h)
    · refine z_icmp_eq_f (tgt := 102) C x_Mo_sum_90 rfl c2 ?_
      refine z_iload_n C 1 x_Mo_sum_93 rfl ?_
      refine z_iload C 4 x_Mo_sum_94 rfl ?_
      rcases ite_e h with ⟨c3, h⟩ | ⟨c3, h⟩
      · refine z_icmp_eq_t (tgt := 102) C x_Mo_sum_96 rfl c3 ?_
        exact z_sub [0, 1, 2, 3, 4] rfl (z_Mo_sum_102 C hlev hR81 h)
      · refine z_icmp_eq_f (tgt := 102) C x_Mo_sum_96 rfl c3 ?_
        refine z_goto (tgt := 158) C x_Mo_sum_99 rfl ?_
        exact z_sub [0, 1, 2, 3, 4] rfl (z_Mo_sum_158 C hlev hR81 h)
  · refine z_icmp_ge_t (tgt := 164) C x_Mo_sum_85 rfl c1 ?_
    refine z_iload C 3 x_Mo_sum_164 rfl ?_
    exact z_iret C x_Mo_sum_166 h
theorem zl_Mo_sum_81 (C : Cx p s m args meth c G b_Mo_sum 6 "PrairiePoolModel" (some .int)) (hlev : 8 ≤ lev) {r : Int × Mem}  : ∀ (n : Nat) (a1 a2 a4 a5 : Int) (M : Mem), fix (fun _ _ _ _ _ => none) (k_Mo_sum_81) n a1 a2 a4 a5 M = some r → Z p l e lev s m args below meth c G 6 (MQ below (Qm G 1 r) args s 0 0 (Ab G)) M 81 [(0, .ref (G.1 + 111)), (1, vi a1), (2, vi a2), (4, vi a4), (5, vi a5)] [] := by
  intro n
  induction n with
  | zero => intro a1 a2 a4 a5 M h; exact nomatch (show (none : Res) = some r from h)
  | succ n ih => intro a1 a2 a4 a5 M h; exact z_Mo_sum_81 C hlev ih h
def k_Mo_sum_54 (M : Mem) : Res := bcall (d_Mo_refuse 5 M) fun v1 M2 => some (v1, M2)
theorem z_Mo_sum_54 (C : Cx p s m args meth c G b_Mo_sum 6 "PrairiePoolModel" (some .int)) (hlev : 8 ≤ lev) {r : Int × Mem}  {M : Mem} (h : k_Mo_sum_54 M = some r) : Z p l e lev s m args below meth c G 6 (MQ below (Qm G 1 r) args s 0 0 (Ab G)) M 54 [(0, .ref (G.1 + 111))] [] := by
  unfold k_Mo_sum_54 at h
  refine z_aload_n C 0 x_Mo_sum_54 rfl ?_
  refine z_iconst C x_Mo_sum_55 ?_
  obtain ⟨v1, M2, fv1, h⟩ := bcall_e h
  refine z_callVi (k := 111) C x_Mo_sum_56 cv_Mo_297 (t_Mo_refuse (lev := lev - 1) l G (by omega) fv1) nk_111 ck_111 rfl (by omega) rfl (i_le rfl) rfl ?_
  exact z_iret C x_Mo_sum_59 h
def k_Mo_sum_41 (a1 a2 a3 s0 s1 s2 : Int) (M : Mem) : Res := bcall (d_Mo_isIn s0 s1 s2 M) fun v1 M2 => if w32 v1 = 0 then (k_Mo_sum_54 M2) else (bcall (d_Mo_isDay a3 M2) fun v4 M5 => if w32 v4 = 0 then (k_Mo_sum_54 M5) else (bcall (d_Mo_play a3 M5) fun v7 M8 => if w32 a2 = 4 then (blet (M8 111 39) fun v10 => some (v10, M8)) else (fix (fun _ _ _ _ _ => none) (k_Mo_sum_81) FU a1 a2 0 0 M8)))
theorem z_Mo_sum_41 (C : Cx p s m args meth c G b_Mo_sum 6 "PrairiePoolModel" (some .int)) (hlev : 8 ≤ lev) {r : Int × Mem}  {a1 a2 a3 s0 s1 s2 : Int} {M : Mem} (h : k_Mo_sum_41 a1 a2 a3 s0 s1 s2 M = some r) : Z p l e lev s m args below meth c G 6 (MQ below (Qm G 1 r) args s 0 0 (Ab G)) M 41 [(0, .ref (G.1 + 111)), (1, vi a1), (2, vi a2), (3, vi a3)] [vl s2, vl s1, vl s0] := by
  unfold k_Mo_sum_41 at h
  obtain ⟨v1, M2, fv1, h⟩ := bcall_e h
  refine z_callSi C x_Mo_sum_41 cs_Mo_265 (t_Mo_isIn (lev := lev - 1) l G (by omega) fv1) (by omega) rfl (i_le rfl) rfl ?_
  rcases ite_e h with ⟨c3, h⟩ | ⟨c3, h⟩
  · refine z_if_eq_t (tgt := 54) C x_Mo_sum_44 rfl c3 ?_
    exact z_sub [0] rfl (z_Mo_sum_54 C hlev h)
  · refine z_if_eq_f (tgt := 54) C x_Mo_sum_44 rfl c3 ?_
    refine z_iload_n C 3 x_Mo_sum_47 rfl ?_
    obtain ⟨v4, M5, fv4, h⟩ := bcall_e h
    refine z_callSi C x_Mo_sum_48 cs_Mo_306 (t_Mo_isDay (lev := lev - 1) l G (by omega) fv4) (by omega) rfl (i_le rfl) rfl ?_
    rcases ite_e h with ⟨c6, h⟩ | ⟨c6, h⟩
    · refine z_if_ne_f (tgt := 60) C x_Mo_sum_51 rfl c6 ?_
      exact z_sub [0] rfl (z_Mo_sum_54 C hlev h)
    · refine z_if_ne_t (tgt := 60) C x_Mo_sum_51 rfl c6 ?_
      refine z_aload_n C 0 x_Mo_sum_60 rfl ?_
      refine z_iload_n C 3 x_Mo_sum_61 rfl ?_
      obtain ⟨v7, M8, fv7, h⟩ := bcall_e h
      refine z_callVv (k := 111) C x_Mo_sum_62 cv_Mo_403 (t_Mo_play (lev := lev - 1) l G (by omega) fv7) nk_111 ck_111 rfl (by omega) rfl (i_le rfl) rfl ?_
      refine z_iload_n C 2 x_Mo_sum_65 rfl ?_
      refine z_iconst C x_Mo_sum_66 ?_
      rcases ite_e h with ⟨c9, h⟩ | ⟨c9, h⟩
      · refine z_icmp_ne_f (tgt := 75) C x_Mo_sum_67 rfl c9 ?_
        refine z_aload_n C 0 x_Mo_sum_70 rfl ?_
        obtain ⟨v10, ev10, h⟩ := blet_e h
        refine z_getI (j := 39) C x_Mo_sum_71 nk_111 ck_111 cw_12 (i_lt rfl) rfl rfl fl_Mo_371 ev10 ?_
        exact z_iret C x_Mo_sum_74 h
      · refine z_icmp_ne_t (tgt := 75) C x_Mo_sum_67 rfl c9 ?_
        refine z_iconst C x_Mo_sum_75 ?_
        refine z_istore (lv' := [(4, vi 0), (0, .ref (G.1 + 111)), (1, vi a1), (2, vi a2), (3, vi a3)]) C rfl x_Mo_sum_76 (i_lt rfl) rfl ?_
        refine z_iconst C x_Mo_sum_78 ?_
        refine z_istore (lv' := [(5, vi 0), (4, vi 0), (0, .ref (G.1 + 111)), (1, vi a1), (2, vi a2), (3, vi a3)]) C rfl x_Mo_sum_79 (i_lt rfl) rfl ?_
        exact z_sub [2, 3, 4, 1, 0] rfl (zl_Mo_sum_81 C hlev FU a1 a2 0 0 M8 h)
def d_Mo_sum (a1 a2 a3 : Int) (M : Mem) : Res := blet (sto M 111 1 0) fun M1 => blet (sto M1 111 0 0) fun M2 => bcall (d_Mo_isWho a1 M2) fun v3 M4 => if w32 v3 = 0 then (bcall (d_Mo_refuse 2 M4) fun v6 M7 => some (v6, M7)) else (if w32 a1 = (-1) then (k_Mo_sum_41 a1 a2 a3 (w32 a2) 0 4 M4) else (k_Mo_sum_41 a1 a2 a3 (w32 a2) 0 3 M4))
theorem t_Mo_sum (l : Launch) (G : GX) {lev : Nat} (hlev : 8 ≤ lev) {a1 a2 a3 : Int} {M : Mem} {r : Int × Mem} (h : d_Mo_sum a1 a2 a3 M = some r) : Mt l G y_Mo_sum b_Mo_sum 6 (some .int) lev 1 [.ref (G.1 + 111), vi a1, vi a2, vi a3] M r := by
  refine Mt.of (by decide) (i_le rfl) ?_
  intro p e s m args below meth c C
  have C : Cx p s m args meth c G b_Mo_sum 6 "PrairiePoolModel" (some .int) := C
  unfold d_Mo_sum at h
  refine z_sub (lv' := [(0, .ref (G.1 + 111)), (1, vi a1), (2, vi a2), (3, vi a3)]) [0, 1, 2, 3] rfl ?_
  refine z_aload_n C 0 x_Mo_sum_0 rfl ?_
  refine z_iconst C x_Mo_sum_1 ?_
  obtain ⟨M1, eM1, h⟩ := blet_e h
  refine z_putI (j := 1) C x_Mo_sum_2 nk_111 ck_111 cw_12 (i_lt rfl) rfl rfl rfl rfl fl_Mo_257 eM1 ?_
  refine z_aload_n C 0 x_Mo_sum_5 rfl ?_
  refine z_iconst C x_Mo_sum_6 ?_
  obtain ⟨M2, eM2, h⟩ := blet_e h
  refine z_putI (j := 0) C x_Mo_sum_7 nk_111 ck_111 cw_12 (i_lt rfl) rfl rfl rfl rfl fl_Mo_260 eM2 ?_
  refine z_aload_n C 0 x_Mo_sum_10 rfl ?_
  refine z_iload_n C 1 x_Mo_sum_11 rfl ?_
  obtain ⟨v3, M4, fv3, h⟩ := bcall_e h
  refine z_callVi (k := 111) C x_Mo_sum_12 cv_Mo_400 (t_Mo_isWho (lev := lev - 1) l G (by omega) fv3) nk_111 ck_111 rfl (by omega) rfl (i_le rfl) rfl ?_
  rcases ite_e h with ⟨c5, h⟩ | ⟨c5, h⟩
  · refine z_if_ne_f (tgt := 24) C x_Mo_sum_15 rfl c5 ?_
    refine z_aload_n C 0 x_Mo_sum_18 rfl ?_
    refine z_iconst C x_Mo_sum_19 ?_
    obtain ⟨v6, M7, fv6, h⟩ := bcall_e h
    refine z_callVi (k := 111) C x_Mo_sum_20 cv_Mo_297 (t_Mo_refuse (lev := lev - 1) l G (by omega) fv6) nk_111 ck_111 rfl (by omega) rfl (i_le rfl) rfl ?_
    exact z_iret C x_Mo_sum_23 h
  · refine z_if_ne_t (tgt := 24) C x_Mo_sum_15 rfl c5 ?_
    refine z_iload_n C 2 x_Mo_sum_24 rfl ?_
    refine z_i2l C x_Mo_sum_25 ?_
    refine z_lconst0 C x_Mo_sum_26 ?_
    refine z_iload_n C 1 x_Mo_sum_27 rfl ?_
    refine z_iconst C x_Mo_sum_28 ?_
    rcases ite_e h with ⟨c8, h⟩ | ⟨c8, h⟩
    · refine z_icmp_ne_f (tgt := 38) C x_Mo_sum_29 rfl c8 ?_
      refine z_ldc2 C kl_Mo_406 x_Mo_sum_32 ?_
      refine z_goto (tgt := 41) C x_Mo_sum_35 rfl ?_
      exact z_sub [0, 1, 2, 3] rfl (z_Mo_sum_41 C hlev h)
    · refine z_icmp_ne_t (tgt := 38) C x_Mo_sum_29 rfl c8 ?_
      refine z_ldc2 C kl_Mo_408 x_Mo_sum_38 ?_
      exact z_sub [0, 1, 2, 3] rfl (z_Mo_sum_41 C hlev h)
theorem x_Mo_lay_0 : DC b_Mo_lay 0 (.iconst 3) 1 1 := ⟨by decide +kernel, rfl⟩
theorem x_Mo_lay_1 : DC b_Mo_lay 1 (.istore_n 2) 1 2 := ⟨by decide +kernel, rfl⟩
theorem x_Mo_lay_2 : DC b_Mo_lay 2 (.iload_n 2) 1 3 := ⟨by decide +kernel, rfl⟩
theorem x_Mo_lay_3 : DC b_Mo_lay 3 (.ifCond .lt 35) 3 6 := ⟨by decide +kernel, rfl⟩
theorem x_Mo_lay_6 : DC b_Mo_lay 6 (.aload_n 0) 1 7 := ⟨by decide +kernel, rfl⟩
theorem x_Mo_lay_7 : DC b_Mo_lay 7 (.getfield 113) 3 10 := ⟨by decide +kernel, rfl⟩
theorem x_Mo_lay_10 : DC b_Mo_lay 10 (.aload_n 0) 1 11 := ⟨by decide +kernel, rfl⟩
theorem x_Mo_lay_11 : DC b_Mo_lay 11 (.getfield 556) 3 14 := ⟨by decide +kernel, rfl⟩
theorem x_Mo_lay_14 : DC b_Mo_lay 14 (.iload_n 1) 1 15 := ⟨by decide +kernel, rfl⟩
theorem x_Mo_lay_15 : DC b_Mo_lay 15 (.bipush 8) 2 17 := ⟨by decide +kernel, rfl⟩
theorem x_Mo_lay_17 : DC b_Mo_lay 17 (.iload_n 2) 1 18 := ⟨by decide +kernel, rfl⟩
theorem x_Mo_lay_18 : DC b_Mo_lay 18 (.imul) 1 19 := ⟨by decide +kernel, rfl⟩
theorem x_Mo_lay_19 : DC b_Mo_lay 19 (.ishr) 1 20 := ⟨by decide +kernel, rfl⟩
theorem x_Mo_lay_20 : DC b_Mo_lay 20 (.i2b) 1 21 := ⟨by decide +kernel, rfl⟩
theorem x_Mo_lay_21 : DC b_Mo_lay 21 (.bastore) 1 22 := ⟨by decide +kernel, rfl⟩
theorem x_Mo_lay_22 : DC b_Mo_lay 22 (.aload_n 0) 1 23 := ⟨by decide +kernel, rfl⟩
theorem x_Mo_lay_23 : DC b_Mo_lay 23 (.dup) 1 24 := ⟨by decide +kernel, rfl⟩
theorem x_Mo_lay_24 : DC b_Mo_lay 24 (.getfield 556) 3 27 := ⟨by decide +kernel, rfl⟩
theorem x_Mo_lay_27 : DC b_Mo_lay 27 (.iconst 1) 1 28 := ⟨by decide +kernel, rfl⟩
theorem x_Mo_lay_28 : DC b_Mo_lay 28 (.iadd) 1 29 := ⟨by decide +kernel, rfl⟩
theorem x_Mo_lay_29 : DC b_Mo_lay 29 (.putfield 556) 3 32 := ⟨by decide +kernel, rfl⟩
theorem x_Mo_lay_32 : DC b_Mo_lay 32 (.iinc 2 (-1)) 3 35 := ⟨by decide +kernel, rfl⟩
theorem x_Mo_lay_35 : DC b_Mo_lay 35 (.goto (-33)) 3 38 := ⟨by decide +kernel, rfl⟩
theorem x_Mo_lay_38 : DC b_Mo_lay 38 (.return_) 1 39 := ⟨by decide +kernel, rfl⟩
def k_Mo_lay_2 (R2 : Int → Int → Mem → Res) (a1 a2 : Int) (M : Mem) : Res := if w32 a2 < 0 then (some (0, M)) else (blet (M 111 44) fun v2 => chk (0 ≤ w32 v2 ∧ w32 v2 < 500) <| blet (sto M 146 (ix v2) (w8 (sr32 a1 (8 * a2)))) fun M4 => blet (M4 111 44) fun v5 => blet (sto M4 111 44 (v5 + 1)) fun M6 => blet (a2 + (-1)) fun v7 => R2 a1 v7 M6)
theorem z_Mo_lay_2 (C : Cx p s m args meth c G b_Mo_lay 3 "PrairiePoolModel" none) (hlev : 0 ≤ lev) {r : Int × Mem} {R2 : Int → Int → Mem → Res} (hR2 : ∀ (a1 a2 : Int) (M : Mem), R2 a1 a2 M = some r → Z p l e lev s m args below meth c G 3 (MQ below (Qm G 0 r) args s 0 0 (Ab G)) M 2 [(0, .ref (G.1 + 111)), (1, vi a1), (2, vi a2)] []) {a1 a2 : Int} {M : Mem} (h : k_Mo_lay_2 R2 a1 a2 M = some r) : Z p l e lev s m args below meth c G 3 (MQ below (Qm G 0 r) args s 0 0 (Ab G)) M 2 [(0, .ref (G.1 + 111)), (1, vi a1), (2, vi a2)] [] := by
  unfold k_Mo_lay_2 at h
  refine z_iload_n C 2 x_Mo_lay_2 rfl ?_
  rcases ite_e h with ⟨c1, h⟩ | ⟨c1, h⟩
  · refine z_if_lt_t (tgt := 38) C x_Mo_lay_3 rfl c1 ?_
    exact z_vret C x_Mo_lay_38 h
  · refine z_if_lt_f (tgt := 38) C x_Mo_lay_3 rfl c1 ?_
    refine z_aload_n C 0 x_Mo_lay_6 rfl ?_
    refine z_getR (j := 43) C x_Mo_lay_7 nk_111 ck_111 cw_12 (i_lt rfl) rfl rf_111_43 rfl fl_Mo_113 ?_
    refine z_aload_n C 0 x_Mo_lay_10 rfl ?_
    obtain ⟨v2, ev2, h⟩ := blet_e h
    refine z_getI (j := 44) C x_Mo_lay_11 nk_111 ck_111 cw_12 (i_lt rfl) rfl rfl fl_Mo_556 ev2 ?_
    refine z_iload_n C 1 x_Mo_lay_14 rfl ?_
    refine z_bipush C rfl x_Mo_lay_15 ?_
    refine z_iload_n C 2 x_Mo_lay_17 rfl ?_
    refine z_imul C x_Mo_lay_18 ?_
    refine z_ishr C x_Mo_lay_19 ?_
    refine z_i2b C x_Mo_lay_20 ?_
    obtain ⟨c3, h⟩ := chk_e h
    obtain ⟨M4, eM4, h⟩ := blet_e h
    refine z_bast C x_Mo_lay_21 nk_146 ck_146 c3 eM4 ?_
    refine z_aload_n C 0 x_Mo_lay_22 rfl ?_
    refine z_dup C x_Mo_lay_23 rfl ?_
    obtain ⟨v5, ev5, h⟩ := blet_e h
    refine z_getI (j := 44) C x_Mo_lay_24 nk_111 ck_111 cw_12 (i_lt rfl) rfl rfl fl_Mo_556 ev5 ?_
    refine z_iconst C x_Mo_lay_27 ?_
    refine z_iadd C x_Mo_lay_28 ?_
    obtain ⟨M6, eM6, h⟩ := blet_e h
    refine z_putI (j := 44) C x_Mo_lay_29 nk_111 ck_111 cw_12 (i_lt rfl) rfl rfl rfl rfl fl_Mo_556 eM6 ?_
    obtain ⟨v7, ev7, h⟩ := blet_e h
    refine z_iinc (lv' := [(2, vi v7), (0, .ref (G.1 + 111)), (1, vi a1)]) C 2 ev7 x_Mo_lay_32 rfl (i_lt rfl) rfl ?_
    refine z_goto (tgt := 2) C x_Mo_lay_35 rfl ?_
    exact z_sub [1, 2, 0] rfl (hR2 a1 v7 M6 h)
theorem zl_Mo_lay_2 (C : Cx p s m args meth c G b_Mo_lay 3 "PrairiePoolModel" none) (hlev : 0 ≤ lev) {r : Int × Mem}  : ∀ (n : Nat) (a1 a2 : Int) (M : Mem), fix (fun _ _ _ => none) (k_Mo_lay_2) n a1 a2 M = some r → Z p l e lev s m args below meth c G 3 (MQ below (Qm G 0 r) args s 0 0 (Ab G)) M 2 [(0, .ref (G.1 + 111)), (1, vi a1), (2, vi a2)] [] := by
  intro n
  induction n with
  | zero => intro a1 a2 M h; exact nomatch (show (none : Res) = some r from h)
  | succ n ih => intro a1 a2 M h; exact z_Mo_lay_2 C hlev ih h
def d_Mo_lay (a1 : Int) (M : Mem) : Res := fix (fun _ _ _ => none) (k_Mo_lay_2) FU a1 3 M
theorem t_Mo_lay (l : Launch) (G : GX) {lev : Nat} (hlev : 0 ≤ lev) {a1 : Int} {M : Mem} {r : Int × Mem} (h : d_Mo_lay a1 M = some r) : Mt l G y_Mo_lay b_Mo_lay 3 none lev 0 [.ref (G.1 + 111), vi a1] M r := by
  refine Mt.of (by decide) (i_le rfl) ?_
  intro p e s m args below meth c C
  have C : Cx p s m args meth c G b_Mo_lay 3 "PrairiePoolModel" none := C
  unfold d_Mo_lay at h
  refine z_sub (lv' := [(0, .ref (G.1 + 111)), (1, vi a1)]) [0, 1] rfl ?_
  refine z_iconst C x_Mo_lay_0 ?_
  refine z_istore_n (lv' := [(2, vi 3), (0, .ref (G.1 + 111)), (1, vi a1)]) C rfl x_Mo_lay_1 (i_lt rfl) rfl ?_
  exact z_sub [1, 2, 0] rfl (zl_Mo_lay_2 C hlev FU a1 3 M h)
theorem x_Mo_feed_0 : DC b_Mo_feed 0 (.aload_n 0) 1 1 := ⟨by decide +kernel, rfl⟩
theorem x_Mo_feed_1 : DC b_Mo_feed 1 (.iconst 0) 1 2 := ⟨by decide +kernel, rfl⟩
theorem x_Mo_feed_2 : DC b_Mo_feed 2 (.putfield 257) 3 5 := ⟨by decide +kernel, rfl⟩
theorem x_Mo_feed_5 : DC b_Mo_feed 5 (.aload_n 0) 1 6 := ⟨by decide +kernel, rfl⟩
theorem x_Mo_feed_6 : DC b_Mo_feed 6 (.getfield 556) 3 9 := ⟨by decide +kernel, rfl⟩
theorem x_Mo_feed_9 : DC b_Mo_feed 9 (.bipush 20) 2 11 := ⟨by decide +kernel, rfl⟩
theorem x_Mo_feed_11 : DC b_Mo_feed 11 (.iadd) 1 12 := ⟨by decide +kernel, rfl⟩
theorem x_Mo_feed_12 : DC b_Mo_feed 12 (.sipush 500) 3 15 := ⟨by decide +kernel, rfl⟩
theorem x_Mo_feed_15 : DC b_Mo_feed 15 (.if_icmp .le 5) 3 18 := ⟨by decide +kernel, rfl⟩
theorem x_Mo_feed_18 : DC b_Mo_feed 18 (.iconst (-1)) 1 19 := ⟨by decide +kernel, rfl⟩
theorem x_Mo_feed_19 : DC b_Mo_feed 19 (.ireturn) 1 20 := ⟨by decide +kernel, rfl⟩
theorem x_Mo_feed_20 : DC b_Mo_feed 20 (.aload_n 0) 1 21 := ⟨by decide +kernel, rfl⟩
theorem x_Mo_feed_21 : DC b_Mo_feed 21 (.iload_n 1) 1 22 := ⟨by decide +kernel, rfl⟩
theorem x_Mo_feed_22 : DC b_Mo_feed 22 (.invokevirtual 559) 3 25 := ⟨by decide +kernel, rfl⟩
theorem x_Mo_feed_25 : DC b_Mo_feed 25 (.aload_n 0) 1 26 := ⟨by decide +kernel, rfl⟩
theorem x_Mo_feed_26 : DC b_Mo_feed 26 (.iload_n 2) 1 27 := ⟨by decide +kernel, rfl⟩
theorem x_Mo_feed_27 : DC b_Mo_feed 27 (.invokevirtual 559) 3 30 := ⟨by decide +kernel, rfl⟩
theorem x_Mo_feed_30 : DC b_Mo_feed 30 (.aload_n 0) 1 31 := ⟨by decide +kernel, rfl⟩
theorem x_Mo_feed_31 : DC b_Mo_feed 31 (.iload_n 3) 1 32 := ⟨by decide +kernel, rfl⟩
theorem x_Mo_feed_32 : DC b_Mo_feed 32 (.invokevirtual 559) 3 35 := ⟨by decide +kernel, rfl⟩
theorem x_Mo_feed_35 : DC b_Mo_feed 35 (.aload_n 0) 1 36 := ⟨by decide +kernel, rfl⟩
theorem x_Mo_feed_36 : DC b_Mo_feed 36 (.iload 4) 2 38 := ⟨by decide +kernel, rfl⟩
theorem x_Mo_feed_38 : DC b_Mo_feed 38 (.invokevirtual 559) 3 41 := ⟨by decide +kernel, rfl⟩
theorem x_Mo_feed_41 : DC b_Mo_feed 41 (.aload_n 0) 1 42 := ⟨by decide +kernel, rfl⟩
theorem x_Mo_feed_42 : DC b_Mo_feed 42 (.iload 5) 2 44 := ⟨by decide +kernel, rfl⟩
theorem x_Mo_feed_44 : DC b_Mo_feed 44 (.invokevirtual 559) 3 47 := ⟨by decide +kernel, rfl⟩
theorem x_Mo_feed_47 : DC b_Mo_feed 47 (.aload_n 0) 1 48 := ⟨by decide +kernel, rfl⟩
theorem x_Mo_feed_48 : DC b_Mo_feed 48 (.getfield 556) 3 51 := ⟨by decide +kernel, rfl⟩
theorem x_Mo_feed_51 : DC b_Mo_feed 51 (.ireturn) 1 52 := ⟨by decide +kernel, rfl⟩
def d_Mo_feed (a1 a2 a3 a4 a5 : Int) (M : Mem) : Res := blet (sto M 111 1 0) fun M1 => blet (M1 111 44) fun v2 => if 500 < w32 (v2 + 20) then (some ((-1), M1)) else (bcall (d_Mo_lay a1 M1) fun v4 M5 => bcall (d_Mo_lay a2 M5) fun v6 M7 => bcall (d_Mo_lay a3 M7) fun v8 M9 => bcall (d_Mo_lay a4 M9) fun v10 M11 => bcall (d_Mo_lay a5 M11) fun v12 M13 => blet (M13 111 44) fun v14 => some (v14, M13))
theorem t_Mo_feed (l : Launch) (G : GX) {lev : Nat} (hlev : 1 ≤ lev) {a1 a2 a3 a4 a5 : Int} {M : Mem} {r : Int × Mem} (h : d_Mo_feed a1 a2 a3 a4 a5 M = some r) : Mt l G y_Mo_feed b_Mo_feed 6 (some .int) lev 1 [.ref (G.1 + 111), vi a1, vi a2, vi a3, vi a4, vi a5] M r := by
  refine Mt.of (by decide) (i_le rfl) ?_
  intro p e s m args below meth c C
  have C : Cx p s m args meth c G b_Mo_feed 6 "PrairiePoolModel" (some .int) := C
  unfold d_Mo_feed at h
  refine z_sub (lv' := [(0, .ref (G.1 + 111)), (1, vi a1), (2, vi a2), (3, vi a3), (4, vi a4), (5, vi a5)]) [0, 1, 2, 3, 4, 5] rfl ?_
  refine z_aload_n C 0 x_Mo_feed_0 rfl ?_
  refine z_iconst C x_Mo_feed_1 ?_
  obtain ⟨M1, eM1, h⟩ := blet_e h
  refine z_putI (j := 1) C x_Mo_feed_2 nk_111 ck_111 cw_12 (i_lt rfl) rfl rfl rfl rfl fl_Mo_257 eM1 ?_
  refine z_aload_n C 0 x_Mo_feed_5 rfl ?_
  obtain ⟨v2, ev2, h⟩ := blet_e h
  refine z_getI (j := 44) C x_Mo_feed_6 nk_111 ck_111 cw_12 (i_lt rfl) rfl rfl fl_Mo_556 ev2 ?_
  refine z_bipush C rfl x_Mo_feed_9 ?_
  refine z_iadd C x_Mo_feed_11 ?_
  refine z_sipush C rfl x_Mo_feed_12 ?_
  rcases ite_e h with ⟨c3, h⟩ | ⟨c3, h⟩
  · refine z_icmp_le_f (tgt := 20) C x_Mo_feed_15 rfl c3 ?_
    refine z_iconst C x_Mo_feed_18 ?_
    exact z_iret C x_Mo_feed_19 h
  · refine z_icmp_le_t (tgt := 20) C x_Mo_feed_15 rfl c3 ?_
    refine z_aload_n C 0 x_Mo_feed_20 rfl ?_
    refine z_iload_n C 1 x_Mo_feed_21 rfl ?_
    obtain ⟨v4, M5, fv4, h⟩ := bcall_e h
    refine z_callVv (k := 111) C x_Mo_feed_22 cv_Mo_559 (t_Mo_lay (lev := lev - 1) l G (by omega) fv4) nk_111 ck_111 rfl (by omega) rfl (i_le rfl) rfl ?_
    refine z_aload_n C 0 x_Mo_feed_25 rfl ?_
    refine z_iload_n C 2 x_Mo_feed_26 rfl ?_
    obtain ⟨v6, M7, fv6, h⟩ := bcall_e h
    refine z_callVv (k := 111) C x_Mo_feed_27 cv_Mo_559 (t_Mo_lay (lev := lev - 1) l G (by omega) fv6) nk_111 ck_111 rfl (by omega) rfl (i_le rfl) rfl ?_
    refine z_aload_n C 0 x_Mo_feed_30 rfl ?_
    refine z_iload_n C 3 x_Mo_feed_31 rfl ?_
    obtain ⟨v8, M9, fv8, h⟩ := bcall_e h
    refine z_callVv (k := 111) C x_Mo_feed_32 cv_Mo_559 (t_Mo_lay (lev := lev - 1) l G (by omega) fv8) nk_111 ck_111 rfl (by omega) rfl (i_le rfl) rfl ?_
    refine z_aload_n C 0 x_Mo_feed_35 rfl ?_
    refine z_iload C 4 x_Mo_feed_36 rfl ?_
    obtain ⟨v10, M11, fv10, h⟩ := bcall_e h
    refine z_callVv (k := 111) C x_Mo_feed_38 cv_Mo_559 (t_Mo_lay (lev := lev - 1) l G (by omega) fv10) nk_111 ck_111 rfl (by omega) rfl (i_le rfl) rfl ?_
    refine z_aload_n C 0 x_Mo_feed_41 rfl ?_
    refine z_iload C 5 x_Mo_feed_42 rfl ?_
    obtain ⟨v12, M13, fv12, h⟩ := bcall_e h
    refine z_callVv (k := 111) C x_Mo_feed_44 cv_Mo_559 (t_Mo_lay (lev := lev - 1) l G (by omega) fv12) nk_111 ck_111 rfl (by omega) rfl (i_le rfl) rfl ?_
    refine z_aload_n C 0 x_Mo_feed_47 rfl ?_
    obtain ⟨v14, ev14, h⟩ := blet_e h
    refine z_getI (j := 44) C x_Mo_feed_48 nk_111 ck_111 cw_12 (i_lt rfl) rfl rfl fl_Mo_556 ev14 ?_
    exact z_iret C x_Mo_feed_51 h
theorem x_Mo_look_0 : DC b_Mo_look 0 (.iload_n 1) 1 1 := ⟨by decide +kernel, rfl⟩
theorem x_Mo_look_1 : DC b_Mo_look 1 (.aload_n 0) 1 2 := ⟨by decide +kernel, rfl⟩
theorem x_Mo_look_2 : DC b_Mo_look 2 (.getfield 410) 3 5 := ⟨by decide +kernel, rfl⟩
theorem x_Mo_look_5 : DC b_Mo_look 5 (.if_icmp .ge 16) 3 8 := ⟨by decide +kernel, rfl⟩
theorem x_Mo_look_8 : DC b_Mo_look 8 (.aload_n 0) 1 9 := ⟨by decide +kernel, rfl⟩
theorem x_Mo_look_9 : DC b_Mo_look 9 (.getfield 113) 3 12 := ⟨by decide +kernel, rfl⟩
theorem x_Mo_look_12 : DC b_Mo_look 12 (.iload_n 1) 1 13 := ⟨by decide +kernel, rfl⟩
theorem x_Mo_look_13 : DC b_Mo_look 13 (.baload) 1 14 := ⟨by decide +kernel, rfl⟩
theorem x_Mo_look_14 : DC b_Mo_look 14 (.sipush 255) 3 17 := ⟨by decide +kernel, rfl⟩
theorem x_Mo_look_17 : DC b_Mo_look 17 (.iand) 1 18 := ⟨by decide +kernel, rfl⟩
theorem x_Mo_look_18 : DC b_Mo_look 18 (.goto 4) 3 21 := ⟨by decide +kernel, rfl⟩
theorem x_Mo_look_21 : DC b_Mo_look 21 (.iconst 0) 1 22 := ⟨by decide +kernel, rfl⟩
theorem x_Mo_look_22 : DC b_Mo_look 22 (.ireturn) 1 23 := ⟨by decide +kernel, rfl⟩
def d_Mo_look (a1 : Int) (M : Mem) : Res := blet (M 111 45) fun v1 => if w32 a1 < w32 v1 then (chk (0 ≤ w32 a1 ∧ w32 a1 < 500) <| blet (w8 (M 146 (ix a1))) fun v4 => some (an32 v4 255, M)) else (some (0, M))
theorem t_Mo_look (l : Launch) (G : GX) {lev : Nat} (hlev : 0 ≤ lev) {a1 : Int} {M : Mem} {r : Int × Mem} (h : d_Mo_look a1 M = some r) : Mt l G y_Mo_look b_Mo_look 2 (some .int) lev 1 [.ref (G.1 + 111), vi a1] M r := by
  refine Mt.of (by decide) (i_le rfl) ?_
  intro p e s m args below meth c C
  have C : Cx p s m args meth c G b_Mo_look 2 "PrairiePoolModel" (some .int) := C
  unfold d_Mo_look at h
  refine z_sub (lv' := [(0, .ref (G.1 + 111)), (1, vi a1)]) [0, 1] rfl ?_
  refine z_iload_n C 1 x_Mo_look_0 rfl ?_
  refine z_aload_n C 0 x_Mo_look_1 rfl ?_
  obtain ⟨v1, ev1, h⟩ := blet_e h
  refine z_getI (j := 45) C x_Mo_look_2 nk_111 ck_111 cw_12 (i_lt rfl) rfl rfl fl_Mo_410 ev1 ?_
  rcases ite_e h with ⟨c2, h⟩ | ⟨c2, h⟩
  · refine z_icmp_ge_f (tgt := 21) C x_Mo_look_5 rfl c2 ?_
    refine z_aload_n C 0 x_Mo_look_8 rfl ?_
    refine z_getR (j := 43) C x_Mo_look_9 nk_111 ck_111 cw_12 (i_lt rfl) rfl rf_111_43 rfl fl_Mo_113 ?_
    refine z_iload_n C 1 x_Mo_look_12 rfl ?_
    obtain ⟨c3, h⟩ := chk_e h
    obtain ⟨v4, ev4, h⟩ := blet_e h
    refine z_bald C x_Mo_look_13 nk_146 ck_146 c3 ev4 ?_
    refine z_sipush C rfl x_Mo_look_14 ?_
    refine z_iand C x_Mo_look_17 ?_
    refine z_goto (tgt := 22) C x_Mo_look_18 rfl ?_
    exact z_iret C x_Mo_look_22 h
  · refine z_icmp_ge_t (tgt := 21) C x_Mo_look_5 rfl c2 ?_
    refine z_iconst C x_Mo_look_21 ?_
    exact z_iret C x_Mo_look_22 h
theorem x_Mo_isLetter_0 : DC b_Mo_isLetter 0 (.iload_n 0) 1 1 := ⟨by decide +kernel, rfl⟩
theorem x_Mo_isLetter_1 : DC b_Mo_isLetter 1 (.bipush 97) 2 3 := ⟨by decide +kernel, rfl⟩
theorem x_Mo_isLetter_3 : DC b_Mo_isLetter 3 (.if_icmp .lt 13) 3 6 := ⟨by decide +kernel, rfl⟩
theorem x_Mo_isLetter_6 : DC b_Mo_isLetter 6 (.iload_n 0) 1 7 := ⟨by decide +kernel, rfl⟩
theorem x_Mo_isLetter_7 : DC b_Mo_isLetter 7 (.bipush 122) 2 9 := ⟨by decide +kernel, rfl⟩
theorem x_Mo_isLetter_9 : DC b_Mo_isLetter 9 (.if_icmp .gt 7) 3 12 := ⟨by decide +kernel, rfl⟩
theorem x_Mo_isLetter_12 : DC b_Mo_isLetter 12 (.iconst 1) 1 13 := ⟨by decide +kernel, rfl⟩
theorem x_Mo_isLetter_13 : DC b_Mo_isLetter 13 (.goto 4) 3 16 := ⟨by decide +kernel, rfl⟩
theorem x_Mo_isLetter_16 : DC b_Mo_isLetter 16 (.iconst 0) 1 17 := ⟨by decide +kernel, rfl⟩
theorem x_Mo_isLetter_17 : DC b_Mo_isLetter 17 (.ireturn) 1 18 := ⟨by decide +kernel, rfl⟩
def d_Mo_isLetter (a0 : Int) (M : Mem) : Res := if w32 a0 < 97 then (some (0, M)) else (if 122 < w32 a0 then (some (0, M)) else (some (1, M)))
theorem t_Mo_isLetter (l : Launch) (G : GX) {lev : Nat} (hlev : 0 ≤ lev) {a0 : Int} {M : Mem} {r : Int × Mem} (h : d_Mo_isLetter a0 M = some r) : Mt l G y_Mo_isLetter b_Mo_isLetter 1 (some .boolean) lev 1 [vi a0] M r := by
  refine Mt.of (by decide) (i_le rfl) ?_
  intro p e s m args below meth c C
  have C : Cx p s m args meth c G b_Mo_isLetter 1 "PrairiePoolModel" (some .boolean) := C
  unfold d_Mo_isLetter at h
  refine z_sub (lv' := [(0, vi a0)]) [0] rfl ?_
  refine z_iload_n C 0 x_Mo_isLetter_0 rfl ?_
  refine z_bipush C rfl x_Mo_isLetter_1 ?_
  rcases ite_e h with ⟨c1, h⟩ | ⟨c1, h⟩
  · refine z_icmp_lt_t (tgt := 16) C x_Mo_isLetter_3 rfl c1 ?_
    refine z_iconst C x_Mo_isLetter_16 ?_
    exact z_zret C x_Mo_isLetter_17 (by decide) h
  · refine z_icmp_lt_f (tgt := 16) C x_Mo_isLetter_3 rfl c1 ?_
    refine z_iload_n C 0 x_Mo_isLetter_6 rfl ?_
    refine z_bipush C rfl x_Mo_isLetter_7 ?_
    rcases ite_e h with ⟨c2, h⟩ | ⟨c2, h⟩
    · refine z_icmp_gt_t (tgt := 16) C x_Mo_isLetter_9 rfl c2 ?_
      refine z_iconst C x_Mo_isLetter_16 ?_
      exact z_zret C x_Mo_isLetter_17 (by decide) h
    · refine z_icmp_gt_f (tgt := 16) C x_Mo_isLetter_9 rfl c2 ?_
      refine z_iconst C x_Mo_isLetter_12 ?_
      refine z_goto (tgt := 17) C x_Mo_isLetter_13 rfl ?_
      exact z_zret C x_Mo_isLetter_17 (by decide) h
theorem x_Mo_isDigit_0 : DC b_Mo_isDigit 0 (.iload_n 0) 1 1 := ⟨by decide +kernel, rfl⟩
theorem x_Mo_isDigit_1 : DC b_Mo_isDigit 1 (.bipush 48) 2 3 := ⟨by decide +kernel, rfl⟩
theorem x_Mo_isDigit_3 : DC b_Mo_isDigit 3 (.if_icmp .lt 13) 3 6 := ⟨by decide +kernel, rfl⟩
theorem x_Mo_isDigit_6 : DC b_Mo_isDigit 6 (.iload_n 0) 1 7 := ⟨by decide +kernel, rfl⟩
theorem x_Mo_isDigit_7 : DC b_Mo_isDigit 7 (.bipush 57) 2 9 := ⟨by decide +kernel, rfl⟩
theorem x_Mo_isDigit_9 : DC b_Mo_isDigit 9 (.if_icmp .gt 7) 3 12 := ⟨by decide +kernel, rfl⟩
theorem x_Mo_isDigit_12 : DC b_Mo_isDigit 12 (.iconst 1) 1 13 := ⟨by decide +kernel, rfl⟩
theorem x_Mo_isDigit_13 : DC b_Mo_isDigit 13 (.goto 4) 3 16 := ⟨by decide +kernel, rfl⟩
theorem x_Mo_isDigit_16 : DC b_Mo_isDigit 16 (.iconst 0) 1 17 := ⟨by decide +kernel, rfl⟩
theorem x_Mo_isDigit_17 : DC b_Mo_isDigit 17 (.ireturn) 1 18 := ⟨by decide +kernel, rfl⟩
def d_Mo_isDigit (a0 : Int) (M : Mem) : Res := if w32 a0 < 48 then (some (0, M)) else (if 57 < w32 a0 then (some (0, M)) else (some (1, M)))
theorem t_Mo_isDigit (l : Launch) (G : GX) {lev : Nat} (hlev : 0 ≤ lev) {a0 : Int} {M : Mem} {r : Int × Mem} (h : d_Mo_isDigit a0 M = some r) : Mt l G y_Mo_isDigit b_Mo_isDigit 1 (some .boolean) lev 1 [vi a0] M r := by
  refine Mt.of (by decide) (i_le rfl) ?_
  intro p e s m args below meth c C
  have C : Cx p s m args meth c G b_Mo_isDigit 1 "PrairiePoolModel" (some .boolean) := C
  unfold d_Mo_isDigit at h
  refine z_sub (lv' := [(0, vi a0)]) [0] rfl ?_
  refine z_iload_n C 0 x_Mo_isDigit_0 rfl ?_
  refine z_bipush C rfl x_Mo_isDigit_1 ?_
  rcases ite_e h with ⟨c1, h⟩ | ⟨c1, h⟩
  · refine z_icmp_lt_t (tgt := 16) C x_Mo_isDigit_3 rfl c1 ?_
    refine z_iconst C x_Mo_isDigit_16 ?_
    exact z_zret C x_Mo_isDigit_17 (by decide) h
  · refine z_icmp_lt_f (tgt := 16) C x_Mo_isDigit_3 rfl c1 ?_
    refine z_iload_n C 0 x_Mo_isDigit_6 rfl ?_
    refine z_bipush C rfl x_Mo_isDigit_7 ?_
    rcases ite_e h with ⟨c2, h⟩ | ⟨c2, h⟩
    · refine z_icmp_gt_t (tgt := 16) C x_Mo_isDigit_9 rfl c2 ?_
      refine z_iconst C x_Mo_isDigit_16 ?_
      exact z_zret C x_Mo_isDigit_17 (by decide) h
    · refine z_icmp_gt_f (tgt := 16) C x_Mo_isDigit_9 rfl c2 ?_
      refine z_iconst C x_Mo_isDigit_12 ?_
      refine z_goto (tgt := 17) C x_Mo_isDigit_13 rfl ?_
      exact z_zret C x_Mo_isDigit_17 (by decide) h
theorem x_Mo_next_0 : DC b_Mo_next 0 (.aload_n 0) 1 1 := ⟨by decide +kernel, rfl⟩
theorem x_Mo_next_1 : DC b_Mo_next 1 (.aload_n 0) 1 2 := ⟨by decide +kernel, rfl⟩
theorem x_Mo_next_2 : DC b_Mo_next 2 (.getfield 413) 3 5 := ⟨by decide +kernel, rfl⟩
theorem x_Mo_next_5 : DC b_Mo_next 5 (.putfield 416) 3 8 := ⟨by decide +kernel, rfl⟩
theorem x_Mo_next_8 : DC b_Mo_next 8 (.aload_n 0) 1 9 := ⟨by decide +kernel, rfl⟩
theorem x_Mo_next_9 : DC b_Mo_next 9 (.getfield 416) 3 12 := ⟨by decide +kernel, rfl⟩
theorem x_Mo_next_12 : DC b_Mo_next 12 (.aload_n 0) 1 13 := ⟨by decide +kernel, rfl⟩
theorem x_Mo_next_13 : DC b_Mo_next 13 (.getfield 410) 3 16 := ⟨by decide +kernel, rfl⟩
theorem x_Mo_next_16 : DC b_Mo_next 16 (.if_icmp .ge 42) 3 19 := ⟨by decide +kernel, rfl⟩
theorem x_Mo_next_19 : DC b_Mo_next 19 (.aload_n 0) 1 20 := ⟨by decide +kernel, rfl⟩
theorem x_Mo_next_20 : DC b_Mo_next 20 (.aload_n 0) 1 21 := ⟨by decide +kernel, rfl⟩
theorem x_Mo_next_21 : DC b_Mo_next 21 (.getfield 416) 3 24 := ⟨by decide +kernel, rfl⟩
theorem x_Mo_next_24 : DC b_Mo_next 24 (.invokevirtual 419) 3 27 := ⟨by decide +kernel, rfl⟩
theorem x_Mo_next_27 : DC b_Mo_next 27 (.bipush 10) 2 29 := ⟨by decide +kernel, rfl⟩
theorem x_Mo_next_29 : DC b_Mo_next 29 (.if_icmp .eq 16) 3 32 := ⟨by decide +kernel, rfl⟩
theorem x_Mo_next_32 : DC b_Mo_next 32 (.aload_n 0) 1 33 := ⟨by decide +kernel, rfl⟩
theorem x_Mo_next_33 : DC b_Mo_next 33 (.aload_n 0) 1 34 := ⟨by decide +kernel, rfl⟩
theorem x_Mo_next_34 : DC b_Mo_next 34 (.getfield 416) 3 37 := ⟨by decide +kernel, rfl⟩
theorem x_Mo_next_37 : DC b_Mo_next 37 (.invokevirtual 419) 3 40 := ⟨by decide +kernel, rfl⟩
theorem x_Mo_next_40 : DC b_Mo_next 40 (.bipush 32) 2 42 := ⟨by decide +kernel, rfl⟩
theorem x_Mo_next_42 : DC b_Mo_next 42 (.if_icmp .ne 16) 3 45 := ⟨by decide +kernel, rfl⟩
theorem x_Mo_next_45 : DC b_Mo_next 45 (.aload_n 0) 1 46 := ⟨by decide +kernel, rfl⟩
theorem x_Mo_next_46 : DC b_Mo_next 46 (.dup) 1 47 := ⟨by decide +kernel, rfl⟩
theorem x_Mo_next_47 : DC b_Mo_next 47 (.getfield 416) 3 50 := ⟨by decide +kernel, rfl⟩
theorem x_Mo_next_50 : DC b_Mo_next 50 (.iconst 1) 1 51 := ⟨by decide +kernel, rfl⟩
theorem x_Mo_next_51 : DC b_Mo_next 51 (.iadd) 1 52 := ⟨by decide +kernel, rfl⟩
theorem x_Mo_next_52 : DC b_Mo_next 52 (.putfield 416) 3 55 := ⟨by decide +kernel, rfl⟩
theorem x_Mo_next_55 : DC b_Mo_next 55 (.goto (-47)) 3 58 := ⟨by decide +kernel, rfl⟩
theorem x_Mo_next_58 : DC b_Mo_next 58 (.aload_n 0) 1 59 := ⟨by decide +kernel, rfl⟩
theorem x_Mo_next_59 : DC b_Mo_next 59 (.aload_n 0) 1 60 := ⟨by decide +kernel, rfl⟩
theorem x_Mo_next_60 : DC b_Mo_next 60 (.getfield 416) 3 63 := ⟨by decide +kernel, rfl⟩
theorem x_Mo_next_63 : DC b_Mo_next 63 (.putfield 413) 3 66 := ⟨by decide +kernel, rfl⟩
theorem x_Mo_next_66 : DC b_Mo_next 66 (.aload_n 0) 1 67 := ⟨by decide +kernel, rfl⟩
theorem x_Mo_next_67 : DC b_Mo_next 67 (.getfield 416) 3 70 := ⟨by decide +kernel, rfl⟩
theorem x_Mo_next_70 : DC b_Mo_next 70 (.aload_n 0) 1 71 := ⟨by decide +kernel, rfl⟩
theorem x_Mo_next_71 : DC b_Mo_next 71 (.getfield 410) 3 74 := ⟨by decide +kernel, rfl⟩
theorem x_Mo_next_74 : DC b_Mo_next 74 (.if_icmp .lt 9) 3 77 := ⟨by decide +kernel, rfl⟩
theorem x_Mo_next_77 : DC b_Mo_next 77 (.aload_n 0) 1 78 := ⟨by decide +kernel, rfl⟩
theorem x_Mo_next_78 : DC b_Mo_next 78 (.iconst 0) 1 79 := ⟨by decide +kernel, rfl⟩
theorem x_Mo_next_79 : DC b_Mo_next 79 (.putfield 422) 3 82 := ⟨by decide +kernel, rfl⟩
theorem x_Mo_next_82 : DC b_Mo_next 82 (.return_) 1 83 := ⟨by decide +kernel, rfl⟩
theorem x_Mo_next_83 : DC b_Mo_next 83 (.aload_n 0) 1 84 := ⟨by decide +kernel, rfl⟩
theorem x_Mo_next_84 : DC b_Mo_next 84 (.aload_n 0) 1 85 := ⟨by decide +kernel, rfl⟩
theorem x_Mo_next_85 : DC b_Mo_next 85 (.getfield 416) 3 88 := ⟨by decide +kernel, rfl⟩
theorem x_Mo_next_88 : DC b_Mo_next 88 (.invokevirtual 419) 3 91 := ⟨by decide +kernel, rfl⟩
theorem x_Mo_next_91 : DC b_Mo_next 91 (.istore_n 1) 1 92 := ⟨by decide +kernel, rfl⟩
theorem x_Mo_next_92 : DC b_Mo_next 92 (.iload_n 1) 1 93 := ⟨by decide +kernel, rfl⟩
theorem x_Mo_next_93 : DC b_Mo_next 93 (.invokestatic 425) 3 96 := ⟨by decide +kernel, rfl⟩
theorem x_Mo_next_96 : DC b_Mo_next 96 (.ifCond .eq 102) 3 99 := ⟨by decide +kernel, rfl⟩
theorem x_Mo_next_99 : DC b_Mo_next 99 (.aload_n 0) 1 100 := ⟨by decide +kernel, rfl⟩
theorem x_Mo_next_100 : DC b_Mo_next 100 (.iconst 1) 1 101 := ⟨by decide +kernel, rfl⟩
theorem x_Mo_next_101 : DC b_Mo_next 101 (.putfield 422) 3 104 := ⟨by decide +kernel, rfl⟩
theorem x_Mo_next_104 : DC b_Mo_next 104 (.aload_n 0) 1 105 := ⟨by decide +kernel, rfl⟩
theorem x_Mo_next_105 : DC b_Mo_next 105 (.lconst 0) 1 106 := ⟨by decide +kernel, rfl⟩
theorem x_Mo_next_106 : DC b_Mo_next 106 (.putfield 428) 3 109 := ⟨by decide +kernel, rfl⟩
theorem x_Mo_next_109 : DC b_Mo_next 109 (.aload_n 0) 1 110 := ⟨by decide +kernel, rfl⟩
theorem x_Mo_next_110 : DC b_Mo_next 110 (.aload_n 0) 1 111 := ⟨by decide +kernel, rfl⟩
theorem x_Mo_next_111 : DC b_Mo_next 111 (.getfield 413) 3 114 := ⟨by decide +kernel, rfl⟩
theorem x_Mo_next_114 : DC b_Mo_next 114 (.invokevirtual 419) 3 117 := ⟨by decide +kernel, rfl⟩
theorem x_Mo_next_117 : DC b_Mo_next 117 (.invokestatic 425) 3 120 := ⟨by decide +kernel, rfl⟩
theorem x_Mo_next_120 : DC b_Mo_next 120 (.ifCond .eq 62) 3 123 := ⟨by decide +kernel, rfl⟩
theorem x_Mo_next_123 : DC b_Mo_next 123 (.aload_n 0) 1 124 := ⟨by decide +kernel, rfl⟩
theorem x_Mo_next_124 : DC b_Mo_next 124 (.aload_n 0) 1 125 := ⟨by decide +kernel, rfl⟩
theorem x_Mo_next_125 : DC b_Mo_next 125 (.getfield 413) 3 128 := ⟨by decide +kernel, rfl⟩
theorem x_Mo_next_128 : DC b_Mo_next 128 (.aload_n 0) 1 129 := ⟨by decide +kernel, rfl⟩
theorem x_Mo_next_129 : DC b_Mo_next 129 (.getfield 416) 3 132 := ⟨by decide +kernel, rfl⟩
theorem x_Mo_next_132 : DC b_Mo_next 132 (.isub) 1 133 := ⟨by decide +kernel, rfl⟩
theorem x_Mo_next_133 : DC b_Mo_next 133 (.bipush 12) 2 135 := ⟨by decide +kernel, rfl⟩
theorem x_Mo_next_135 : DC b_Mo_next 135 (.if_icmp .ge 28) 3 138 := ⟨by decide +kernel, rfl⟩
theorem x_Mo_next_138 : DC b_Mo_next 138 (.aload_n 0) 1 139 := ⟨by decide +kernel, rfl⟩
theorem x_Mo_next_139 : DC b_Mo_next 139 (.getfield 428) 3 142 := ⟨by decide +kernel, rfl⟩
theorem x_Mo_next_142 : DC b_Mo_next 142 (.ldc2_w 432) 3 145 := ⟨by decide +kernel, rfl⟩
theorem x_Mo_next_145 : DC b_Mo_next 145 (.lmul) 1 146 := ⟨by decide +kernel, rfl⟩
theorem x_Mo_next_146 : DC b_Mo_next 146 (.aload_n 0) 1 147 := ⟨by decide +kernel, rfl⟩
theorem x_Mo_next_147 : DC b_Mo_next 147 (.aload_n 0) 1 148 := ⟨by decide +kernel, rfl⟩
theorem x_Mo_next_148 : DC b_Mo_next 148 (.getfield 413) 3 151 := ⟨by decide +kernel, rfl⟩
theorem x_Mo_next_151 : DC b_Mo_next 151 (.invokevirtual 419) 3 154 := ⟨by decide +kernel, rfl⟩
theorem x_Mo_next_154 : DC b_Mo_next 154 (.i2l) 1 155 := ⟨by decide +kernel, rfl⟩
theorem x_Mo_next_155 : DC b_Mo_next 155 (.ladd) 1 156 := ⟨by decide +kernel, rfl⟩
theorem x_Mo_next_156 : DC b_Mo_next 156 (.ldc2_w 434) 3 159 := ⟨by decide +kernel, rfl⟩
theorem x_Mo_next_159 : DC b_Mo_next 159 (.lsub) 1 160 := ⟨by decide +kernel, rfl⟩
theorem x_Mo_next_160 : DC b_Mo_next 160 (.goto 6) 3 163 := ⟨by decide +kernel, rfl⟩
theorem x_Mo_next_163 : DC b_Mo_next 163 (.ldc2_w 289) 3 166 := ⟨by decide +kernel, rfl⟩
theorem x_Mo_next_166 : DC b_Mo_next 166 (.putfield 428) 3 169 := ⟨by decide +kernel, rfl⟩
theorem x_Mo_next_169 : DC b_Mo_next 169 (.aload_n 0) 1 170 := ⟨by decide +kernel, rfl⟩
theorem x_Mo_next_170 : DC b_Mo_next 170 (.dup) 1 171 := ⟨by decide +kernel, rfl⟩
theorem x_Mo_next_171 : DC b_Mo_next 171 (.getfield 413) 3 174 := ⟨by decide +kernel, rfl⟩
theorem x_Mo_next_174 : DC b_Mo_next 174 (.iconst 1) 1 175 := ⟨by decide +kernel, rfl⟩
theorem x_Mo_next_175 : DC b_Mo_next 175 (.iadd) 1 176 := ⟨by decide +kernel, rfl⟩
theorem x_Mo_next_176 : DC b_Mo_next 176 (.putfield 413) 3 179 := ⟨by decide +kernel, rfl⟩
theorem x_Mo_next_179 : DC b_Mo_next 179 (.goto (-70)) 3 182 := ⟨by decide +kernel, rfl⟩
theorem x_Mo_next_182 : DC b_Mo_next 182 (.aload_n 0) 1 183 := ⟨by decide +kernel, rfl⟩
theorem x_Mo_next_183 : DC b_Mo_next 183 (.aload_n 0) 1 184 := ⟨by decide +kernel, rfl⟩
theorem x_Mo_next_184 : DC b_Mo_next 184 (.getfield 413) 3 187 := ⟨by decide +kernel, rfl⟩
theorem x_Mo_next_187 : DC b_Mo_next 187 (.aload_n 0) 1 188 := ⟨by decide +kernel, rfl⟩
theorem x_Mo_next_188 : DC b_Mo_next 188 (.getfield 416) 3 191 := ⟨by decide +kernel, rfl⟩
theorem x_Mo_next_191 : DC b_Mo_next 191 (.isub) 1 192 := ⟨by decide +kernel, rfl⟩
theorem x_Mo_next_192 : DC b_Mo_next 192 (.putfield 436) 3 195 := ⟨by decide +kernel, rfl⟩
theorem x_Mo_next_195 : DC b_Mo_next 195 (.goto 169) 3 198 := ⟨by decide +kernel, rfl⟩
theorem x_Mo_next_198 : DC b_Mo_next 198 (.iload_n 1) 1 199 := ⟨by decide +kernel, rfl⟩
theorem x_Mo_next_199 : DC b_Mo_next 199 (.invokestatic 439) 3 202 := ⟨by decide +kernel, rfl⟩
theorem x_Mo_next_202 : DC b_Mo_next 202 (.ifCond .eq 98) 3 205 := ⟨by decide +kernel, rfl⟩
theorem x_Mo_next_205 : DC b_Mo_next 205 (.aload_n 0) 1 206 := ⟨by decide +kernel, rfl⟩
theorem x_Mo_next_206 : DC b_Mo_next 206 (.iconst 0) 1 207 := ⟨by decide +kernel, rfl⟩
theorem x_Mo_next_207 : DC b_Mo_next 207 (.putfield 442) 3 210 := ⟨by decide +kernel, rfl⟩
theorem x_Mo_next_210 : DC b_Mo_next 210 (.aload_n 0) 1 211 := ⟨by decide +kernel, rfl⟩
theorem x_Mo_next_211 : DC b_Mo_next 211 (.aload_n 0) 1 212 := ⟨by decide +kernel, rfl⟩
theorem x_Mo_next_212 : DC b_Mo_next 212 (.getfield 413) 3 215 := ⟨by decide +kernel, rfl⟩
theorem x_Mo_next_215 : DC b_Mo_next 215 (.invokevirtual 419) 3 218 := ⟨by decide +kernel, rfl⟩
theorem x_Mo_next_218 : DC b_Mo_next 218 (.invokestatic 439) 3 221 := ⟨by decide +kernel, rfl⟩
theorem x_Mo_next_221 : DC b_Mo_next 221 (.ifCond .eq 53) 3 224 := ⟨by decide +kernel, rfl⟩
theorem x_Mo_next_224 : DC b_Mo_next 224 (.aload_n 0) 1 225 := ⟨by decide +kernel, rfl⟩
theorem x_Mo_next_225 : DC b_Mo_next 225 (.getfield 413) 3 228 := ⟨by decide +kernel, rfl⟩
theorem x_Mo_next_228 : DC b_Mo_next 228 (.aload_n 0) 1 229 := ⟨by decide +kernel, rfl⟩
theorem x_Mo_next_229 : DC b_Mo_next 229 (.getfield 416) 3 232 := ⟨by decide +kernel, rfl⟩
theorem x_Mo_next_232 : DC b_Mo_next 232 (.isub) 1 233 := ⟨by decide +kernel, rfl⟩
theorem x_Mo_next_233 : DC b_Mo_next 233 (.bipush 6) 2 235 := ⟨by decide +kernel, rfl⟩
theorem x_Mo_next_235 : DC b_Mo_next 235 (.if_icmp .ge 26) 3 238 := ⟨by decide +kernel, rfl⟩
theorem x_Mo_next_238 : DC b_Mo_next 238 (.aload_n 0) 1 239 := ⟨by decide +kernel, rfl⟩
theorem x_Mo_next_239 : DC b_Mo_next 239 (.bipush 10) 2 241 := ⟨by decide +kernel, rfl⟩
theorem x_Mo_next_241 : DC b_Mo_next 241 (.aload_n 0) 1 242 := ⟨by decide +kernel, rfl⟩
theorem x_Mo_next_242 : DC b_Mo_next 242 (.getfield 442) 3 245 := ⟨by decide +kernel, rfl⟩
theorem x_Mo_next_245 : DC b_Mo_next 245 (.imul) 1 246 := ⟨by decide +kernel, rfl⟩
theorem x_Mo_next_246 : DC b_Mo_next 246 (.aload_n 0) 1 247 := ⟨by decide +kernel, rfl⟩
theorem x_Mo_next_247 : DC b_Mo_next 247 (.aload_n 0) 1 248 := ⟨by decide +kernel, rfl⟩
theorem x_Mo_next_248 : DC b_Mo_next 248 (.getfield 413) 3 251 := ⟨by decide +kernel, rfl⟩
theorem x_Mo_next_251 : DC b_Mo_next 251 (.invokevirtual 419) 3 254 := ⟨by decide +kernel, rfl⟩
theorem x_Mo_next_254 : DC b_Mo_next 254 (.iadd) 1 255 := ⟨by decide +kernel, rfl⟩
theorem x_Mo_next_255 : DC b_Mo_next 255 (.bipush 48) 2 257 := ⟨by decide +kernel, rfl⟩
theorem x_Mo_next_257 : DC b_Mo_next 257 (.isub) 1 258 := ⟨by decide +kernel, rfl⟩
theorem x_Mo_next_258 : DC b_Mo_next 258 (.putfield 442) 3 261 := ⟨by decide +kernel, rfl⟩
theorem x_Mo_next_261 : DC b_Mo_next 261 (.aload_n 0) 1 262 := ⟨by decide +kernel, rfl⟩
theorem x_Mo_next_262 : DC b_Mo_next 262 (.dup) 1 263 := ⟨by decide +kernel, rfl⟩
theorem x_Mo_next_263 : DC b_Mo_next 263 (.getfield 413) 3 266 := ⟨by decide +kernel, rfl⟩
theorem x_Mo_next_266 : DC b_Mo_next 266 (.iconst 1) 1 267 := ⟨by decide +kernel, rfl⟩
theorem x_Mo_next_267 : DC b_Mo_next 267 (.iadd) 1 268 := ⟨by decide +kernel, rfl⟩
theorem x_Mo_next_268 : DC b_Mo_next 268 (.putfield 413) 3 271 := ⟨by decide +kernel, rfl⟩
theorem x_Mo_next_271 : DC b_Mo_next 271 (.goto (-61)) 3 274 := ⟨by decide +kernel, rfl⟩
theorem x_Mo_next_274 : DC b_Mo_next 274 (.aload_n 0) 1 275 := ⟨by decide +kernel, rfl⟩
theorem x_Mo_next_275 : DC b_Mo_next 275 (.aload_n 0) 1 276 := ⟨by decide +kernel, rfl⟩
theorem x_Mo_next_276 : DC b_Mo_next 276 (.getfield 413) 3 279 := ⟨by decide +kernel, rfl⟩
theorem x_Mo_next_279 : DC b_Mo_next 279 (.aload_n 0) 1 280 := ⟨by decide +kernel, rfl⟩
theorem x_Mo_next_280 : DC b_Mo_next 280 (.getfield 416) 3 283 := ⟨by decide +kernel, rfl⟩
theorem x_Mo_next_283 : DC b_Mo_next 283 (.isub) 1 284 := ⟨by decide +kernel, rfl⟩
theorem x_Mo_next_284 : DC b_Mo_next 284 (.bipush 6) 2 286 := ⟨by decide +kernel, rfl⟩
theorem x_Mo_next_286 : DC b_Mo_next 286 (.if_icmp .le 7) 3 289 := ⟨by decide +kernel, rfl⟩
theorem x_Mo_next_289 : DC b_Mo_next 289 (.iconst 4) 1 290 := ⟨by decide +kernel, rfl⟩
theorem x_Mo_next_290 : DC b_Mo_next 290 (.goto 4) 3 293 := ⟨by decide +kernel, rfl⟩
theorem x_Mo_next_293 : DC b_Mo_next 293 (.iconst 2) 1 294 := ⟨by decide +kernel, rfl⟩
theorem x_Mo_next_294 : DC b_Mo_next 294 (.putfield 422) 3 297 := ⟨by decide +kernel, rfl⟩
theorem x_Mo_next_297 : DC b_Mo_next 297 (.goto 67) 3 300 := ⟨by decide +kernel, rfl⟩
theorem x_Mo_next_300 : DC b_Mo_next 300 (.aload_n 0) 1 301 := ⟨by decide +kernel, rfl⟩
theorem x_Mo_next_301 : DC b_Mo_next 301 (.aload_n 0) 1 302 := ⟨by decide +kernel, rfl⟩
theorem x_Mo_next_302 : DC b_Mo_next 302 (.getfield 416) 3 305 := ⟨by decide +kernel, rfl⟩
theorem x_Mo_next_305 : DC b_Mo_next 305 (.iconst 1) 1 306 := ⟨by decide +kernel, rfl⟩
theorem x_Mo_next_306 : DC b_Mo_next 306 (.iadd) 1 307 := ⟨by decide +kernel, rfl⟩
theorem x_Mo_next_307 : DC b_Mo_next 307 (.putfield 413) 3 310 := ⟨by decide +kernel, rfl⟩
theorem x_Mo_next_310 : DC b_Mo_next 310 (.aload_n 0) 1 311 := ⟨by decide +kernel, rfl⟩
theorem x_Mo_next_311 : DC b_Mo_next 311 (.iload_n 1) 1 312 := ⟨by decide +kernel, rfl⟩
theorem x_Mo_next_312 : DC b_Mo_next 312 (.putfield 442) 3 315 := ⟨by decide +kernel, rfl⟩
theorem x_Mo_next_315 : DC b_Mo_next 315 (.aload_n 0) 1 316 := ⟨by decide +kernel, rfl⟩
theorem x_Mo_next_316 : DC b_Mo_next 316 (.iload_n 1) 1 317 := ⟨by decide +kernel, rfl⟩
theorem x_Mo_next_317 : DC b_Mo_next 317 (.i2l) 1 318 := ⟨by decide +kernel, rfl⟩
theorem x_Mo_next_318 : DC b_Mo_next 318 (.ldc2_w 445) 3 321 := ⟨by decide +kernel, rfl⟩
theorem x_Mo_next_321 : DC b_Mo_next 321 (.ldc2_w 447) 3 324 := ⟨by decide +kernel, rfl⟩
theorem x_Mo_next_324 : DC b_Mo_next 324 (.invokestatic 265) 3 327 := ⟨by decide +kernel, rfl⟩
theorem x_Mo_next_327 : DC b_Mo_next 327 (.ifCond .ne 29) 3 330 := ⟨by decide +kernel, rfl⟩
theorem x_Mo_next_330 : DC b_Mo_next 330 (.iload_n 1) 1 331 := ⟨by decide +kernel, rfl⟩
theorem x_Mo_next_331 : DC b_Mo_next 331 (.i2l) 1 332 := ⟨by decide +kernel, rfl⟩
theorem x_Mo_next_332 : DC b_Mo_next 332 (.ldc2_w 449) 3 335 := ⟨by decide +kernel, rfl⟩
theorem x_Mo_next_335 : DC b_Mo_next 335 (.ldc2_w 451) 3 338 := ⟨by decide +kernel, rfl⟩
theorem x_Mo_next_338 : DC b_Mo_next 338 (.invokestatic 265) 3 341 := ⟨by decide +kernel, rfl⟩
theorem x_Mo_next_341 : DC b_Mo_next 341 (.ifCond .ne 15) 3 344 := ⟨by decide +kernel, rfl⟩
theorem x_Mo_next_344 : DC b_Mo_next 344 (.iload_n 1) 1 345 := ⟨by decide +kernel, rfl⟩
theorem x_Mo_next_345 : DC b_Mo_next 345 (.bipush 47) 2 347 := ⟨by decide +kernel, rfl⟩
theorem x_Mo_next_347 : DC b_Mo_next 347 (.if_icmp .eq 9) 3 350 := ⟨by decide +kernel, rfl⟩
theorem x_Mo_next_350 : DC b_Mo_next 350 (.iload_n 1) 1 351 := ⟨by decide +kernel, rfl⟩
theorem x_Mo_next_351 : DC b_Mo_next 351 (.bipush 37) 2 353 := ⟨by decide +kernel, rfl⟩
theorem x_Mo_next_353 : DC b_Mo_next 353 (.if_icmp .ne 7) 3 356 := ⟨by decide +kernel, rfl⟩
theorem x_Mo_next_356 : DC b_Mo_next 356 (.iconst 3) 1 357 := ⟨by decide +kernel, rfl⟩
theorem x_Mo_next_357 : DC b_Mo_next 357 (.goto 4) 3 360 := ⟨by decide +kernel, rfl⟩
theorem x_Mo_next_360 : DC b_Mo_next 360 (.iconst 4) 1 361 := ⟨by decide +kernel, rfl⟩
theorem x_Mo_next_361 : DC b_Mo_next 361 (.putfield 422) 3 364 := ⟨by decide +kernel, rfl⟩
theorem x_Mo_next_364 : DC b_Mo_next 364 (.return_) 1 365 := ⟨by decide +kernel, rfl⟩
def k_Mo_next_361 (s1 : Int) (M : Mem) : Res := blet (sto M 111 50 s1) fun M1 => some (0, M1)
theorem z_Mo_next_361 (C : Cx p s m args meth c G b_Mo_next 2 "PrairiePoolModel" none) (hlev : 1 ≤ lev) {r : Int × Mem}  {s1 : Int} {M : Mem} (h : k_Mo_next_361 s1 M = some r) : Z p l e lev s m args below meth c G 2 (MQ below (Qm G 0 r) args s 0 0 (Ab G)) M 361 [] [vi s1, .ref (G.1 + 111)] := by
  unfold k_Mo_next_361 at h
  obtain ⟨M1, eM1, h⟩ := blet_e h
  refine z_putI (j := 50) C x_Mo_next_361 nk_111 ck_111 cw_12 (i_lt rfl) rfl rfl rfl rfl fl_Mo_422 eM1 ?_
  exact z_vret C x_Mo_next_364 h
def k_Mo_next_356 (M : Mem) : Res := k_Mo_next_361 3 M
theorem z_Mo_next_356 (C : Cx p s m args meth c G b_Mo_next 2 "PrairiePoolModel" none) (hlev : 1 ≤ lev) {r : Int × Mem}  {M : Mem} (h : k_Mo_next_356 M = some r) : Z p l e lev s m args below meth c G 2 (MQ below (Qm G 0 r) args s 0 0 (Ab G)) M 356 [] [.ref (G.1 + 111)] := by
  unfold k_Mo_next_356 at h
  refine z_iconst C x_Mo_next_356 ?_
  refine z_goto (tgt := 361) C x_Mo_next_357 rfl ?_
  exact z_sub [] rfl (z_Mo_next_361 C hlev h)
def k_Mo_next_294 (s1 : Int) (M : Mem) : Res := blet (sto M 111 50 s1) fun M1 => some (0, M1)
theorem z_Mo_next_294 (C : Cx p s m args meth c G b_Mo_next 2 "PrairiePoolModel" none) (hlev : 1 ≤ lev) {r : Int × Mem}  {s1 : Int} {M : Mem} (h : k_Mo_next_294 s1 M = some r) : Z p l e lev s m args below meth c G 2 (MQ below (Qm G 0 r) args s 0 0 (Ab G)) M 294 [] [vi s1, .ref (G.1 + 111)] := by
  unfold k_Mo_next_294 at h
  obtain ⟨M1, eM1, h⟩ := blet_e h
  refine z_putI (j := 50) C x_Mo_next_294 nk_111 ck_111 cw_12 (i_lt rfl) rfl rfl rfl rfl fl_Mo_422 eM1 ?_
  refine z_goto (tgt := 364) C x_Mo_next_297 rfl ?_
  exact z_vret C x_Mo_next_364 h
def k_Mo_next_261 (R210 : Mem → Res) (M : Mem) : Res := blet (M 111 52) fun v1 => blet (sto M 111 52 (v1 + 1)) fun M2 => R210 M2
theorem z_Mo_next_261 (C : Cx p s m args meth c G b_Mo_next 2 "PrairiePoolModel" none) (hlev : 1 ≤ lev) {r : Int × Mem} {R210 : Mem → Res} (hR210 : ∀ (M : Mem), R210 M = some r → Z p l e lev s m args below meth c G 2 (MQ below (Qm G 0 r) args s 0 0 (Ab G)) M 210 [(0, .ref (G.1 + 111))] []) {M : Mem} (h : k_Mo_next_261 R210 M = some r) : Z p l e lev s m args below meth c G 2 (MQ below (Qm G 0 r) args s 0 0 (Ab G)) M 261 [(0, .ref (G.1 + 111))] [] := by
  unfold k_Mo_next_261 at h
  refine z_aload_n C 0 x_Mo_next_261 rfl ?_
  refine z_dup C x_Mo_next_262 rfl ?_
  obtain ⟨v1, ev1, h⟩ := blet_e h
  refine z_getI (j := 52) C x_Mo_next_263 nk_111 ck_111 cw_12 (i_lt rfl) rfl rfl fl_Mo_413 ev1 ?_
  refine z_iconst C x_Mo_next_266 ?_
  refine z_iadd C x_Mo_next_267 ?_
  obtain ⟨M2, eM2, h⟩ := blet_e h
  refine z_putI (j := 52) C x_Mo_next_268 nk_111 ck_111 cw_12 (i_lt rfl) rfl rfl rfl rfl fl_Mo_413 eM2 ?_
  refine z_goto (tgt := 210) C x_Mo_next_271 rfl ?_
  exact z_sub [0] rfl (hR210  M2 h)
def k_Mo_next_210 (R210 : Mem → Res) (M : Mem) : Res := blet (M 111 52) fun v1 => bcall (d_Mo_look v1 M) fun v2 M3 => bcall (d_Mo_isDigit v2 M3) fun v4 M5 => if w32 v4 = 0 then (blet (M5 111 52) fun v7 => blet (M5 111 51) fun v8 => if 6 < w32 (v7 - v8) then (k_Mo_next_294 4 M5) else (k_Mo_next_294 2 M5)) else (blet (M5 111 52) fun v10 => blet (M5 111 51) fun v11 => if w32 (v10 - v11) < 6 then (blet (M5 111 53) fun v13 => blet (M5 111 52) fun v14 => bcall (d_Mo_look v14 M5) fun v15 M16 => blet (sto M16 111 53 (((10 * v13) + v15) - 48)) fun M17 => k_Mo_next_261 R210 M17) else (k_Mo_next_261 R210 M5))
theorem z_Mo_next_210 (C : Cx p s m args meth c G b_Mo_next 2 "PrairiePoolModel" none) (hlev : 1 ≤ lev) {r : Int × Mem} {R210 : Mem → Res} (hR210 : ∀ (M : Mem), R210 M = some r → Z p l e lev s m args below meth c G 2 (MQ below (Qm G 0 r) args s 0 0 (Ab G)) M 210 [(0, .ref (G.1 + 111))] []) {M : Mem} (h : k_Mo_next_210 R210 M = some r) : Z p l e lev s m args below meth c G 2 (MQ below (Qm G 0 r) args s 0 0 (Ab G)) M 210 [(0, .ref (G.1 + 111))] [] := by
  unfold k_Mo_next_210 at h
  refine z_aload_n C 0 x_Mo_next_210 rfl ?_
  refine z_aload_n C 0 x_Mo_next_211 rfl ?_
  obtain ⟨v1, ev1, h⟩ := blet_e h
  refine z_getI (j := 52) C x_Mo_next_212 nk_111 ck_111 cw_12 (i_lt rfl) rfl rfl fl_Mo_413 ev1 ?_
  obtain ⟨v2, M3, fv2, h⟩ := bcall_e h
  refine z_callVi (k := 111) C x_Mo_next_215 cv_Mo_419 (t_Mo_look (lev := lev - 1) l G (by omega) fv2) nk_111 ck_111 rfl (by omega) rfl (i_le rfl) rfl ?_
  obtain ⟨v4, M5, fv4, h⟩ := bcall_e h
  refine z_callSi C x_Mo_next_218 cs_Mo_439 (t_Mo_isDigit (lev := lev - 1) l G (by omega) fv4) (by omega) rfl (i_le rfl) rfl ?_
  rcases ite_e h with ⟨c6, h⟩ | ⟨c6, h⟩
  · refine z_if_eq_t (tgt := 274) C x_Mo_next_221 rfl c6 ?_
    refine z_aload_n C 0 x_Mo_next_274 rfl ?_
    refine z_aload_n C 0 x_Mo_next_275 rfl ?_
    obtain ⟨v7, ev7, h⟩ := blet_e h
    refine z_getI (j := 52) C x_Mo_next_276 nk_111 ck_111 cw_12 (i_lt rfl) rfl rfl fl_Mo_413 ev7 ?_
    refine z_aload_n C 0 x_Mo_next_279 rfl ?_
    obtain ⟨v8, ev8, h⟩ := blet_e h
    refine z_getI (j := 51) C x_Mo_next_280 nk_111 ck_111 cw_12 (i_lt rfl) rfl rfl fl_Mo_416 ev8 ?_
    refine z_isub C x_Mo_next_283 ?_
    refine z_bipush C rfl x_Mo_next_284 ?_
    rcases ite_e h with ⟨c9, h⟩ | ⟨c9, h⟩
    · refine z_icmp_le_f (tgt := 293) C x_Mo_next_286 rfl c9 ?_
      refine z_iconst C x_Mo_next_289 ?_
      refine z_goto (tgt := 294) C x_Mo_next_290 rfl ?_
      exact z_sub [] rfl (z_Mo_next_294 C hlev h)
    · refine z_icmp_le_t (tgt := 293) C x_Mo_next_286 rfl c9 ?_
      refine z_iconst C x_Mo_next_293 ?_
      exact z_sub [] rfl (z_Mo_next_294 C hlev h)
  · refine z_if_eq_f (tgt := 274) C x_Mo_next_221 rfl c6 ?_
    refine z_aload_n C 0 x_Mo_next_224 rfl ?_
    obtain ⟨v10, ev10, h⟩ := blet_e h
    refine z_getI (j := 52) C x_Mo_next_225 nk_111 ck_111 cw_12 (i_lt rfl) rfl rfl fl_Mo_413 ev10 ?_
    refine z_aload_n C 0 x_Mo_next_228 rfl ?_
    obtain ⟨v11, ev11, h⟩ := blet_e h
    refine z_getI (j := 51) C x_Mo_next_229 nk_111 ck_111 cw_12 (i_lt rfl) rfl rfl fl_Mo_416 ev11 ?_
    refine z_isub C x_Mo_next_232 ?_
    refine z_bipush C rfl x_Mo_next_233 ?_
    rcases ite_e h with ⟨c12, h⟩ | ⟨c12, h⟩
    · refine z_icmp_ge_f (tgt := 261) C x_Mo_next_235 rfl c12 ?_
      refine z_aload_n C 0 x_Mo_next_238 rfl ?_
      refine z_bipush C rfl x_Mo_next_239 ?_
      refine z_aload_n C 0 x_Mo_next_241 rfl ?_
      obtain ⟨v13, ev13, h⟩ := blet_e h
      refine z_getI (j := 53) C x_Mo_next_242 nk_111 ck_111 cw_12 (i_lt rfl) rfl rfl fl_Mo_442 ev13 ?_
      refine z_imul C x_Mo_next_245 ?_
      refine z_aload_n C 0 x_Mo_next_246 rfl ?_
      refine z_aload_n C 0 x_Mo_next_247 rfl ?_
      obtain ⟨v14, ev14, h⟩ := blet_e h
      refine z_getI (j := 52) C x_Mo_next_248 nk_111 ck_111 cw_12 (i_lt rfl) rfl rfl fl_Mo_413 ev14 ?_
      obtain ⟨v15, M16, fv15, h⟩ := bcall_e h
      refine z_callVi (k := 111) C x_Mo_next_251 cv_Mo_419 (t_Mo_look (lev := lev - 1) l G (by omega) fv15) nk_111 ck_111 rfl (by omega) rfl (i_le rfl) rfl ?_
      refine z_iadd C x_Mo_next_254 ?_
      refine z_bipush C rfl x_Mo_next_255 ?_
      refine z_isub C x_Mo_next_257 ?_
      obtain ⟨M17, eM17, h⟩ := blet_e h
      refine z_putI (j := 53) C x_Mo_next_258 nk_111 ck_111 cw_12 (i_lt rfl) rfl rfl rfl rfl fl_Mo_442 eM17 ?_
      exact z_sub [0] rfl (z_Mo_next_261 C hlev hR210 h)
    · refine z_icmp_ge_t (tgt := 261) C x_Mo_next_235 rfl c12 ?_
      exact z_sub [0] rfl (z_Mo_next_261 C hlev hR210 h)
theorem zl_Mo_next_210 (C : Cx p s m args meth c G b_Mo_next 2 "PrairiePoolModel" none) (hlev : 1 ≤ lev) {r : Int × Mem}  : ∀ (n : Nat) (M : Mem), fix (fun _ => none) (k_Mo_next_210) n M = some r → Z p l e lev s m args below meth c G 2 (MQ below (Qm G 0 r) args s 0 0 (Ab G)) M 210 [(0, .ref (G.1 + 111))] [] := by
  intro n
  induction n with
  | zero => intro M h; exact nomatch (show (none : Res) = some r from h)
  | succ n ih => intro M h; exact z_Mo_next_210 C hlev ih h
def k_Mo_next_166 (R109 : Mem → Res) (s1 : Int) (M : Mem) : Res := blet (sto M 111 55 s1) fun M1 => blet (M1 111 52) fun v2 => blet (sto M1 111 52 (v2 + 1)) fun M3 => R109 M3
theorem z_Mo_next_166 (C : Cx p s m args meth c G b_Mo_next 2 "PrairiePoolModel" none) (hlev : 1 ≤ lev) {r : Int × Mem} {R109 : Mem → Res} (hR109 : ∀ (M : Mem), R109 M = some r → Z p l e lev s m args below meth c G 2 (MQ below (Qm G 0 r) args s 0 0 (Ab G)) M 109 [(0, .ref (G.1 + 111))] []) {s1 : Int} {M : Mem} (h : k_Mo_next_166 R109 s1 M = some r) : Z p l e lev s m args below meth c G 2 (MQ below (Qm G 0 r) args s 0 0 (Ab G)) M 166 [(0, .ref (G.1 + 111))] [vl s1, .ref (G.1 + 111)] := by
  unfold k_Mo_next_166 at h
  obtain ⟨M1, eM1, h⟩ := blet_e h
  refine z_putL (j := 55) C x_Mo_next_166 nk_111 ck_111 cw_12 (i_lt rfl) rfl rfl rfl rfl fl_Mo_428 eM1 ?_
  refine z_aload_n C 0 x_Mo_next_169 rfl ?_
  refine z_dup C x_Mo_next_170 rfl ?_
  obtain ⟨v2, ev2, h⟩ := blet_e h
  refine z_getI (j := 52) C x_Mo_next_171 nk_111 ck_111 cw_12 (i_lt rfl) rfl rfl fl_Mo_413 ev2 ?_
  refine z_iconst C x_Mo_next_174 ?_
  refine z_iadd C x_Mo_next_175 ?_
  obtain ⟨M3, eM3, h⟩ := blet_e h
  refine z_putI (j := 52) C x_Mo_next_176 nk_111 ck_111 cw_12 (i_lt rfl) rfl rfl rfl rfl fl_Mo_413 eM3 ?_
  refine z_goto (tgt := 109) C x_Mo_next_179 rfl ?_
  exact z_sub [0] rfl (hR109  M3 h)
def k_Mo_next_109 (R109 : Mem → Res) (M : Mem) : Res := blet (M 111 52) fun v1 => bcall (d_Mo_look v1 M) fun v2 M3 => bcall (d_Mo_isLetter v2 M3) fun v4 M5 => if w32 v4 = 0 then (blet (M5 111 52) fun v7 => blet (M5 111 51) fun v8 => blet (sto M5 111 54 (v7 - v8)) fun M9 => some (0, M9)) else (blet (M5 111 52) fun v10 => blet (M5 111 51) fun v11 => if w32 (v10 - v11) < 12 then (blet (M5 111 55) fun v13 => blet (M5 111 52) fun v14 => bcall (d_Mo_look v14 M5) fun v15 M16 => k_Mo_next_166 R109 (((v13 * 32) + (w32 v15)) - 96) M16) else (k_Mo_next_166 R109 (-1) M5))
theorem z_Mo_next_109 (C : Cx p s m args meth c G b_Mo_next 2 "PrairiePoolModel" none) (hlev : 1 ≤ lev) {r : Int × Mem} {R109 : Mem → Res} (hR109 : ∀ (M : Mem), R109 M = some r → Z p l e lev s m args below meth c G 2 (MQ below (Qm G 0 r) args s 0 0 (Ab G)) M 109 [(0, .ref (G.1 + 111))] []) {M : Mem} (h : k_Mo_next_109 R109 M = some r) : Z p l e lev s m args below meth c G 2 (MQ below (Qm G 0 r) args s 0 0 (Ab G)) M 109 [(0, .ref (G.1 + 111))] [] := by
  unfold k_Mo_next_109 at h
  refine z_aload_n C 0 x_Mo_next_109 rfl ?_
  refine z_aload_n C 0 x_Mo_next_110 rfl ?_
  obtain ⟨v1, ev1, h⟩ := blet_e h
  refine z_getI (j := 52) C x_Mo_next_111 nk_111 ck_111 cw_12 (i_lt rfl) rfl rfl fl_Mo_413 ev1 ?_
  obtain ⟨v2, M3, fv2, h⟩ := bcall_e h
  refine z_callVi (k := 111) C x_Mo_next_114 cv_Mo_419 (t_Mo_look (lev := lev - 1) l G (by omega) fv2) nk_111 ck_111 rfl (by omega) rfl (i_le rfl) rfl ?_
  obtain ⟨v4, M5, fv4, h⟩ := bcall_e h
  refine z_callSi C x_Mo_next_117 cs_Mo_425 (t_Mo_isLetter (lev := lev - 1) l G (by omega) fv4) (by omega) rfl (i_le rfl) rfl ?_
  rcases ite_e h with ⟨c6, h⟩ | ⟨c6, h⟩
  · refine z_if_eq_t (tgt := 182) C x_Mo_next_120 rfl c6 ?_
    refine z_aload_n C 0 x_Mo_next_182 rfl ?_
    refine z_aload_n C 0 x_Mo_next_183 rfl ?_
    obtain ⟨v7, ev7, h⟩ := blet_e h
    refine z_getI (j := 52) C x_Mo_next_184 nk_111 ck_111 cw_12 (i_lt rfl) rfl rfl fl_Mo_413 ev7 ?_
    refine z_aload_n C 0 x_Mo_next_187 rfl ?_
    obtain ⟨v8, ev8, h⟩ := blet_e h
    refine z_getI (j := 51) C x_Mo_next_188 nk_111 ck_111 cw_12 (i_lt rfl) rfl rfl fl_Mo_416 ev8 ?_
    refine z_isub C x_Mo_next_191 ?_
    obtain ⟨M9, eM9, h⟩ := blet_e h
    refine z_putI (j := 54) C x_Mo_next_192 nk_111 ck_111 cw_12 (i_lt rfl) rfl rfl rfl rfl fl_Mo_436 eM9 ?_
    refine z_goto (tgt := 364) C x_Mo_next_195 rfl ?_
    exact z_vret C x_Mo_next_364 h
  · refine z_if_eq_f (tgt := 182) C x_Mo_next_120 rfl c6 ?_
    refine z_aload_n C 0 x_Mo_next_123 rfl ?_
    refine z_aload_n C 0 x_Mo_next_124 rfl ?_
    obtain ⟨v10, ev10, h⟩ := blet_e h
    refine z_getI (j := 52) C x_Mo_next_125 nk_111 ck_111 cw_12 (i_lt rfl) rfl rfl fl_Mo_413 ev10 ?_
    refine z_aload_n C 0 x_Mo_next_128 rfl ?_
    obtain ⟨v11, ev11, h⟩ := blet_e h
    refine z_getI (j := 51) C x_Mo_next_129 nk_111 ck_111 cw_12 (i_lt rfl) rfl rfl fl_Mo_416 ev11 ?_
    refine z_isub C x_Mo_next_132 ?_
    refine z_bipush C rfl x_Mo_next_133 ?_
    rcases ite_e h with ⟨c12, h⟩ | ⟨c12, h⟩
    · refine z_icmp_ge_f (tgt := 163) C x_Mo_next_135 rfl c12 ?_
      refine z_aload_n C 0 x_Mo_next_138 rfl ?_
      obtain ⟨v13, ev13, h⟩ := blet_e h
      refine z_getL (j := 55) C x_Mo_next_139 nk_111 ck_111 cw_12 (i_lt rfl) rfl rfl fl_Mo_428 ev13 ?_
      refine z_ldc2 C kl_Mo_432 x_Mo_next_142 ?_
      refine z_lmul C x_Mo_next_145 ?_
      refine z_aload_n C 0 x_Mo_next_146 rfl ?_
      refine z_aload_n C 0 x_Mo_next_147 rfl ?_
      obtain ⟨v14, ev14, h⟩ := blet_e h
      refine z_getI (j := 52) C x_Mo_next_148 nk_111 ck_111 cw_12 (i_lt rfl) rfl rfl fl_Mo_413 ev14 ?_
      obtain ⟨v15, M16, fv15, h⟩ := bcall_e h
      refine z_callVi (k := 111) C x_Mo_next_151 cv_Mo_419 (t_Mo_look (lev := lev - 1) l G (by omega) fv15) nk_111 ck_111 rfl (by omega) rfl (i_le rfl) rfl ?_
      refine z_i2l C x_Mo_next_154 ?_
      refine z_ladd C x_Mo_next_155 ?_
      refine z_ldc2 C kl_Mo_434 x_Mo_next_156 ?_
      refine z_lsub C x_Mo_next_159 ?_
      refine z_goto (tgt := 166) C x_Mo_next_160 rfl ?_
      exact z_sub [0] rfl (z_Mo_next_166 C hlev hR109 h)
    · refine z_icmp_ge_t (tgt := 163) C x_Mo_next_135 rfl c12 ?_
      refine z_ldc2 C kl_Mo_289 x_Mo_next_163 ?_
      exact z_sub [0] rfl (z_Mo_next_166 C hlev hR109 h)
theorem zl_Mo_next_109 (C : Cx p s m args meth c G b_Mo_next 2 "PrairiePoolModel" none) (hlev : 1 ≤ lev) {r : Int × Mem}  : ∀ (n : Nat) (M : Mem), fix (fun _ => none) (k_Mo_next_109) n M = some r → Z p l e lev s m args below meth c G 2 (MQ below (Qm G 0 r) args s 0 0 (Ab G)) M 109 [(0, .ref (G.1 + 111))] [] := by
  intro n
  induction n with
  | zero => intro M h; exact nomatch (show (none : Res) = some r from h)
  | succ n ih => intro M h; exact z_Mo_next_109 C hlev ih h
def k_Mo_next_58 (M : Mem) : Res := blet (M 111 51) fun v1 => blet (sto M 111 52 v1) fun M2 => blet (M2 111 51) fun v3 => blet (M2 111 45) fun v4 => if w32 v3 < w32 v4 then (blet (M2 111 51) fun v6 => bcall (d_Mo_look v6 M2) fun v7 M8 => bcall (d_Mo_isLetter v7 M8) fun v9 M10 => if w32 v9 = 0 then (bcall (d_Mo_isDigit v7 M10) fun v12 M13 => if w32 v12 = 0 then (blet (M13 111 51) fun v15 => blet (sto M13 111 52 (v15 + 1)) fun M16 => blet (sto M16 111 53 v7) fun M17 => bcall (d_Mo_isIn (w32 v7) 58 62 M17) fun v18 M19 => if w32 v18 = 0 then (bcall (d_Mo_isIn (w32 v7) 40 45 M19) fun v21 M22 => if w32 v21 = 0 then (if w32 v7 = 47 then (k_Mo_next_356 M22) else (if w32 v7 = 37 then (k_Mo_next_356 M22) else (k_Mo_next_361 4 M22))) else (k_Mo_next_356 M22)) else (k_Mo_next_356 M19)) else (blet (sto M13 111 53 0) fun M26 => fix (fun _ => none) (k_Mo_next_210) FU M26)) else (blet (sto M10 111 50 1) fun M27 => blet (sto M27 111 55 0) fun M28 => fix (fun _ => none) (k_Mo_next_109) FU M28)) else (blet (sto M2 111 50 0) fun M29 => some (0, M29))
theorem z_Mo_next_58 (C : Cx p s m args meth c G b_Mo_next 2 "PrairiePoolModel" none) (hlev : 1 ≤ lev) {r : Int × Mem}  {M : Mem} (h : k_Mo_next_58 M = some r) : Z p l e lev s m args below meth c G 2 (MQ below (Qm G 0 r) args s 0 0 (Ab G)) M 58 [(0, .ref (G.1 + 111))] [] := by
  unfold k_Mo_next_58 at h
  refine z_aload_n C 0 x_Mo_next_58 rfl ?_
  refine z_aload_n C 0 x_Mo_next_59 rfl ?_
  obtain ⟨v1, ev1, h⟩ := blet_e h
  refine z_getI (j := 51) C x_Mo_next_60 nk_111 ck_111 cw_12 (i_lt rfl) rfl rfl fl_Mo_416 ev1 ?_
  obtain ⟨M2, eM2, h⟩ := blet_e h
  refine z_putI (j := 52) C x_Mo_next_63 nk_111 ck_111 cw_12 (i_lt rfl) rfl rfl rfl rfl fl_Mo_413 eM2 ?_
  refine z_aload_n C 0 x_Mo_next_66 rfl ?_
  obtain ⟨v3, ev3, h⟩ := blet_e h
  refine z_getI (j := 51) C x_Mo_next_67 nk_111 ck_111 cw_12 (i_lt rfl) rfl rfl fl_Mo_416 ev3 ?_
  refine z_aload_n C 0 x_Mo_next_70 rfl ?_
  obtain ⟨v4, ev4, h⟩ := blet_e h
  refine z_getI (j := 45) C x_Mo_next_71 nk_111 ck_111 cw_12 (i_lt rfl) rfl rfl fl_Mo_410 ev4 ?_
  rcases ite_e h with ⟨c5, h⟩ | ⟨c5, h⟩
  · refine z_icmp_lt_t (tgt := 83) C x_Mo_next_74 rfl c5 ?_
    refine z_aload_n C 0 x_Mo_next_83 rfl ?_
    refine z_aload_n C 0 x_Mo_next_84 rfl ?_
    obtain ⟨v6, ev6, h⟩ := blet_e h
    refine z_getI (j := 51) C x_Mo_next_85 nk_111 ck_111 cw_12 (i_lt rfl) rfl rfl fl_Mo_416 ev6 ?_
    obtain ⟨v7, M8, fv7, h⟩ := bcall_e h
    refine z_callVi (k := 111) C x_Mo_next_88 cv_Mo_419 (t_Mo_look (lev := lev - 1) l G (by omega) fv7) nk_111 ck_111 rfl (by omega) rfl (i_le rfl) rfl ?_
    refine z_istore_n (lv' := [(1, vi v7), (0, .ref (G.1 + 111))]) C rfl x_Mo_next_91 (i_lt rfl) rfl ?_
    refine z_iload_n C 0 x_Mo_next_92 rfl ?_
    obtain ⟨v9, M10, fv9, h⟩ := bcall_e h
    refine z_callSi C x_Mo_next_93 cs_Mo_425 (t_Mo_isLetter (lev := lev - 1) l G (by omega) fv9) (by omega) rfl (i_le rfl) rfl ?_
    rcases ite_e h with ⟨c11, h⟩ | ⟨c11, h⟩
    · refine z_if_eq_t (tgt := 198) C x_Mo_next_96 rfl c11 ?_
      refine z_iload_n C 0 x_Mo_next_198 rfl ?_
      obtain ⟨v12, M13, fv12, h⟩ := bcall_e h
      refine z_callSi C x_Mo_next_199 cs_Mo_439 (t_Mo_isDigit (lev := lev - 1) l G (by omega) fv12) (by omega) rfl (i_le rfl) rfl ?_
      rcases ite_e h with ⟨c14, h⟩ | ⟨c14, h⟩
      · refine z_if_eq_t (tgt := 300) C x_Mo_next_202 rfl c14 ?_
        refine z_aload_n C 1 x_Mo_next_300 rfl ?_
        refine z_aload_n C 1 x_Mo_next_301 rfl ?_
        obtain ⟨v15, ev15, h⟩ := blet_e h
        refine z_getI (j := 51) C x_Mo_next_302 nk_111 ck_111 cw_12 (i_lt rfl) rfl rfl fl_Mo_416 ev15 ?_
        refine z_iconst C x_Mo_next_305 ?_
        refine z_iadd C x_Mo_next_306 ?_
        obtain ⟨M16, eM16, h⟩ := blet_e h
        refine z_putI (j := 52) C x_Mo_next_307 nk_111 ck_111 cw_12 (i_lt rfl) rfl rfl rfl rfl fl_Mo_413 eM16 ?_
        refine z_aload_n C 1 x_Mo_next_310 rfl ?_
        refine z_iload_n C 0 x_Mo_next_311 rfl ?_
        obtain ⟨M17, eM17, h⟩ := blet_e h
        refine z_putI (j := 53) C x_Mo_next_312 nk_111 ck_111 cw_12 (i_lt rfl) rfl rfl rfl rfl fl_Mo_442 eM17 ?_
        refine z_aload_n C 1 x_Mo_next_315 rfl ?_
        refine z_iload_n C 0 x_Mo_next_316 rfl ?_
        refine z_i2l C x_Mo_next_317 ?_
        refine z_ldc2 C kl_Mo_445 x_Mo_next_318 ?_
        refine z_ldc2 C kl_Mo_447 x_Mo_next_321 ?_
        obtain ⟨v18, M19, fv18, h⟩ := bcall_e h
        refine z_callSi C x_Mo_next_324 cs_Mo_265 (t_Mo_isIn (lev := lev - 1) l G (by omega) fv18) (by omega) rfl (i_le rfl) rfl ?_
        rcases ite_e h with ⟨c20, h⟩ | ⟨c20, h⟩
        · refine z_if_ne_f (tgt := 356) C x_Mo_next_327 rfl c20 ?_
          refine z_iload_n C 0 x_Mo_next_330 rfl ?_
          refine z_i2l C x_Mo_next_331 ?_
          refine z_ldc2 C kl_Mo_449 x_Mo_next_332 ?_
          refine z_ldc2 C kl_Mo_451 x_Mo_next_335 ?_
          obtain ⟨v21, M22, fv21, h⟩ := bcall_e h
          refine z_callSi C x_Mo_next_338 cs_Mo_265 (t_Mo_isIn (lev := lev - 1) l G (by omega) fv21) (by omega) rfl (i_le rfl) rfl ?_
          rcases ite_e h with ⟨c23, h⟩ | ⟨c23, h⟩
          · refine z_if_ne_f (tgt := 356) C x_Mo_next_341 rfl c23 ?_
            refine z_iload_n C 0 x_Mo_next_344 rfl ?_
            refine z_bipush C rfl x_Mo_next_345 ?_
            rcases ite_e h with ⟨c24, h⟩ | ⟨c24, h⟩
            · refine z_icmp_eq_t (tgt := 356) C x_Mo_next_347 rfl c24 ?_
              exact z_sub [] rfl (z_Mo_next_356 C hlev h)
            · refine z_icmp_eq_f (tgt := 356) C x_Mo_next_347 rfl c24 ?_
              refine z_iload_n C 0 x_Mo_next_350 rfl ?_
              refine z_bipush C rfl x_Mo_next_351 ?_
              rcases ite_e h with ⟨c25, h⟩ | ⟨c25, h⟩
              · refine z_icmp_ne_f (tgt := 360) C x_Mo_next_353 rfl c25 ?_
                exact z_sub [] rfl (z_Mo_next_356 C hlev h)
              · refine z_icmp_ne_t (tgt := 360) C x_Mo_next_353 rfl c25 ?_
                refine z_iconst C x_Mo_next_360 ?_
                exact z_sub [] rfl (z_Mo_next_361 C hlev h)
          · refine z_if_ne_t (tgt := 356) C x_Mo_next_341 rfl c23 ?_
            exact z_sub [] rfl (z_Mo_next_356 C hlev h)
        · refine z_if_ne_t (tgt := 356) C x_Mo_next_327 rfl c20 ?_
          exact z_sub [] rfl (z_Mo_next_356 C hlev h)
      · refine z_if_eq_f (tgt := 300) C x_Mo_next_202 rfl c14 ?_
        refine z_aload_n C 1 x_Mo_next_205 rfl ?_
        refine z_iconst C x_Mo_next_206 ?_
        obtain ⟨M26, eM26, h⟩ := blet_e h
        refine z_putI (j := 53) C x_Mo_next_207 nk_111 ck_111 cw_12 (i_lt rfl) rfl rfl rfl rfl fl_Mo_442 eM26 ?_
        exact z_sub [1] rfl (zl_Mo_next_210 C hlev FU  M26 h)
    · refine z_if_eq_f (tgt := 198) C x_Mo_next_96 rfl c11 ?_
      refine z_aload_n C 1 x_Mo_next_99 rfl ?_
      refine z_iconst C x_Mo_next_100 ?_
      obtain ⟨M27, eM27, h⟩ := blet_e h
      refine z_putI (j := 50) C x_Mo_next_101 nk_111 ck_111 cw_12 (i_lt rfl) rfl rfl rfl rfl fl_Mo_422 eM27 ?_
      refine z_aload_n C 1 x_Mo_next_104 rfl ?_
      refine z_lconst0 C x_Mo_next_105 ?_
      obtain ⟨M28, eM28, h⟩ := blet_e h
      refine z_putL (j := 55) C x_Mo_next_106 nk_111 ck_111 cw_12 (i_lt rfl) rfl rfl rfl rfl fl_Mo_428 eM28 ?_
      exact z_sub [1] rfl (zl_Mo_next_109 C hlev FU  M28 h)
  · refine z_icmp_lt_f (tgt := 83) C x_Mo_next_74 rfl c5 ?_
    refine z_aload_n C 0 x_Mo_next_77 rfl ?_
    refine z_iconst C x_Mo_next_78 ?_
    obtain ⟨M29, eM29, h⟩ := blet_e h
    refine z_putI (j := 50) C x_Mo_next_79 nk_111 ck_111 cw_12 (i_lt rfl) rfl rfl rfl rfl fl_Mo_422 eM29 ?_
    exact z_vret C x_Mo_next_82 h
def k_Mo_next_45 (R8 : Mem → Res) (M : Mem) : Res := blet (M 111 51) fun v1 => blet (sto M 111 51 (v1 + 1)) fun M2 => R8 M2
theorem z_Mo_next_45 (C : Cx p s m args meth c G b_Mo_next 2 "PrairiePoolModel" none) (hlev : 1 ≤ lev) {r : Int × Mem} {R8 : Mem → Res} (hR8 : ∀ (M : Mem), R8 M = some r → Z p l e lev s m args below meth c G 2 (MQ below (Qm G 0 r) args s 0 0 (Ab G)) M 8 [(0, .ref (G.1 + 111))] []) {M : Mem} (h : k_Mo_next_45 R8 M = some r) : Z p l e lev s m args below meth c G 2 (MQ below (Qm G 0 r) args s 0 0 (Ab G)) M 45 [(0, .ref (G.1 + 111))] [] := by
  unfold k_Mo_next_45 at h
  refine z_aload_n C 0 x_Mo_next_45 rfl ?_
  refine z_dup C x_Mo_next_46 rfl ?_
  obtain ⟨v1, ev1, h⟩ := blet_e h
  refine z_getI (j := 51) C x_Mo_next_47 nk_111 ck_111 cw_12 (i_lt rfl) rfl rfl fl_Mo_416 ev1 ?_
  refine z_iconst C x_Mo_next_50 ?_
  refine z_iadd C x_Mo_next_51 ?_
  obtain ⟨M2, eM2, h⟩ := blet_e h
  refine z_putI (j := 51) C x_Mo_next_52 nk_111 ck_111 cw_12 (i_lt rfl) rfl rfl rfl rfl fl_Mo_416 eM2 ?_
  refine z_goto (tgt := 8) C x_Mo_next_55 rfl ?_
  exact z_sub [0] rfl (hR8  M2 h)
def k_Mo_next_8 (R8 : Mem → Res) (M : Mem) : Res := blet (M 111 51) fun v1 => blet (M 111 45) fun v2 => if w32 v1 < w32 v2 then (blet (M 111 51) fun v4 => bcall (d_Mo_look v4 M) fun v5 M6 => if w32 v5 = 10 then (k_Mo_next_45 R8 M6) else (blet (M6 111 51) fun v8 => bcall (d_Mo_look v8 M6) fun v9 M10 => if w32 v9 = 32 then (k_Mo_next_45 R8 M10) else (k_Mo_next_58 M10))) else (k_Mo_next_58 M)
theorem z_Mo_next_8 (C : Cx p s m args meth c G b_Mo_next 2 "PrairiePoolModel" none) (hlev : 1 ≤ lev) {r : Int × Mem} {R8 : Mem → Res} (hR8 : ∀ (M : Mem), R8 M = some r → Z p l e lev s m args below meth c G 2 (MQ below (Qm G 0 r) args s 0 0 (Ab G)) M 8 [(0, .ref (G.1 + 111))] []) {M : Mem} (h : k_Mo_next_8 R8 M = some r) : Z p l e lev s m args below meth c G 2 (MQ below (Qm G 0 r) args s 0 0 (Ab G)) M 8 [(0, .ref (G.1 + 111))] [] := by
  unfold k_Mo_next_8 at h
  refine z_aload_n C 0 x_Mo_next_8 rfl ?_
  obtain ⟨v1, ev1, h⟩ := blet_e h
  refine z_getI (j := 51) C x_Mo_next_9 nk_111 ck_111 cw_12 (i_lt rfl) rfl rfl fl_Mo_416 ev1 ?_
  refine z_aload_n C 0 x_Mo_next_12 rfl ?_
  obtain ⟨v2, ev2, h⟩ := blet_e h
  refine z_getI (j := 45) C x_Mo_next_13 nk_111 ck_111 cw_12 (i_lt rfl) rfl rfl fl_Mo_410 ev2 ?_
  rcases ite_e h with ⟨c3, h⟩ | ⟨c3, h⟩
  · refine z_icmp_ge_f (tgt := 58) C x_Mo_next_16 rfl c3 ?_
    refine z_aload_n C 0 x_Mo_next_19 rfl ?_
    refine z_aload_n C 0 x_Mo_next_20 rfl ?_
    obtain ⟨v4, ev4, h⟩ := blet_e h
    refine z_getI (j := 51) C x_Mo_next_21 nk_111 ck_111 cw_12 (i_lt rfl) rfl rfl fl_Mo_416 ev4 ?_
    obtain ⟨v5, M6, fv5, h⟩ := bcall_e h
    refine z_callVi (k := 111) C x_Mo_next_24 cv_Mo_419 (t_Mo_look (lev := lev - 1) l G (by omega) fv5) nk_111 ck_111 rfl (by omega) rfl (i_le rfl) rfl ?_
    refine z_bipush C rfl x_Mo_next_27 ?_
    rcases ite_e h with ⟨c7, h⟩ | ⟨c7, h⟩
    · refine z_icmp_eq_t (tgt := 45) C x_Mo_next_29 rfl c7 ?_
      exact z_sub [0] rfl (z_Mo_next_45 C hlev hR8 h)
    · refine z_icmp_eq_f (tgt := 45) C x_Mo_next_29 rfl c7 ?_
      refine z_aload_n C 0 x_Mo_next_32 rfl ?_
      refine z_aload_n C 0 x_Mo_next_33 rfl ?_
      obtain ⟨v8, ev8, h⟩ := blet_e h
      refine z_getI (j := 51) C x_Mo_next_34 nk_111 ck_111 cw_12 (i_lt rfl) rfl rfl fl_Mo_416 ev8 ?_
      obtain ⟨v9, M10, fv9, h⟩ := bcall_e h
      refine z_callVi (k := 111) C x_Mo_next_37 cv_Mo_419 (t_Mo_look (lev := lev - 1) l G (by omega) fv9) nk_111 ck_111 rfl (by omega) rfl (i_le rfl) rfl ?_
      refine z_bipush C rfl x_Mo_next_40 ?_
      rcases ite_e h with ⟨c11, h⟩ | ⟨c11, h⟩
      · refine z_icmp_ne_f (tgt := 58) C x_Mo_next_42 rfl c11 ?_
        exact z_sub [0] rfl (z_Mo_next_45 C hlev hR8 h)
      · refine z_icmp_ne_t (tgt := 58) C x_Mo_next_42 rfl c11 ?_
        exact z_sub [0] rfl (z_Mo_next_58 C hlev h)
  · refine z_icmp_ge_t (tgt := 58) C x_Mo_next_16 rfl c3 ?_
    exact z_sub [0] rfl (z_Mo_next_58 C hlev h)
theorem zl_Mo_next_8 (C : Cx p s m args meth c G b_Mo_next 2 "PrairiePoolModel" none) (hlev : 1 ≤ lev) {r : Int × Mem}  : ∀ (n : Nat) (M : Mem), fix (fun _ => none) (k_Mo_next_8) n M = some r → Z p l e lev s m args below meth c G 2 (MQ below (Qm G 0 r) args s 0 0 (Ab G)) M 8 [(0, .ref (G.1 + 111))] [] := by
  intro n
  induction n with
  | zero => intro M h; exact nomatch (show (none : Res) = some r from h)
  | succ n ih => intro M h; exact z_Mo_next_8 C hlev ih h
def d_Mo_next (M : Mem) : Res := blet (M 111 52) fun v1 => blet (sto M 111 51 v1) fun M2 => fix (fun _ => none) (k_Mo_next_8) FU M2
theorem t_Mo_next (l : Launch) (G : GX) {lev : Nat} (hlev : 1 ≤ lev) {M : Mem} {r : Int × Mem} (h : d_Mo_next M = some r) : Mt l G y_Mo_next b_Mo_next 2 none lev 0 [.ref (G.1 + 111)] M r := by
  refine Mt.of (by decide) (i_le rfl) ?_
  intro p e s m args below meth c C
  have C : Cx p s m args meth c G b_Mo_next 2 "PrairiePoolModel" none := C
  unfold d_Mo_next at h
  refine z_sub (lv' := [(0, .ref (G.1 + 111))]) [0] rfl ?_
  refine z_aload_n C 0 x_Mo_next_0 rfl ?_
  refine z_aload_n C 0 x_Mo_next_1 rfl ?_
  obtain ⟨v1, ev1, h⟩ := blet_e h
  refine z_getI (j := 52) C x_Mo_next_2 nk_111 ck_111 cw_12 (i_lt rfl) rfl rfl fl_Mo_413 ev1 ?_
  obtain ⟨M2, eM2, h⟩ := blet_e h
  refine z_putI (j := 51) C x_Mo_next_5 nk_111 ck_111 cw_12 (i_lt rfl) rfl rfl rfl rfl fl_Mo_416 eM2 ?_
  exact z_sub [0] rfl (zl_Mo_next_8 C hlev FU  M2 h)
theorem x_Mo_isWord_0 : DC b_Mo_isWord 0 (.aload_n 0) 1 1 := ⟨by decide +kernel, rfl⟩
theorem x_Mo_isWord_1 : DC b_Mo_isWord 1 (.getfield 422) 3 4 := ⟨by decide +kernel, rfl⟩
theorem x_Mo_isWord_4 : DC b_Mo_isWord 4 (.iconst 1) 1 5 := ⟨by decide +kernel, rfl⟩
theorem x_Mo_isWord_5 : DC b_Mo_isWord 5 (.if_icmp .ne 16) 3 8 := ⟨by decide +kernel, rfl⟩
theorem x_Mo_isWord_8 : DC b_Mo_isWord 8 (.aload_n 0) 1 9 := ⟨by decide +kernel, rfl⟩
theorem x_Mo_isWord_9 : DC b_Mo_isWord 9 (.getfield 428) 3 12 := ⟨by decide +kernel, rfl⟩
theorem x_Mo_isWord_12 : DC b_Mo_isWord 12 (.lload_n 1) 1 13 := ⟨by decide +kernel, rfl⟩
theorem x_Mo_isWord_13 : DC b_Mo_isWord 13 (.lcmp) 1 14 := ⟨by decide +kernel, rfl⟩
theorem x_Mo_isWord_14 : DC b_Mo_isWord 14 (.ifCond .ne 7) 3 17 := ⟨by decide +kernel, rfl⟩
theorem x_Mo_isWord_17 : DC b_Mo_isWord 17 (.iconst 1) 1 18 := ⟨by decide +kernel, rfl⟩
theorem x_Mo_isWord_18 : DC b_Mo_isWord 18 (.goto 4) 3 21 := ⟨by decide +kernel, rfl⟩
theorem x_Mo_isWord_21 : DC b_Mo_isWord 21 (.iconst 0) 1 22 := ⟨by decide +kernel, rfl⟩
theorem x_Mo_isWord_22 : DC b_Mo_isWord 22 (.ireturn) 1 23 := ⟨by decide +kernel, rfl⟩
def d_Mo_isWord (a1 : Int) (M : Mem) : Res := blet (M 111 50) fun v1 => if w32 v1 = 1 then (blet (M 111 55) fun v3 => if w64 v3 = w64 a1 then (some (1, M)) else (some (0, M))) else (some (0, M))
theorem t_Mo_isWord (l : Launch) (G : GX) {lev : Nat} (hlev : 0 ≤ lev) {a1 : Int} {M : Mem} {r : Int × Mem} (h : d_Mo_isWord a1 M = some r) : Mt l G y_Mo_isWord b_Mo_isWord 3 (some .boolean) lev 1 [.ref (G.1 + 111), vl a1] M r := by
  refine Mt.of (by decide) (i_le rfl) ?_
  intro p e s m args below meth c C
  have C : Cx p s m args meth c G b_Mo_isWord 3 "PrairiePoolModel" (some .boolean) := C
  unfold d_Mo_isWord at h
  refine z_sub (lv' := [(0, .ref (G.1 + 111)), (1, vl a1)]) [0, 1] rfl ?_
  refine z_aload_n C 0 x_Mo_isWord_0 rfl ?_
  obtain ⟨v1, ev1, h⟩ := blet_e h
  refine z_getI (j := 50) C x_Mo_isWord_1 nk_111 ck_111 cw_12 (i_lt rfl) rfl rfl fl_Mo_422 ev1 ?_
  refine z_iconst C x_Mo_isWord_4 ?_
  rcases ite_e h with ⟨c2, h⟩ | ⟨c2, h⟩
  · refine z_icmp_ne_f (tgt := 21) C x_Mo_isWord_5 rfl c2 ?_
    refine z_aload_n C 0 x_Mo_isWord_8 rfl ?_
    obtain ⟨v3, ev3, h⟩ := blet_e h
    refine z_getL (j := 55) C x_Mo_isWord_9 nk_111 ck_111 cw_12 (i_lt rfl) rfl rfl fl_Mo_428 ev3 ?_
    refine z_lload_n C 1 x_Mo_isWord_12 rfl ?_
    refine z_lcmp C x_Mo_isWord_13 ?_
    rcases ite_e h with ⟨c4, h⟩ | ⟨c4, h⟩
    · refine z_if_ne_f (tgt := 21) C x_Mo_isWord_14 rfl (cm_eqz.mpr c4) ?_
      refine z_iconst C x_Mo_isWord_17 ?_
      refine z_goto (tgt := 22) C x_Mo_isWord_18 rfl ?_
      exact z_zret C x_Mo_isWord_22 (by decide) h
    · refine z_if_ne_t (tgt := 21) C x_Mo_isWord_14 rfl (fun q => c4 (cm_eqz.mp q)) ?_
      refine z_iconst C x_Mo_isWord_21 ?_
      exact z_zret C x_Mo_isWord_22 (by decide) h
  · refine z_icmp_ne_t (tgt := 21) C x_Mo_isWord_5 rfl c2 ?_
    refine z_iconst C x_Mo_isWord_21 ?_
    exact z_zret C x_Mo_isWord_22 (by decide) h
theorem x_Mo_variable_0 : DC b_Mo_variable 0 (.aload_n 0) 1 1 := ⟨by decide +kernel, rfl⟩
theorem x_Mo_variable_1 : DC b_Mo_variable 1 (.bipush 103) 2 3 := ⟨by decide +kernel, rfl⟩
theorem x_Mo_variable_3 : DC b_Mo_variable 3 (.bipush 114) 2 5 := ⟨by decide +kernel, rfl⟩
theorem x_Mo_variable_5 : DC b_Mo_variable 5 (.bipush 97) 2 7 := ⟨by decide +kernel, rfl⟩
theorem x_Mo_variable_7 : DC b_Mo_variable 7 (.bipush 100) 2 9 := ⟨by decide +kernel, rfl⟩
theorem x_Mo_variable_9 : DC b_Mo_variable 9 (.bipush 101) 2 11 := ⟨by decide +kernel, rfl⟩
theorem x_Mo_variable_11 : DC b_Mo_variable 11 (.iconst 0) 1 12 := ⟨by decide +kernel, rfl⟩
theorem x_Mo_variable_12 : DC b_Mo_variable 12 (.invokestatic 350) 3 15 := ⟨by decide +kernel, rfl⟩
theorem x_Mo_variable_15 : DC b_Mo_variable 15 (.invokevirtual 462) 3 18 := ⟨by decide +kernel, rfl⟩
theorem x_Mo_variable_18 : DC b_Mo_variable 18 (.ifCond .eq 5) 3 21 := ⟨by decide +kernel, rfl⟩
theorem x_Mo_variable_21 : DC b_Mo_variable 21 (.iconst 0) 1 22 := ⟨by decide +kernel, rfl⟩
theorem x_Mo_variable_22 : DC b_Mo_variable 22 (.ireturn) 1 23 := ⟨by decide +kernel, rfl⟩
theorem x_Mo_variable_23 : DC b_Mo_variable 23 (.aload_n 0) 1 24 := ⟨by decide +kernel, rfl⟩
theorem x_Mo_variable_24 : DC b_Mo_variable 24 (.ldc2_w 466) 3 27 := ⟨by decide +kernel, rfl⟩
theorem x_Mo_variable_27 : DC b_Mo_variable 27 (.invokevirtual 462) 3 30 := ⟨by decide +kernel, rfl⟩
theorem x_Mo_variable_30 : DC b_Mo_variable 30 (.ifCond .eq 5) 3 33 := ⟨by decide +kernel, rfl⟩
theorem x_Mo_variable_33 : DC b_Mo_variable 33 (.iconst 1) 1 34 := ⟨by decide +kernel, rfl⟩
theorem x_Mo_variable_34 : DC b_Mo_variable 34 (.ireturn) 1 35 := ⟨by decide +kernel, rfl⟩
theorem x_Mo_variable_35 : DC b_Mo_variable 35 (.aload_n 0) 1 36 := ⟨by decide +kernel, rfl⟩
theorem x_Mo_variable_36 : DC b_Mo_variable 36 (.bipush 119) 2 38 := ⟨by decide +kernel, rfl⟩
theorem x_Mo_variable_38 : DC b_Mo_variable 38 (.bipush 101) 2 40 := ⟨by decide +kernel, rfl⟩
theorem x_Mo_variable_40 : DC b_Mo_variable 40 (.bipush 101) 2 42 := ⟨by decide +kernel, rfl⟩
theorem x_Mo_variable_42 : DC b_Mo_variable 42 (.bipush 107) 2 44 := ⟨by decide +kernel, rfl⟩
theorem x_Mo_variable_44 : DC b_Mo_variable 44 (.iconst 0) 1 45 := ⟨by decide +kernel, rfl⟩
theorem x_Mo_variable_45 : DC b_Mo_variable 45 (.iconst 0) 1 46 := ⟨by decide +kernel, rfl⟩
theorem x_Mo_variable_46 : DC b_Mo_variable 46 (.invokestatic 350) 3 49 := ⟨by decide +kernel, rfl⟩
theorem x_Mo_variable_49 : DC b_Mo_variable 49 (.invokevirtual 462) 3 52 := ⟨by decide +kernel, rfl⟩
theorem x_Mo_variable_52 : DC b_Mo_variable 52 (.ifCond .eq 5) 3 55 := ⟨by decide +kernel, rfl⟩
theorem x_Mo_variable_55 : DC b_Mo_variable 55 (.iconst 2) 1 56 := ⟨by decide +kernel, rfl⟩
theorem x_Mo_variable_56 : DC b_Mo_variable 56 (.ireturn) 1 57 := ⟨by decide +kernel, rfl⟩
theorem x_Mo_variable_57 : DC b_Mo_variable 57 (.aload_n 0) 1 58 := ⟨by decide +kernel, rfl⟩
theorem x_Mo_variable_58 : DC b_Mo_variable 58 (.bipush 121) 2 60 := ⟨by decide +kernel, rfl⟩
theorem x_Mo_variable_60 : DC b_Mo_variable 60 (.bipush 101) 2 62 := ⟨by decide +kernel, rfl⟩
theorem x_Mo_variable_62 : DC b_Mo_variable 62 (.bipush 97) 2 64 := ⟨by decide +kernel, rfl⟩
theorem x_Mo_variable_64 : DC b_Mo_variable 64 (.bipush 114) 2 66 := ⟨by decide +kernel, rfl⟩
theorem x_Mo_variable_66 : DC b_Mo_variable 66 (.iconst 0) 1 67 := ⟨by decide +kernel, rfl⟩
theorem x_Mo_variable_67 : DC b_Mo_variable 67 (.iconst 0) 1 68 := ⟨by decide +kernel, rfl⟩
theorem x_Mo_variable_68 : DC b_Mo_variable 68 (.invokestatic 350) 3 71 := ⟨by decide +kernel, rfl⟩
theorem x_Mo_variable_71 : DC b_Mo_variable 71 (.invokevirtual 462) 3 74 := ⟨by decide +kernel, rfl⟩
theorem x_Mo_variable_74 : DC b_Mo_variable 74 (.ifCond .eq 5) 3 77 := ⟨by decide +kernel, rfl⟩
theorem x_Mo_variable_77 : DC b_Mo_variable 77 (.iconst 3) 1 78 := ⟨by decide +kernel, rfl⟩
theorem x_Mo_variable_78 : DC b_Mo_variable 78 (.ireturn) 1 79 := ⟨by decide +kernel, rfl⟩
theorem x_Mo_variable_79 : DC b_Mo_variable 79 (.aload_n 0) 1 80 := ⟨by decide +kernel, rfl⟩
theorem x_Mo_variable_80 : DC b_Mo_variable 80 (.ldc2_w 468) 3 83 := ⟨by decide +kernel, rfl⟩
theorem x_Mo_variable_83 : DC b_Mo_variable 83 (.invokevirtual 462) 3 86 := ⟨by decide +kernel, rfl⟩
theorem x_Mo_variable_86 : DC b_Mo_variable 86 (.ifCond .eq 5) 3 89 := ⟨by decide +kernel, rfl⟩
theorem x_Mo_variable_89 : DC b_Mo_variable 89 (.iconst 4) 1 90 := ⟨by decide +kernel, rfl⟩
theorem x_Mo_variable_90 : DC b_Mo_variable 90 (.ireturn) 1 91 := ⟨by decide +kernel, rfl⟩
theorem x_Mo_variable_91 : DC b_Mo_variable 91 (.aload_n 0) 1 92 := ⟨by decide +kernel, rfl⟩
theorem x_Mo_variable_92 : DC b_Mo_variable 92 (.bipush 97) 2 94 := ⟨by decide +kernel, rfl⟩
theorem x_Mo_variable_94 : DC b_Mo_variable 94 (.bipush 99) 2 96 := ⟨by decide +kernel, rfl⟩
theorem x_Mo_variable_96 : DC b_Mo_variable 96 (.bipush 114) 2 98 := ⟨by decide +kernel, rfl⟩
theorem x_Mo_variable_98 : DC b_Mo_variable 98 (.bipush 101) 2 100 := ⟨by decide +kernel, rfl⟩
theorem x_Mo_variable_100 : DC b_Mo_variable 100 (.bipush 115) 2 102 := ⟨by decide +kernel, rfl⟩
theorem x_Mo_variable_102 : DC b_Mo_variable 102 (.iconst 0) 1 103 := ⟨by decide +kernel, rfl⟩
theorem x_Mo_variable_103 : DC b_Mo_variable 103 (.invokestatic 350) 3 106 := ⟨by decide +kernel, rfl⟩
theorem x_Mo_variable_106 : DC b_Mo_variable 106 (.invokevirtual 462) 3 109 := ⟨by decide +kernel, rfl⟩
theorem x_Mo_variable_109 : DC b_Mo_variable 109 (.ifCond .eq 5) 3 112 := ⟨by decide +kernel, rfl⟩
theorem x_Mo_variable_112 : DC b_Mo_variable 112 (.iconst 5) 1 113 := ⟨by decide +kernel, rfl⟩
theorem x_Mo_variable_113 : DC b_Mo_variable 113 (.ireturn) 1 114 := ⟨by decide +kernel, rfl⟩
theorem x_Mo_variable_114 : DC b_Mo_variable 114 (.aload_n 0) 1 115 := ⟨by decide +kernel, rfl⟩
theorem x_Mo_variable_115 : DC b_Mo_variable 115 (.bipush 100) 2 117 := ⟨by decide +kernel, rfl⟩
theorem x_Mo_variable_117 : DC b_Mo_variable 117 (.bipush 101) 2 119 := ⟨by decide +kernel, rfl⟩
theorem x_Mo_variable_119 : DC b_Mo_variable 119 (.bipush 98) 2 121 := ⟨by decide +kernel, rfl⟩
theorem x_Mo_variable_121 : DC b_Mo_variable 121 (.bipush 116) 2 123 := ⟨by decide +kernel, rfl⟩
theorem x_Mo_variable_123 : DC b_Mo_variable 123 (.iconst 0) 1 124 := ⟨by decide +kernel, rfl⟩
theorem x_Mo_variable_124 : DC b_Mo_variable 124 (.iconst 0) 1 125 := ⟨by decide +kernel, rfl⟩
theorem x_Mo_variable_125 : DC b_Mo_variable 125 (.invokestatic 350) 3 128 := ⟨by decide +kernel, rfl⟩
theorem x_Mo_variable_128 : DC b_Mo_variable 128 (.invokevirtual 462) 3 131 := ⟨by decide +kernel, rfl⟩
theorem x_Mo_variable_131 : DC b_Mo_variable 131 (.ifCond .eq 6) 3 134 := ⟨by decide +kernel, rfl⟩
theorem x_Mo_variable_134 : DC b_Mo_variable 134 (.bipush 6) 2 136 := ⟨by decide +kernel, rfl⟩
theorem x_Mo_variable_136 : DC b_Mo_variable 136 (.ireturn) 1 137 := ⟨by decide +kernel, rfl⟩
theorem x_Mo_variable_137 : DC b_Mo_variable 137 (.aload_n 0) 1 138 := ⟨by decide +kernel, rfl⟩
theorem x_Mo_variable_138 : DC b_Mo_variable 138 (.ldc2_w 470) 3 141 := ⟨by decide +kernel, rfl⟩
theorem x_Mo_variable_141 : DC b_Mo_variable 141 (.invokevirtual 462) 3 144 := ⟨by decide +kernel, rfl⟩
theorem x_Mo_variable_144 : DC b_Mo_variable 144 (.ifCond .eq 6) 3 147 := ⟨by decide +kernel, rfl⟩
theorem x_Mo_variable_147 : DC b_Mo_variable 147 (.bipush 7) 2 149 := ⟨by decide +kernel, rfl⟩
theorem x_Mo_variable_149 : DC b_Mo_variable 149 (.ireturn) 1 150 := ⟨by decide +kernel, rfl⟩
theorem x_Mo_variable_150 : DC b_Mo_variable 150 (.aload_n 0) 1 151 := ⟨by decide +kernel, rfl⟩
theorem x_Mo_variable_151 : DC b_Mo_variable 151 (.bipush 99) 2 153 := ⟨by decide +kernel, rfl⟩
theorem x_Mo_variable_153 : DC b_Mo_variable 153 (.bipush 97) 2 155 := ⟨by decide +kernel, rfl⟩
theorem x_Mo_variable_155 : DC b_Mo_variable 155 (.bipush 114) 2 157 := ⟨by decide +kernel, rfl⟩
theorem x_Mo_variable_157 : DC b_Mo_variable 157 (.bipush 115) 2 159 := ⟨by decide +kernel, rfl⟩
theorem x_Mo_variable_159 : DC b_Mo_variable 159 (.iconst 0) 1 160 := ⟨by decide +kernel, rfl⟩
theorem x_Mo_variable_160 : DC b_Mo_variable 160 (.iconst 0) 1 161 := ⟨by decide +kernel, rfl⟩
theorem x_Mo_variable_161 : DC b_Mo_variable 161 (.invokestatic 350) 3 164 := ⟨by decide +kernel, rfl⟩
theorem x_Mo_variable_164 : DC b_Mo_variable 164 (.invokevirtual 462) 3 167 := ⟨by decide +kernel, rfl⟩
theorem x_Mo_variable_167 : DC b_Mo_variable 167 (.ifCond .eq 6) 3 170 := ⟨by decide +kernel, rfl⟩
theorem x_Mo_variable_170 : DC b_Mo_variable 170 (.bipush 8) 2 172 := ⟨by decide +kernel, rfl⟩
theorem x_Mo_variable_172 : DC b_Mo_variable 172 (.ireturn) 1 173 := ⟨by decide +kernel, rfl⟩
theorem x_Mo_variable_173 : DC b_Mo_variable 173 (.aload_n 0) 1 174 := ⟨by decide +kernel, rfl⟩
theorem x_Mo_variable_174 : DC b_Mo_variable 174 (.bipush 119) 2 176 := ⟨by decide +kernel, rfl⟩
theorem x_Mo_variable_176 : DC b_Mo_variable 176 (.bipush 97) 2 178 := ⟨by decide +kernel, rfl⟩
theorem x_Mo_variable_178 : DC b_Mo_variable 178 (.bipush 105) 2 180 := ⟨by decide +kernel, rfl⟩
theorem x_Mo_variable_180 : DC b_Mo_variable 180 (.bipush 116) 2 182 := ⟨by decide +kernel, rfl⟩
theorem x_Mo_variable_182 : DC b_Mo_variable 182 (.bipush 115) 2 184 := ⟨by decide +kernel, rfl⟩
theorem x_Mo_variable_184 : DC b_Mo_variable 184 (.iconst 0) 1 185 := ⟨by decide +kernel, rfl⟩
theorem x_Mo_variable_185 : DC b_Mo_variable 185 (.invokestatic 350) 3 188 := ⟨by decide +kernel, rfl⟩
theorem x_Mo_variable_188 : DC b_Mo_variable 188 (.invokevirtual 462) 3 191 := ⟨by decide +kernel, rfl⟩
theorem x_Mo_variable_191 : DC b_Mo_variable 191 (.ifCond .eq 6) 3 194 := ⟨by decide +kernel, rfl⟩
theorem x_Mo_variable_194 : DC b_Mo_variable 194 (.bipush 9) 2 196 := ⟨by decide +kernel, rfl⟩
theorem x_Mo_variable_196 : DC b_Mo_variable 196 (.ireturn) 1 197 := ⟨by decide +kernel, rfl⟩
theorem x_Mo_variable_197 : DC b_Mo_variable 197 (.aload_n 0) 1 198 := ⟨by decide +kernel, rfl⟩
theorem x_Mo_variable_198 : DC b_Mo_variable 198 (.bipush 112) 2 200 := ⟨by decide +kernel, rfl⟩
theorem x_Mo_variable_200 : DC b_Mo_variable 200 (.bipush 114) 2 202 := ⟨by decide +kernel, rfl⟩
theorem x_Mo_variable_202 : DC b_Mo_variable 202 (.bipush 105) 2 204 := ⟨by decide +kernel, rfl⟩
theorem x_Mo_variable_204 : DC b_Mo_variable 204 (.bipush 99) 2 206 := ⟨by decide +kernel, rfl⟩
theorem x_Mo_variable_206 : DC b_Mo_variable 206 (.bipush 101) 2 208 := ⟨by decide +kernel, rfl⟩
theorem x_Mo_variable_208 : DC b_Mo_variable 208 (.iconst 0) 1 209 := ⟨by decide +kernel, rfl⟩
theorem x_Mo_variable_209 : DC b_Mo_variable 209 (.invokestatic 350) 3 212 := ⟨by decide +kernel, rfl⟩
theorem x_Mo_variable_212 : DC b_Mo_variable 212 (.invokevirtual 462) 3 215 := ⟨by decide +kernel, rfl⟩
theorem x_Mo_variable_215 : DC b_Mo_variable 215 (.ifCond .eq 8) 3 218 := ⟨by decide +kernel, rfl⟩
theorem x_Mo_variable_218 : DC b_Mo_variable 218 (.bipush 10) 2 220 := ⟨by decide +kernel, rfl⟩
theorem x_Mo_variable_220 : DC b_Mo_variable 220 (.goto 4) 3 223 := ⟨by decide +kernel, rfl⟩
theorem x_Mo_variable_223 : DC b_Mo_variable 223 (.iconst (-1)) 1 224 := ⟨by decide +kernel, rfl⟩
theorem x_Mo_variable_224 : DC b_Mo_variable 224 (.ireturn) 1 225 := ⟨by decide +kernel, rfl⟩
def d_Mo_variable (M : Mem) : Res := bcall (d_Mo_spelled 103 114 97 100 101 0 M) fun v1 M2 => bcall (d_Mo_isWord v1 M2) fun v3 M4 => if w32 v3 = 0 then (bcall (d_Mo_isWord 253792434 M4) fun v6 M7 => if w32 v6 = 0 then (bcall (d_Mo_spelled 119 101 101 107 0 0 M7) fun v9 M10 => bcall (d_Mo_isWord v9 M10) fun v11 M12 => if w32 v11 = 0 then (bcall (d_Mo_spelled 121 101 97 114 0 0 M12) fun v14 M15 => bcall (d_Mo_isWord v14 M15) fun v16 M17 => if w32 v16 = 0 then (bcall (d_Mo_isWord 2872317331 M17) fun v19 M20 => if w32 v19 = 0 then (bcall (d_Mo_spelled 97 99 114 101 115 0 M20) fun v22 M23 => bcall (d_Mo_isWord v22 M23) fun v24 M25 => if w32 v24 = 0 then (bcall (d_Mo_spelled 100 101 98 116 0 0 M25) fun v27 M28 => bcall (d_Mo_isWord v27 M28) fun v29 M30 => if w32 v29 = 0 then (bcall (d_Mo_isWord 147761734772 M30) fun v32 M33 => if w32 v32 = 0 then (bcall (d_Mo_spelled 99 97 114 115 0 0 M33) fun v35 M36 => bcall (d_Mo_isWord v35 M36) fun v37 M38 => if w32 v37 = 0 then (bcall (d_Mo_spelled 119 97 105 116 115 0 M38) fun v40 M41 => bcall (d_Mo_isWord v40 M41) fun v42 M43 => if w32 v42 = 0 then (bcall (d_Mo_spelled 112 114 105 99 101 0 M43) fun v45 M46 => bcall (d_Mo_isWord v45 M46) fun v47 M48 => if w32 v47 = 0 then (some ((-1), M48)) else (some (10, M48))) else (some (9, M43))) else (some (8, M38))) else (some (7, M33))) else (some (6, M30))) else (some (5, M25))) else (some (4, M20))) else (some (3, M17))) else (some (2, M12))) else (some (1, M7))) else (some (0, M4))
theorem t_Mo_variable (l : Launch) (G : GX) {lev : Nat} (hlev : 1 ≤ lev) {M : Mem} {r : Int × Mem} (h : d_Mo_variable M = some r) : Mt l G y_Mo_variable b_Mo_variable 1 (some .int) lev 1 [.ref (G.1 + 111)] M r := by
  refine Mt.of (by decide) (i_le rfl) ?_
  intro p e s m args below meth c C
  have C : Cx p s m args meth c G b_Mo_variable 1 "PrairiePoolModel" (some .int) := C
  unfold d_Mo_variable at h
  refine z_sub (lv' := [(0, .ref (G.1 + 111))]) [0] rfl ?_
  refine z_aload_n C 0 x_Mo_variable_0 rfl ?_
  refine z_bipush C rfl x_Mo_variable_1 ?_
  refine z_bipush C rfl x_Mo_variable_3 ?_
  refine z_bipush C rfl x_Mo_variable_5 ?_
  refine z_bipush C rfl x_Mo_variable_7 ?_
  refine z_bipush C rfl x_Mo_variable_9 ?_
  refine z_iconst C x_Mo_variable_11 ?_
  obtain ⟨v1, M2, fv1, h⟩ := bcall_e h
  refine z_callSl C x_Mo_variable_12 cs_Mo_350 (t_Mo_spelled (lev := lev - 1) l G (by omega) fv1) (by omega) rfl (i_le rfl) rfl ?_
  obtain ⟨v3, M4, fv3, h⟩ := bcall_e h
  refine z_callVi (k := 111) C x_Mo_variable_15 cv_Mo_462 (t_Mo_isWord (lev := lev - 1) l G (by omega) fv3) nk_111 ck_111 rfl (by omega) rfl (i_le rfl) rfl ?_
  rcases ite_e h with ⟨c5, h⟩ | ⟨c5, h⟩
  · refine z_if_eq_t (tgt := 23) C x_Mo_variable_18 rfl c5 ?_
    refine z_aload_n C 0 x_Mo_variable_23 rfl ?_
    refine z_ldc2 C kl_Mo_466 x_Mo_variable_24 ?_
    obtain ⟨v6, M7, fv6, h⟩ := bcall_e h
    refine z_callVi (k := 111) C x_Mo_variable_27 cv_Mo_462 (t_Mo_isWord (lev := lev - 1) l G (by omega) fv6) nk_111 ck_111 rfl (by omega) rfl (i_le rfl) rfl ?_
    rcases ite_e h with ⟨c8, h⟩ | ⟨c8, h⟩
    · refine z_if_eq_t (tgt := 35) C x_Mo_variable_30 rfl c8 ?_
      refine z_aload_n C 0 x_Mo_variable_35 rfl ?_
      refine z_bipush C rfl x_Mo_variable_36 ?_
      refine z_bipush C rfl x_Mo_variable_38 ?_
      refine z_bipush C rfl x_Mo_variable_40 ?_
      refine z_bipush C rfl x_Mo_variable_42 ?_
      refine z_iconst C x_Mo_variable_44 ?_
      refine z_iconst C x_Mo_variable_45 ?_
      obtain ⟨v9, M10, fv9, h⟩ := bcall_e h
      refine z_callSl C x_Mo_variable_46 cs_Mo_350 (t_Mo_spelled (lev := lev - 1) l G (by omega) fv9) (by omega) rfl (i_le rfl) rfl ?_
      obtain ⟨v11, M12, fv11, h⟩ := bcall_e h
      refine z_callVi (k := 111) C x_Mo_variable_49 cv_Mo_462 (t_Mo_isWord (lev := lev - 1) l G (by omega) fv11) nk_111 ck_111 rfl (by omega) rfl (i_le rfl) rfl ?_
      rcases ite_e h with ⟨c13, h⟩ | ⟨c13, h⟩
      · refine z_if_eq_t (tgt := 57) C x_Mo_variable_52 rfl c13 ?_
        refine z_aload_n C 0 x_Mo_variable_57 rfl ?_
        refine z_bipush C rfl x_Mo_variable_58 ?_
        refine z_bipush C rfl x_Mo_variable_60 ?_
        refine z_bipush C rfl x_Mo_variable_62 ?_
        refine z_bipush C rfl x_Mo_variable_64 ?_
        refine z_iconst C x_Mo_variable_66 ?_
        refine z_iconst C x_Mo_variable_67 ?_
        obtain ⟨v14, M15, fv14, h⟩ := bcall_e h
        refine z_callSl C x_Mo_variable_68 cs_Mo_350 (t_Mo_spelled (lev := lev - 1) l G (by omega) fv14) (by omega) rfl (i_le rfl) rfl ?_
        obtain ⟨v16, M17, fv16, h⟩ := bcall_e h
        refine z_callVi (k := 111) C x_Mo_variable_71 cv_Mo_462 (t_Mo_isWord (lev := lev - 1) l G (by omega) fv16) nk_111 ck_111 rfl (by omega) rfl (i_le rfl) rfl ?_
        rcases ite_e h with ⟨c18, h⟩ | ⟨c18, h⟩
        · refine z_if_eq_t (tgt := 79) C x_Mo_variable_74 rfl c18 ?_
          refine z_aload_n C 0 x_Mo_variable_79 rfl ?_
          refine z_ldc2 C kl_Mo_468 x_Mo_variable_80 ?_
          obtain ⟨v19, M20, fv19, h⟩ := bcall_e h
          refine z_callVi (k := 111) C x_Mo_variable_83 cv_Mo_462 (t_Mo_isWord (lev := lev - 1) l G (by omega) fv19) nk_111 ck_111 rfl (by omega) rfl (i_le rfl) rfl ?_
          rcases ite_e h with ⟨c21, h⟩ | ⟨c21, h⟩
          · refine z_if_eq_t (tgt := 91) C x_Mo_variable_86 rfl c21 ?_
            refine z_aload_n C 0 x_Mo_variable_91 rfl ?_
            refine z_bipush C rfl x_Mo_variable_92 ?_
            refine z_bipush C rfl x_Mo_variable_94 ?_
            refine z_bipush C rfl x_Mo_variable_96 ?_
            refine z_bipush C rfl x_Mo_variable_98 ?_
            refine z_bipush C rfl x_Mo_variable_100 ?_
            refine z_iconst C x_Mo_variable_102 ?_
            obtain ⟨v22, M23, fv22, h⟩ := bcall_e h
            refine z_callSl C x_Mo_variable_103 cs_Mo_350 (t_Mo_spelled (lev := lev - 1) l G (by omega) fv22) (by omega) rfl (i_le rfl) rfl ?_
            obtain ⟨v24, M25, fv24, h⟩ := bcall_e h
            refine z_callVi (k := 111) C x_Mo_variable_106 cv_Mo_462 (t_Mo_isWord (lev := lev - 1) l G (by omega) fv24) nk_111 ck_111 rfl (by omega) rfl (i_le rfl) rfl ?_
            rcases ite_e h with ⟨c26, h⟩ | ⟨c26, h⟩
            · refine z_if_eq_t (tgt := 114) C x_Mo_variable_109 rfl c26 ?_
              refine z_aload_n C 0 x_Mo_variable_114 rfl ?_
              refine z_bipush C rfl x_Mo_variable_115 ?_
              refine z_bipush C rfl x_Mo_variable_117 ?_
              refine z_bipush C rfl x_Mo_variable_119 ?_
              refine z_bipush C rfl x_Mo_variable_121 ?_
              refine z_iconst C x_Mo_variable_123 ?_
              refine z_iconst C x_Mo_variable_124 ?_
              obtain ⟨v27, M28, fv27, h⟩ := bcall_e h
              refine z_callSl C x_Mo_variable_125 cs_Mo_350 (t_Mo_spelled (lev := lev - 1) l G (by omega) fv27) (by omega) rfl (i_le rfl) rfl ?_
              obtain ⟨v29, M30, fv29, h⟩ := bcall_e h
              refine z_callVi (k := 111) C x_Mo_variable_128 cv_Mo_462 (t_Mo_isWord (lev := lev - 1) l G (by omega) fv29) nk_111 ck_111 rfl (by omega) rfl (i_le rfl) rfl ?_
              rcases ite_e h with ⟨c31, h⟩ | ⟨c31, h⟩
              · refine z_if_eq_t (tgt := 137) C x_Mo_variable_131 rfl c31 ?_
                refine z_aload_n C 0 x_Mo_variable_137 rfl ?_
                refine z_ldc2 C kl_Mo_470 x_Mo_variable_138 ?_
                obtain ⟨v32, M33, fv32, h⟩ := bcall_e h
                refine z_callVi (k := 111) C x_Mo_variable_141 cv_Mo_462 (t_Mo_isWord (lev := lev - 1) l G (by omega) fv32) nk_111 ck_111 rfl (by omega) rfl (i_le rfl) rfl ?_
                rcases ite_e h with ⟨c34, h⟩ | ⟨c34, h⟩
                · refine z_if_eq_t (tgt := 150) C x_Mo_variable_144 rfl c34 ?_
                  refine z_aload_n C 0 x_Mo_variable_150 rfl ?_
                  refine z_bipush C rfl x_Mo_variable_151 ?_
                  refine z_bipush C rfl x_Mo_variable_153 ?_
                  refine z_bipush C rfl x_Mo_variable_155 ?_
                  refine z_bipush C rfl x_Mo_variable_157 ?_
                  refine z_iconst C x_Mo_variable_159 ?_
                  refine z_iconst C x_Mo_variable_160 ?_
                  obtain ⟨v35, M36, fv35, h⟩ := bcall_e h
                  refine z_callSl C x_Mo_variable_161 cs_Mo_350 (t_Mo_spelled (lev := lev - 1) l G (by omega) fv35) (by omega) rfl (i_le rfl) rfl ?_
                  obtain ⟨v37, M38, fv37, h⟩ := bcall_e h
                  refine z_callVi (k := 111) C x_Mo_variable_164 cv_Mo_462 (t_Mo_isWord (lev := lev - 1) l G (by omega) fv37) nk_111 ck_111 rfl (by omega) rfl (i_le rfl) rfl ?_
                  rcases ite_e h with ⟨c39, h⟩ | ⟨c39, h⟩
                  · refine z_if_eq_t (tgt := 173) C x_Mo_variable_167 rfl c39 ?_
                    refine z_aload_n C 0 x_Mo_variable_173 rfl ?_
                    refine z_bipush C rfl x_Mo_variable_174 ?_
                    refine z_bipush C rfl x_Mo_variable_176 ?_
                    refine z_bipush C rfl x_Mo_variable_178 ?_
                    refine z_bipush C rfl x_Mo_variable_180 ?_
                    refine z_bipush C rfl x_Mo_variable_182 ?_
                    refine z_iconst C x_Mo_variable_184 ?_
                    obtain ⟨v40, M41, fv40, h⟩ := bcall_e h
                    refine z_callSl C x_Mo_variable_185 cs_Mo_350 (t_Mo_spelled (lev := lev - 1) l G (by omega) fv40) (by omega) rfl (i_le rfl) rfl ?_
                    obtain ⟨v42, M43, fv42, h⟩ := bcall_e h
                    refine z_callVi (k := 111) C x_Mo_variable_188 cv_Mo_462 (t_Mo_isWord (lev := lev - 1) l G (by omega) fv42) nk_111 ck_111 rfl (by omega) rfl (i_le rfl) rfl ?_
                    rcases ite_e h with ⟨c44, h⟩ | ⟨c44, h⟩
                    · refine z_if_eq_t (tgt := 197) C x_Mo_variable_191 rfl c44 ?_
                      refine z_aload_n C 0 x_Mo_variable_197 rfl ?_
                      refine z_bipush C rfl x_Mo_variable_198 ?_
                      refine z_bipush C rfl x_Mo_variable_200 ?_
                      refine z_bipush C rfl x_Mo_variable_202 ?_
                      refine z_bipush C rfl x_Mo_variable_204 ?_
                      refine z_bipush C rfl x_Mo_variable_206 ?_
                      refine z_iconst C x_Mo_variable_208 ?_
                      obtain ⟨v45, M46, fv45, h⟩ := bcall_e h
                      refine z_callSl C x_Mo_variable_209 cs_Mo_350 (t_Mo_spelled (lev := lev - 1) l G (by omega) fv45) (by omega) rfl (i_le rfl) rfl ?_
                      obtain ⟨v47, M48, fv47, h⟩ := bcall_e h
                      refine z_callVi (k := 111) C x_Mo_variable_212 cv_Mo_462 (t_Mo_isWord (lev := lev - 1) l G (by omega) fv47) nk_111 ck_111 rfl (by omega) rfl (i_le rfl) rfl ?_
                      rcases ite_e h with ⟨c49, h⟩ | ⟨c49, h⟩
                      · refine z_if_eq_t (tgt := 223) C x_Mo_variable_215 rfl c49 ?_
                        refine z_iconst C x_Mo_variable_223 ?_
                        exact z_iret C x_Mo_variable_224 h
                      · refine z_if_eq_f (tgt := 223) C x_Mo_variable_215 rfl c49 ?_
                        refine z_bipush C rfl x_Mo_variable_218 ?_
                        refine z_goto (tgt := 224) C x_Mo_variable_220 rfl ?_
                        exact z_iret C x_Mo_variable_224 h
                    · refine z_if_eq_f (tgt := 197) C x_Mo_variable_191 rfl c44 ?_
                      refine z_bipush C rfl x_Mo_variable_194 ?_
                      exact z_iret C x_Mo_variable_196 h
                  · refine z_if_eq_f (tgt := 173) C x_Mo_variable_167 rfl c39 ?_
                    refine z_bipush C rfl x_Mo_variable_170 ?_
                    exact z_iret C x_Mo_variable_172 h
                · refine z_if_eq_f (tgt := 150) C x_Mo_variable_144 rfl c34 ?_
                  refine z_bipush C rfl x_Mo_variable_147 ?_
                  exact z_iret C x_Mo_variable_149 h
              · refine z_if_eq_f (tgt := 137) C x_Mo_variable_131 rfl c31 ?_
                refine z_bipush C rfl x_Mo_variable_134 ?_
                exact z_iret C x_Mo_variable_136 h
            · refine z_if_eq_f (tgt := 114) C x_Mo_variable_109 rfl c26 ?_
              refine z_iconst C x_Mo_variable_112 ?_
              exact z_iret C x_Mo_variable_113 h
          · refine z_if_eq_f (tgt := 91) C x_Mo_variable_86 rfl c21 ?_
            refine z_iconst C x_Mo_variable_89 ?_
            exact z_iret C x_Mo_variable_90 h
        · refine z_if_eq_f (tgt := 79) C x_Mo_variable_74 rfl c18 ?_
          refine z_iconst C x_Mo_variable_77 ?_
          exact z_iret C x_Mo_variable_78 h
      · refine z_if_eq_f (tgt := 57) C x_Mo_variable_52 rfl c13 ?_
        refine z_iconst C x_Mo_variable_55 ?_
        exact z_iret C x_Mo_variable_56 h
    · refine z_if_eq_f (tgt := 35) C x_Mo_variable_30 rfl c8 ?_
      refine z_iconst C x_Mo_variable_33 ?_
      exact z_iret C x_Mo_variable_34 h
  · refine z_if_eq_f (tgt := 23) C x_Mo_variable_18 rfl c5 ?_
    refine z_iconst C x_Mo_variable_21 ?_
    exact z_iret C x_Mo_variable_22 h
theorem x_Mo_isIf_0 : DC b_Mo_isIf 0 (.aload_n 0) 1 1 := ⟨by decide +kernel, rfl⟩
theorem x_Mo_isIf_1 : DC b_Mo_isIf 1 (.bipush 105) 2 3 := ⟨by decide +kernel, rfl⟩
theorem x_Mo_isIf_3 : DC b_Mo_isIf 3 (.bipush 102) 2 5 := ⟨by decide +kernel, rfl⟩
theorem x_Mo_isIf_5 : DC b_Mo_isIf 5 (.iconst 0) 1 6 := ⟨by decide +kernel, rfl⟩
theorem x_Mo_isIf_6 : DC b_Mo_isIf 6 (.iconst 0) 1 7 := ⟨by decide +kernel, rfl⟩
theorem x_Mo_isIf_7 : DC b_Mo_isIf 7 (.iconst 0) 1 8 := ⟨by decide +kernel, rfl⟩
theorem x_Mo_isIf_8 : DC b_Mo_isIf 8 (.iconst 0) 1 9 := ⟨by decide +kernel, rfl⟩
theorem x_Mo_isIf_9 : DC b_Mo_isIf 9 (.invokestatic 350) 3 12 := ⟨by decide +kernel, rfl⟩
theorem x_Mo_isIf_12 : DC b_Mo_isIf 12 (.invokevirtual 462) 3 15 := ⟨by decide +kernel, rfl⟩
theorem x_Mo_isIf_15 : DC b_Mo_isIf 15 (.ireturn) 1 16 := ⟨by decide +kernel, rfl⟩
def d_Mo_isIf (M : Mem) : Res := bcall (d_Mo_spelled 105 102 0 0 0 0 M) fun v1 M2 => bcall (d_Mo_isWord v1 M2) fun v3 M4 => chk (w32 v3 = 0 ∨ w32 v3 = 1) <| some (v3, M4)
theorem t_Mo_isIf (l : Launch) (G : GX) {lev : Nat} (hlev : 1 ≤ lev) {M : Mem} {r : Int × Mem} (h : d_Mo_isIf M = some r) : Mt l G y_Mo_isIf b_Mo_isIf 1 (some .boolean) lev 1 [.ref (G.1 + 111)] M r := by
  refine Mt.of (by decide) (i_le rfl) ?_
  intro p e s m args below meth c C
  have C : Cx p s m args meth c G b_Mo_isIf 1 "PrairiePoolModel" (some .boolean) := C
  unfold d_Mo_isIf at h
  refine z_sub (lv' := [(0, .ref (G.1 + 111))]) [0] rfl ?_
  refine z_aload_n C 0 x_Mo_isIf_0 rfl ?_
  refine z_bipush C rfl x_Mo_isIf_1 ?_
  refine z_bipush C rfl x_Mo_isIf_3 ?_
  refine z_iconst C x_Mo_isIf_5 ?_
  refine z_iconst C x_Mo_isIf_6 ?_
  refine z_iconst C x_Mo_isIf_7 ?_
  refine z_iconst C x_Mo_isIf_8 ?_
  obtain ⟨v1, M2, fv1, h⟩ := bcall_e h
  refine z_callSl C x_Mo_isIf_9 cs_Mo_350 (t_Mo_spelled (lev := lev - 1) l G (by omega) fv1) (by omega) rfl (i_le rfl) rfl ?_
  obtain ⟨v3, M4, fv3, h⟩ := bcall_e h
  refine z_callVi (k := 111) C x_Mo_isIf_12 cv_Mo_462 (t_Mo_isWord (lev := lev - 1) l G (by omega) fv3) nk_111 ck_111 rfl (by omega) rfl (i_le rfl) rfl ?_
  obtain ⟨c5, h⟩ := chk_e h
  exact z_zret C x_Mo_isIf_15 c5 h
theorem x_Mo_isThen_0 : DC b_Mo_isThen 0 (.aload_n 0) 1 1 := ⟨by decide +kernel, rfl⟩
theorem x_Mo_isThen_1 : DC b_Mo_isThen 1 (.bipush 116) 2 3 := ⟨by decide +kernel, rfl⟩
theorem x_Mo_isThen_3 : DC b_Mo_isThen 3 (.bipush 104) 2 5 := ⟨by decide +kernel, rfl⟩
theorem x_Mo_isThen_5 : DC b_Mo_isThen 5 (.bipush 101) 2 7 := ⟨by decide +kernel, rfl⟩
theorem x_Mo_isThen_7 : DC b_Mo_isThen 7 (.bipush 110) 2 9 := ⟨by decide +kernel, rfl⟩
theorem x_Mo_isThen_9 : DC b_Mo_isThen 9 (.iconst 0) 1 10 := ⟨by decide +kernel, rfl⟩
theorem x_Mo_isThen_10 : DC b_Mo_isThen 10 (.iconst 0) 1 11 := ⟨by decide +kernel, rfl⟩
theorem x_Mo_isThen_11 : DC b_Mo_isThen 11 (.invokestatic 350) 3 14 := ⟨by decide +kernel, rfl⟩
theorem x_Mo_isThen_14 : DC b_Mo_isThen 14 (.invokevirtual 462) 3 17 := ⟨by decide +kernel, rfl⟩
theorem x_Mo_isThen_17 : DC b_Mo_isThen 17 (.ireturn) 1 18 := ⟨by decide +kernel, rfl⟩
def d_Mo_isThen (M : Mem) : Res := bcall (d_Mo_spelled 116 104 101 110 0 0 M) fun v1 M2 => bcall (d_Mo_isWord v1 M2) fun v3 M4 => chk (w32 v3 = 0 ∨ w32 v3 = 1) <| some (v3, M4)
theorem t_Mo_isThen (l : Launch) (G : GX) {lev : Nat} (hlev : 1 ≤ lev) {M : Mem} {r : Int × Mem} (h : d_Mo_isThen M = some r) : Mt l G y_Mo_isThen b_Mo_isThen 1 (some .boolean) lev 1 [.ref (G.1 + 111)] M r := by
  refine Mt.of (by decide) (i_le rfl) ?_
  intro p e s m args below meth c C
  have C : Cx p s m args meth c G b_Mo_isThen 1 "PrairiePoolModel" (some .boolean) := C
  unfold d_Mo_isThen at h
  refine z_sub (lv' := [(0, .ref (G.1 + 111))]) [0] rfl ?_
  refine z_aload_n C 0 x_Mo_isThen_0 rfl ?_
  refine z_bipush C rfl x_Mo_isThen_1 ?_
  refine z_bipush C rfl x_Mo_isThen_3 ?_
  refine z_bipush C rfl x_Mo_isThen_5 ?_
  refine z_bipush C rfl x_Mo_isThen_7 ?_
  refine z_iconst C x_Mo_isThen_9 ?_
  refine z_iconst C x_Mo_isThen_10 ?_
  obtain ⟨v1, M2, fv1, h⟩ := bcall_e h
  refine z_callSl C x_Mo_isThen_11 cs_Mo_350 (t_Mo_spelled (lev := lev - 1) l G (by omega) fv1) (by omega) rfl (i_le rfl) rfl ?_
  obtain ⟨v3, M4, fv3, h⟩ := bcall_e h
  refine z_callVi (k := 111) C x_Mo_isThen_14 cv_Mo_462 (t_Mo_isWord (lev := lev - 1) l G (by omega) fv3) nk_111 ck_111 rfl (by omega) rfl (i_le rfl) rfl ?_
  obtain ⟨c5, h⟩ := chk_e h
  exact z_zret C x_Mo_isThen_17 c5 h
theorem x_Mo_isElse_0 : DC b_Mo_isElse 0 (.aload_n 0) 1 1 := ⟨by decide +kernel, rfl⟩
theorem x_Mo_isElse_1 : DC b_Mo_isElse 1 (.bipush 101) 2 3 := ⟨by decide +kernel, rfl⟩
theorem x_Mo_isElse_3 : DC b_Mo_isElse 3 (.bipush 108) 2 5 := ⟨by decide +kernel, rfl⟩
theorem x_Mo_isElse_5 : DC b_Mo_isElse 5 (.bipush 115) 2 7 := ⟨by decide +kernel, rfl⟩
theorem x_Mo_isElse_7 : DC b_Mo_isElse 7 (.bipush 101) 2 9 := ⟨by decide +kernel, rfl⟩
theorem x_Mo_isElse_9 : DC b_Mo_isElse 9 (.iconst 0) 1 10 := ⟨by decide +kernel, rfl⟩
theorem x_Mo_isElse_10 : DC b_Mo_isElse 10 (.iconst 0) 1 11 := ⟨by decide +kernel, rfl⟩
theorem x_Mo_isElse_11 : DC b_Mo_isElse 11 (.invokestatic 350) 3 14 := ⟨by decide +kernel, rfl⟩
theorem x_Mo_isElse_14 : DC b_Mo_isElse 14 (.invokevirtual 462) 3 17 := ⟨by decide +kernel, rfl⟩
theorem x_Mo_isElse_17 : DC b_Mo_isElse 17 (.ireturn) 1 18 := ⟨by decide +kernel, rfl⟩
def d_Mo_isElse (M : Mem) : Res := bcall (d_Mo_spelled 101 108 115 101 0 0 M) fun v1 M2 => bcall (d_Mo_isWord v1 M2) fun v3 M4 => chk (w32 v3 = 0 ∨ w32 v3 = 1) <| some (v3, M4)
theorem t_Mo_isElse (l : Launch) (G : GX) {lev : Nat} (hlev : 1 ≤ lev) {M : Mem} {r : Int × Mem} (h : d_Mo_isElse M = some r) : Mt l G y_Mo_isElse b_Mo_isElse 1 (some .boolean) lev 1 [.ref (G.1 + 111)] M r := by
  refine Mt.of (by decide) (i_le rfl) ?_
  intro p e s m args below meth c C
  have C : Cx p s m args meth c G b_Mo_isElse 1 "PrairiePoolModel" (some .boolean) := C
  unfold d_Mo_isElse at h
  refine z_sub (lv' := [(0, .ref (G.1 + 111))]) [0] rfl ?_
  refine z_aload_n C 0 x_Mo_isElse_0 rfl ?_
  refine z_bipush C rfl x_Mo_isElse_1 ?_
  refine z_bipush C rfl x_Mo_isElse_3 ?_
  refine z_bipush C rfl x_Mo_isElse_5 ?_
  refine z_bipush C rfl x_Mo_isElse_7 ?_
  refine z_iconst C x_Mo_isElse_9 ?_
  refine z_iconst C x_Mo_isElse_10 ?_
  obtain ⟨v1, M2, fv1, h⟩ := bcall_e h
  refine z_callSl C x_Mo_isElse_11 cs_Mo_350 (t_Mo_spelled (lev := lev - 1) l G (by omega) fv1) (by omega) rfl (i_le rfl) rfl ?_
  obtain ⟨v3, M4, fv3, h⟩ := bcall_e h
  refine z_callVi (k := 111) C x_Mo_isElse_14 cv_Mo_462 (t_Mo_isWord (lev := lev - 1) l G (by omega) fv3) nk_111 ck_111 rfl (by omega) rfl (i_le rfl) rfl ?_
  obtain ⟨c5, h⟩ := chk_e h
  exact z_zret C x_Mo_isElse_17 c5 h
theorem x_Mo_isAnd_0 : DC b_Mo_isAnd 0 (.aload_n 0) 1 1 := ⟨by decide +kernel, rfl⟩
theorem x_Mo_isAnd_1 : DC b_Mo_isAnd 1 (.bipush 97) 2 3 := ⟨by decide +kernel, rfl⟩
theorem x_Mo_isAnd_3 : DC b_Mo_isAnd 3 (.bipush 110) 2 5 := ⟨by decide +kernel, rfl⟩
theorem x_Mo_isAnd_5 : DC b_Mo_isAnd 5 (.bipush 100) 2 7 := ⟨by decide +kernel, rfl⟩
theorem x_Mo_isAnd_7 : DC b_Mo_isAnd 7 (.iconst 0) 1 8 := ⟨by decide +kernel, rfl⟩
theorem x_Mo_isAnd_8 : DC b_Mo_isAnd 8 (.iconst 0) 1 9 := ⟨by decide +kernel, rfl⟩
theorem x_Mo_isAnd_9 : DC b_Mo_isAnd 9 (.iconst 0) 1 10 := ⟨by decide +kernel, rfl⟩
theorem x_Mo_isAnd_10 : DC b_Mo_isAnd 10 (.invokestatic 350) 3 13 := ⟨by decide +kernel, rfl⟩
theorem x_Mo_isAnd_13 : DC b_Mo_isAnd 13 (.invokevirtual 462) 3 16 := ⟨by decide +kernel, rfl⟩
theorem x_Mo_isAnd_16 : DC b_Mo_isAnd 16 (.ireturn) 1 17 := ⟨by decide +kernel, rfl⟩
def d_Mo_isAnd (M : Mem) : Res := bcall (d_Mo_spelled 97 110 100 0 0 0 M) fun v1 M2 => bcall (d_Mo_isWord v1 M2) fun v3 M4 => chk (w32 v3 = 0 ∨ w32 v3 = 1) <| some (v3, M4)
theorem t_Mo_isAnd (l : Launch) (G : GX) {lev : Nat} (hlev : 1 ≤ lev) {M : Mem} {r : Int × Mem} (h : d_Mo_isAnd M = some r) : Mt l G y_Mo_isAnd b_Mo_isAnd 1 (some .boolean) lev 1 [.ref (G.1 + 111)] M r := by
  refine Mt.of (by decide) (i_le rfl) ?_
  intro p e s m args below meth c C
  have C : Cx p s m args meth c G b_Mo_isAnd 1 "PrairiePoolModel" (some .boolean) := C
  unfold d_Mo_isAnd at h
  refine z_sub (lv' := [(0, .ref (G.1 + 111))]) [0] rfl ?_
  refine z_aload_n C 0 x_Mo_isAnd_0 rfl ?_
  refine z_bipush C rfl x_Mo_isAnd_1 ?_
  refine z_bipush C rfl x_Mo_isAnd_3 ?_
  refine z_bipush C rfl x_Mo_isAnd_5 ?_
  refine z_iconst C x_Mo_isAnd_7 ?_
  refine z_iconst C x_Mo_isAnd_8 ?_
  refine z_iconst C x_Mo_isAnd_9 ?_
  obtain ⟨v1, M2, fv1, h⟩ := bcall_e h
  refine z_callSl C x_Mo_isAnd_10 cs_Mo_350 (t_Mo_spelled (lev := lev - 1) l G (by omega) fv1) (by omega) rfl (i_le rfl) rfl ?_
  obtain ⟨v3, M4, fv3, h⟩ := bcall_e h
  refine z_callVi (k := 111) C x_Mo_isAnd_13 cv_Mo_462 (t_Mo_isWord (lev := lev - 1) l G (by omega) fv3) nk_111 ck_111 rfl (by omega) rfl (i_le rfl) rfl ?_
  obtain ⟨c5, h⟩ := chk_e h
  exact z_zret C x_Mo_isAnd_16 c5 h
theorem x_Mo_isOr_0 : DC b_Mo_isOr 0 (.aload_n 0) 1 1 := ⟨by decide +kernel, rfl⟩
theorem x_Mo_isOr_1 : DC b_Mo_isOr 1 (.bipush 111) 2 3 := ⟨by decide +kernel, rfl⟩
theorem x_Mo_isOr_3 : DC b_Mo_isOr 3 (.bipush 114) 2 5 := ⟨by decide +kernel, rfl⟩
theorem x_Mo_isOr_5 : DC b_Mo_isOr 5 (.iconst 0) 1 6 := ⟨by decide +kernel, rfl⟩
theorem x_Mo_isOr_6 : DC b_Mo_isOr 6 (.iconst 0) 1 7 := ⟨by decide +kernel, rfl⟩
theorem x_Mo_isOr_7 : DC b_Mo_isOr 7 (.iconst 0) 1 8 := ⟨by decide +kernel, rfl⟩
theorem x_Mo_isOr_8 : DC b_Mo_isOr 8 (.iconst 0) 1 9 := ⟨by decide +kernel, rfl⟩
theorem x_Mo_isOr_9 : DC b_Mo_isOr 9 (.invokestatic 350) 3 12 := ⟨by decide +kernel, rfl⟩
theorem x_Mo_isOr_12 : DC b_Mo_isOr 12 (.invokevirtual 462) 3 15 := ⟨by decide +kernel, rfl⟩
theorem x_Mo_isOr_15 : DC b_Mo_isOr 15 (.ireturn) 1 16 := ⟨by decide +kernel, rfl⟩
def d_Mo_isOr (M : Mem) : Res := bcall (d_Mo_spelled 111 114 0 0 0 0 M) fun v1 M2 => bcall (d_Mo_isWord v1 M2) fun v3 M4 => chk (w32 v3 = 0 ∨ w32 v3 = 1) <| some (v3, M4)
theorem t_Mo_isOr (l : Launch) (G : GX) {lev : Nat} (hlev : 1 ≤ lev) {M : Mem} {r : Int × Mem} (h : d_Mo_isOr M = some r) : Mt l G y_Mo_isOr b_Mo_isOr 1 (some .boolean) lev 1 [.ref (G.1 + 111)] M r := by
  refine Mt.of (by decide) (i_le rfl) ?_
  intro p e s m args below meth c C
  have C : Cx p s m args meth c G b_Mo_isOr 1 "PrairiePoolModel" (some .boolean) := C
  unfold d_Mo_isOr at h
  refine z_sub (lv' := [(0, .ref (G.1 + 111))]) [0] rfl ?_
  refine z_aload_n C 0 x_Mo_isOr_0 rfl ?_
  refine z_bipush C rfl x_Mo_isOr_1 ?_
  refine z_bipush C rfl x_Mo_isOr_3 ?_
  refine z_iconst C x_Mo_isOr_5 ?_
  refine z_iconst C x_Mo_isOr_6 ?_
  refine z_iconst C x_Mo_isOr_7 ?_
  refine z_iconst C x_Mo_isOr_8 ?_
  obtain ⟨v1, M2, fv1, h⟩ := bcall_e h
  refine z_callSl C x_Mo_isOr_9 cs_Mo_350 (t_Mo_spelled (lev := lev - 1) l G (by omega) fv1) (by omega) rfl (i_le rfl) rfl ?_
  obtain ⟨v3, M4, fv3, h⟩ := bcall_e h
  refine z_callVi (k := 111) C x_Mo_isOr_12 cv_Mo_462 (t_Mo_isWord (lev := lev - 1) l G (by omega) fv3) nk_111 ck_111 rfl (by omega) rfl (i_le rfl) rfl ?_
  obtain ⟨c5, h⟩ := chk_e h
  exact z_zret C x_Mo_isOr_15 c5 h
theorem x_Mo_isNot_0 : DC b_Mo_isNot 0 (.aload_n 0) 1 1 := ⟨by decide +kernel, rfl⟩
theorem x_Mo_isNot_1 : DC b_Mo_isNot 1 (.bipush 110) 2 3 := ⟨by decide +kernel, rfl⟩
theorem x_Mo_isNot_3 : DC b_Mo_isNot 3 (.bipush 111) 2 5 := ⟨by decide +kernel, rfl⟩
theorem x_Mo_isNot_5 : DC b_Mo_isNot 5 (.bipush 116) 2 7 := ⟨by decide +kernel, rfl⟩
theorem x_Mo_isNot_7 : DC b_Mo_isNot 7 (.iconst 0) 1 8 := ⟨by decide +kernel, rfl⟩
theorem x_Mo_isNot_8 : DC b_Mo_isNot 8 (.iconst 0) 1 9 := ⟨by decide +kernel, rfl⟩
theorem x_Mo_isNot_9 : DC b_Mo_isNot 9 (.iconst 0) 1 10 := ⟨by decide +kernel, rfl⟩
theorem x_Mo_isNot_10 : DC b_Mo_isNot 10 (.invokestatic 350) 3 13 := ⟨by decide +kernel, rfl⟩
theorem x_Mo_isNot_13 : DC b_Mo_isNot 13 (.invokevirtual 462) 3 16 := ⟨by decide +kernel, rfl⟩
theorem x_Mo_isNot_16 : DC b_Mo_isNot 16 (.ireturn) 1 17 := ⟨by decide +kernel, rfl⟩
def d_Mo_isNot (M : Mem) : Res := bcall (d_Mo_spelled 110 111 116 0 0 0 M) fun v1 M2 => bcall (d_Mo_isWord v1 M2) fun v3 M4 => chk (w32 v3 = 0 ∨ w32 v3 = 1) <| some (v3, M4)
theorem t_Mo_isNot (l : Launch) (G : GX) {lev : Nat} (hlev : 1 ≤ lev) {M : Mem} {r : Int × Mem} (h : d_Mo_isNot M = some r) : Mt l G y_Mo_isNot b_Mo_isNot 1 (some .boolean) lev 1 [.ref (G.1 + 111)] M r := by
  refine Mt.of (by decide) (i_le rfl) ?_
  intro p e s m args below meth c C
  have C : Cx p s m args meth c G b_Mo_isNot 1 "PrairiePoolModel" (some .boolean) := C
  unfold d_Mo_isNot at h
  refine z_sub (lv' := [(0, .ref (G.1 + 111))]) [0] rfl ?_
  refine z_aload_n C 0 x_Mo_isNot_0 rfl ?_
  refine z_bipush C rfl x_Mo_isNot_1 ?_
  refine z_bipush C rfl x_Mo_isNot_3 ?_
  refine z_bipush C rfl x_Mo_isNot_5 ?_
  refine z_iconst C x_Mo_isNot_7 ?_
  refine z_iconst C x_Mo_isNot_8 ?_
  refine z_iconst C x_Mo_isNot_9 ?_
  obtain ⟨v1, M2, fv1, h⟩ := bcall_e h
  refine z_callSl C x_Mo_isNot_10 cs_Mo_350 (t_Mo_spelled (lev := lev - 1) l G (by omega) fv1) (by omega) rfl (i_le rfl) rfl ?_
  obtain ⟨v3, M4, fv3, h⟩ := bcall_e h
  refine z_callVi (k := 111) C x_Mo_isNot_13 cv_Mo_462 (t_Mo_isWord (lev := lev - 1) l G (by omega) fv3) nk_111 ck_111 rfl (by omega) rfl (i_le rfl) rfl ?_
  obtain ⟨c5, h⟩ := chk_e h
  exact z_zret C x_Mo_isNot_16 c5 h
theorem x_Mo_isLeast_0 : DC b_Mo_isLeast 0 (.aload_n 0) 1 1 := ⟨by decide +kernel, rfl⟩
theorem x_Mo_isLeast_1 : DC b_Mo_isLeast 1 (.bipush 108) 2 3 := ⟨by decide +kernel, rfl⟩
theorem x_Mo_isLeast_3 : DC b_Mo_isLeast 3 (.bipush 101) 2 5 := ⟨by decide +kernel, rfl⟩
theorem x_Mo_isLeast_5 : DC b_Mo_isLeast 5 (.bipush 97) 2 7 := ⟨by decide +kernel, rfl⟩
theorem x_Mo_isLeast_7 : DC b_Mo_isLeast 7 (.bipush 115) 2 9 := ⟨by decide +kernel, rfl⟩
theorem x_Mo_isLeast_9 : DC b_Mo_isLeast 9 (.bipush 116) 2 11 := ⟨by decide +kernel, rfl⟩
theorem x_Mo_isLeast_11 : DC b_Mo_isLeast 11 (.iconst 0) 1 12 := ⟨by decide +kernel, rfl⟩
theorem x_Mo_isLeast_12 : DC b_Mo_isLeast 12 (.invokestatic 350) 3 15 := ⟨by decide +kernel, rfl⟩
theorem x_Mo_isLeast_15 : DC b_Mo_isLeast 15 (.invokevirtual 462) 3 18 := ⟨by decide +kernel, rfl⟩
theorem x_Mo_isLeast_18 : DC b_Mo_isLeast 18 (.ireturn) 1 19 := ⟨by decide +kernel, rfl⟩
def d_Mo_isLeast (M : Mem) : Res := bcall (d_Mo_spelled 108 101 97 115 116 0 M) fun v1 M2 => bcall (d_Mo_isWord v1 M2) fun v3 M4 => chk (w32 v3 = 0 ∨ w32 v3 = 1) <| some (v3, M4)
theorem t_Mo_isLeast (l : Launch) (G : GX) {lev : Nat} (hlev : 1 ≤ lev) {M : Mem} {r : Int × Mem} (h : d_Mo_isLeast M = some r) : Mt l G y_Mo_isLeast b_Mo_isLeast 1 (some .boolean) lev 1 [.ref (G.1 + 111)] M r := by
  refine Mt.of (by decide) (i_le rfl) ?_
  intro p e s m args below meth c C
  have C : Cx p s m args meth c G b_Mo_isLeast 1 "PrairiePoolModel" (some .boolean) := C
  unfold d_Mo_isLeast at h
  refine z_sub (lv' := [(0, .ref (G.1 + 111))]) [0] rfl ?_
  refine z_aload_n C 0 x_Mo_isLeast_0 rfl ?_
  refine z_bipush C rfl x_Mo_isLeast_1 ?_
  refine z_bipush C rfl x_Mo_isLeast_3 ?_
  refine z_bipush C rfl x_Mo_isLeast_5 ?_
  refine z_bipush C rfl x_Mo_isLeast_7 ?_
  refine z_bipush C rfl x_Mo_isLeast_9 ?_
  refine z_iconst C x_Mo_isLeast_11 ?_
  obtain ⟨v1, M2, fv1, h⟩ := bcall_e h
  refine z_callSl C x_Mo_isLeast_12 cs_Mo_350 (t_Mo_spelled (lev := lev - 1) l G (by omega) fv1) (by omega) rfl (i_le rfl) rfl ?_
  obtain ⟨v3, M4, fv3, h⟩ := bcall_e h
  refine z_callVi (k := 111) C x_Mo_isLeast_15 cv_Mo_462 (t_Mo_isWord (lev := lev - 1) l G (by omega) fv3) nk_111 ck_111 rfl (by omega) rfl (i_le rfl) rfl ?_
  obtain ⟨c5, h⟩ := chk_e h
  exact z_zret C x_Mo_isLeast_18 c5 h
theorem x_Mo_isMost_0 : DC b_Mo_isMost 0 (.aload_n 0) 1 1 := ⟨by decide +kernel, rfl⟩
theorem x_Mo_isMost_1 : DC b_Mo_isMost 1 (.bipush 109) 2 3 := ⟨by decide +kernel, rfl⟩
theorem x_Mo_isMost_3 : DC b_Mo_isMost 3 (.bipush 111) 2 5 := ⟨by decide +kernel, rfl⟩
theorem x_Mo_isMost_5 : DC b_Mo_isMost 5 (.bipush 115) 2 7 := ⟨by decide +kernel, rfl⟩
theorem x_Mo_isMost_7 : DC b_Mo_isMost 7 (.bipush 116) 2 9 := ⟨by decide +kernel, rfl⟩
theorem x_Mo_isMost_9 : DC b_Mo_isMost 9 (.iconst 0) 1 10 := ⟨by decide +kernel, rfl⟩
theorem x_Mo_isMost_10 : DC b_Mo_isMost 10 (.iconst 0) 1 11 := ⟨by decide +kernel, rfl⟩
theorem x_Mo_isMost_11 : DC b_Mo_isMost 11 (.invokestatic 350) 3 14 := ⟨by decide +kernel, rfl⟩
theorem x_Mo_isMost_14 : DC b_Mo_isMost 14 (.invokevirtual 462) 3 17 := ⟨by decide +kernel, rfl⟩
theorem x_Mo_isMost_17 : DC b_Mo_isMost 17 (.ireturn) 1 18 := ⟨by decide +kernel, rfl⟩
def d_Mo_isMost (M : Mem) : Res := bcall (d_Mo_spelled 109 111 115 116 0 0 M) fun v1 M2 => bcall (d_Mo_isWord v1 M2) fun v3 M4 => chk (w32 v3 = 0 ∨ w32 v3 = 1) <| some (v3, M4)
theorem t_Mo_isMost (l : Launch) (G : GX) {lev : Nat} (hlev : 1 ≤ lev) {M : Mem} {r : Int × Mem} (h : d_Mo_isMost M = some r) : Mt l G y_Mo_isMost b_Mo_isMost 1 (some .boolean) lev 1 [.ref (G.1 + 111)] M r := by
  refine Mt.of (by decide) (i_le rfl) ?_
  intro p e s m args below meth c C
  have C : Cx p s m args meth c G b_Mo_isMost 1 "PrairiePoolModel" (some .boolean) := C
  unfold d_Mo_isMost at h
  refine z_sub (lv' := [(0, .ref (G.1 + 111))]) [0] rfl ?_
  refine z_aload_n C 0 x_Mo_isMost_0 rfl ?_
  refine z_bipush C rfl x_Mo_isMost_1 ?_
  refine z_bipush C rfl x_Mo_isMost_3 ?_
  refine z_bipush C rfl x_Mo_isMost_5 ?_
  refine z_bipush C rfl x_Mo_isMost_7 ?_
  refine z_iconst C x_Mo_isMost_9 ?_
  refine z_iconst C x_Mo_isMost_10 ?_
  obtain ⟨v1, M2, fv1, h⟩ := bcall_e h
  refine z_callSl C x_Mo_isMost_11 cs_Mo_350 (t_Mo_spelled (lev := lev - 1) l G (by omega) fv1) (by omega) rfl (i_le rfl) rfl ?_
  obtain ⟨v3, M4, fv3, h⟩ := bcall_e h
  refine z_callVi (k := 111) C x_Mo_isMost_14 cv_Mo_462 (t_Mo_isWord (lev := lev - 1) l G (by omega) fv3) nk_111 ck_111 rfl (by omega) rfl (i_le rfl) rfl ?_
  obtain ⟨c5, h⟩ := chk_e h
  exact z_zret C x_Mo_isMost_17 c5 h
theorem x_Mo_isKept_0 : DC b_Mo_isKept 0 (.aload_n 0) 1 1 := ⟨by decide +kernel, rfl⟩
theorem x_Mo_isKept_1 : DC b_Mo_isKept 1 (.invokevirtual 472) 3 4 := ⟨by decide +kernel, rfl⟩
theorem x_Mo_isKept_4 : DC b_Mo_isKept 4 (.ifCond .ne 52) 3 7 := ⟨by decide +kernel, rfl⟩
theorem x_Mo_isKept_7 : DC b_Mo_isKept 7 (.aload_n 0) 1 8 := ⟨by decide +kernel, rfl⟩
theorem x_Mo_isKept_8 : DC b_Mo_isKept 8 (.invokevirtual 476) 3 11 := ⟨by decide +kernel, rfl⟩
theorem x_Mo_isKept_11 : DC b_Mo_isKept 11 (.ifCond .ne 45) 3 14 := ⟨by decide +kernel, rfl⟩
theorem x_Mo_isKept_14 : DC b_Mo_isKept 14 (.aload_n 0) 1 15 := ⟨by decide +kernel, rfl⟩
theorem x_Mo_isKept_15 : DC b_Mo_isKept 15 (.invokevirtual 479) 3 18 := ⟨by decide +kernel, rfl⟩
theorem x_Mo_isKept_18 : DC b_Mo_isKept 18 (.ifCond .ne 38) 3 21 := ⟨by decide +kernel, rfl⟩
theorem x_Mo_isKept_21 : DC b_Mo_isKept 21 (.aload_n 0) 1 22 := ⟨by decide +kernel, rfl⟩
theorem x_Mo_isKept_22 : DC b_Mo_isKept 22 (.invokevirtual 482) 3 25 := ⟨by decide +kernel, rfl⟩
theorem x_Mo_isKept_25 : DC b_Mo_isKept 25 (.ifCond .ne 31) 3 28 := ⟨by decide +kernel, rfl⟩
theorem x_Mo_isKept_28 : DC b_Mo_isKept 28 (.aload_n 0) 1 29 := ⟨by decide +kernel, rfl⟩
theorem x_Mo_isKept_29 : DC b_Mo_isKept 29 (.invokevirtual 485) 3 32 := ⟨by decide +kernel, rfl⟩
theorem x_Mo_isKept_32 : DC b_Mo_isKept 32 (.ifCond .ne 24) 3 35 := ⟨by decide +kernel, rfl⟩
theorem x_Mo_isKept_35 : DC b_Mo_isKept 35 (.aload_n 0) 1 36 := ⟨by decide +kernel, rfl⟩
theorem x_Mo_isKept_36 : DC b_Mo_isKept 36 (.invokevirtual 488) 3 39 := ⟨by decide +kernel, rfl⟩
theorem x_Mo_isKept_39 : DC b_Mo_isKept 39 (.ifCond .ne 17) 3 42 := ⟨by decide +kernel, rfl⟩
theorem x_Mo_isKept_42 : DC b_Mo_isKept 42 (.aload_n 0) 1 43 := ⟨by decide +kernel, rfl⟩
theorem x_Mo_isKept_43 : DC b_Mo_isKept 43 (.invokevirtual 491) 3 46 := ⟨by decide +kernel, rfl⟩
theorem x_Mo_isKept_46 : DC b_Mo_isKept 46 (.ifCond .ne 10) 3 49 := ⟨by decide +kernel, rfl⟩
theorem x_Mo_isKept_49 : DC b_Mo_isKept 49 (.aload_n 0) 1 50 := ⟨by decide +kernel, rfl⟩
theorem x_Mo_isKept_50 : DC b_Mo_isKept 50 (.invokevirtual 494) 3 53 := ⟨by decide +kernel, rfl⟩
theorem x_Mo_isKept_53 : DC b_Mo_isKept 53 (.ifCond .eq 7) 3 56 := ⟨by decide +kernel, rfl⟩
theorem x_Mo_isKept_56 : DC b_Mo_isKept 56 (.iconst 1) 1 57 := ⟨by decide +kernel, rfl⟩
theorem x_Mo_isKept_57 : DC b_Mo_isKept 57 (.goto 4) 3 60 := ⟨by decide +kernel, rfl⟩
theorem x_Mo_isKept_60 : DC b_Mo_isKept 60 (.iconst 0) 1 61 := ⟨by decide +kernel, rfl⟩
theorem x_Mo_isKept_61 : DC b_Mo_isKept 61 (.ireturn) 1 62 := ⟨by decide +kernel, rfl⟩
def k_Mo_isKept_56 (M : Mem) : Res := some (1, M)
theorem z_Mo_isKept_56 (C : Cx p s m args meth c G b_Mo_isKept 1 "PrairiePoolModel" (some .boolean)) (hlev : 2 ≤ lev) {r : Int × Mem}  {M : Mem} (h : k_Mo_isKept_56 M = some r) : Z p l e lev s m args below meth c G 1 (MQ below (Qm G 1 r) args s 0 0 (Ab G)) M 56 [] [] := by
  unfold k_Mo_isKept_56 at h
  refine z_iconst C x_Mo_isKept_56 ?_
  refine z_goto (tgt := 61) C x_Mo_isKept_57 rfl ?_
  exact z_zret C x_Mo_isKept_61 (by decide) h
def d_Mo_isKept (M : Mem) : Res := bcall (d_Mo_isIf M) fun v1 M2 => if w32 v1 = 0 then (bcall (d_Mo_isThen M2) fun v4 M5 => if w32 v4 = 0 then (bcall (d_Mo_isElse M5) fun v7 M8 => if w32 v7 = 0 then (bcall (d_Mo_isAnd M8) fun v10 M11 => if w32 v10 = 0 then (bcall (d_Mo_isOr M11) fun v13 M14 => if w32 v13 = 0 then (bcall (d_Mo_isNot M14) fun v16 M17 => if w32 v16 = 0 then (bcall (d_Mo_isLeast M17) fun v19 M20 => if w32 v19 = 0 then (bcall (d_Mo_isMost M20) fun v22 M23 => if w32 v22 = 0 then (some (0, M23)) else (k_Mo_isKept_56 M23)) else (k_Mo_isKept_56 M20)) else (k_Mo_isKept_56 M17)) else (k_Mo_isKept_56 M14)) else (k_Mo_isKept_56 M11)) else (k_Mo_isKept_56 M8)) else (k_Mo_isKept_56 M5)) else (k_Mo_isKept_56 M2)
theorem t_Mo_isKept (l : Launch) (G : GX) {lev : Nat} (hlev : 2 ≤ lev) {M : Mem} {r : Int × Mem} (h : d_Mo_isKept M = some r) : Mt l G y_Mo_isKept b_Mo_isKept 1 (some .boolean) lev 1 [.ref (G.1 + 111)] M r := by
  refine Mt.of (by decide) (i_le rfl) ?_
  intro p e s m args below meth c C
  have C : Cx p s m args meth c G b_Mo_isKept 1 "PrairiePoolModel" (some .boolean) := C
  unfold d_Mo_isKept at h
  refine z_sub (lv' := [(0, .ref (G.1 + 111))]) [0] rfl ?_
  refine z_aload_n C 0 x_Mo_isKept_0 rfl ?_
  obtain ⟨v1, M2, fv1, h⟩ := bcall_e h
  refine z_callVi (k := 111) C x_Mo_isKept_1 cv_Mo_472 (t_Mo_isIf (lev := lev - 1) l G (by omega) fv1) nk_111 ck_111 rfl (by omega) rfl (i_le rfl) rfl ?_
  rcases ite_e h with ⟨c3, h⟩ | ⟨c3, h⟩
  · refine z_if_ne_f (tgt := 56) C x_Mo_isKept_4 rfl c3 ?_
    refine z_aload_n C 0 x_Mo_isKept_7 rfl ?_
    obtain ⟨v4, M5, fv4, h⟩ := bcall_e h
    refine z_callVi (k := 111) C x_Mo_isKept_8 cv_Mo_476 (t_Mo_isThen (lev := lev - 1) l G (by omega) fv4) nk_111 ck_111 rfl (by omega) rfl (i_le rfl) rfl ?_
    rcases ite_e h with ⟨c6, h⟩ | ⟨c6, h⟩
    · refine z_if_ne_f (tgt := 56) C x_Mo_isKept_11 rfl c6 ?_
      refine z_aload_n C 0 x_Mo_isKept_14 rfl ?_
      obtain ⟨v7, M8, fv7, h⟩ := bcall_e h
      refine z_callVi (k := 111) C x_Mo_isKept_15 cv_Mo_479 (t_Mo_isElse (lev := lev - 1) l G (by omega) fv7) nk_111 ck_111 rfl (by omega) rfl (i_le rfl) rfl ?_
      rcases ite_e h with ⟨c9, h⟩ | ⟨c9, h⟩
      · refine z_if_ne_f (tgt := 56) C x_Mo_isKept_18 rfl c9 ?_
        refine z_aload_n C 0 x_Mo_isKept_21 rfl ?_
        obtain ⟨v10, M11, fv10, h⟩ := bcall_e h
        refine z_callVi (k := 111) C x_Mo_isKept_22 cv_Mo_482 (t_Mo_isAnd (lev := lev - 1) l G (by omega) fv10) nk_111 ck_111 rfl (by omega) rfl (i_le rfl) rfl ?_
        rcases ite_e h with ⟨c12, h⟩ | ⟨c12, h⟩
        · refine z_if_ne_f (tgt := 56) C x_Mo_isKept_25 rfl c12 ?_
          refine z_aload_n C 0 x_Mo_isKept_28 rfl ?_
          obtain ⟨v13, M14, fv13, h⟩ := bcall_e h
          refine z_callVi (k := 111) C x_Mo_isKept_29 cv_Mo_485 (t_Mo_isOr (lev := lev - 1) l G (by omega) fv13) nk_111 ck_111 rfl (by omega) rfl (i_le rfl) rfl ?_
          rcases ite_e h with ⟨c15, h⟩ | ⟨c15, h⟩
          · refine z_if_ne_f (tgt := 56) C x_Mo_isKept_32 rfl c15 ?_
            refine z_aload_n C 0 x_Mo_isKept_35 rfl ?_
            obtain ⟨v16, M17, fv16, h⟩ := bcall_e h
            refine z_callVi (k := 111) C x_Mo_isKept_36 cv_Mo_488 (t_Mo_isNot (lev := lev - 1) l G (by omega) fv16) nk_111 ck_111 rfl (by omega) rfl (i_le rfl) rfl ?_
            rcases ite_e h with ⟨c18, h⟩ | ⟨c18, h⟩
            · refine z_if_ne_f (tgt := 56) C x_Mo_isKept_39 rfl c18 ?_
              refine z_aload_n C 0 x_Mo_isKept_42 rfl ?_
              obtain ⟨v19, M20, fv19, h⟩ := bcall_e h
              refine z_callVi (k := 111) C x_Mo_isKept_43 cv_Mo_491 (t_Mo_isLeast (lev := lev - 1) l G (by omega) fv19) nk_111 ck_111 rfl (by omega) rfl (i_le rfl) rfl ?_
              rcases ite_e h with ⟨c21, h⟩ | ⟨c21, h⟩
              · refine z_if_ne_f (tgt := 56) C x_Mo_isKept_46 rfl c21 ?_
                refine z_aload_n C 0 x_Mo_isKept_49 rfl ?_
                obtain ⟨v22, M23, fv22, h⟩ := bcall_e h
                refine z_callVi (k := 111) C x_Mo_isKept_50 cv_Mo_494 (t_Mo_isMost (lev := lev - 1) l G (by omega) fv22) nk_111 ck_111 rfl (by omega) rfl (i_le rfl) rfl ?_
                rcases ite_e h with ⟨c24, h⟩ | ⟨c24, h⟩
                · refine z_if_eq_t (tgt := 60) C x_Mo_isKept_53 rfl c24 ?_
                  refine z_iconst C x_Mo_isKept_60 ?_
                  exact z_zret C x_Mo_isKept_61 (by decide) h
                · refine z_if_eq_f (tgt := 60) C x_Mo_isKept_53 rfl c24 ?_
                  exact z_sub [] rfl (z_Mo_isKept_56 C hlev h)
              · refine z_if_ne_t (tgt := 56) C x_Mo_isKept_46 rfl c21 ?_
                exact z_sub [] rfl (z_Mo_isKept_56 C hlev h)
            · refine z_if_ne_t (tgt := 56) C x_Mo_isKept_39 rfl c18 ?_
              exact z_sub [] rfl (z_Mo_isKept_56 C hlev h)
          · refine z_if_ne_t (tgt := 56) C x_Mo_isKept_32 rfl c15 ?_
            exact z_sub [] rfl (z_Mo_isKept_56 C hlev h)
        · refine z_if_ne_t (tgt := 56) C x_Mo_isKept_25 rfl c12 ?_
          exact z_sub [] rfl (z_Mo_isKept_56 C hlev h)
      · refine z_if_ne_t (tgt := 56) C x_Mo_isKept_18 rfl c9 ?_
        exact z_sub [] rfl (z_Mo_isKept_56 C hlev h)
    · refine z_if_ne_t (tgt := 56) C x_Mo_isKept_11 rfl c6 ?_
      exact z_sub [] rfl (z_Mo_isKept_56 C hlev h)
  · refine z_if_ne_t (tgt := 56) C x_Mo_isKept_4 rfl c3 ?_
    exact z_sub [] rfl (z_Mo_isKept_56 C hlev h)
theorem x_Mo_fail_0 : DC b_Mo_fail 0 (.aload_n 0) 1 1 := ⟨by decide +kernel, rfl⟩
theorem x_Mo_fail_1 : DC b_Mo_fail 1 (.getfield 453) 3 4 := ⟨by decide +kernel, rfl⟩
theorem x_Mo_fail_4 : DC b_Mo_fail 4 (.ifCond .le 4) 3 7 := ⟨by decide +kernel, rfl⟩
theorem x_Mo_fail_7 : DC b_Mo_fail 7 (.return_) 1 8 := ⟨by decide +kernel, rfl⟩
theorem x_Mo_fail_8 : DC b_Mo_fail 8 (.aload_n 0) 1 9 := ⟨by decide +kernel, rfl⟩
theorem x_Mo_fail_9 : DC b_Mo_fail 9 (.iload_n 1) 1 10 := ⟨by decide +kernel, rfl⟩
theorem x_Mo_fail_10 : DC b_Mo_fail 10 (.putfield 453) 3 13 := ⟨by decide +kernel, rfl⟩
theorem x_Mo_fail_13 : DC b_Mo_fail 13 (.aload_n 0) 1 14 := ⟨by decide +kernel, rfl⟩
theorem x_Mo_fail_14 : DC b_Mo_fail 14 (.iload_n 2) 1 15 := ⟨by decide +kernel, rfl⟩
theorem x_Mo_fail_15 : DC b_Mo_fail 15 (.putfield 456) 3 18 := ⟨by decide +kernel, rfl⟩
theorem x_Mo_fail_18 : DC b_Mo_fail 18 (.return_) 1 19 := ⟨by decide +kernel, rfl⟩
def d_Mo_fail (a1 a2 : Int) (M : Mem) : Res := blet (M 111 48) fun v1 => if 0 < w32 v1 then (some (0, M)) else (blet (sto M 111 48 a1) fun M3 => blet (sto M3 111 49 a2) fun M4 => some (0, M4))
theorem t_Mo_fail (l : Launch) (G : GX) {lev : Nat} (hlev : 0 ≤ lev) {a1 a2 : Int} {M : Mem} {r : Int × Mem} (h : d_Mo_fail a1 a2 M = some r) : Mt l G y_Mo_fail b_Mo_fail 3 none lev 0 [.ref (G.1 + 111), vi a1, vi a2] M r := by
  refine Mt.of (by decide) (i_le rfl) ?_
  intro p e s m args below meth c C
  have C : Cx p s m args meth c G b_Mo_fail 3 "PrairiePoolModel" none := C
  unfold d_Mo_fail at h
  refine z_sub (lv' := [(0, .ref (G.1 + 111)), (1, vi a1), (2, vi a2)]) [0, 1, 2] rfl ?_
  refine z_aload_n C 0 x_Mo_fail_0 rfl ?_
  obtain ⟨v1, ev1, h⟩ := blet_e h
  refine z_getI (j := 48) C x_Mo_fail_1 nk_111 ck_111 cw_12 (i_lt rfl) rfl rfl fl_Mo_453 ev1 ?_
  rcases ite_e h with ⟨c2, h⟩ | ⟨c2, h⟩
  · refine z_if_le_f (tgt := 8) C x_Mo_fail_4 rfl c2 ?_
    exact z_vret C x_Mo_fail_7 h
  · refine z_if_le_t (tgt := 8) C x_Mo_fail_4 rfl c2 ?_
    refine z_aload_n C 0 x_Mo_fail_8 rfl ?_
    refine z_iload_n C 1 x_Mo_fail_9 rfl ?_
    obtain ⟨M3, eM3, h⟩ := blet_e h
    refine z_putI (j := 48) C x_Mo_fail_10 nk_111 ck_111 cw_12 (i_lt rfl) rfl rfl rfl rfl fl_Mo_453 eM3 ?_
    refine z_aload_n C 0 x_Mo_fail_13 rfl ?_
    refine z_iload_n C 2 x_Mo_fail_14 rfl ?_
    obtain ⟨M4, eM4, h⟩ := blet_e h
    refine z_putI (j := 49) C x_Mo_fail_15 nk_111 ck_111 cw_12 (i_lt rfl) rfl rfl rfl rfl fl_Mo_456 eM4 ?_
    exact z_vret C x_Mo_fail_18 h
theorem x_Mo_wrong_0 : DC b_Mo_wrong 0 (.aload_n 0) 1 1 := ⟨by decide +kernel, rfl⟩
theorem x_Mo_wrong_1 : DC b_Mo_wrong 1 (.aload_n 0) 1 2 := ⟨by decide +kernel, rfl⟩
theorem x_Mo_wrong_2 : DC b_Mo_wrong 2 (.getfield 422) 3 5 := ⟨by decide +kernel, rfl⟩
theorem x_Mo_wrong_5 : DC b_Mo_wrong 5 (.iconst 4) 1 6 := ⟨by decide +kernel, rfl⟩
theorem x_Mo_wrong_6 : DC b_Mo_wrong 6 (.if_icmp .ne 7) 3 9 := ⟨by decide +kernel, rfl⟩
theorem x_Mo_wrong_9 : DC b_Mo_wrong 9 (.iconst 1) 1 10 := ⟨by decide +kernel, rfl⟩
theorem x_Mo_wrong_10 : DC b_Mo_wrong 10 (.goto 4) 3 13 := ⟨by decide +kernel, rfl⟩
theorem x_Mo_wrong_13 : DC b_Mo_wrong 13 (.iconst 2) 1 14 := ⟨by decide +kernel, rfl⟩
theorem x_Mo_wrong_14 : DC b_Mo_wrong 14 (.aload_n 0) 1 15 := ⟨by decide +kernel, rfl⟩
theorem x_Mo_wrong_15 : DC b_Mo_wrong 15 (.getfield 416) 3 18 := ⟨by decide +kernel, rfl⟩
theorem x_Mo_wrong_18 : DC b_Mo_wrong 18 (.invokevirtual 459) 3 21 := ⟨by decide +kernel, rfl⟩
theorem x_Mo_wrong_21 : DC b_Mo_wrong 21 (.return_) 1 22 := ⟨by decide +kernel, rfl⟩
def k_Mo_wrong_14 (s1 : Int) (M : Mem) : Res := blet (M 111 51) fun v1 => bcall (d_Mo_fail s1 v1 M) fun v2 M3 => some (0, M3)
theorem z_Mo_wrong_14 (C : Cx p s m args meth c G b_Mo_wrong 1 "PrairiePoolModel" none) (hlev : 1 ≤ lev) {r : Int × Mem}  {s1 : Int} {M : Mem} (h : k_Mo_wrong_14 s1 M = some r) : Z p l e lev s m args below meth c G 1 (MQ below (Qm G 0 r) args s 0 0 (Ab G)) M 14 [(0, .ref (G.1 + 111))] [vi s1, .ref (G.1 + 111)] := by
  unfold k_Mo_wrong_14 at h
  refine z_aload_n C 0 x_Mo_wrong_14 rfl ?_
  obtain ⟨v1, ev1, h⟩ := blet_e h
  refine z_getI (j := 51) C x_Mo_wrong_15 nk_111 ck_111 cw_12 (i_lt rfl) rfl rfl fl_Mo_416 ev1 ?_
  obtain ⟨v2, M3, fv2, h⟩ := bcall_e h
  refine z_callVv (k := 111) C x_Mo_wrong_18 cv_Mo_459 (t_Mo_fail (lev := lev - 1) l G (by omega) fv2) nk_111 ck_111 rfl (by omega) rfl (i_le rfl) rfl ?_
  exact z_vret C x_Mo_wrong_21 h
def d_Mo_wrong (M : Mem) : Res := blet (M 111 50) fun v1 => if w32 v1 = 4 then (k_Mo_wrong_14 1 M) else (k_Mo_wrong_14 2 M)
theorem t_Mo_wrong (l : Launch) (G : GX) {lev : Nat} (hlev : 1 ≤ lev) {M : Mem} {r : Int × Mem} (h : d_Mo_wrong M = some r) : Mt l G y_Mo_wrong b_Mo_wrong 1 none lev 0 [.ref (G.1 + 111)] M r := by
  refine Mt.of (by decide) (i_le rfl) ?_
  intro p e s m args below meth c C
  have C : Cx p s m args meth c G b_Mo_wrong 1 "PrairiePoolModel" none := C
  unfold d_Mo_wrong at h
  refine z_sub (lv' := [(0, .ref (G.1 + 111))]) [0] rfl ?_
  refine z_aload_n C 0 x_Mo_wrong_0 rfl ?_
  refine z_aload_n C 0 x_Mo_wrong_1 rfl ?_
  obtain ⟨v1, ev1, h⟩ := blet_e h
  refine z_getI (j := 50) C x_Mo_wrong_2 nk_111 ck_111 cw_12 (i_lt rfl) rfl rfl fl_Mo_422 ev1 ?_
  refine z_iconst C x_Mo_wrong_5 ?_
  rcases ite_e h with ⟨c2, h⟩ | ⟨c2, h⟩
  · refine z_icmp_ne_f (tgt := 13) C x_Mo_wrong_6 rfl c2 ?_
    refine z_iconst C x_Mo_wrong_9 ?_
    refine z_goto (tgt := 14) C x_Mo_wrong_10 rfl ?_
    exact z_sub [0] rfl (z_Mo_wrong_14 C hlev h)
  · refine z_icmp_ne_t (tgt := 13) C x_Mo_wrong_6 rfl c2 ?_
    refine z_iconst C x_Mo_wrong_13 ?_
    exact z_sub [0] rfl (z_Mo_wrong_14 C hlev h)
theorem x_Mo_named_0 : DC b_Mo_named 0 (.iconst 0) 1 1 := ⟨by decide +kernel, rfl⟩
theorem x_Mo_named_1 : DC b_Mo_named 1 (.istore_n 1) 1 2 := ⟨by decide +kernel, rfl⟩
theorem x_Mo_named_2 : DC b_Mo_named 2 (.aload_n 0) 1 3 := ⟨by decide +kernel, rfl⟩
theorem x_Mo_named_3 : DC b_Mo_named 3 (.getfield 422) 3 6 := ⟨by decide +kernel, rfl⟩
theorem x_Mo_named_6 : DC b_Mo_named 6 (.iconst 1) 1 7 := ⟨by decide +kernel, rfl⟩
theorem x_Mo_named_7 : DC b_Mo_named 7 (.if_icmp .ne 42) 3 10 := ⟨by decide +kernel, rfl⟩
theorem x_Mo_named_10 : DC b_Mo_named 10 (.aload_n 0) 1 11 := ⟨by decide +kernel, rfl⟩
theorem x_Mo_named_11 : DC b_Mo_named 11 (.getfield 436) 3 14 := ⟨by decide +kernel, rfl⟩
theorem x_Mo_named_14 : DC b_Mo_named 14 (.bipush 8) 2 16 := ⟨by decide +kernel, rfl⟩
theorem x_Mo_named_16 : DC b_Mo_named 16 (.if_icmp .gt 33) 3 19 := ⟨by decide +kernel, rfl⟩
theorem x_Mo_named_19 : DC b_Mo_named 19 (.iload_n 1) 1 20 := ⟨by decide +kernel, rfl⟩
theorem x_Mo_named_20 : DC b_Mo_named 20 (.aload_n 0) 1 21 := ⟨by decide +kernel, rfl⟩
theorem x_Mo_named_21 : DC b_Mo_named 21 (.getfield 497) 3 24 := ⟨by decide +kernel, rfl⟩
theorem x_Mo_named_24 : DC b_Mo_named 24 (.if_icmp .ge 25) 3 27 := ⟨by decide +kernel, rfl⟩
theorem x_Mo_named_27 : DC b_Mo_named 27 (.aload_n 0) 1 28 := ⟨by decide +kernel, rfl⟩
theorem x_Mo_named_28 : DC b_Mo_named 28 (.getfield 145) 3 31 := ⟨by decide +kernel, rfl⟩
theorem x_Mo_named_31 : DC b_Mo_named 31 (.iload_n 1) 1 32 := ⟨by decide +kernel, rfl⟩
theorem x_Mo_named_32 : DC b_Mo_named 32 (.laload) 1 33 := ⟨by decide +kernel, rfl⟩
theorem x_Mo_named_33 : DC b_Mo_named 33 (.aload_n 0) 1 34 := ⟨by decide +kernel, rfl⟩
theorem x_Mo_named_34 : DC b_Mo_named 34 (.getfield 428) 3 37 := ⟨by decide +kernel, rfl⟩
theorem x_Mo_named_37 : DC b_Mo_named 37 (.lcmp) 1 38 := ⟨by decide +kernel, rfl⟩
theorem x_Mo_named_38 : DC b_Mo_named 38 (.ifCond .ne 5) 3 41 := ⟨by decide +kernel, rfl⟩
theorem x_Mo_named_41 : DC b_Mo_named 41 (.iload_n 1) 1 42 := ⟨by decide +kernel, rfl⟩
theorem x_Mo_named_42 : DC b_Mo_named 42 (.ireturn) 1 43 := ⟨by decide +kernel, rfl⟩
theorem x_Mo_named_43 : DC b_Mo_named 43 (.iinc 1 1) 3 46 := ⟨by decide +kernel, rfl⟩
theorem x_Mo_named_46 : DC b_Mo_named 46 (.goto (-44)) 3 49 := ⟨by decide +kernel, rfl⟩
theorem x_Mo_named_49 : DC b_Mo_named 49 (.iconst (-1)) 1 50 := ⟨by decide +kernel, rfl⟩
theorem x_Mo_named_50 : DC b_Mo_named 50 (.ireturn) 1 51 := ⟨by decide +kernel, rfl⟩
def k_Mo_named_2 (R2 : Int → Mem → Res) (a1 : Int) (M : Mem) : Res := blet (M 111 50) fun v1 => if w32 v1 = 1 then (blet (M 111 54) fun v3 => if 8 < w32 v3 then (some ((-1), M)) else (blet (M 111 57) fun v5 => if w32 a1 < w32 v5 then (chk (0 ≤ w32 a1 ∧ w32 a1 < 10) <| blet (M 154 (ix a1)) fun v8 => blet (M 111 55) fun v9 => if w64 v8 = w64 v9 then (some (a1, M)) else (blet (a1 + 1) fun v11 => R2 v11 M)) else (some ((-1), M)))) else (some ((-1), M))
theorem z_Mo_named_2 (C : Cx p s m args meth c G b_Mo_named 2 "PrairiePoolModel" (some .int)) (hlev : 0 ≤ lev) {r : Int × Mem} {R2 : Int → Mem → Res} (hR2 : ∀ (a1 : Int) (M : Mem), R2 a1 M = some r → Z p l e lev s m args below meth c G 2 (MQ below (Qm G 1 r) args s 0 0 (Ab G)) M 2 [(0, .ref (G.1 + 111)), (1, vi a1)] []) {a1 : Int} {M : Mem} (h : k_Mo_named_2 R2 a1 M = some r) : Z p l e lev s m args below meth c G 2 (MQ below (Qm G 1 r) args s 0 0 (Ab G)) M 2 [(0, .ref (G.1 + 111)), (1, vi a1)] [] := by
  unfold k_Mo_named_2 at h
  refine z_aload_n C 0 x_Mo_named_2 rfl ?_
  obtain ⟨v1, ev1, h⟩ := blet_e h
  refine z_getI (j := 50) C x_Mo_named_3 nk_111 ck_111 cw_12 (i_lt rfl) rfl rfl fl_Mo_422 ev1 ?_
  refine z_iconst C x_Mo_named_6 ?_
  rcases ite_e h with ⟨c2, h⟩ | ⟨c2, h⟩
  · refine z_icmp_ne_f (tgt := 49) C x_Mo_named_7 rfl c2 ?_
    refine z_aload_n C 0 x_Mo_named_10 rfl ?_
    obtain ⟨v3, ev3, h⟩ := blet_e h
    refine z_getI (j := 54) C x_Mo_named_11 nk_111 ck_111 cw_12 (i_lt rfl) rfl rfl fl_Mo_436 ev3 ?_
    refine z_bipush C rfl x_Mo_named_14 ?_
    rcases ite_e h with ⟨c4, h⟩ | ⟨c4, h⟩
    · refine z_icmp_gt_t (tgt := 49) C x_Mo_named_16 rfl c4 ?_
      refine z_iconst C x_Mo_named_49 ?_
      exact z_iret C x_Mo_named_50 h
    · refine z_icmp_gt_f (tgt := 49) C x_Mo_named_16 rfl c4 ?_
      refine z_iload_n C 1 x_Mo_named_19 rfl ?_
      refine z_aload_n C 0 x_Mo_named_20 rfl ?_
      obtain ⟨v5, ev5, h⟩ := blet_e h
      refine z_getI (j := 57) C x_Mo_named_21 nk_111 ck_111 cw_12 (i_lt rfl) rfl rfl fl_Mo_497 ev5 ?_
      rcases ite_e h with ⟨c6, h⟩ | ⟨c6, h⟩
      · refine z_icmp_ge_f (tgt := 49) C x_Mo_named_24 rfl c6 ?_
        refine z_aload_n C 0 x_Mo_named_27 rfl ?_
        refine z_getR (j := 66) C x_Mo_named_28 nk_111 ck_111 cw_12 (i_lt rfl) rfl rf_111_66 rfl fl_Mo_145 ?_
        refine z_iload_n C 1 x_Mo_named_31 rfl ?_
        obtain ⟨c7, h⟩ := chk_e h
        obtain ⟨v8, ev8, h⟩ := blet_e h
        refine z_lald C x_Mo_named_32 nk_154 ck_154 c7 ev8 ?_
        refine z_aload_n C 0 x_Mo_named_33 rfl ?_
        obtain ⟨v9, ev9, h⟩ := blet_e h
        refine z_getL (j := 55) C x_Mo_named_34 nk_111 ck_111 cw_12 (i_lt rfl) rfl rfl fl_Mo_428 ev9 ?_
        refine z_lcmp C x_Mo_named_37 ?_
        rcases ite_e h with ⟨c10, h⟩ | ⟨c10, h⟩
        · refine z_if_ne_f (tgt := 43) C x_Mo_named_38 rfl (cm_eqz.mpr c10) ?_
          refine z_iload_n C 1 x_Mo_named_41 rfl ?_
          exact z_iret C x_Mo_named_42 h
        · refine z_if_ne_t (tgt := 43) C x_Mo_named_38 rfl (fun q => c10 (cm_eqz.mp q)) ?_
          obtain ⟨v11, ev11, h⟩ := blet_e h
          refine z_iinc (lv' := [(1, vi v11), (0, .ref (G.1 + 111))]) C 1 ev11 x_Mo_named_43 rfl (i_lt rfl) rfl ?_
          refine z_goto (tgt := 2) C x_Mo_named_46 rfl ?_
          exact z_sub [1, 0] rfl (hR2 v11 M h)
      · refine z_icmp_ge_t (tgt := 49) C x_Mo_named_24 rfl c6 ?_
        refine z_iconst C x_Mo_named_49 ?_
        exact z_iret C x_Mo_named_50 h
  · refine z_icmp_ne_t (tgt := 49) C x_Mo_named_7 rfl c2 ?_
    refine z_iconst C x_Mo_named_49 ?_
    exact z_iret C x_Mo_named_50 h
theorem zl_Mo_named_2 (C : Cx p s m args meth c G b_Mo_named 2 "PrairiePoolModel" (some .int)) (hlev : 0 ≤ lev) {r : Int × Mem}  : ∀ (n : Nat) (a1 : Int) (M : Mem), fix (fun _ _ => none) (k_Mo_named_2) n a1 M = some r → Z p l e lev s m args below meth c G 2 (MQ below (Qm G 1 r) args s 0 0 (Ab G)) M 2 [(0, .ref (G.1 + 111)), (1, vi a1)] [] := by
  intro n
  induction n with
  | zero => intro a1 M h; exact nomatch (show (none : Res) = some r from h)
  | succ n ih => intro a1 M h; exact z_Mo_named_2 C hlev ih h
def d_Mo_named (M : Mem) : Res := fix (fun _ _ => none) (k_Mo_named_2) FU 0 M
theorem t_Mo_named (l : Launch) (G : GX) {lev : Nat} (hlev : 0 ≤ lev) {M : Mem} {r : Int × Mem} (h : d_Mo_named M = some r) : Mt l G y_Mo_named b_Mo_named 2 (some .int) lev 1 [.ref (G.1 + 111)] M r := by
  refine Mt.of (by decide) (i_le rfl) ?_
  intro p e s m args below meth c C
  have C : Cx p s m args meth c G b_Mo_named 2 "PrairiePoolModel" (some .int) := C
  unfold d_Mo_named at h
  refine z_sub (lv' := [(0, .ref (G.1 + 111))]) [0] rfl ?_
  refine z_iconst C x_Mo_named_0 ?_
  refine z_istore_n (lv' := [(1, vi 0), (0, .ref (G.1 + 111))]) C rfl x_Mo_named_1 (i_lt rfl) rfl ?_
  exact z_sub [1, 0] rfl (zl_Mo_named_2 C hlev FU 0 M h)
theorem x_Mo_isSign_0 : DC b_Mo_isSign 0 (.aload_n 0) 1 1 := ⟨by decide +kernel, rfl⟩
theorem x_Mo_isSign_1 : DC b_Mo_isSign 1 (.getfield 422) 3 4 := ⟨by decide +kernel, rfl⟩
theorem x_Mo_isSign_4 : DC b_Mo_isSign 4 (.iconst 3) 1 5 := ⟨by decide +kernel, rfl⟩
theorem x_Mo_isSign_5 : DC b_Mo_isSign 5 (.if_icmp .ne 15) 3 8 := ⟨by decide +kernel, rfl⟩
theorem x_Mo_isSign_8 : DC b_Mo_isSign 8 (.aload_n 0) 1 9 := ⟨by decide +kernel, rfl⟩
theorem x_Mo_isSign_9 : DC b_Mo_isSign 9 (.getfield 442) 3 12 := ⟨by decide +kernel, rfl⟩
theorem x_Mo_isSign_12 : DC b_Mo_isSign 12 (.iload_n 1) 1 13 := ⟨by decide +kernel, rfl⟩
theorem x_Mo_isSign_13 : DC b_Mo_isSign 13 (.if_icmp .ne 7) 3 16 := ⟨by decide +kernel, rfl⟩
theorem x_Mo_isSign_16 : DC b_Mo_isSign 16 (.iconst 1) 1 17 := ⟨by decide +kernel, rfl⟩
theorem x_Mo_isSign_17 : DC b_Mo_isSign 17 (.goto 4) 3 20 := ⟨by decide +kernel, rfl⟩
theorem x_Mo_isSign_20 : DC b_Mo_isSign 20 (.iconst 0) 1 21 := ⟨by decide +kernel, rfl⟩
theorem x_Mo_isSign_21 : DC b_Mo_isSign 21 (.ireturn) 1 22 := ⟨by decide +kernel, rfl⟩
def d_Mo_isSign (a1 : Int) (M : Mem) : Res := blet (M 111 50) fun v1 => if w32 v1 = 3 then (blet (M 111 53) fun v3 => if w32 v3 = w32 a1 then (some (1, M)) else (some (0, M))) else (some (0, M))
theorem t_Mo_isSign (l : Launch) (G : GX) {lev : Nat} (hlev : 0 ≤ lev) {a1 : Int} {M : Mem} {r : Int × Mem} (h : d_Mo_isSign a1 M = some r) : Mt l G y_Mo_isSign b_Mo_isSign 2 (some .boolean) lev 1 [.ref (G.1 + 111), vi a1] M r := by
  refine Mt.of (by decide) (i_le rfl) ?_
  intro p e s m args below meth c C
  have C : Cx p s m args meth c G b_Mo_isSign 2 "PrairiePoolModel" (some .boolean) := C
  unfold d_Mo_isSign at h
  refine z_sub (lv' := [(0, .ref (G.1 + 111)), (1, vi a1)]) [0, 1] rfl ?_
  refine z_aload_n C 0 x_Mo_isSign_0 rfl ?_
  obtain ⟨v1, ev1, h⟩ := blet_e h
  refine z_getI (j := 50) C x_Mo_isSign_1 nk_111 ck_111 cw_12 (i_lt rfl) rfl rfl fl_Mo_422 ev1 ?_
  refine z_iconst C x_Mo_isSign_4 ?_
  rcases ite_e h with ⟨c2, h⟩ | ⟨c2, h⟩
  · refine z_icmp_ne_f (tgt := 20) C x_Mo_isSign_5 rfl c2 ?_
    refine z_aload_n C 0 x_Mo_isSign_8 rfl ?_
    obtain ⟨v3, ev3, h⟩ := blet_e h
    refine z_getI (j := 53) C x_Mo_isSign_9 nk_111 ck_111 cw_12 (i_lt rfl) rfl rfl fl_Mo_442 ev3 ?_
    refine z_iload_n C 1 x_Mo_isSign_12 rfl ?_
    rcases ite_e h with ⟨c4, h⟩ | ⟨c4, h⟩
    · refine z_icmp_ne_f (tgt := 20) C x_Mo_isSign_13 rfl c4 ?_
      refine z_iconst C x_Mo_isSign_16 ?_
      refine z_goto (tgt := 21) C x_Mo_isSign_17 rfl ?_
      exact z_zret C x_Mo_isSign_21 (by decide) h
    · refine z_icmp_ne_t (tgt := 20) C x_Mo_isSign_13 rfl c4 ?_
      refine z_iconst C x_Mo_isSign_20 ?_
      exact z_zret C x_Mo_isSign_21 (by decide) h
  · refine z_icmp_ne_t (tgt := 20) C x_Mo_isSign_5 rfl c2 ?_
    refine z_iconst C x_Mo_isSign_20 ?_
    exact z_zret C x_Mo_isSign_21 (by decide) h
theorem x_Mo_canBeginSum_0 : DC b_Mo_canBeginSum 0 (.aload_n 0) 1 1 := ⟨by decide +kernel, rfl⟩
theorem x_Mo_canBeginSum_1 : DC b_Mo_canBeginSum 1 (.getfield 422) 3 4 := ⟨by decide +kernel, rfl⟩
theorem x_Mo_canBeginSum_4 : DC b_Mo_canBeginSum 4 (.iconst 2) 1 5 := ⟨by decide +kernel, rfl⟩
theorem x_Mo_canBeginSum_5 : DC b_Mo_canBeginSum 5 (.if_icmp .eq 41) 3 8 := ⟨by decide +kernel, rfl⟩
theorem x_Mo_canBeginSum_8 : DC b_Mo_canBeginSum 8 (.aload_n 0) 1 9 := ⟨by decide +kernel, rfl⟩
theorem x_Mo_canBeginSum_9 : DC b_Mo_canBeginSum 9 (.bipush 40) 2 11 := ⟨by decide +kernel, rfl⟩
theorem x_Mo_canBeginSum_11 : DC b_Mo_canBeginSum 11 (.invokevirtual 507) 3 14 := ⟨by decide +kernel, rfl⟩
theorem x_Mo_canBeginSum_14 : DC b_Mo_canBeginSum 14 (.ifCond .ne 32) 3 17 := ⟨by decide +kernel, rfl⟩
theorem x_Mo_canBeginSum_17 : DC b_Mo_canBeginSum 17 (.aload_n 0) 1 18 := ⟨by decide +kernel, rfl⟩
theorem x_Mo_canBeginSum_18 : DC b_Mo_canBeginSum 18 (.invokevirtual 491) 3 21 := ⟨by decide +kernel, rfl⟩
theorem x_Mo_canBeginSum_21 : DC b_Mo_canBeginSum 21 (.ifCond .ne 25) 3 24 := ⟨by decide +kernel, rfl⟩
theorem x_Mo_canBeginSum_24 : DC b_Mo_canBeginSum 24 (.aload_n 0) 1 25 := ⟨by decide +kernel, rfl⟩
theorem x_Mo_canBeginSum_25 : DC b_Mo_canBeginSum 25 (.invokevirtual 494) 3 28 := ⟨by decide +kernel, rfl⟩
theorem x_Mo_canBeginSum_28 : DC b_Mo_canBeginSum 28 (.ifCond .ne 18) 3 31 := ⟨by decide +kernel, rfl⟩
theorem x_Mo_canBeginSum_31 : DC b_Mo_canBeginSum 31 (.aload_n 0) 1 32 := ⟨by decide +kernel, rfl⟩
theorem x_Mo_canBeginSum_32 : DC b_Mo_canBeginSum 32 (.getfield 422) 3 35 := ⟨by decide +kernel, rfl⟩
theorem x_Mo_canBeginSum_35 : DC b_Mo_canBeginSum 35 (.iconst 1) 1 36 := ⟨by decide +kernel, rfl⟩
theorem x_Mo_canBeginSum_36 : DC b_Mo_canBeginSum 36 (.if_icmp .ne 14) 3 39 := ⟨by decide +kernel, rfl⟩
theorem x_Mo_canBeginSum_39 : DC b_Mo_canBeginSum 39 (.aload_n 0) 1 40 := ⟨by decide +kernel, rfl⟩
theorem x_Mo_canBeginSum_40 : DC b_Mo_canBeginSum 40 (.invokevirtual 510) 3 43 := ⟨by decide +kernel, rfl⟩
theorem x_Mo_canBeginSum_43 : DC b_Mo_canBeginSum 43 (.ifCond .ne 7) 3 46 := ⟨by decide +kernel, rfl⟩
theorem x_Mo_canBeginSum_46 : DC b_Mo_canBeginSum 46 (.iconst 1) 1 47 := ⟨by decide +kernel, rfl⟩
theorem x_Mo_canBeginSum_47 : DC b_Mo_canBeginSum 47 (.goto 4) 3 50 := ⟨by decide +kernel, rfl⟩
theorem x_Mo_canBeginSum_50 : DC b_Mo_canBeginSum 50 (.iconst 0) 1 51 := ⟨by decide +kernel, rfl⟩
theorem x_Mo_canBeginSum_51 : DC b_Mo_canBeginSum 51 (.ireturn) 1 52 := ⟨by decide +kernel, rfl⟩
def k_Mo_canBeginSum_46 (M : Mem) : Res := some (1, M)
theorem z_Mo_canBeginSum_46 (C : Cx p s m args meth c G b_Mo_canBeginSum 1 "PrairiePoolModel" (some .boolean)) (hlev : 3 ≤ lev) {r : Int × Mem}  {M : Mem} (h : k_Mo_canBeginSum_46 M = some r) : Z p l e lev s m args below meth c G 1 (MQ below (Qm G 1 r) args s 0 0 (Ab G)) M 46 [] [] := by
  unfold k_Mo_canBeginSum_46 at h
  refine z_iconst C x_Mo_canBeginSum_46 ?_
  refine z_goto (tgt := 51) C x_Mo_canBeginSum_47 rfl ?_
  exact z_zret C x_Mo_canBeginSum_51 (by decide) h
def d_Mo_canBeginSum (M : Mem) : Res := blet (M 111 50) fun v1 => if w32 v1 = 2 then (k_Mo_canBeginSum_46 M) else (bcall (d_Mo_isSign 40 M) fun v3 M4 => if w32 v3 = 0 then (bcall (d_Mo_isLeast M4) fun v6 M7 => if w32 v6 = 0 then (bcall (d_Mo_isMost M7) fun v9 M10 => if w32 v9 = 0 then (blet (M10 111 50) fun v12 => if w32 v12 = 1 then (bcall (d_Mo_isKept M10) fun v14 M15 => if w32 v14 = 0 then (k_Mo_canBeginSum_46 M15) else (some (0, M15))) else (some (0, M10))) else (k_Mo_canBeginSum_46 M10)) else (k_Mo_canBeginSum_46 M7)) else (k_Mo_canBeginSum_46 M4))
theorem t_Mo_canBeginSum (l : Launch) (G : GX) {lev : Nat} (hlev : 3 ≤ lev) {M : Mem} {r : Int × Mem} (h : d_Mo_canBeginSum M = some r) : Mt l G y_Mo_canBeginSum b_Mo_canBeginSum 1 (some .boolean) lev 1 [.ref (G.1 + 111)] M r := by
  refine Mt.of (by decide) (i_le rfl) ?_
  intro p e s m args below meth c C
  have C : Cx p s m args meth c G b_Mo_canBeginSum 1 "PrairiePoolModel" (some .boolean) := C
  unfold d_Mo_canBeginSum at h
  refine z_sub (lv' := [(0, .ref (G.1 + 111))]) [0] rfl ?_
  refine z_aload_n C 0 x_Mo_canBeginSum_0 rfl ?_
  obtain ⟨v1, ev1, h⟩ := blet_e h
  refine z_getI (j := 50) C x_Mo_canBeginSum_1 nk_111 ck_111 cw_12 (i_lt rfl) rfl rfl fl_Mo_422 ev1 ?_
  refine z_iconst C x_Mo_canBeginSum_4 ?_
  rcases ite_e h with ⟨c2, h⟩ | ⟨c2, h⟩
  · refine z_icmp_eq_t (tgt := 46) C x_Mo_canBeginSum_5 rfl c2 ?_
    exact z_sub [] rfl (z_Mo_canBeginSum_46 C hlev h)
  · refine z_icmp_eq_f (tgt := 46) C x_Mo_canBeginSum_5 rfl c2 ?_
    refine z_aload_n C 0 x_Mo_canBeginSum_8 rfl ?_
    refine z_bipush C rfl x_Mo_canBeginSum_9 ?_
    obtain ⟨v3, M4, fv3, h⟩ := bcall_e h
    refine z_callVi (k := 111) C x_Mo_canBeginSum_11 cv_Mo_507 (t_Mo_isSign (lev := lev - 1) l G (by omega) fv3) nk_111 ck_111 rfl (by omega) rfl (i_le rfl) rfl ?_
    rcases ite_e h with ⟨c5, h⟩ | ⟨c5, h⟩
    · refine z_if_ne_f (tgt := 46) C x_Mo_canBeginSum_14 rfl c5 ?_
      refine z_aload_n C 0 x_Mo_canBeginSum_17 rfl ?_
      obtain ⟨v6, M7, fv6, h⟩ := bcall_e h
      refine z_callVi (k := 111) C x_Mo_canBeginSum_18 cv_Mo_491 (t_Mo_isLeast (lev := lev - 1) l G (by omega) fv6) nk_111 ck_111 rfl (by omega) rfl (i_le rfl) rfl ?_
      rcases ite_e h with ⟨c8, h⟩ | ⟨c8, h⟩
      · refine z_if_ne_f (tgt := 46) C x_Mo_canBeginSum_21 rfl c8 ?_
        refine z_aload_n C 0 x_Mo_canBeginSum_24 rfl ?_
        obtain ⟨v9, M10, fv9, h⟩ := bcall_e h
        refine z_callVi (k := 111) C x_Mo_canBeginSum_25 cv_Mo_494 (t_Mo_isMost (lev := lev - 1) l G (by omega) fv9) nk_111 ck_111 rfl (by omega) rfl (i_le rfl) rfl ?_
        rcases ite_e h with ⟨c11, h⟩ | ⟨c11, h⟩
        · refine z_if_ne_f (tgt := 46) C x_Mo_canBeginSum_28 rfl c11 ?_
          refine z_aload_n C 0 x_Mo_canBeginSum_31 rfl ?_
          obtain ⟨v12, ev12, h⟩ := blet_e h
          refine z_getI (j := 50) C x_Mo_canBeginSum_32 nk_111 ck_111 cw_12 (i_lt rfl) rfl rfl fl_Mo_422 ev12 ?_
          refine z_iconst C x_Mo_canBeginSum_35 ?_
          rcases ite_e h with ⟨c13, h⟩ | ⟨c13, h⟩
          · refine z_icmp_ne_f (tgt := 50) C x_Mo_canBeginSum_36 rfl c13 ?_
            refine z_aload_n C 0 x_Mo_canBeginSum_39 rfl ?_
            obtain ⟨v14, M15, fv14, h⟩ := bcall_e h
            refine z_callVi (k := 111) C x_Mo_canBeginSum_40 cv_Mo_510 (t_Mo_isKept (lev := lev - 1) l G (by omega) fv14) nk_111 ck_111 rfl (by omega) rfl (i_le rfl) rfl ?_
            rcases ite_e h with ⟨c16, h⟩ | ⟨c16, h⟩
            · refine z_if_ne_f (tgt := 50) C x_Mo_canBeginSum_43 rfl c16 ?_
              exact z_sub [] rfl (z_Mo_canBeginSum_46 C hlev h)
            · refine z_if_ne_t (tgt := 50) C x_Mo_canBeginSum_43 rfl c16 ?_
              refine z_iconst C x_Mo_canBeginSum_50 ?_
              exact z_zret C x_Mo_canBeginSum_51 (by decide) h
          · refine z_icmp_ne_t (tgt := 50) C x_Mo_canBeginSum_36 rfl c13 ?_
            refine z_iconst C x_Mo_canBeginSum_50 ?_
            exact z_zret C x_Mo_canBeginSum_51 (by decide) h
        · refine z_if_ne_t (tgt := 46) C x_Mo_canBeginSum_28 rfl c11 ?_
          exact z_sub [] rfl (z_Mo_canBeginSum_46 C hlev h)
      · refine z_if_ne_t (tgt := 46) C x_Mo_canBeginSum_21 rfl c8 ?_
        exact z_sub [] rfl (z_Mo_canBeginSum_46 C hlev h)
    · refine z_if_ne_t (tgt := 46) C x_Mo_canBeginSum_14 rfl c5 ?_
      exact z_sub [] rfl (z_Mo_canBeginSum_46 C hlev h)
theorem x_Mo_canBegin_0 : DC b_Mo_canBegin 0 (.aload_n 0) 1 1 := ⟨by decide +kernel, rfl⟩
theorem x_Mo_canBegin_1 : DC b_Mo_canBegin 1 (.invokevirtual 472) 3 4 := ⟨by decide +kernel, rfl⟩
theorem x_Mo_canBegin_4 : DC b_Mo_canBegin 4 (.ifCond .ne 10) 3 7 := ⟨by decide +kernel, rfl⟩
theorem x_Mo_canBegin_7 : DC b_Mo_canBegin 7 (.aload_n 0) 1 8 := ⟨by decide +kernel, rfl⟩
theorem x_Mo_canBegin_8 : DC b_Mo_canBegin 8 (.invokevirtual 504) 3 11 := ⟨by decide +kernel, rfl⟩
theorem x_Mo_canBegin_11 : DC b_Mo_canBegin 11 (.ifCond .eq 7) 3 14 := ⟨by decide +kernel, rfl⟩
theorem x_Mo_canBegin_14 : DC b_Mo_canBegin 14 (.iconst 1) 1 15 := ⟨by decide +kernel, rfl⟩
theorem x_Mo_canBegin_15 : DC b_Mo_canBegin 15 (.goto 4) 3 18 := ⟨by decide +kernel, rfl⟩
theorem x_Mo_canBegin_18 : DC b_Mo_canBegin 18 (.iconst 0) 1 19 := ⟨by decide +kernel, rfl⟩
theorem x_Mo_canBegin_19 : DC b_Mo_canBegin 19 (.ireturn) 1 20 := ⟨by decide +kernel, rfl⟩
def k_Mo_canBegin_14 (M : Mem) : Res := some (1, M)
theorem z_Mo_canBegin_14 (C : Cx p s m args meth c G b_Mo_canBegin 1 "PrairiePoolModel" (some .boolean)) (hlev : 4 ≤ lev) {r : Int × Mem}  {M : Mem} (h : k_Mo_canBegin_14 M = some r) : Z p l e lev s m args below meth c G 1 (MQ below (Qm G 1 r) args s 0 0 (Ab G)) M 14 [] [] := by
  unfold k_Mo_canBegin_14 at h
  refine z_iconst C x_Mo_canBegin_14 ?_
  refine z_goto (tgt := 19) C x_Mo_canBegin_15 rfl ?_
  exact z_zret C x_Mo_canBegin_19 (by decide) h
def d_Mo_canBegin (M : Mem) : Res := bcall (d_Mo_isIf M) fun v1 M2 => if w32 v1 = 0 then (bcall (d_Mo_canBeginSum M2) fun v4 M5 => if w32 v4 = 0 then (some (0, M5)) else (k_Mo_canBegin_14 M5)) else (k_Mo_canBegin_14 M2)
theorem t_Mo_canBegin (l : Launch) (G : GX) {lev : Nat} (hlev : 4 ≤ lev) {M : Mem} {r : Int × Mem} (h : d_Mo_canBegin M = some r) : Mt l G y_Mo_canBegin b_Mo_canBegin 1 (some .boolean) lev 1 [.ref (G.1 + 111)] M r := by
  refine Mt.of (by decide) (i_le rfl) ?_
  intro p e s m args below meth c C
  have C : Cx p s m args meth c G b_Mo_canBegin 1 "PrairiePoolModel" (some .boolean) := C
  unfold d_Mo_canBegin at h
  refine z_sub (lv' := [(0, .ref (G.1 + 111))]) [0] rfl ?_
  refine z_aload_n C 0 x_Mo_canBegin_0 rfl ?_
  obtain ⟨v1, M2, fv1, h⟩ := bcall_e h
  refine z_callVi (k := 111) C x_Mo_canBegin_1 cv_Mo_472 (t_Mo_isIf (lev := lev - 1) l G (by omega) fv1) nk_111 ck_111 rfl (by omega) rfl (i_le rfl) rfl ?_
  rcases ite_e h with ⟨c3, h⟩ | ⟨c3, h⟩
  · refine z_if_ne_f (tgt := 14) C x_Mo_canBegin_4 rfl c3 ?_
    refine z_aload_n C 0 x_Mo_canBegin_7 rfl ?_
    obtain ⟨v4, M5, fv4, h⟩ := bcall_e h
    refine z_callVi (k := 111) C x_Mo_canBegin_8 cv_Mo_504 (t_Mo_canBeginSum (lev := lev - 1) l G (by omega) fv4) nk_111 ck_111 rfl (by omega) rfl (i_le rfl) rfl ?_
    rcases ite_e h with ⟨c6, h⟩ | ⟨c6, h⟩
    · refine z_if_eq_t (tgt := 18) C x_Mo_canBegin_11 rfl c6 ?_
      refine z_iconst C x_Mo_canBegin_18 ?_
      exact z_zret C x_Mo_canBegin_19 (by decide) h
    · refine z_if_eq_f (tgt := 18) C x_Mo_canBegin_11 rfl c6 ?_
      exact z_sub [] rfl (z_Mo_canBegin_14 C hlev h)
  · refine z_if_ne_t (tgt := 14) C x_Mo_canBegin_4 rfl c3 ?_
    exact z_sub [] rfl (z_Mo_canBegin_14 C hlev h)
theorem x_Mo_mark_0 : DC b_Mo_mark 0 (.aload_n 0) 1 1 := ⟨by decide +kernel, rfl⟩
theorem x_Mo_mark_1 : DC b_Mo_mark 1 (.getfield 139) 3 4 := ⟨by decide +kernel, rfl⟩
theorem x_Mo_mark_4 : DC b_Mo_mark 4 (.aload_n 0) 1 5 := ⟨by decide +kernel, rfl⟩
theorem x_Mo_mark_5 : DC b_Mo_mark 5 (.getfield 500) 3 8 := ⟨by decide +kernel, rfl⟩
theorem x_Mo_mark_8 : DC b_Mo_mark 8 (.ldc_w 503) 3 11 := ⟨by decide +kernel, rfl⟩
theorem x_Mo_mark_11 : DC b_Mo_mark 11 (.iload_n 1) 1 12 := ⟨by decide +kernel, rfl⟩
theorem x_Mo_mark_12 : DC b_Mo_mark 12 (.imul) 1 13 := ⟨by decide +kernel, rfl⟩
theorem x_Mo_mark_13 : DC b_Mo_mark 13 (.iload_n 2) 1 14 := ⟨by decide +kernel, rfl⟩
theorem x_Mo_mark_14 : DC b_Mo_mark 14 (.iadd) 1 15 := ⟨by decide +kernel, rfl⟩
theorem x_Mo_mark_15 : DC b_Mo_mark 15 (.iastore) 1 16 := ⟨by decide +kernel, rfl⟩
theorem x_Mo_mark_16 : DC b_Mo_mark 16 (.aload_n 0) 1 17 := ⟨by decide +kernel, rfl⟩
theorem x_Mo_mark_17 : DC b_Mo_mark 17 (.dup) 1 18 := ⟨by decide +kernel, rfl⟩
theorem x_Mo_mark_18 : DC b_Mo_mark 18 (.getfield 500) 3 21 := ⟨by decide +kernel, rfl⟩
theorem x_Mo_mark_21 : DC b_Mo_mark 21 (.iconst 1) 1 22 := ⟨by decide +kernel, rfl⟩
theorem x_Mo_mark_22 : DC b_Mo_mark 22 (.iadd) 1 23 := ⟨by decide +kernel, rfl⟩
theorem x_Mo_mark_23 : DC b_Mo_mark 23 (.putfield 500) 3 26 := ⟨by decide +kernel, rfl⟩
theorem x_Mo_mark_26 : DC b_Mo_mark 26 (.return_) 1 27 := ⟨by decide +kernel, rfl⟩
def d_Mo_mark (a1 a2 : Int) (M : Mem) : Res := blet (M 111 58) fun v1 => chk (0 ≤ w32 v1 ∧ w32 v1 < 1100) <| blet (sto M 152 (ix v1) ((1048576 * a1) + a2)) fun M3 => blet (M3 111 58) fun v4 => blet (sto M3 111 58 (v4 + 1)) fun M5 => some (0, M5)
theorem t_Mo_mark (l : Launch) (G : GX) {lev : Nat} (hlev : 0 ≤ lev) {a1 a2 : Int} {M : Mem} {r : Int × Mem} (h : d_Mo_mark a1 a2 M = some r) : Mt l G y_Mo_mark b_Mo_mark 3 none lev 0 [.ref (G.1 + 111), vi a1, vi a2] M r := by
  refine Mt.of (by decide) (i_le rfl) ?_
  intro p e s m args below meth c C
  have C : Cx p s m args meth c G b_Mo_mark 3 "PrairiePoolModel" none := C
  unfold d_Mo_mark at h
  refine z_sub (lv' := [(0, .ref (G.1 + 111)), (1, vi a1), (2, vi a2)]) [0, 1, 2] rfl ?_
  refine z_aload_n C 0 x_Mo_mark_0 rfl ?_
  refine z_getR (j := 64) C x_Mo_mark_1 nk_111 ck_111 cw_12 (i_lt rfl) rfl rf_111_64 rfl fl_Mo_139 ?_
  refine z_aload_n C 0 x_Mo_mark_4 rfl ?_
  obtain ⟨v1, ev1, h⟩ := blet_e h
  refine z_getI (j := 58) C x_Mo_mark_5 nk_111 ck_111 cw_12 (i_lt rfl) rfl rfl fl_Mo_500 ev1 ?_
  refine z_ldcw C kc_Mo_503 x_Mo_mark_8 ?_
  refine z_iload_n C 1 x_Mo_mark_11 rfl ?_
  refine z_imul C x_Mo_mark_12 ?_
  refine z_iload_n C 2 x_Mo_mark_13 rfl ?_
  refine z_iadd C x_Mo_mark_14 ?_
  obtain ⟨c2, h⟩ := chk_e h
  obtain ⟨M3, eM3, h⟩ := blet_e h
  refine z_iast C x_Mo_mark_15 nk_152 ck_152 c2 eM3 ?_
  refine z_aload_n C 0 x_Mo_mark_16 rfl ?_
  refine z_dup C x_Mo_mark_17 rfl ?_
  obtain ⟨v4, ev4, h⟩ := blet_e h
  refine z_getI (j := 58) C x_Mo_mark_18 nk_111 ck_111 cw_12 (i_lt rfl) rfl rfl fl_Mo_500 ev4 ?_
  refine z_iconst C x_Mo_mark_21 ?_
  refine z_iadd C x_Mo_mark_22 ?_
  obtain ⟨M5, eM5, h⟩ := blet_e h
  refine z_putI (j := 58) C x_Mo_mark_23 nk_111 ck_111 cw_12 (i_lt rfl) rfl rfl rfl rfl fl_Mo_500 eM5 ?_
  exact z_vret C x_Mo_mark_26 h
theorem x_Mo_readAtom_0 : DC b_Mo_readAtom 0 (.aload_n 0) 1 1 := ⟨by decide +kernel, rfl⟩
theorem x_Mo_readAtom_1 : DC b_Mo_readAtom 1 (.getfield 453) 3 4 := ⟨by decide +kernel, rfl⟩
theorem x_Mo_readAtom_4 : DC b_Mo_readAtom 4 (.ifCond .le 4) 3 7 := ⟨by decide +kernel, rfl⟩
theorem x_Mo_readAtom_7 : DC b_Mo_readAtom 7 (.return_) 1 8 := ⟨by decide +kernel, rfl⟩
theorem x_Mo_readAtom_8 : DC b_Mo_readAtom 8 (.aload_n 0) 1 9 := ⟨by decide +kernel, rfl⟩
theorem x_Mo_readAtom_9 : DC b_Mo_readAtom 9 (.getfield 422) 3 12 := ⟨by decide +kernel, rfl⟩
theorem x_Mo_readAtom_12 : DC b_Mo_readAtom 12 (.iconst 2) 1 13 := ⟨by decide +kernel, rfl⟩
theorem x_Mo_readAtom_13 : DC b_Mo_readAtom 13 (.if_icmp .ne 17) 3 16 := ⟨by decide +kernel, rfl⟩
theorem x_Mo_readAtom_16 : DC b_Mo_readAtom 16 (.aload_n 0) 1 17 := ⟨by decide +kernel, rfl⟩
theorem x_Mo_readAtom_17 : DC b_Mo_readAtom 17 (.iconst 0) 1 18 := ⟨by decide +kernel, rfl⟩
theorem x_Mo_readAtom_18 : DC b_Mo_readAtom 18 (.aload_n 0) 1 19 := ⟨by decide +kernel, rfl⟩
theorem x_Mo_readAtom_19 : DC b_Mo_readAtom 19 (.getfield 442) 3 22 := ⟨by decide +kernel, rfl⟩
theorem x_Mo_readAtom_22 : DC b_Mo_readAtom 22 (.invokevirtual 528) 3 25 := ⟨by decide +kernel, rfl⟩
theorem x_Mo_readAtom_25 : DC b_Mo_readAtom 25 (.aload_n 0) 1 26 := ⟨by decide +kernel, rfl⟩
theorem x_Mo_readAtom_26 : DC b_Mo_readAtom 26 (.invokevirtual 522) 3 29 := ⟨by decide +kernel, rfl⟩
theorem x_Mo_readAtom_29 : DC b_Mo_readAtom 29 (.return_) 1 30 := ⟨by decide +kernel, rfl⟩
theorem x_Mo_readAtom_30 : DC b_Mo_readAtom 30 (.aload_n 0) 1 31 := ⟨by decide +kernel, rfl⟩
theorem x_Mo_readAtom_31 : DC b_Mo_readAtom 31 (.bipush 40) 2 33 := ⟨by decide +kernel, rfl⟩
theorem x_Mo_readAtom_33 : DC b_Mo_readAtom 33 (.invokevirtual 507) 3 36 := ⟨by decide +kernel, rfl⟩
theorem x_Mo_readAtom_36 : DC b_Mo_readAtom 36 (.ifCond .eq 46) 3 39 := ⟨by decide +kernel, rfl⟩
theorem x_Mo_readAtom_39 : DC b_Mo_readAtom 39 (.aload_n 0) 1 40 := ⟨by decide +kernel, rfl⟩
theorem x_Mo_readAtom_40 : DC b_Mo_readAtom 40 (.invokevirtual 522) 3 43 := ⟨by decide +kernel, rfl⟩
theorem x_Mo_readAtom_43 : DC b_Mo_readAtom 43 (.aload_n 0) 1 44 := ⟨by decide +kernel, rfl⟩
theorem x_Mo_readAtom_44 : DC b_Mo_readAtom 44 (.iload_n 1) 1 45 := ⟨by decide +kernel, rfl⟩
theorem x_Mo_readAtom_45 : DC b_Mo_readAtom 45 (.iconst 1) 1 46 := ⟨by decide +kernel, rfl⟩
theorem x_Mo_readAtom_46 : DC b_Mo_readAtom 46 (.iadd) 1 47 := ⟨by decide +kernel, rfl⟩
theorem x_Mo_readAtom_47 : DC b_Mo_readAtom 47 (.invokevirtual 531) 3 50 := ⟨by decide +kernel, rfl⟩
theorem x_Mo_readAtom_50 : DC b_Mo_readAtom 50 (.aload_n 0) 1 51 := ⟨by decide +kernel, rfl⟩
theorem x_Mo_readAtom_51 : DC b_Mo_readAtom 51 (.getfield 453) 3 54 := ⟨by decide +kernel, rfl⟩
theorem x_Mo_readAtom_54 : DC b_Mo_readAtom 54 (.ifCond .ne 16) 3 57 := ⟨by decide +kernel, rfl⟩
theorem x_Mo_readAtom_57 : DC b_Mo_readAtom 57 (.aload_n 0) 1 58 := ⟨by decide +kernel, rfl⟩
theorem x_Mo_readAtom_58 : DC b_Mo_readAtom 58 (.bipush 41) 2 60 := ⟨by decide +kernel, rfl⟩
theorem x_Mo_readAtom_60 : DC b_Mo_readAtom 60 (.invokevirtual 507) 3 63 := ⟨by decide +kernel, rfl⟩
theorem x_Mo_readAtom_63 : DC b_Mo_readAtom 63 (.ifCond .ne 7) 3 66 := ⟨by decide +kernel, rfl⟩
theorem x_Mo_readAtom_66 : DC b_Mo_readAtom 66 (.aload_n 0) 1 67 := ⟨by decide +kernel, rfl⟩
theorem x_Mo_readAtom_67 : DC b_Mo_readAtom 67 (.invokevirtual 516) 3 70 := ⟨by decide +kernel, rfl⟩
theorem x_Mo_readAtom_70 : DC b_Mo_readAtom 70 (.aload_n 0) 1 71 := ⟨by decide +kernel, rfl⟩
theorem x_Mo_readAtom_71 : DC b_Mo_readAtom 71 (.getfield 453) 3 74 := ⟨by decide +kernel, rfl⟩
theorem x_Mo_readAtom_74 : DC b_Mo_readAtom 74 (.ifCond .ne 7) 3 77 := ⟨by decide +kernel, rfl⟩
theorem x_Mo_readAtom_77 : DC b_Mo_readAtom 77 (.aload_n 0) 1 78 := ⟨by decide +kernel, rfl⟩
theorem x_Mo_readAtom_78 : DC b_Mo_readAtom 78 (.invokevirtual 522) 3 81 := ⟨by decide +kernel, rfl⟩
theorem x_Mo_readAtom_81 : DC b_Mo_readAtom 81 (.return_) 1 82 := ⟨by decide +kernel, rfl⟩
theorem x_Mo_readAtom_82 : DC b_Mo_readAtom 82 (.aload_n 0) 1 83 := ⟨by decide +kernel, rfl⟩
theorem x_Mo_readAtom_83 : DC b_Mo_readAtom 83 (.invokevirtual 491) 3 86 := ⟨by decide +kernel, rfl⟩
theorem x_Mo_readAtom_86 : DC b_Mo_readAtom 86 (.ifCond .ne 10) 3 89 := ⟨by decide +kernel, rfl⟩
theorem x_Mo_readAtom_89 : DC b_Mo_readAtom 89 (.aload_n 0) 1 90 := ⟨by decide +kernel, rfl⟩
theorem x_Mo_readAtom_90 : DC b_Mo_readAtom 90 (.invokevirtual 494) 3 93 := ⟨by decide +kernel, rfl⟩
theorem x_Mo_readAtom_93 : DC b_Mo_readAtom 93 (.ifCond .eq 23) 3 96 := ⟨by decide +kernel, rfl⟩
theorem x_Mo_readAtom_96 : DC b_Mo_readAtom 96 (.aload_n 0) 1 97 := ⟨by decide +kernel, rfl⟩
theorem x_Mo_readAtom_97 : DC b_Mo_readAtom 97 (.iload_n 1) 1 98 := ⟨by decide +kernel, rfl⟩
theorem x_Mo_readAtom_98 : DC b_Mo_readAtom 98 (.aload_n 0) 1 99 := ⟨by decide +kernel, rfl⟩
theorem x_Mo_readAtom_99 : DC b_Mo_readAtom 99 (.invokevirtual 491) 3 102 := ⟨by decide +kernel, rfl⟩
theorem x_Mo_readAtom_102 : DC b_Mo_readAtom 102 (.ifCond .eq 8) 3 105 := ⟨by decide +kernel, rfl⟩
theorem x_Mo_readAtom_105 : DC b_Mo_readAtom 105 (.bipush 8) 2 107 := ⟨by decide +kernel, rfl⟩
theorem x_Mo_readAtom_107 : DC b_Mo_readAtom 107 (.goto 5) 3 110 := ⟨by decide +kernel, rfl⟩
theorem x_Mo_readAtom_110 : DC b_Mo_readAtom 110 (.bipush 9) 2 112 := ⟨by decide +kernel, rfl⟩
theorem x_Mo_readAtom_112 : DC b_Mo_readAtom 112 (.invokevirtual 543) 3 115 := ⟨by decide +kernel, rfl⟩
theorem x_Mo_readAtom_115 : DC b_Mo_readAtom 115 (.return_) 1 116 := ⟨by decide +kernel, rfl⟩
theorem x_Mo_readAtom_116 : DC b_Mo_readAtom 116 (.aload_n 0) 1 117 := ⟨by decide +kernel, rfl⟩
theorem x_Mo_readAtom_117 : DC b_Mo_readAtom 117 (.invokevirtual 546) 3 120 := ⟨by decide +kernel, rfl⟩
theorem x_Mo_readAtom_120 : DC b_Mo_readAtom 120 (.istore_n 2) 1 121 := ⟨by decide +kernel, rfl⟩
theorem x_Mo_readAtom_121 : DC b_Mo_readAtom 121 (.aload_n 0) 1 122 := ⟨by decide +kernel, rfl⟩
theorem x_Mo_readAtom_122 : DC b_Mo_readAtom 122 (.invokevirtual 550) 3 125 := ⟨by decide +kernel, rfl⟩
theorem x_Mo_readAtom_125 : DC b_Mo_readAtom 125 (.istore_n 3) 1 126 := ⟨by decide +kernel, rfl⟩
theorem x_Mo_readAtom_126 : DC b_Mo_readAtom 126 (.iload_n 2) 1 127 := ⟨by decide +kernel, rfl⟩
theorem x_Mo_readAtom_127 : DC b_Mo_readAtom 127 (.ifCond .ge 37) 3 130 := ⟨by decide +kernel, rfl⟩
theorem x_Mo_readAtom_130 : DC b_Mo_readAtom 130 (.iload_n 3) 1 131 := ⟨by decide +kernel, rfl⟩
theorem x_Mo_readAtom_131 : DC b_Mo_readAtom 131 (.ifCond .ge 33) 3 134 := ⟨by decide +kernel, rfl⟩
theorem x_Mo_readAtom_134 : DC b_Mo_readAtom 134 (.aload_n 0) 1 135 := ⟨by decide +kernel, rfl⟩
theorem x_Mo_readAtom_135 : DC b_Mo_readAtom 135 (.getfield 422) 3 138 := ⟨by decide +kernel, rfl⟩
theorem x_Mo_readAtom_138 : DC b_Mo_readAtom 138 (.iconst 1) 1 139 := ⟨by decide +kernel, rfl⟩
theorem x_Mo_readAtom_139 : DC b_Mo_readAtom 139 (.if_icmp .ne 20) 3 142 := ⟨by decide +kernel, rfl⟩
theorem x_Mo_readAtom_142 : DC b_Mo_readAtom 142 (.aload_n 0) 1 143 := ⟨by decide +kernel, rfl⟩
theorem x_Mo_readAtom_143 : DC b_Mo_readAtom 143 (.invokevirtual 510) 3 146 := ⟨by decide +kernel, rfl⟩
theorem x_Mo_readAtom_146 : DC b_Mo_readAtom 146 (.ifCond .ne 13) 3 149 := ⟨by decide +kernel, rfl⟩
theorem x_Mo_readAtom_149 : DC b_Mo_readAtom 149 (.aload_n 0) 1 150 := ⟨by decide +kernel, rfl⟩
theorem x_Mo_readAtom_150 : DC b_Mo_readAtom 150 (.bipush 6) 2 152 := ⟨by decide +kernel, rfl⟩
theorem x_Mo_readAtom_152 : DC b_Mo_readAtom 152 (.aload_n 0) 1 153 := ⟨by decide +kernel, rfl⟩
theorem x_Mo_readAtom_153 : DC b_Mo_readAtom 153 (.getfield 416) 3 156 := ⟨by decide +kernel, rfl⟩
theorem x_Mo_readAtom_156 : DC b_Mo_readAtom 156 (.invokevirtual 459) 3 159 := ⟨by decide +kernel, rfl⟩
theorem x_Mo_readAtom_159 : DC b_Mo_readAtom 159 (.aload_n 0) 1 160 := ⟨by decide +kernel, rfl⟩
theorem x_Mo_readAtom_160 : DC b_Mo_readAtom 160 (.invokevirtual 516) 3 163 := ⟨by decide +kernel, rfl⟩
theorem x_Mo_readAtom_163 : DC b_Mo_readAtom 163 (.return_) 1 164 := ⟨by decide +kernel, rfl⟩
theorem x_Mo_readAtom_164 : DC b_Mo_readAtom 164 (.aload_n 0) 1 165 := ⟨by decide +kernel, rfl⟩
theorem x_Mo_readAtom_165 : DC b_Mo_readAtom 165 (.iload_n 2) 1 166 := ⟨by decide +kernel, rfl⟩
theorem x_Mo_readAtom_166 : DC b_Mo_readAtom 166 (.ifCond .lt 7) 3 169 := ⟨by decide +kernel, rfl⟩
theorem x_Mo_readAtom_169 : DC b_Mo_readAtom 169 (.iconst 1) 1 170 := ⟨by decide +kernel, rfl⟩
theorem x_Mo_readAtom_170 : DC b_Mo_readAtom 170 (.goto 4) 3 173 := ⟨by decide +kernel, rfl⟩
theorem x_Mo_readAtom_173 : DC b_Mo_readAtom 173 (.iconst 2) 1 174 := ⟨by decide +kernel, rfl⟩
theorem x_Mo_readAtom_174 : DC b_Mo_readAtom 174 (.iload_n 2) 1 175 := ⟨by decide +kernel, rfl⟩
theorem x_Mo_readAtom_175 : DC b_Mo_readAtom 175 (.ifCond .lt 7) 3 178 := ⟨by decide +kernel, rfl⟩
theorem x_Mo_readAtom_178 : DC b_Mo_readAtom 178 (.iload_n 2) 1 179 := ⟨by decide +kernel, rfl⟩
theorem x_Mo_readAtom_179 : DC b_Mo_readAtom 179 (.goto 4) 3 182 := ⟨by decide +kernel, rfl⟩
theorem x_Mo_readAtom_182 : DC b_Mo_readAtom 182 (.iload_n 3) 1 183 := ⟨by decide +kernel, rfl⟩
theorem x_Mo_readAtom_183 : DC b_Mo_readAtom 183 (.invokevirtual 528) 3 186 := ⟨by decide +kernel, rfl⟩
theorem x_Mo_readAtom_186 : DC b_Mo_readAtom 186 (.aload_n 0) 1 187 := ⟨by decide +kernel, rfl⟩
theorem x_Mo_readAtom_187 : DC b_Mo_readAtom 187 (.invokevirtual 522) 3 190 := ⟨by decide +kernel, rfl⟩
theorem x_Mo_readAtom_190 : DC b_Mo_readAtom 190 (.return_) 1 191 := ⟨by decide +kernel, rfl⟩
def k_Mo_readAtom_183 (SW : Int → Mem → Res) (SF : Int → Int → Mem → Res) (s1 s2 : Int) (M : Mem) : Res := bcall (d_Mo_mark s1 s2 M) fun v1 M2 => bcall (d_Mo_next M2) fun v3 M4 => some (0, M4)
theorem z_Mo_readAtom_183 (C : Cx p s m args meth c G b_Mo_readAtom 4 "PrairiePoolModel" none) {N : Nat} (hN : 20 ≤ N) (hlev : N + 3 ≤ lev) {SW : Int → Mem → Res} {SF : Int → Int → Mem → Res} (hSW : ∀ (lev' : Nat), N ≤ lev' → ∀ {a1 : Int} {M : Mem} {r : Int × Mem}, SW a1 M = some r → Mt l G y_Mo_readWhole b_Mo_readWhole 4 none lev' 0 [.ref (G.1 + 111), vi a1] M r) (hSF : ∀ (lev' : Nat), N ≤ lev' → ∀ {a1 : Int} {a2 : Int} {M : Mem} {r : Int × Mem}, SF a1 a2 M = some r → Mt l G y_Mo_readFew b_Mo_readFew 3 none lev' 0 [.ref (G.1 + 111), vi a1, vi a2] M r) {r : Int × Mem}  {s1 s2 : Int} {M : Mem} (h : k_Mo_readAtom_183 SW SF s1 s2 M = some r) : Z p l e lev s m args below meth c G 4 (MQ below (Qm G 0 r) args s 0 0 (Ab G)) M 183 [(0, .ref (G.1 + 111))] [vi s2, vi s1, .ref (G.1 + 111)] := by
  unfold k_Mo_readAtom_183 at h
  obtain ⟨v1, M2, fv1, h⟩ := bcall_e h
  refine z_callVv (k := 111) C x_Mo_readAtom_183 cv_Mo_528 (t_Mo_mark (lev := lev - 1) l G (by omega) fv1) nk_111 ck_111 rfl (by omega) rfl (i_le rfl) rfl ?_
  refine z_aload_n C 0 x_Mo_readAtom_186 rfl ?_
  obtain ⟨v3, M4, fv3, h⟩ := bcall_e h
  refine z_callVv (k := 111) C x_Mo_readAtom_187 cv_Mo_522 (t_Mo_next (lev := lev - 1) l G (by omega) fv3) nk_111 ck_111 rfl (by omega) rfl (i_le rfl) rfl ?_
  exact z_vret C x_Mo_readAtom_190 h
def k_Mo_readAtom_174 (SW : Int → Mem → Res) (SF : Int → Int → Mem → Res) (a2 a3 s1 : Int) (M : Mem) : Res := if w32 a2 < 0 then (k_Mo_readAtom_183 SW SF s1 a3 M) else (k_Mo_readAtom_183 SW SF s1 a2 M)
theorem z_Mo_readAtom_174 (C : Cx p s m args meth c G b_Mo_readAtom 4 "PrairiePoolModel" none) {N : Nat} (hN : 20 ≤ N) (hlev : N + 3 ≤ lev) {SW : Int → Mem → Res} {SF : Int → Int → Mem → Res} (hSW : ∀ (lev' : Nat), N ≤ lev' → ∀ {a1 : Int} {M : Mem} {r : Int × Mem}, SW a1 M = some r → Mt l G y_Mo_readWhole b_Mo_readWhole 4 none lev' 0 [.ref (G.1 + 111), vi a1] M r) (hSF : ∀ (lev' : Nat), N ≤ lev' → ∀ {a1 : Int} {a2 : Int} {M : Mem} {r : Int × Mem}, SF a1 a2 M = some r → Mt l G y_Mo_readFew b_Mo_readFew 3 none lev' 0 [.ref (G.1 + 111), vi a1, vi a2] M r) {r : Int × Mem}  {a2 a3 s1 : Int} {M : Mem} (h : k_Mo_readAtom_174 SW SF a2 a3 s1 M = some r) : Z p l e lev s m args below meth c G 4 (MQ below (Qm G 0 r) args s 0 0 (Ab G)) M 174 [(0, .ref (G.1 + 111)), (2, vi a2), (3, vi a3)] [vi s1, .ref (G.1 + 111)] := by
  unfold k_Mo_readAtom_174 at h
  refine z_iload_n C 1 x_Mo_readAtom_174 rfl ?_
  rcases ite_e h with ⟨c1, h⟩ | ⟨c1, h⟩
  · refine z_if_lt_t (tgt := 182) C x_Mo_readAtom_175 rfl c1 ?_
    refine z_iload_n C 2 x_Mo_readAtom_182 rfl ?_
    exact z_sub [0] rfl (z_Mo_readAtom_183 C hN hlev hSW hSF h)
  · refine z_if_lt_f (tgt := 182) C x_Mo_readAtom_175 rfl c1 ?_
    refine z_iload_n C 1 x_Mo_readAtom_178 rfl ?_
    refine z_goto (tgt := 183) C x_Mo_readAtom_179 rfl ?_
    exact z_sub [0] rfl (z_Mo_readAtom_183 C hN hlev hSW hSF h)
def k_Mo_readAtom_164 (SW : Int → Mem → Res) (SF : Int → Int → Mem → Res) (a2 a3 : Int) (M : Mem) : Res := if w32 a2 < 0 then (k_Mo_readAtom_174 SW SF a2 a3 2 M) else (k_Mo_readAtom_174 SW SF a2 a3 1 M)
theorem z_Mo_readAtom_164 (C : Cx p s m args meth c G b_Mo_readAtom 4 "PrairiePoolModel" none) {N : Nat} (hN : 20 ≤ N) (hlev : N + 3 ≤ lev) {SW : Int → Mem → Res} {SF : Int → Int → Mem → Res} (hSW : ∀ (lev' : Nat), N ≤ lev' → ∀ {a1 : Int} {M : Mem} {r : Int × Mem}, SW a1 M = some r → Mt l G y_Mo_readWhole b_Mo_readWhole 4 none lev' 0 [.ref (G.1 + 111), vi a1] M r) (hSF : ∀ (lev' : Nat), N ≤ lev' → ∀ {a1 : Int} {a2 : Int} {M : Mem} {r : Int × Mem}, SF a1 a2 M = some r → Mt l G y_Mo_readFew b_Mo_readFew 3 none lev' 0 [.ref (G.1 + 111), vi a1, vi a2] M r) {r : Int × Mem}  {a2 a3 : Int} {M : Mem} (h : k_Mo_readAtom_164 SW SF a2 a3 M = some r) : Z p l e lev s m args below meth c G 4 (MQ below (Qm G 0 r) args s 0 0 (Ab G)) M 164 [(0, .ref (G.1 + 111)), (2, vi a2), (3, vi a3)] [] := by
  unfold k_Mo_readAtom_164 at h
  refine z_aload_n C 0 x_Mo_readAtom_164 rfl ?_
  refine z_iload_n C 1 x_Mo_readAtom_165 rfl ?_
  rcases ite_e h with ⟨c1, h⟩ | ⟨c1, h⟩
  · refine z_if_lt_t (tgt := 173) C x_Mo_readAtom_166 rfl c1 ?_
    refine z_iconst C x_Mo_readAtom_173 ?_
    exact z_sub [0, 1, 2] rfl (z_Mo_readAtom_174 C hN hlev hSW hSF h)
  · refine z_if_lt_f (tgt := 173) C x_Mo_readAtom_166 rfl c1 ?_
    refine z_iconst C x_Mo_readAtom_169 ?_
    refine z_goto (tgt := 174) C x_Mo_readAtom_170 rfl ?_
    exact z_sub [0, 1, 2] rfl (z_Mo_readAtom_174 C hN hlev hSW hSF h)
def k_Mo_readAtom_159 (SW : Int → Mem → Res) (SF : Int → Int → Mem → Res) (M : Mem) : Res := bcall (d_Mo_wrong M) fun v1 M2 => some (0, M2)
theorem z_Mo_readAtom_159 (C : Cx p s m args meth c G b_Mo_readAtom 4 "PrairiePoolModel" none) {N : Nat} (hN : 20 ≤ N) (hlev : N + 3 ≤ lev) {SW : Int → Mem → Res} {SF : Int → Int → Mem → Res} (hSW : ∀ (lev' : Nat), N ≤ lev' → ∀ {a1 : Int} {M : Mem} {r : Int × Mem}, SW a1 M = some r → Mt l G y_Mo_readWhole b_Mo_readWhole 4 none lev' 0 [.ref (G.1 + 111), vi a1] M r) (hSF : ∀ (lev' : Nat), N ≤ lev' → ∀ {a1 : Int} {a2 : Int} {M : Mem} {r : Int × Mem}, SF a1 a2 M = some r → Mt l G y_Mo_readFew b_Mo_readFew 3 none lev' 0 [.ref (G.1 + 111), vi a1, vi a2] M r) {r : Int × Mem}  {M : Mem} (h : k_Mo_readAtom_159 SW SF M = some r) : Z p l e lev s m args below meth c G 4 (MQ below (Qm G 0 r) args s 0 0 (Ab G)) M 159 [(0, .ref (G.1 + 111))] [] := by
  unfold k_Mo_readAtom_159 at h
  refine z_aload_n C 0 x_Mo_readAtom_159 rfl ?_
  obtain ⟨v1, M2, fv1, h⟩ := bcall_e h
  refine z_callVv (k := 111) C x_Mo_readAtom_160 cv_Mo_516 (t_Mo_wrong (lev := lev - 1) l G (by omega) fv1) nk_111 ck_111 rfl (by omega) rfl (i_le rfl) rfl ?_
  exact z_vret C x_Mo_readAtom_163 h
def k_Mo_readAtom_112 (SW : Int → Mem → Res) (SF : Int → Int → Mem → Res) (s1 s2 : Int) (M : Mem) : Res := bcall (SF s1 s2 M) fun v1 M2 => some (0, M2)
theorem z_Mo_readAtom_112 (C : Cx p s m args meth c G b_Mo_readAtom 4 "PrairiePoolModel" none) {N : Nat} (hN : 20 ≤ N) (hlev : N + 3 ≤ lev) {SW : Int → Mem → Res} {SF : Int → Int → Mem → Res} (hSW : ∀ (lev' : Nat), N ≤ lev' → ∀ {a1 : Int} {M : Mem} {r : Int × Mem}, SW a1 M = some r → Mt l G y_Mo_readWhole b_Mo_readWhole 4 none lev' 0 [.ref (G.1 + 111), vi a1] M r) (hSF : ∀ (lev' : Nat), N ≤ lev' → ∀ {a1 : Int} {a2 : Int} {M : Mem} {r : Int × Mem}, SF a1 a2 M = some r → Mt l G y_Mo_readFew b_Mo_readFew 3 none lev' 0 [.ref (G.1 + 111), vi a1, vi a2] M r) {r : Int × Mem}  {s1 s2 : Int} {M : Mem} (h : k_Mo_readAtom_112 SW SF s1 s2 M = some r) : Z p l e lev s m args below meth c G 4 (MQ below (Qm G 0 r) args s 0 0 (Ab G)) M 112 [] [vi s2, vi s1, .ref (G.1 + 111)] := by
  unfold k_Mo_readAtom_112 at h
  obtain ⟨v1, M2, fv1, h⟩ := bcall_e h
  refine z_callVv (k := 111) C x_Mo_readAtom_112 cv_Mo_543 (hSF (lev - 1) (by omega) fv1) nk_111 ck_111 rfl (by omega) rfl (i_le rfl) rfl ?_
  exact z_vret C x_Mo_readAtom_115 h
def k_Mo_readAtom_96 (SW : Int → Mem → Res) (SF : Int → Int → Mem → Res) (a1 : Int) (M : Mem) : Res := bcall (d_Mo_isLeast M) fun v1 M2 => if w32 v1 = 0 then (k_Mo_readAtom_112 SW SF a1 9 M2) else (k_Mo_readAtom_112 SW SF a1 8 M2)
theorem z_Mo_readAtom_96 (C : Cx p s m args meth c G b_Mo_readAtom 4 "PrairiePoolModel" none) {N : Nat} (hN : 20 ≤ N) (hlev : N + 3 ≤ lev) {SW : Int → Mem → Res} {SF : Int → Int → Mem → Res} (hSW : ∀ (lev' : Nat), N ≤ lev' → ∀ {a1 : Int} {M : Mem} {r : Int × Mem}, SW a1 M = some r → Mt l G y_Mo_readWhole b_Mo_readWhole 4 none lev' 0 [.ref (G.1 + 111), vi a1] M r) (hSF : ∀ (lev' : Nat), N ≤ lev' → ∀ {a1 : Int} {a2 : Int} {M : Mem} {r : Int × Mem}, SF a1 a2 M = some r → Mt l G y_Mo_readFew b_Mo_readFew 3 none lev' 0 [.ref (G.1 + 111), vi a1, vi a2] M r) {r : Int × Mem}  {a1 : Int} {M : Mem} (h : k_Mo_readAtom_96 SW SF a1 M = some r) : Z p l e lev s m args below meth c G 4 (MQ below (Qm G 0 r) args s 0 0 (Ab G)) M 96 [(0, .ref (G.1 + 111)), (1, vi a1)] [] := by
  unfold k_Mo_readAtom_96 at h
  refine z_aload_n C 0 x_Mo_readAtom_96 rfl ?_
  refine z_iload_n C 1 x_Mo_readAtom_97 rfl ?_
  refine z_aload_n C 0 x_Mo_readAtom_98 rfl ?_
  obtain ⟨v1, M2, fv1, h⟩ := bcall_e h
  refine z_callVi (k := 111) C x_Mo_readAtom_99 cv_Mo_491 (t_Mo_isLeast (lev := lev - 1) l G (by omega) fv1) nk_111 ck_111 rfl (by omega) rfl (i_le rfl) rfl ?_
  rcases ite_e h with ⟨c3, h⟩ | ⟨c3, h⟩
  · refine z_if_eq_t (tgt := 110) C x_Mo_readAtom_102 rfl c3 ?_
    refine z_bipush C rfl x_Mo_readAtom_110 ?_
    exact z_sub [] rfl (z_Mo_readAtom_112 C hN hlev hSW hSF h)
  · refine z_if_eq_f (tgt := 110) C x_Mo_readAtom_102 rfl c3 ?_
    refine z_bipush C rfl x_Mo_readAtom_105 ?_
    refine z_goto (tgt := 112) C x_Mo_readAtom_107 rfl ?_
    exact z_sub [] rfl (z_Mo_readAtom_112 C hN hlev hSW hSF h)
def k_Mo_readAtom_70 (SW : Int → Mem → Res) (SF : Int → Int → Mem → Res) (M : Mem) : Res := blet (M 111 48) fun v1 => if w32 v1 = 0 then (bcall (d_Mo_next M) fun v3 M4 => some (0, M4)) else (some (0, M))
theorem z_Mo_readAtom_70 (C : Cx p s m args meth c G b_Mo_readAtom 4 "PrairiePoolModel" none) {N : Nat} (hN : 20 ≤ N) (hlev : N + 3 ≤ lev) {SW : Int → Mem → Res} {SF : Int → Int → Mem → Res} (hSW : ∀ (lev' : Nat), N ≤ lev' → ∀ {a1 : Int} {M : Mem} {r : Int × Mem}, SW a1 M = some r → Mt l G y_Mo_readWhole b_Mo_readWhole 4 none lev' 0 [.ref (G.1 + 111), vi a1] M r) (hSF : ∀ (lev' : Nat), N ≤ lev' → ∀ {a1 : Int} {a2 : Int} {M : Mem} {r : Int × Mem}, SF a1 a2 M = some r → Mt l G y_Mo_readFew b_Mo_readFew 3 none lev' 0 [.ref (G.1 + 111), vi a1, vi a2] M r) {r : Int × Mem}  {M : Mem} (h : k_Mo_readAtom_70 SW SF M = some r) : Z p l e lev s m args below meth c G 4 (MQ below (Qm G 0 r) args s 0 0 (Ab G)) M 70 [(0, .ref (G.1 + 111))] [] := by
  unfold k_Mo_readAtom_70 at h
  refine z_aload_n C 0 x_Mo_readAtom_70 rfl ?_
  obtain ⟨v1, ev1, h⟩ := blet_e h
  refine z_getI (j := 48) C x_Mo_readAtom_71 nk_111 ck_111 cw_12 (i_lt rfl) rfl rfl fl_Mo_453 ev1 ?_
  rcases ite_e h with ⟨c2, h⟩ | ⟨c2, h⟩
  · refine z_if_ne_f (tgt := 81) C x_Mo_readAtom_74 rfl c2 ?_
    refine z_aload_n C 0 x_Mo_readAtom_77 rfl ?_
    obtain ⟨v3, M4, fv3, h⟩ := bcall_e h
    refine z_callVv (k := 111) C x_Mo_readAtom_78 cv_Mo_522 (t_Mo_next (lev := lev - 1) l G (by omega) fv3) nk_111 ck_111 rfl (by omega) rfl (i_le rfl) rfl ?_
    exact z_vret C x_Mo_readAtom_81 h
  · refine z_if_ne_t (tgt := 81) C x_Mo_readAtom_74 rfl c2 ?_
    exact z_vret C x_Mo_readAtom_81 h
def d_Mo_readAtom (SW : Int → Mem → Res) (SF : Int → Int → Mem → Res) (a1 : Int) (M : Mem) : Res := blet (M 111 48) fun v1 => if 0 < w32 v1 then (some (0, M)) else (blet (M 111 50) fun v3 => if w32 v3 = 2 then (blet (M 111 53) fun v5 => bcall (d_Mo_mark 0 v5 M) fun v6 M7 => bcall (d_Mo_next M7) fun v8 M9 => some (0, M9)) else (bcall (d_Mo_isSign 40 M) fun v10 M11 => if w32 v10 = 0 then (bcall (d_Mo_isLeast M11) fun v13 M14 => if w32 v13 = 0 then (bcall (d_Mo_isMost M14) fun v16 M17 => if w32 v16 = 0 then (bcall (d_Mo_variable M17) fun v19 M20 => bcall (d_Mo_named M20) fun v21 M22 => if w32 v19 < 0 then (if w32 v21 < 0 then (blet (M22 111 50) fun v25 => if w32 v25 = 1 then (bcall (d_Mo_isKept M22) fun v27 M28 => if w32 v27 = 0 then (blet (M28 111 51) fun v30 => bcall (d_Mo_fail 6 v30 M28) fun v31 M32 => k_Mo_readAtom_159 SW SF M32) else (k_Mo_readAtom_159 SW SF M28)) else (k_Mo_readAtom_159 SW SF M22)) else (k_Mo_readAtom_164 SW SF v19 v21 M22)) else (k_Mo_readAtom_164 SW SF v19 v21 M22)) else (k_Mo_readAtom_96 SW SF a1 M17)) else (k_Mo_readAtom_96 SW SF a1 M14)) else (bcall (d_Mo_next M11) fun v33 M34 => bcall (SW (a1 + 1) M34) fun v35 M36 => blet (M36 111 48) fun v37 => if w32 v37 = 0 then (bcall (d_Mo_isSign 41 M36) fun v39 M40 => if w32 v39 = 0 then (bcall (d_Mo_wrong M40) fun v42 M43 => k_Mo_readAtom_70 SW SF M43) else (k_Mo_readAtom_70 SW SF M40)) else (k_Mo_readAtom_70 SW SF M36))))
theorem t_Mo_readAtom (l : Launch) (G : GX) {lev : Nat} {N : Nat} (hN : 20 ≤ N) (hlev : N + 3 ≤ lev) {SW : Int → Mem → Res} {SF : Int → Int → Mem → Res} (hSW : ∀ (lev' : Nat), N ≤ lev' → ∀ {a1 : Int} {M : Mem} {r : Int × Mem}, SW a1 M = some r → Mt l G y_Mo_readWhole b_Mo_readWhole 4 none lev' 0 [.ref (G.1 + 111), vi a1] M r) (hSF : ∀ (lev' : Nat), N ≤ lev' → ∀ {a1 : Int} {a2 : Int} {M : Mem} {r : Int × Mem}, SF a1 a2 M = some r → Mt l G y_Mo_readFew b_Mo_readFew 3 none lev' 0 [.ref (G.1 + 111), vi a1, vi a2] M r) {a1 : Int} {M : Mem} {r : Int × Mem} (h : d_Mo_readAtom SW SF a1 M = some r) : Mt l G y_Mo_readAtom b_Mo_readAtom 4 none lev 0 [.ref (G.1 + 111), vi a1] M r := by
  refine Mt.of (by decide) (i_le rfl) ?_
  intro p e s m args below meth c C
  have C : Cx p s m args meth c G b_Mo_readAtom 4 "PrairiePoolModel" none := C
  unfold d_Mo_readAtom at h
  refine z_sub (lv' := [(0, .ref (G.1 + 111)), (1, vi a1)]) [0, 1] rfl ?_
  refine z_aload_n C 0 x_Mo_readAtom_0 rfl ?_
  obtain ⟨v1, ev1, h⟩ := blet_e h
  refine z_getI (j := 48) C x_Mo_readAtom_1 nk_111 ck_111 cw_12 (i_lt rfl) rfl rfl fl_Mo_453 ev1 ?_
  rcases ite_e h with ⟨c2, h⟩ | ⟨c2, h⟩
  · refine z_if_le_f (tgt := 8) C x_Mo_readAtom_4 rfl c2 ?_
    exact z_vret C x_Mo_readAtom_7 h
  · refine z_if_le_t (tgt := 8) C x_Mo_readAtom_4 rfl c2 ?_
    refine z_aload_n C 0 x_Mo_readAtom_8 rfl ?_
    obtain ⟨v3, ev3, h⟩ := blet_e h
    refine z_getI (j := 50) C x_Mo_readAtom_9 nk_111 ck_111 cw_12 (i_lt rfl) rfl rfl fl_Mo_422 ev3 ?_
    refine z_iconst C x_Mo_readAtom_12 ?_
    rcases ite_e h with ⟨c4, h⟩ | ⟨c4, h⟩
    · refine z_icmp_ne_f (tgt := 30) C x_Mo_readAtom_13 rfl c4 ?_
      refine z_aload_n C 0 x_Mo_readAtom_16 rfl ?_
      refine z_iconst C x_Mo_readAtom_17 ?_
      refine z_aload_n C 0 x_Mo_readAtom_18 rfl ?_
      obtain ⟨v5, ev5, h⟩ := blet_e h
      refine z_getI (j := 53) C x_Mo_readAtom_19 nk_111 ck_111 cw_12 (i_lt rfl) rfl rfl fl_Mo_442 ev5 ?_
      obtain ⟨v6, M7, fv6, h⟩ := bcall_e h
      refine z_callVv (k := 111) C x_Mo_readAtom_22 cv_Mo_528 (t_Mo_mark (lev := lev - 1) l G (by omega) fv6) nk_111 ck_111 rfl (by omega) rfl (i_le rfl) rfl ?_
      refine z_aload_n C 0 x_Mo_readAtom_25 rfl ?_
      obtain ⟨v8, M9, fv8, h⟩ := bcall_e h
      refine z_callVv (k := 111) C x_Mo_readAtom_26 cv_Mo_522 (t_Mo_next (lev := lev - 1) l G (by omega) fv8) nk_111 ck_111 rfl (by omega) rfl (i_le rfl) rfl ?_
      exact z_vret C x_Mo_readAtom_29 h
    · refine z_icmp_ne_t (tgt := 30) C x_Mo_readAtom_13 rfl c4 ?_
      refine z_aload_n C 0 x_Mo_readAtom_30 rfl ?_
      refine z_bipush C rfl x_Mo_readAtom_31 ?_
      obtain ⟨v10, M11, fv10, h⟩ := bcall_e h
      refine z_callVi (k := 111) C x_Mo_readAtom_33 cv_Mo_507 (t_Mo_isSign (lev := lev - 1) l G (by omega) fv10) nk_111 ck_111 rfl (by omega) rfl (i_le rfl) rfl ?_
      rcases ite_e h with ⟨c12, h⟩ | ⟨c12, h⟩
      · refine z_if_eq_t (tgt := 82) C x_Mo_readAtom_36 rfl c12 ?_
        refine z_aload_n C 0 x_Mo_readAtom_82 rfl ?_
        obtain ⟨v13, M14, fv13, h⟩ := bcall_e h
        refine z_callVi (k := 111) C x_Mo_readAtom_83 cv_Mo_491 (t_Mo_isLeast (lev := lev - 1) l G (by omega) fv13) nk_111 ck_111 rfl (by omega) rfl (i_le rfl) rfl ?_
        rcases ite_e h with ⟨c15, h⟩ | ⟨c15, h⟩
        · refine z_if_ne_f (tgt := 96) C x_Mo_readAtom_86 rfl c15 ?_
          refine z_aload_n C 0 x_Mo_readAtom_89 rfl ?_
          obtain ⟨v16, M17, fv16, h⟩ := bcall_e h
          refine z_callVi (k := 111) C x_Mo_readAtom_90 cv_Mo_494 (t_Mo_isMost (lev := lev - 1) l G (by omega) fv16) nk_111 ck_111 rfl (by omega) rfl (i_le rfl) rfl ?_
          rcases ite_e h with ⟨c18, h⟩ | ⟨c18, h⟩
          · refine z_if_eq_t (tgt := 116) C x_Mo_readAtom_93 rfl c18 ?_
            refine z_aload_n C 0 x_Mo_readAtom_116 rfl ?_
            obtain ⟨v19, M20, fv19, h⟩ := bcall_e h
            refine z_callVi (k := 111) C x_Mo_readAtom_117 cv_Mo_546 (t_Mo_variable (lev := lev - 1) l G (by omega) fv19) nk_111 ck_111 rfl (by omega) rfl (i_le rfl) rfl ?_
            refine z_istore_n (lv' := [(2, vi v19), (0, .ref (G.1 + 111)), (1, vi a1)]) C rfl x_Mo_readAtom_120 (i_lt rfl) rfl ?_
            refine z_aload_n C 1 x_Mo_readAtom_121 rfl ?_
            obtain ⟨v21, M22, fv21, h⟩ := bcall_e h
            refine z_callVi (k := 111) C x_Mo_readAtom_122 cv_Mo_550 (t_Mo_named (lev := lev - 1) l G (by omega) fv21) nk_111 ck_111 rfl (by omega) rfl (i_le rfl) rfl ?_
            refine z_istore_n (lv' := [(3, vi v21), (2, vi v19), (0, .ref (G.1 + 111)), (1, vi a1)]) C rfl x_Mo_readAtom_125 (i_lt rfl) rfl ?_
            refine z_iload_n C 1 x_Mo_readAtom_126 rfl ?_
            rcases ite_e h with ⟨c23, h⟩ | ⟨c23, h⟩
            · refine z_if_ge_f (tgt := 164) C x_Mo_readAtom_127 rfl c23 ?_
              refine z_iload_n C 0 x_Mo_readAtom_130 rfl ?_
              rcases ite_e h with ⟨c24, h⟩ | ⟨c24, h⟩
              · refine z_if_ge_f (tgt := 164) C x_Mo_readAtom_131 rfl c24 ?_
                refine z_aload_n C 2 x_Mo_readAtom_134 rfl ?_
                obtain ⟨v25, ev25, h⟩ := blet_e h
                refine z_getI (j := 50) C x_Mo_readAtom_135 nk_111 ck_111 cw_12 (i_lt rfl) rfl rfl fl_Mo_422 ev25 ?_
                refine z_iconst C x_Mo_readAtom_138 ?_
                rcases ite_e h with ⟨c26, h⟩ | ⟨c26, h⟩
                · refine z_icmp_ne_f (tgt := 159) C x_Mo_readAtom_139 rfl c26 ?_
                  refine z_aload_n C 2 x_Mo_readAtom_142 rfl ?_
                  obtain ⟨v27, M28, fv27, h⟩ := bcall_e h
                  refine z_callVi (k := 111) C x_Mo_readAtom_143 cv_Mo_510 (t_Mo_isKept (lev := lev - 1) l G (by omega) fv27) nk_111 ck_111 rfl (by omega) rfl (i_le rfl) rfl ?_
                  rcases ite_e h with ⟨c29, h⟩ | ⟨c29, h⟩
                  · refine z_if_ne_f (tgt := 159) C x_Mo_readAtom_146 rfl c29 ?_
                    refine z_aload_n C 2 x_Mo_readAtom_149 rfl ?_
                    refine z_bipush C rfl x_Mo_readAtom_150 ?_
                    refine z_aload_n C 2 x_Mo_readAtom_152 rfl ?_
                    obtain ⟨v30, ev30, h⟩ := blet_e h
                    refine z_getI (j := 51) C x_Mo_readAtom_153 nk_111 ck_111 cw_12 (i_lt rfl) rfl rfl fl_Mo_416 ev30 ?_
                    obtain ⟨v31, M32, fv31, h⟩ := bcall_e h
                    refine z_callVv (k := 111) C x_Mo_readAtom_156 cv_Mo_459 (t_Mo_fail (lev := lev - 1) l G (by omega) fv31) nk_111 ck_111 rfl (by omega) rfl (i_le rfl) rfl ?_
                    exact z_sub [2] rfl (z_Mo_readAtom_159 C hN hlev hSW hSF h)
                  · refine z_if_ne_t (tgt := 159) C x_Mo_readAtom_146 rfl c29 ?_
                    exact z_sub [2] rfl (z_Mo_readAtom_159 C hN hlev hSW hSF h)
                · refine z_icmp_ne_t (tgt := 159) C x_Mo_readAtom_139 rfl c26 ?_
                  exact z_sub [2] rfl (z_Mo_readAtom_159 C hN hlev hSW hSF h)
              · refine z_if_ge_t (tgt := 164) C x_Mo_readAtom_131 rfl c24 ?_
                exact z_sub [2, 1, 0] rfl (z_Mo_readAtom_164 C hN hlev hSW hSF h)
            · refine z_if_ge_t (tgt := 164) C x_Mo_readAtom_127 rfl c23 ?_
              exact z_sub [2, 1, 0] rfl (z_Mo_readAtom_164 C hN hlev hSW hSF h)
          · refine z_if_eq_f (tgt := 116) C x_Mo_readAtom_93 rfl c18 ?_
            exact z_sub [0, 1] rfl (z_Mo_readAtom_96 C hN hlev hSW hSF h)
        · refine z_if_ne_t (tgt := 96) C x_Mo_readAtom_86 rfl c15 ?_
          exact z_sub [0, 1] rfl (z_Mo_readAtom_96 C hN hlev hSW hSF h)
      · refine z_if_eq_f (tgt := 82) C x_Mo_readAtom_36 rfl c12 ?_
        refine z_aload_n C 0 x_Mo_readAtom_39 rfl ?_
        obtain ⟨v33, M34, fv33, h⟩ := bcall_e h
        refine z_callVv (k := 111) C x_Mo_readAtom_40 cv_Mo_522 (t_Mo_next (lev := lev - 1) l G (by omega) fv33) nk_111 ck_111 rfl (by omega) rfl (i_le rfl) rfl ?_
        refine z_aload_n C 0 x_Mo_readAtom_43 rfl ?_
        refine z_iload_n C 1 x_Mo_readAtom_44 rfl ?_
        refine z_iconst C x_Mo_readAtom_45 ?_
        refine z_iadd C x_Mo_readAtom_46 ?_
        obtain ⟨v35, M36, fv35, h⟩ := bcall_e h
        refine z_callVv (k := 111) C x_Mo_readAtom_47 cv_Mo_531 (hSW (lev - 1) (by omega) fv35) nk_111 ck_111 rfl (by omega) rfl (i_le rfl) rfl ?_
        refine z_aload_n C 0 x_Mo_readAtom_50 rfl ?_
        obtain ⟨v37, ev37, h⟩ := blet_e h
        refine z_getI (j := 48) C x_Mo_readAtom_51 nk_111 ck_111 cw_12 (i_lt rfl) rfl rfl fl_Mo_453 ev37 ?_
        rcases ite_e h with ⟨c38, h⟩ | ⟨c38, h⟩
        · refine z_if_ne_f (tgt := 70) C x_Mo_readAtom_54 rfl c38 ?_
          refine z_aload_n C 0 x_Mo_readAtom_57 rfl ?_
          refine z_bipush C rfl x_Mo_readAtom_58 ?_
          obtain ⟨v39, M40, fv39, h⟩ := bcall_e h
          refine z_callVi (k := 111) C x_Mo_readAtom_60 cv_Mo_507 (t_Mo_isSign (lev := lev - 1) l G (by omega) fv39) nk_111 ck_111 rfl (by omega) rfl (i_le rfl) rfl ?_
          rcases ite_e h with ⟨c41, h⟩ | ⟨c41, h⟩
          · refine z_if_ne_f (tgt := 70) C x_Mo_readAtom_63 rfl c41 ?_
            refine z_aload_n C 0 x_Mo_readAtom_66 rfl ?_
            obtain ⟨v42, M43, fv42, h⟩ := bcall_e h
            refine z_callVv (k := 111) C x_Mo_readAtom_67 cv_Mo_516 (t_Mo_wrong (lev := lev - 1) l G (by omega) fv42) nk_111 ck_111 rfl (by omega) rfl (i_le rfl) rfl ?_
            exact z_sub [0] rfl (z_Mo_readAtom_70 C hN hlev hSW hSF h)
          · refine z_if_ne_t (tgt := 70) C x_Mo_readAtom_63 rfl c41 ?_
            exact z_sub [0] rfl (z_Mo_readAtom_70 C hN hlev hSW hSF h)
        · refine z_if_ne_t (tgt := 70) C x_Mo_readAtom_54 rfl c38 ?_
          exact z_sub [0] rfl (z_Mo_readAtom_70 C hN hlev hSW hSF h)
end
