section
variable {p : Program} {l : Launch} {e : Env} {lev : Nat} {s : State} {m : MethodId} {args : Array Value} {below : List Frame} {meth : Method} {c : Code} {G : GX}
theorem x_Mo_breach_0 : DC b_Mo_breach 0 (.aload_n 0) 1 1 := ⟨by decide +kernel, rfl⟩
theorem x_Mo_breach_1 : DC b_Mo_breach 1 (.iconst 0) 1 2 := ⟨by decide +kernel, rfl⟩
theorem x_Mo_breach_2 : DC b_Mo_breach 2 (.putfield 257) 3 5 := ⟨by decide +kernel, rfl⟩
theorem x_Mo_breach_5 : DC b_Mo_breach 5 (.aload_n 0) 1 6 := ⟨by decide +kernel, rfl⟩
theorem x_Mo_breach_6 : DC b_Mo_breach 6 (.iconst 0) 1 7 := ⟨by decide +kernel, rfl⟩
theorem x_Mo_breach_7 : DC b_Mo_breach 7 (.putfield 260) 3 10 := ⟨by decide +kernel, rfl⟩
theorem x_Mo_breach_10 : DC b_Mo_breach 10 (.iload_n 1) 1 11 := ⟨by decide +kernel, rfl⟩
theorem x_Mo_breach_11 : DC b_Mo_breach 11 (.i2l) 1 12 := ⟨by decide +kernel, rfl⟩
theorem x_Mo_breach_12 : DC b_Mo_breach 12 (.lconst 0) 1 13 := ⟨by decide +kernel, rfl⟩
theorem x_Mo_breach_13 : DC b_Mo_breach 13 (.aload_n 0) 1 14 := ⟨by decide +kernel, rfl⟩
theorem x_Mo_breach_14 : DC b_Mo_breach 14 (.getfield 629) 3 17 := ⟨by decide +kernel, rfl⟩
theorem x_Mo_breach_17 : DC b_Mo_breach 17 (.iconst 1) 1 18 := ⟨by decide +kernel, rfl⟩
theorem x_Mo_breach_18 : DC b_Mo_breach 18 (.isub) 1 19 := ⟨by decide +kernel, rfl⟩
theorem x_Mo_breach_19 : DC b_Mo_breach 19 (.i2l) 1 20 := ⟨by decide +kernel, rfl⟩
theorem x_Mo_breach_20 : DC b_Mo_breach 20 (.invokestatic 265) 3 23 := ⟨by decide +kernel, rfl⟩
theorem x_Mo_breach_23 : DC b_Mo_breach 23 (.ifCond .ne 10) 3 26 := ⟨by decide +kernel, rfl⟩
theorem x_Mo_breach_26 : DC b_Mo_breach 26 (.aload_n 0) 1 27 := ⟨by decide +kernel, rfl⟩
theorem x_Mo_breach_27 : DC b_Mo_breach 27 (.bipush 8) 2 29 := ⟨by decide +kernel, rfl⟩
theorem x_Mo_breach_29 : DC b_Mo_breach 29 (.invokevirtual 297) 3 32 := ⟨by decide +kernel, rfl⟩
theorem x_Mo_breach_32 : DC b_Mo_breach 32 (.ireturn) 1 33 := ⟨by decide +kernel, rfl⟩
theorem x_Mo_breach_33 : DC b_Mo_breach 33 (.aload_n 0) 1 34 := ⟨by decide +kernel, rfl⟩
theorem x_Mo_breach_34 : DC b_Mo_breach 34 (.iload_n 1) 1 35 := ⟨by decide +kernel, rfl⟩
theorem x_Mo_breach_35 : DC b_Mo_breach 35 (.invokevirtual 632) 3 38 := ⟨by decide +kernel, rfl⟩
theorem x_Mo_breach_38 : DC b_Mo_breach 38 (.lconst 0) 1 39 := ⟨by decide +kernel, rfl⟩
theorem x_Mo_breach_39 : DC b_Mo_breach 39 (.lcmp) 1 40 := ⟨by decide +kernel, rfl⟩
theorem x_Mo_breach_40 : DC b_Mo_breach 40 (.ifCond .le 7) 3 43 := ⟨by decide +kernel, rfl⟩
theorem x_Mo_breach_43 : DC b_Mo_breach 43 (.iconst 1) 1 44 := ⟨by decide +kernel, rfl⟩
theorem x_Mo_breach_44 : DC b_Mo_breach 44 (.goto 4) 3 47 := ⟨by decide +kernel, rfl⟩
theorem x_Mo_breach_47 : DC b_Mo_breach 47 (.iconst 0) 1 48 := ⟨by decide +kernel, rfl⟩
theorem x_Mo_breach_48 : DC b_Mo_breach 48 (.ireturn) 1 49 := ⟨by decide +kernel, rfl⟩
def d_Mo_breach (a1 : Int) (M : Mem) : Res := blet (sto M 111 1 0) fun M1 => blet (sto M1 111 0 0) fun M2 => blet (M2 111 88) fun v3 => bcall (d_Mo_isIn (w32 a1) 0 (w32 (v3 - 1)) M2) fun v4 M5 => if w32 v4 = 0 then (bcall (d_Mo_refuse 8 M5) fun v7 M8 => some (v7, M8)) else (bcall (d_Mo_breachOf a1 M5) fun v9 M10 => if 0 < w64 v9 then (some (1, M10)) else (some (0, M10)))
theorem t_Mo_breach (l : Launch) (G : GX) {lev : Nat} (hlev : 6 ≤ lev) {a1 : Int} {M : Mem} {r : Int × Mem} (h : d_Mo_breach a1 M = some r) : Mt l G y_Mo_breach b_Mo_breach 2 (some .int) lev 1 [.ref (G.1 + 111), vi a1] M r := by
  refine Mt.of (by decide) (i_le rfl) ?_
  intro p e s m args below meth c C
  have C : Cx p s m args meth c G b_Mo_breach 2 "PrairiePoolModel" (some .int) := C
  unfold d_Mo_breach at h
  refine z_sub (lv' := [(0, .ref (G.1 + 111)), (1, vi a1)]) [0, 1] rfl ?_
  refine z_aload_n C 0 x_Mo_breach_0 rfl ?_
  refine z_iconst C x_Mo_breach_1 ?_
  obtain ⟨M1, eM1, h⟩ := blet_e h
  refine z_putI (j := 1) C x_Mo_breach_2 nk_111 ck_111 cw_12 (i_lt rfl) rfl rfl rfl rfl fl_Mo_257 eM1 ?_
  refine z_aload_n C 0 x_Mo_breach_5 rfl ?_
  refine z_iconst C x_Mo_breach_6 ?_
  obtain ⟨M2, eM2, h⟩ := blet_e h
  refine z_putI (j := 0) C x_Mo_breach_7 nk_111 ck_111 cw_12 (i_lt rfl) rfl rfl rfl rfl fl_Mo_260 eM2 ?_
  refine z_iload_n C 1 x_Mo_breach_10 rfl ?_
  refine z_i2l C x_Mo_breach_11 ?_
  refine z_lconst0 C x_Mo_breach_12 ?_
  refine z_aload_n C 0 x_Mo_breach_13 rfl ?_
  obtain ⟨v3, ev3, h⟩ := blet_e h
  refine z_getI (j := 88) C x_Mo_breach_14 nk_111 ck_111 cw_12 (i_lt rfl) rfl rfl fl_Mo_629 ev3 ?_
  refine z_iconst C x_Mo_breach_17 ?_
  refine z_isub C x_Mo_breach_18 ?_
  refine z_i2l C x_Mo_breach_19 ?_
  obtain ⟨v4, M5, fv4, h⟩ := bcall_e h
  refine z_callSi C x_Mo_breach_20 cs_Mo_265 (t_Mo_isIn (lev := lev - 1) l G (by omega) fv4) (by omega) rfl (i_le rfl) rfl ?_
  rcases ite_e h with ⟨c6, h⟩ | ⟨c6, h⟩
  · refine z_if_ne_f (tgt := 33) C x_Mo_breach_23 rfl c6 ?_
    refine z_aload_n C 0 x_Mo_breach_26 rfl ?_
    refine z_bipush C rfl x_Mo_breach_27 ?_
    obtain ⟨v7, M8, fv7, h⟩ := bcall_e h
    refine z_callVi (k := 111) C x_Mo_breach_29 cv_Mo_297 (t_Mo_refuse (lev := lev - 1) l G (by omega) fv7) nk_111 ck_111 rfl (by omega) rfl (i_le rfl) rfl ?_
    exact z_iret C x_Mo_breach_32 h
  · refine z_if_ne_t (tgt := 33) C x_Mo_breach_23 rfl c6 ?_
    refine z_aload_n C 0 x_Mo_breach_33 rfl ?_
    refine z_iload_n C 1 x_Mo_breach_34 rfl ?_
    obtain ⟨v9, M10, fv9, h⟩ := bcall_e h
    refine z_callVl (k := 111) C x_Mo_breach_35 cv_Mo_632 (t_Mo_breachOf (lev := lev - 1) l G (by omega) fv9) nk_111 ck_111 rfl (by omega) rfl (i_le rfl) rfl ?_
    refine z_lconst0 C x_Mo_breach_38 ?_
    refine z_lcmp C x_Mo_breach_39 ?_
    rcases ite_e h with ⟨c11, h⟩ | ⟨c11, h⟩
    · refine z_if_le_f (tgt := 47) C x_Mo_breach_40 rfl (cm_gt.mpr c11) ?_
      refine z_iconst C x_Mo_breach_43 ?_
      refine z_goto (tgt := 48) C x_Mo_breach_44 rfl ?_
      exact z_iret C x_Mo_breach_48 h
    · refine z_if_le_t (tgt := 47) C x_Mo_breach_40 rfl (fun q => c11 (cm_gt.mp q)) ?_
      refine z_iconst C x_Mo_breach_47 ?_
      exact z_iret C x_Mo_breach_48 h
theorem x_Mo_cost_0 : DC b_Mo_cost 0 (.aload_n 0) 1 1 := ⟨by decide +kernel, rfl⟩
theorem x_Mo_cost_1 : DC b_Mo_cost 1 (.iconst 0) 1 2 := ⟨by decide +kernel, rfl⟩
theorem x_Mo_cost_2 : DC b_Mo_cost 2 (.putfield 257) 3 5 := ⟨by decide +kernel, rfl⟩
theorem x_Mo_cost_5 : DC b_Mo_cost 5 (.aload_n 0) 1 6 := ⟨by decide +kernel, rfl⟩
theorem x_Mo_cost_6 : DC b_Mo_cost 6 (.iconst 0) 1 7 := ⟨by decide +kernel, rfl⟩
theorem x_Mo_cost_7 : DC b_Mo_cost 7 (.putfield 260) 3 10 := ⟨by decide +kernel, rfl⟩
theorem x_Mo_cost_10 : DC b_Mo_cost 10 (.aload_n 0) 1 11 := ⟨by decide +kernel, rfl⟩
theorem x_Mo_cost_11 : DC b_Mo_cost 11 (.iload_n 1) 1 12 := ⟨by decide +kernel, rfl⟩
theorem x_Mo_cost_12 : DC b_Mo_cost 12 (.invokevirtual 318) 3 15 := ⟨by decide +kernel, rfl⟩
theorem x_Mo_cost_15 : DC b_Mo_cost 15 (.ifCond .ne 10) 3 18 := ⟨by decide +kernel, rfl⟩
theorem x_Mo_cost_18 : DC b_Mo_cost 18 (.aload_n 0) 1 19 := ⟨by decide +kernel, rfl⟩
theorem x_Mo_cost_19 : DC b_Mo_cost 19 (.iconst 2) 1 20 := ⟨by decide +kernel, rfl⟩
theorem x_Mo_cost_20 : DC b_Mo_cost 20 (.invokevirtual 297) 3 23 := ⟨by decide +kernel, rfl⟩
theorem x_Mo_cost_23 : DC b_Mo_cost 23 (.i2l) 1 24 := ⟨by decide +kernel, rfl⟩
theorem x_Mo_cost_24 : DC b_Mo_cost 24 (.lreturn) 1 25 := ⟨by decide +kernel, rfl⟩
theorem x_Mo_cost_25 : DC b_Mo_cost 25 (.iload_n 2) 1 26 := ⟨by decide +kernel, rfl⟩
theorem x_Mo_cost_26 : DC b_Mo_cost 26 (.invokestatic 335) 3 29 := ⟨by decide +kernel, rfl⟩
theorem x_Mo_cost_29 : DC b_Mo_cost 29 (.ifCond .ne 10) 3 32 := ⟨by decide +kernel, rfl⟩
theorem x_Mo_cost_32 : DC b_Mo_cost 32 (.aload_n 0) 1 33 := ⟨by decide +kernel, rfl⟩
theorem x_Mo_cost_33 : DC b_Mo_cost 33 (.iconst 5) 1 34 := ⟨by decide +kernel, rfl⟩
theorem x_Mo_cost_34 : DC b_Mo_cost 34 (.invokevirtual 297) 3 37 := ⟨by decide +kernel, rfl⟩
theorem x_Mo_cost_37 : DC b_Mo_cost 37 (.i2l) 1 38 := ⟨by decide +kernel, rfl⟩
theorem x_Mo_cost_38 : DC b_Mo_cost 38 (.lreturn) 1 39 := ⟨by decide +kernel, rfl⟩
theorem x_Mo_cost_39 : DC b_Mo_cost 39 (.lconst 0) 1 40 := ⟨by decide +kernel, rfl⟩
theorem x_Mo_cost_40 : DC b_Mo_cost 40 (.lstore_n 3) 1 41 := ⟨by decide +kernel, rfl⟩
theorem x_Mo_cost_41 : DC b_Mo_cost 41 (.iconst 0) 1 42 := ⟨by decide +kernel, rfl⟩
theorem x_Mo_cost_42 : DC b_Mo_cost 42 (.istore 5) 2 44 := ⟨by decide +kernel, rfl⟩
theorem x_Mo_cost_44 : DC b_Mo_cost 44 (.iload 5) 2 46 := ⟨by decide +kernel, rfl⟩
theorem x_Mo_cost_46 : DC b_Mo_cost 46 (.aload_n 0) 1 47 := ⟨by decide +kernel, rfl⟩
theorem x_Mo_cost_47 : DC b_Mo_cost 47 (.getfield 629) 3 50 := ⟨by decide +kernel, rfl⟩
theorem x_Mo_cost_50 : DC b_Mo_cost 50 (.if_icmp .ge 56) 3 53 := ⟨by decide +kernel, rfl⟩
theorem x_Mo_cost_53 : DC b_Mo_cost 53 (.lload_n 3) 1 54 := ⟨by decide +kernel, rfl⟩
theorem x_Mo_cost_54 : DC b_Mo_cost 54 (.aload_n 0) 1 55 := ⟨by decide +kernel, rfl⟩
theorem x_Mo_cost_55 : DC b_Mo_cost 55 (.getfield 185) 3 58 := ⟨by decide +kernel, rfl⟩
theorem x_Mo_cost_58 : DC b_Mo_cost 58 (.iload 5) 2 60 := ⟨by decide +kernel, rfl⟩
theorem x_Mo_cost_60 : DC b_Mo_cost 60 (.iaload) 1 61 := ⟨by decide +kernel, rfl⟩
theorem x_Mo_cost_61 : DC b_Mo_cost 61 (.iload_n 1) 1 62 := ⟨by decide +kernel, rfl⟩
theorem x_Mo_cost_62 : DC b_Mo_cost 62 (.if_icmp .ne 35) 3 65 := ⟨by decide +kernel, rfl⟩
theorem x_Mo_cost_65 : DC b_Mo_cost 65 (.aload_n 0) 1 66 := ⟨by decide +kernel, rfl⟩
theorem x_Mo_cost_66 : DC b_Mo_cost 66 (.getfield 188) 3 69 := ⟨by decide +kernel, rfl⟩
theorem x_Mo_cost_69 : DC b_Mo_cost 69 (.iload 5) 2 71 := ⟨by decide +kernel, rfl⟩
theorem x_Mo_cost_71 : DC b_Mo_cost 71 (.iaload) 1 72 := ⟨by decide +kernel, rfl⟩
theorem x_Mo_cost_72 : DC b_Mo_cost 72 (.bipush 52) 2 74 := ⟨by decide +kernel, rfl⟩
theorem x_Mo_cost_74 : DC b_Mo_cost 74 (.idiv) 1 75 := ⟨by decide +kernel, rfl⟩
theorem x_Mo_cost_75 : DC b_Mo_cost 75 (.iload_n 2) 1 76 := ⟨by decide +kernel, rfl⟩
theorem x_Mo_cost_76 : DC b_Mo_cost 76 (.if_icmp .ne 21) 3 79 := ⟨by decide +kernel, rfl⟩
theorem x_Mo_cost_79 : DC b_Mo_cost 79 (.aload_n 0) 1 80 := ⟨by decide +kernel, rfl⟩
theorem x_Mo_cost_80 : DC b_Mo_cost 80 (.iload 5) 2 82 := ⟨by decide +kernel, rfl⟩
theorem x_Mo_cost_82 : DC b_Mo_cost 82 (.invokevirtual 632) 3 85 := ⟨by decide +kernel, rfl⟩
theorem x_Mo_cost_85 : DC b_Mo_cost 85 (.aload_n 0) 1 86 := ⟨by decide +kernel, rfl⟩
theorem x_Mo_cost_86 : DC b_Mo_cost 86 (.getfield 191) 3 89 := ⟨by decide +kernel, rfl⟩
theorem x_Mo_cost_89 : DC b_Mo_cost 89 (.iload 5) 2 91 := ⟨by decide +kernel, rfl⟩
theorem x_Mo_cost_91 : DC b_Mo_cost 91 (.iaload) 1 92 := ⟨by decide +kernel, rfl⟩
theorem x_Mo_cost_92 : DC b_Mo_cost 92 (.i2l) 1 93 := ⟨by decide +kernel, rfl⟩
theorem x_Mo_cost_93 : DC b_Mo_cost 93 (.lmul) 1 94 := ⟨by decide +kernel, rfl⟩
theorem x_Mo_cost_94 : DC b_Mo_cost 94 (.goto 4) 3 97 := ⟨by decide +kernel, rfl⟩
theorem x_Mo_cost_97 : DC b_Mo_cost 97 (.lconst 0) 1 98 := ⟨by decide +kernel, rfl⟩
theorem x_Mo_cost_98 : DC b_Mo_cost 98 (.ladd) 1 99 := ⟨by decide +kernel, rfl⟩
theorem x_Mo_cost_99 : DC b_Mo_cost 99 (.lstore_n 3) 1 100 := ⟨by decide +kernel, rfl⟩
theorem x_Mo_cost_100 : DC b_Mo_cost 100 (.iinc 5 1) 3 103 := ⟨by decide +kernel, rfl⟩
theorem x_Mo_cost_103 : DC b_Mo_cost 103 (.goto (-59)) 3 106 := ⟨by decide +kernel, rfl⟩
theorem x_Mo_cost_106 : DC b_Mo_cost 106 (.lload_n 3) 1 107 := ⟨by decide +kernel, rfl⟩
theorem x_Mo_cost_107 : DC b_Mo_cost 107 (.lreturn) 1 108 := ⟨by decide +kernel, rfl⟩
def k_Mo_cost_98 (R44 : Int → Int → Int → Int → Mem → Res) (a1 a2 a5 s0 s1 : Int) (M : Mem) : Res := blet (s0 + s1) fun v1 => blet (a5 + 1) fun v2 => R44 a1 a2 v1 v2 M
theorem z_Mo_cost_98 (C : Cx p s m args meth c G b_Mo_cost 6 "PrairiePoolModel" (some .long)) (hlev : 6 ≤ lev) {r : Int × Mem} {R44 : Int → Int → Int → Int → Mem → Res} (hR44 : ∀ (a1 a2 a3 a5 : Int) (M : Mem), R44 a1 a2 a3 a5 M = some r → Z p l e lev s m args below meth c G 6 (MQ below (Qm G 2 r) args s 0 0 (Ab G)) M 44 [(0, .ref (G.1 + 111)), (1, vi a1), (2, vi a2), (3, vl a3), (5, vi a5)] []) {a1 a2 a5 s0 s1 : Int} {M : Mem} (h : k_Mo_cost_98 R44 a1 a2 a5 s0 s1 M = some r) : Z p l e lev s m args below meth c G 6 (MQ below (Qm G 2 r) args s 0 0 (Ab G)) M 98 [(0, .ref (G.1 + 111)), (1, vi a1), (2, vi a2), (5, vi a5)] [vl s1, vl s0] := by
  unfold k_Mo_cost_98 at h
  refine z_ladd C x_Mo_cost_98 ?_
  obtain ⟨v1, ev1, h⟩ := blet_e h
  refine z_lstore_n (lv' := [(3, vl v1), (0, .ref (G.1 + 111)), (1, vi a1), (2, vi a2), (5, vi a5)]) C ev1 x_Mo_cost_99 (i_lt rfl) rfl ?_
  obtain ⟨v2, ev2, h⟩ := blet_e h
  refine z_iinc (lv' := [(5, vi v2), (3, vl v1), (0, .ref (G.1 + 111)), (1, vi a1), (2, vi a2)]) C 4 ev2 x_Mo_cost_100 rfl (i_lt rfl) rfl ?_
  refine z_goto (tgt := 44) C x_Mo_cost_103 rfl ?_
  exact z_sub [2, 3, 4, 1, 0] rfl (hR44 a1 a2 v1 v2 M h)
def k_Mo_cost_97 (R44 : Int → Int → Int → Int → Mem → Res) (a1 a2 a5 s0 : Int) (M : Mem) : Res := k_Mo_cost_98 R44 a1 a2 a5 s0 0 M
theorem z_Mo_cost_97 (C : Cx p s m args meth c G b_Mo_cost 6 "PrairiePoolModel" (some .long)) (hlev : 6 ≤ lev) {r : Int × Mem} {R44 : Int → Int → Int → Int → Mem → Res} (hR44 : ∀ (a1 a2 a3 a5 : Int) (M : Mem), R44 a1 a2 a3 a5 M = some r → Z p l e lev s m args below meth c G 6 (MQ below (Qm G 2 r) args s 0 0 (Ab G)) M 44 [(0, .ref (G.1 + 111)), (1, vi a1), (2, vi a2), (3, vl a3), (5, vi a5)] []) {a1 a2 a5 s0 : Int} {M : Mem} (h : k_Mo_cost_97 R44 a1 a2 a5 s0 M = some r) : Z p l e lev s m args below meth c G 6 (MQ below (Qm G 2 r) args s 0 0 (Ab G)) M 97 [(0, .ref (G.1 + 111)), (1, vi a1), (2, vi a2), (5, vi a5)] [vl s0] := by
  unfold k_Mo_cost_97 at h
  refine z_lconst0 C x_Mo_cost_97 ?_
  exact z_sub [0, 1, 2, 3] rfl (z_Mo_cost_98 C hlev hR44 h)
def k_Mo_cost_44 (R44 : Int → Int → Int → Int → Mem → Res) (a1 a2 a3 a5 : Int) (M : Mem) : Res := blet (M 111 88) fun v1 => if w32 a5 < w32 v1 then (chk (0 ≤ w32 a5 ∧ w32 a5 < 60) <| blet (M 167 (ix a5)) fun v4 => if w32 v4 = w32 a1 then (chk (0 ≤ w32 a5 ∧ w32 a5 < 60) <| blet (M 168 (ix a5)) fun v7 => if w32 (dv32 v7 52) = w32 a2 then (bcall (d_Mo_breachOf a5 M) fun v9 M10 => chk (0 ≤ w32 a5 ∧ w32 a5 < 60) <| blet (M10 169 (ix a5)) fun v12 => k_Mo_cost_98 R44 a1 a2 a5 a3 (v9 * (w32 v12)) M10) else (k_Mo_cost_97 R44 a1 a2 a5 a3 M)) else (k_Mo_cost_97 R44 a1 a2 a5 a3 M)) else (some (a3, M))
theorem z_Mo_cost_44 (C : Cx p s m args meth c G b_Mo_cost 6 "PrairiePoolModel" (some .long)) (hlev : 6 ≤ lev) {r : Int × Mem} {R44 : Int → Int → Int → Int → Mem → Res} (hR44 : ∀ (a1 a2 a3 a5 : Int) (M : Mem), R44 a1 a2 a3 a5 M = some r → Z p l e lev s m args below meth c G 6 (MQ below (Qm G 2 r) args s 0 0 (Ab G)) M 44 [(0, .ref (G.1 + 111)), (1, vi a1), (2, vi a2), (3, vl a3), (5, vi a5)] []) {a1 a2 a3 a5 : Int} {M : Mem} (h : k_Mo_cost_44 R44 a1 a2 a3 a5 M = some r) : Z p l e lev s m args below meth c G 6 (MQ below (Qm G 2 r) args s 0 0 (Ab G)) M 44 [(0, .ref (G.1 + 111)), (1, vi a1), (2, vi a2), (3, vl a3), (5, vi a5)] [] := by
  unfold k_Mo_cost_44 at h
  refine z_iload C 4 x_Mo_cost_44 rfl ?_
  refine z_aload_n C 0 x_Mo_cost_46 rfl ?_
  obtain ⟨v1, ev1, h⟩ := blet_e h
  refine z_getI (j := 88) C x_Mo_cost_47 nk_111 ck_111 cw_12 (i_lt rfl) rfl rfl fl_Mo_629 ev1 ?_
  rcases ite_e h with ⟨c2, h⟩ | ⟨c2, h⟩
  · refine z_icmp_ge_f (tgt := 106) C x_Mo_cost_50 rfl c2 ?_
    refine z_lload_n C 3 x_Mo_cost_53 rfl ?_
    refine z_aload_n C 0 x_Mo_cost_54 rfl ?_
    refine z_getR (j := 82) C x_Mo_cost_55 nk_111 ck_111 cw_12 (i_lt rfl) rfl rf_111_82 rfl fl_Mo_185 ?_
    refine z_iload C 4 x_Mo_cost_58 rfl ?_
    obtain ⟨c3, h⟩ := chk_e h
    obtain ⟨v4, ev4, h⟩ := blet_e h
    refine z_iald C x_Mo_cost_60 nk_167 ck_167 c3 ev4 ?_
    refine z_iload_n C 1 x_Mo_cost_61 rfl ?_
    rcases ite_e h with ⟨c5, h⟩ | ⟨c5, h⟩
    · refine z_icmp_ne_f (tgt := 97) C x_Mo_cost_62 rfl c5 ?_
      refine z_aload_n C 0 x_Mo_cost_65 rfl ?_
      refine z_getR (j := 83) C x_Mo_cost_66 nk_111 ck_111 cw_12 (i_lt rfl) rfl rf_111_83 rfl fl_Mo_188 ?_
      refine z_iload C 4 x_Mo_cost_69 rfl ?_
      obtain ⟨c6, h⟩ := chk_e h
      obtain ⟨v7, ev7, h⟩ := blet_e h
      refine z_iald C x_Mo_cost_71 nk_168 ck_168 c6 ev7 ?_
      refine z_bipush C rfl x_Mo_cost_72 ?_
      refine z_idiv C (by decide) x_Mo_cost_74 ?_
      refine z_iload_n C 2 x_Mo_cost_75 rfl ?_
      rcases ite_e h with ⟨c8, h⟩ | ⟨c8, h⟩
      · refine z_icmp_ne_f (tgt := 97) C x_Mo_cost_76 rfl c8 ?_
        refine z_aload_n C 0 x_Mo_cost_79 rfl ?_
        refine z_iload C 4 x_Mo_cost_80 rfl ?_
        obtain ⟨v9, M10, fv9, h⟩ := bcall_e h
        refine z_callVl (k := 111) C x_Mo_cost_82 cv_Mo_632 (t_Mo_breachOf (lev := lev - 1) l G (by omega) fv9) nk_111 ck_111 rfl (by omega) rfl (i_le rfl) rfl ?_
        refine z_aload_n C 0 x_Mo_cost_85 rfl ?_
        refine z_getR (j := 84) C x_Mo_cost_86 nk_111 ck_111 cw_12 (i_lt rfl) rfl rf_111_84 rfl fl_Mo_191 ?_
        refine z_iload C 4 x_Mo_cost_89 rfl ?_
        obtain ⟨c11, h⟩ := chk_e h
        obtain ⟨v12, ev12, h⟩ := blet_e h
        refine z_iald C x_Mo_cost_91 nk_169 ck_169 c11 ev12 ?_
        refine z_i2l C x_Mo_cost_92 ?_
        refine z_lmul C x_Mo_cost_93 ?_
        refine z_goto (tgt := 98) C x_Mo_cost_94 rfl ?_
        exact z_sub [0, 1, 2, 4] rfl (z_Mo_cost_98 C hlev hR44 h)
      · refine z_icmp_ne_t (tgt := 97) C x_Mo_cost_76 rfl c8 ?_
        exact z_sub [0, 1, 2, 4] rfl (z_Mo_cost_97 C hlev hR44 h)
    · refine z_icmp_ne_t (tgt := 97) C x_Mo_cost_62 rfl c5 ?_
      exact z_sub [0, 1, 2, 4] rfl (z_Mo_cost_97 C hlev hR44 h)
  · refine z_icmp_ge_t (tgt := 106) C x_Mo_cost_50 rfl c2 ?_
    refine z_lload_n C 3 x_Mo_cost_106 rfl ?_
    exact z_lret C x_Mo_cost_107 h
theorem zl_Mo_cost_44 (C : Cx p s m args meth c G b_Mo_cost 6 "PrairiePoolModel" (some .long)) (hlev : 6 ≤ lev) {r : Int × Mem}  : ∀ (n : Nat) (a1 a2 a3 a5 : Int) (M : Mem), fix (fun _ _ _ _ _ => none) (k_Mo_cost_44) n a1 a2 a3 a5 M = some r → Z p l e lev s m args below meth c G 6 (MQ below (Qm G 2 r) args s 0 0 (Ab G)) M 44 [(0, .ref (G.1 + 111)), (1, vi a1), (2, vi a2), (3, vl a3), (5, vi a5)] [] := by
  intro n
  induction n with
  | zero => intro a1 a2 a3 a5 M h; exact nomatch (show (none : Res) = some r from h)
  | succ n ih => intro a1 a2 a3 a5 M h; exact z_Mo_cost_44 C hlev ih h
def d_Mo_cost (a1 a2 : Int) (M : Mem) : Res := blet (sto M 111 1 0) fun M1 => blet (sto M1 111 0 0) fun M2 => bcall (d_Mo_isFarm a1 M2) fun v3 M4 => if w32 v3 = 0 then (bcall (d_Mo_refuse 2 M4) fun v6 M7 => some (w32 v6, M7)) else (bcall (d_Mo_isYear a2 M4) fun v8 M9 => if w32 v8 = 0 then (bcall (d_Mo_refuse 5 M9) fun v11 M12 => some (w32 v11, M12)) else (fix (fun _ _ _ _ _ => none) (k_Mo_cost_44) FU a1 a2 0 0 M9))
theorem t_Mo_cost (l : Launch) (G : GX) {lev : Nat} (hlev : 6 ≤ lev) {a1 a2 : Int} {M : Mem} {r : Int × Mem} (h : d_Mo_cost a1 a2 M = some r) : Mt l G y_Mo_cost b_Mo_cost 6 (some .long) lev 2 [.ref (G.1 + 111), vi a1, vi a2] M r := by
  refine Mt.of (by decide) (i_le rfl) ?_
  intro p e s m args below meth c C
  have C : Cx p s m args meth c G b_Mo_cost 6 "PrairiePoolModel" (some .long) := C
  unfold d_Mo_cost at h
  refine z_sub (lv' := [(0, .ref (G.1 + 111)), (1, vi a1), (2, vi a2)]) [0, 1, 2] rfl ?_
  refine z_aload_n C 0 x_Mo_cost_0 rfl ?_
  refine z_iconst C x_Mo_cost_1 ?_
  obtain ⟨M1, eM1, h⟩ := blet_e h
  refine z_putI (j := 1) C x_Mo_cost_2 nk_111 ck_111 cw_12 (i_lt rfl) rfl rfl rfl rfl fl_Mo_257 eM1 ?_
  refine z_aload_n C 0 x_Mo_cost_5 rfl ?_
  refine z_iconst C x_Mo_cost_6 ?_
  obtain ⟨M2, eM2, h⟩ := blet_e h
  refine z_putI (j := 0) C x_Mo_cost_7 nk_111 ck_111 cw_12 (i_lt rfl) rfl rfl rfl rfl fl_Mo_260 eM2 ?_
  refine z_aload_n C 0 x_Mo_cost_10 rfl ?_
  refine z_iload_n C 1 x_Mo_cost_11 rfl ?_
  obtain ⟨v3, M4, fv3, h⟩ := bcall_e h
  refine z_callVi (k := 111) C x_Mo_cost_12 cv_Mo_318 (t_Mo_isFarm (lev := lev - 1) l G (by omega) fv3) nk_111 ck_111 rfl (by omega) rfl (i_le rfl) rfl ?_
  rcases ite_e h with ⟨c5, h⟩ | ⟨c5, h⟩
  · refine z_if_ne_f (tgt := 25) C x_Mo_cost_15 rfl c5 ?_
    refine z_aload_n C 0 x_Mo_cost_18 rfl ?_
    refine z_iconst C x_Mo_cost_19 ?_
    obtain ⟨v6, M7, fv6, h⟩ := bcall_e h
    refine z_callVi (k := 111) C x_Mo_cost_20 cv_Mo_297 (t_Mo_refuse (lev := lev - 1) l G (by omega) fv6) nk_111 ck_111 rfl (by omega) rfl (i_le rfl) rfl ?_
    refine z_i2l C x_Mo_cost_23 ?_
    exact z_lret C x_Mo_cost_24 h
  · refine z_if_ne_t (tgt := 25) C x_Mo_cost_15 rfl c5 ?_
    refine z_iload_n C 2 x_Mo_cost_25 rfl ?_
    obtain ⟨v8, M9, fv8, h⟩ := bcall_e h
    refine z_callSi C x_Mo_cost_26 cs_Mo_335 (t_Mo_isYear (lev := lev - 1) l G (by omega) fv8) (by omega) rfl (i_le rfl) rfl ?_
    rcases ite_e h with ⟨c10, h⟩ | ⟨c10, h⟩
    · refine z_if_ne_f (tgt := 39) C x_Mo_cost_29 rfl c10 ?_
      refine z_aload_n C 0 x_Mo_cost_32 rfl ?_
      refine z_iconst C x_Mo_cost_33 ?_
      obtain ⟨v11, M12, fv11, h⟩ := bcall_e h
      refine z_callVi (k := 111) C x_Mo_cost_34 cv_Mo_297 (t_Mo_refuse (lev := lev - 1) l G (by omega) fv11) nk_111 ck_111 rfl (by omega) rfl (i_le rfl) rfl ?_
      refine z_i2l C x_Mo_cost_37 ?_
      exact z_lret C x_Mo_cost_38 h
    · refine z_if_ne_t (tgt := 39) C x_Mo_cost_29 rfl c10 ?_
      refine z_lconst0 C x_Mo_cost_39 ?_
      refine z_lstore_n (lv' := [(3, vl 0), (0, .ref (G.1 + 111)), (1, vi a1), (2, vi a2)]) C rfl x_Mo_cost_40 (i_lt rfl) rfl ?_
      refine z_iconst C x_Mo_cost_41 ?_
      refine z_istore (lv' := [(5, vi 0), (3, vl 0), (0, .ref (G.1 + 111)), (1, vi a1), (2, vi a2)]) C rfl x_Mo_cost_42 (i_lt rfl) rfl ?_
      exact z_sub [2, 3, 4, 1, 0] rfl (zl_Mo_cost_44 C hlev FU a1 a2 0 0 M9 h)
theorem x_Mo_price_0 : DC b_Mo_price 0 (.aload_n 0) 1 1 := ⟨by decide +kernel, rfl⟩
theorem x_Mo_price_1 : DC b_Mo_price 1 (.iconst 0) 1 2 := ⟨by decide +kernel, rfl⟩
theorem x_Mo_price_2 : DC b_Mo_price 2 (.putfield 257) 3 5 := ⟨by decide +kernel, rfl⟩
theorem x_Mo_price_5 : DC b_Mo_price 5 (.aload_n 0) 1 6 := ⟨by decide +kernel, rfl⟩
theorem x_Mo_price_6 : DC b_Mo_price 6 (.iconst 0) 1 7 := ⟨by decide +kernel, rfl⟩
theorem x_Mo_price_7 : DC b_Mo_price 7 (.putfield 260) 3 10 := ⟨by decide +kernel, rfl⟩
theorem x_Mo_price_10 : DC b_Mo_price 10 (.iload_n 1) 1 11 := ⟨by decide +kernel, rfl⟩
theorem x_Mo_price_11 : DC b_Mo_price 11 (.invokestatic 306) 3 14 := ⟨by decide +kernel, rfl⟩
theorem x_Mo_price_14 : DC b_Mo_price 14 (.ifCond .eq 15) 3 17 := ⟨by decide +kernel, rfl⟩
theorem x_Mo_price_17 : DC b_Mo_price 17 (.iload_n 2) 1 18 := ⟨by decide +kernel, rfl⟩
theorem x_Mo_price_18 : DC b_Mo_price 18 (.i2l) 1 19 := ⟨by decide +kernel, rfl⟩
theorem x_Mo_price_19 : DC b_Mo_price 19 (.lconst 0) 1 20 := ⟨by decide +kernel, rfl⟩
theorem x_Mo_price_20 : DC b_Mo_price 20 (.ldc2_w 326) 3 23 := ⟨by decide +kernel, rfl⟩
theorem x_Mo_price_23 : DC b_Mo_price 23 (.invokestatic 265) 3 26 := ⟨by decide +kernel, rfl⟩
theorem x_Mo_price_26 : DC b_Mo_price 26 (.ifCond .ne 9) 3 29 := ⟨by decide +kernel, rfl⟩
theorem x_Mo_price_29 : DC b_Mo_price 29 (.aload_n 0) 1 30 := ⟨by decide +kernel, rfl⟩
theorem x_Mo_price_30 : DC b_Mo_price 30 (.iconst 5) 1 31 := ⟨by decide +kernel, rfl⟩
theorem x_Mo_price_31 : DC b_Mo_price 31 (.invokevirtual 273) 3 34 := ⟨by decide +kernel, rfl⟩
theorem x_Mo_price_34 : DC b_Mo_price 34 (.ireturn) 1 35 := ⟨by decide +kernel, rfl⟩
theorem x_Mo_price_35 : DC b_Mo_price 35 (.aload_n 0) 1 36 := ⟨by decide +kernel, rfl⟩
theorem x_Mo_price_36 : DC b_Mo_price 36 (.getfield 197) 3 39 := ⟨by decide +kernel, rfl⟩
theorem x_Mo_price_39 : DC b_Mo_price 39 (.iload_n 1) 1 40 := ⟨by decide +kernel, rfl⟩
theorem x_Mo_price_40 : DC b_Mo_price 40 (.iload_n 2) 1 41 := ⟨by decide +kernel, rfl⟩
theorem x_Mo_price_41 : DC b_Mo_price 41 (.iastore) 1 42 := ⟨by decide +kernel, rfl⟩
theorem x_Mo_price_42 : DC b_Mo_price 42 (.iconst 1) 1 43 := ⟨by decide +kernel, rfl⟩
theorem x_Mo_price_43 : DC b_Mo_price 43 (.ireturn) 1 44 := ⟨by decide +kernel, rfl⟩
def k_Mo_price_29 (M : Mem) : Res := bcall (d_Mo_no 5 M) fun v1 M2 => chk (w32 v1 = 0 ∨ w32 v1 = 1) <| some (v1, M2)
theorem z_Mo_price_29 (C : Cx p s m args meth c G b_Mo_price 3 "PrairiePoolModel" (some .boolean)) (hlev : 2 ≤ lev) {r : Int × Mem}  {M : Mem} (h : k_Mo_price_29 M = some r) : Z p l e lev s m args below meth c G 3 (MQ below (Qm G 1 r) args s 0 0 (Ab G)) M 29 [(0, .ref (G.1 + 111))] [] := by
  unfold k_Mo_price_29 at h
  refine z_aload_n C 0 x_Mo_price_29 rfl ?_
  refine z_iconst C x_Mo_price_30 ?_
  obtain ⟨v1, M2, fv1, h⟩ := bcall_e h
  refine z_callVi (k := 111) C x_Mo_price_31 cv_Mo_273 (t_Mo_no (lev := lev - 1) l G (by omega) fv1) nk_111 ck_111 rfl (by omega) rfl (i_le rfl) rfl ?_
  obtain ⟨c3, h⟩ := chk_e h
  exact z_zret C x_Mo_price_34 c3 h
def d_Mo_price (a1 a2 : Int) (M : Mem) : Res := blet (sto M 111 1 0) fun M1 => blet (sto M1 111 0 0) fun M2 => bcall (d_Mo_isDay a1 M2) fun v3 M4 => if w32 v3 = 0 then (k_Mo_price_29 M4) else (bcall (d_Mo_isIn (w32 a2) 0 1000 M4) fun v6 M7 => if w32 v6 = 0 then (k_Mo_price_29 M7) else (chk (0 ≤ w32 a1 ∧ w32 a1 < 520) <| blet (sto M7 171 (ix a1) a2) fun M10 => some (1, M10)))
theorem t_Mo_price (l : Launch) (G : GX) {lev : Nat} (hlev : 2 ≤ lev) {a1 a2 : Int} {M : Mem} {r : Int × Mem} (h : d_Mo_price a1 a2 M = some r) : Mt l G y_Mo_price b_Mo_price 3 (some .boolean) lev 1 [.ref (G.1 + 111), vi a1, vi a2] M r := by
  refine Mt.of (by decide) (i_le rfl) ?_
  intro p e s m args below meth c C
  have C : Cx p s m args meth c G b_Mo_price 3 "PrairiePoolModel" (some .boolean) := C
  unfold d_Mo_price at h
  refine z_sub (lv' := [(0, .ref (G.1 + 111)), (1, vi a1), (2, vi a2)]) [0, 1, 2] rfl ?_
  refine z_aload_n C 0 x_Mo_price_0 rfl ?_
  refine z_iconst C x_Mo_price_1 ?_
  obtain ⟨M1, eM1, h⟩ := blet_e h
  refine z_putI (j := 1) C x_Mo_price_2 nk_111 ck_111 cw_12 (i_lt rfl) rfl rfl rfl rfl fl_Mo_257 eM1 ?_
  refine z_aload_n C 0 x_Mo_price_5 rfl ?_
  refine z_iconst C x_Mo_price_6 ?_
  obtain ⟨M2, eM2, h⟩ := blet_e h
  refine z_putI (j := 0) C x_Mo_price_7 nk_111 ck_111 cw_12 (i_lt rfl) rfl rfl rfl rfl fl_Mo_260 eM2 ?_
  refine z_iload_n C 1 x_Mo_price_10 rfl ?_
  obtain ⟨v3, M4, fv3, h⟩ := bcall_e h
  refine z_callSi C x_Mo_price_11 cs_Mo_306 (t_Mo_isDay (lev := lev - 1) l G (by omega) fv3) (by omega) rfl (i_le rfl) rfl ?_
  rcases ite_e h with ⟨c5, h⟩ | ⟨c5, h⟩
  · refine z_if_eq_t (tgt := 29) C x_Mo_price_14 rfl c5 ?_
    exact z_sub [0] rfl (z_Mo_price_29 C hlev h)
  · refine z_if_eq_f (tgt := 29) C x_Mo_price_14 rfl c5 ?_
    refine z_iload_n C 2 x_Mo_price_17 rfl ?_
    refine z_i2l C x_Mo_price_18 ?_
    refine z_lconst0 C x_Mo_price_19 ?_
    refine z_ldc2 C kl_Mo_326 x_Mo_price_20 ?_
    obtain ⟨v6, M7, fv6, h⟩ := bcall_e h
    refine z_callSi C x_Mo_price_23 cs_Mo_265 (t_Mo_isIn (lev := lev - 1) l G (by omega) fv6) (by omega) rfl (i_le rfl) rfl ?_
    rcases ite_e h with ⟨c8, h⟩ | ⟨c8, h⟩
    · refine z_if_ne_f (tgt := 35) C x_Mo_price_26 rfl c8 ?_
      exact z_sub [0] rfl (z_Mo_price_29 C hlev h)
    · refine z_if_ne_t (tgt := 35) C x_Mo_price_26 rfl c8 ?_
      refine z_aload_n C 0 x_Mo_price_35 rfl ?_
      refine z_getR (j := 86) C x_Mo_price_36 nk_111 ck_111 cw_12 (i_lt rfl) rfl rf_111_86 rfl fl_Mo_197 ?_
      refine z_iload_n C 1 x_Mo_price_39 rfl ?_
      refine z_iload_n C 2 x_Mo_price_40 rfl ?_
      obtain ⟨c9, h⟩ := chk_e h
      obtain ⟨M10, eM10, h⟩ := blet_e h
      refine z_iast C x_Mo_price_41 nk_171 ck_171 c9 eM10 ?_
      refine z_iconst C x_Mo_price_42 ?_
      exact z_zret C x_Mo_price_43 (by decide) h
theorem x_Mo_rules_0 : DC b_Mo_rules 0 (.aload_n 0) 1 1 := ⟨by decide +kernel, rfl⟩
theorem x_Mo_rules_1 : DC b_Mo_rules 1 (.iconst 0) 1 2 := ⟨by decide +kernel, rfl⟩
theorem x_Mo_rules_2 : DC b_Mo_rules 2 (.putfield 257) 3 5 := ⟨by decide +kernel, rfl⟩
theorem x_Mo_rules_5 : DC b_Mo_rules 5 (.aload_n 0) 1 6 := ⟨by decide +kernel, rfl⟩
theorem x_Mo_rules_6 : DC b_Mo_rules 6 (.iconst 0) 1 7 := ⟨by decide +kernel, rfl⟩
theorem x_Mo_rules_7 : DC b_Mo_rules 7 (.putfield 260) 3 10 := ⟨by decide +kernel, rfl⟩
theorem x_Mo_rules_10 : DC b_Mo_rules 10 (.iload_n 1) 1 11 := ⟨by decide +kernel, rfl⟩
theorem x_Mo_rules_11 : DC b_Mo_rules 11 (.i2l) 1 12 := ⟨by decide +kernel, rfl⟩
theorem x_Mo_rules_12 : DC b_Mo_rules 12 (.lconst 0) 1 13 := ⟨by decide +kernel, rfl⟩
theorem x_Mo_rules_13 : DC b_Mo_rules 13 (.ldc2_w 636) 3 16 := ⟨by decide +kernel, rfl⟩
theorem x_Mo_rules_16 : DC b_Mo_rules 16 (.invokestatic 265) 3 19 := ⟨by decide +kernel, rfl⟩
theorem x_Mo_rules_19 : DC b_Mo_rules 19 (.ifCond .eq 15) 3 22 := ⟨by decide +kernel, rfl⟩
theorem x_Mo_rules_22 : DC b_Mo_rules 22 (.iload_n 2) 1 23 := ⟨by decide +kernel, rfl⟩
theorem x_Mo_rules_23 : DC b_Mo_rules 23 (.i2l) 1 24 := ⟨by decide +kernel, rfl⟩
theorem x_Mo_rules_24 : DC b_Mo_rules 24 (.lconst 0) 1 25 := ⟨by decide +kernel, rfl⟩
theorem x_Mo_rules_25 : DC b_Mo_rules 25 (.ldc2_w 624) 3 28 := ⟨by decide +kernel, rfl⟩
theorem x_Mo_rules_28 : DC b_Mo_rules 28 (.invokestatic 265) 3 31 := ⟨by decide +kernel, rfl⟩
theorem x_Mo_rules_31 : DC b_Mo_rules 31 (.ifCond .ne 9) 3 34 := ⟨by decide +kernel, rfl⟩
theorem x_Mo_rules_34 : DC b_Mo_rules 34 (.aload_n 0) 1 35 := ⟨by decide +kernel, rfl⟩
theorem x_Mo_rules_35 : DC b_Mo_rules 35 (.iconst 5) 1 36 := ⟨by decide +kernel, rfl⟩
theorem x_Mo_rules_36 : DC b_Mo_rules 36 (.invokevirtual 273) 3 39 := ⟨by decide +kernel, rfl⟩
theorem x_Mo_rules_39 : DC b_Mo_rules 39 (.ireturn) 1 40 := ⟨by decide +kernel, rfl⟩
theorem x_Mo_rules_40 : DC b_Mo_rules 40 (.aload_n 0) 1 41 := ⟨by decide +kernel, rfl⟩
theorem x_Mo_rules_41 : DC b_Mo_rules 41 (.iload_n 1) 1 42 := ⟨by decide +kernel, rfl⟩
theorem x_Mo_rules_42 : DC b_Mo_rules 42 (.putfield 203) 3 45 := ⟨by decide +kernel, rfl⟩
theorem x_Mo_rules_45 : DC b_Mo_rules 45 (.aload_n 0) 1 46 := ⟨by decide +kernel, rfl⟩
theorem x_Mo_rules_46 : DC b_Mo_rules 46 (.iload_n 2) 1 47 := ⟨by decide +kernel, rfl⟩
theorem x_Mo_rules_47 : DC b_Mo_rules 47 (.putfield 206) 3 50 := ⟨by decide +kernel, rfl⟩
theorem x_Mo_rules_50 : DC b_Mo_rules 50 (.iconst 1) 1 51 := ⟨by decide +kernel, rfl⟩
theorem x_Mo_rules_51 : DC b_Mo_rules 51 (.ireturn) 1 52 := ⟨by decide +kernel, rfl⟩
def k_Mo_rules_34 (M : Mem) : Res := bcall (d_Mo_no 5 M) fun v1 M2 => chk (w32 v1 = 0 ∨ w32 v1 = 1) <| some (v1, M2)
theorem z_Mo_rules_34 (C : Cx p s m args meth c G b_Mo_rules 3 "PrairiePoolModel" (some .boolean)) (hlev : 1 ≤ lev) {r : Int × Mem}  {M : Mem} (h : k_Mo_rules_34 M = some r) : Z p l e lev s m args below meth c G 3 (MQ below (Qm G 1 r) args s 0 0 (Ab G)) M 34 [(0, .ref (G.1 + 111))] [] := by
  unfold k_Mo_rules_34 at h
  refine z_aload_n C 0 x_Mo_rules_34 rfl ?_
  refine z_iconst C x_Mo_rules_35 ?_
  obtain ⟨v1, M2, fv1, h⟩ := bcall_e h
  refine z_callVi (k := 111) C x_Mo_rules_36 cv_Mo_273 (t_Mo_no (lev := lev - 1) l G (by omega) fv1) nk_111 ck_111 rfl (by omega) rfl (i_le rfl) rfl ?_
  obtain ⟨c3, h⟩ := chk_e h
  exact z_zret C x_Mo_rules_39 c3 h
def d_Mo_rules (a1 a2 : Int) (M : Mem) : Res := blet (sto M 111 1 0) fun M1 => blet (sto M1 111 0 0) fun M2 => bcall (d_Mo_isIn (w32 a1) 0 100 M2) fun v3 M4 => if w32 v3 = 0 then (k_Mo_rules_34 M4) else (bcall (d_Mo_isIn (w32 a2) 0 20 M4) fun v6 M7 => if w32 v6 = 0 then (k_Mo_rules_34 M7) else (blet (sto M7 111 89 a1) fun M9 => blet (sto M9 111 90 a2) fun M10 => some (1, M10)))
theorem t_Mo_rules (l : Launch) (G : GX) {lev : Nat} (hlev : 1 ≤ lev) {a1 a2 : Int} {M : Mem} {r : Int × Mem} (h : d_Mo_rules a1 a2 M = some r) : Mt l G y_Mo_rules b_Mo_rules 3 (some .boolean) lev 1 [.ref (G.1 + 111), vi a1, vi a2] M r := by
  refine Mt.of (by decide) (i_le rfl) ?_
  intro p e s m args below meth c C
  have C : Cx p s m args meth c G b_Mo_rules 3 "PrairiePoolModel" (some .boolean) := C
  unfold d_Mo_rules at h
  refine z_sub (lv' := [(0, .ref (G.1 + 111)), (1, vi a1), (2, vi a2)]) [0, 1, 2] rfl ?_
  refine z_aload_n C 0 x_Mo_rules_0 rfl ?_
  refine z_iconst C x_Mo_rules_1 ?_
  obtain ⟨M1, eM1, h⟩ := blet_e h
  refine z_putI (j := 1) C x_Mo_rules_2 nk_111 ck_111 cw_12 (i_lt rfl) rfl rfl rfl rfl fl_Mo_257 eM1 ?_
  refine z_aload_n C 0 x_Mo_rules_5 rfl ?_
  refine z_iconst C x_Mo_rules_6 ?_
  obtain ⟨M2, eM2, h⟩ := blet_e h
  refine z_putI (j := 0) C x_Mo_rules_7 nk_111 ck_111 cw_12 (i_lt rfl) rfl rfl rfl rfl fl_Mo_260 eM2 ?_
  refine z_iload_n C 1 x_Mo_rules_10 rfl ?_
  refine z_i2l C x_Mo_rules_11 ?_
  refine z_lconst0 C x_Mo_rules_12 ?_
  refine z_ldc2 C kl_Mo_636 x_Mo_rules_13 ?_
  obtain ⟨v3, M4, fv3, h⟩ := bcall_e h
  refine z_callSi C x_Mo_rules_16 cs_Mo_265 (t_Mo_isIn (lev := lev - 1) l G (by omega) fv3) (by omega) rfl (i_le rfl) rfl ?_
  rcases ite_e h with ⟨c5, h⟩ | ⟨c5, h⟩
  · refine z_if_eq_t (tgt := 34) C x_Mo_rules_19 rfl c5 ?_
    exact z_sub [0] rfl (z_Mo_rules_34 C hlev h)
  · refine z_if_eq_f (tgt := 34) C x_Mo_rules_19 rfl c5 ?_
    refine z_iload_n C 2 x_Mo_rules_22 rfl ?_
    refine z_i2l C x_Mo_rules_23 ?_
    refine z_lconst0 C x_Mo_rules_24 ?_
    refine z_ldc2 C kl_Mo_624 x_Mo_rules_25 ?_
    obtain ⟨v6, M7, fv6, h⟩ := bcall_e h
    refine z_callSi C x_Mo_rules_28 cs_Mo_265 (t_Mo_isIn (lev := lev - 1) l G (by omega) fv6) (by omega) rfl (i_le rfl) rfl ?_
    rcases ite_e h with ⟨c8, h⟩ | ⟨c8, h⟩
    · refine z_if_ne_f (tgt := 40) C x_Mo_rules_31 rfl c8 ?_
      exact z_sub [0] rfl (z_Mo_rules_34 C hlev h)
    · refine z_if_ne_t (tgt := 40) C x_Mo_rules_31 rfl c8 ?_
      refine z_aload_n C 0 x_Mo_rules_40 rfl ?_
      refine z_iload_n C 1 x_Mo_rules_41 rfl ?_
      obtain ⟨M9, eM9, h⟩ := blet_e h
      refine z_putI (j := 89) C x_Mo_rules_42 nk_111 ck_111 cw_12 (i_lt rfl) rfl rfl rfl rfl fl_Mo_203 eM9 ?_
      refine z_aload_n C 0 x_Mo_rules_45 rfl ?_
      refine z_iload_n C 2 x_Mo_rules_46 rfl ?_
      obtain ⟨M10, eM10, h⟩ := blet_e h
      refine z_putI (j := 90) C x_Mo_rules_47 nk_111 ck_111 cw_12 (i_lt rfl) rfl rfl rfl rfl fl_Mo_206 eM10 ?_
      refine z_iconst C x_Mo_rules_50 ?_
      exact z_zret C x_Mo_rules_51 (by decide) h
theorem x_Mo_aloneOf_0 : DC b_Mo_aloneOf 0 (.lconst 0) 1 1 := ⟨by decide +kernel, rfl⟩
theorem x_Mo_aloneOf_1 : DC b_Mo_aloneOf 1 (.lstore 4) 2 3 := ⟨by decide +kernel, rfl⟩
theorem x_Mo_aloneOf_3 : DC b_Mo_aloneOf 3 (.iconst 0) 1 4 := ⟨by decide +kernel, rfl⟩
theorem x_Mo_aloneOf_4 : DC b_Mo_aloneOf 4 (.istore 6) 2 6 := ⟨by decide +kernel, rfl⟩
theorem x_Mo_aloneOf_6 : DC b_Mo_aloneOf 6 (.iload 6) 2 8 := ⟨by decide +kernel, rfl⟩
theorem x_Mo_aloneOf_8 : DC b_Mo_aloneOf 8 (.aload_n 0) 1 9 := ⟨by decide +kernel, rfl⟩
theorem x_Mo_aloneOf_9 : DC b_Mo_aloneOf 9 (.getfield 309) 3 12 := ⟨by decide +kernel, rfl⟩
theorem x_Mo_aloneOf_12 : DC b_Mo_aloneOf 12 (.if_icmp .ge 119) 3 15 := ⟨by decide +kernel, rfl⟩
theorem x_Mo_aloneOf_15 : DC b_Mo_aloneOf 15 (.aload_n 0) 1 16 := ⟨by decide +kernel, rfl⟩
theorem x_Mo_aloneOf_16 : DC b_Mo_aloneOf 16 (.getfield 62) 3 19 := ⟨by decide +kernel, rfl⟩
theorem x_Mo_aloneOf_19 : DC b_Mo_aloneOf 19 (.iload 6) 2 21 := ⟨by decide +kernel, rfl⟩
theorem x_Mo_aloneOf_21 : DC b_Mo_aloneOf 21 (.iaload) 1 22 := ⟨by decide +kernel, rfl⟩
theorem x_Mo_aloneOf_22 : DC b_Mo_aloneOf 22 (.iload_n 3) 1 23 := ⟨by decide +kernel, rfl⟩
theorem x_Mo_aloneOf_23 : DC b_Mo_aloneOf 23 (.if_icmp .gt 102) 3 26 := ⟨by decide +kernel, rfl⟩
theorem x_Mo_aloneOf_26 : DC b_Mo_aloneOf 26 (.aload_n 0) 1 27 := ⟨by decide +kernel, rfl⟩
theorem x_Mo_aloneOf_27 : DC b_Mo_aloneOf 27 (.getfield 35) 3 30 := ⟨by decide +kernel, rfl⟩
theorem x_Mo_aloneOf_30 : DC b_Mo_aloneOf 30 (.iload 6) 2 32 := ⟨by decide +kernel, rfl⟩
theorem x_Mo_aloneOf_32 : DC b_Mo_aloneOf 32 (.iaload) 1 33 := ⟨by decide +kernel, rfl⟩
theorem x_Mo_aloneOf_33 : DC b_Mo_aloneOf 33 (.ifCond .ne 92) 3 36 := ⟨by decide +kernel, rfl⟩
theorem x_Mo_aloneOf_36 : DC b_Mo_aloneOf 36 (.aload_n 0) 1 37 := ⟨by decide +kernel, rfl⟩
theorem x_Mo_aloneOf_37 : DC b_Mo_aloneOf 37 (.getfield 38) 3 40 := ⟨by decide +kernel, rfl⟩
theorem x_Mo_aloneOf_40 : DC b_Mo_aloneOf 40 (.iload 6) 2 42 := ⟨by decide +kernel, rfl⟩
theorem x_Mo_aloneOf_42 : DC b_Mo_aloneOf 42 (.iaload) 1 43 := ⟨by decide +kernel, rfl⟩
theorem x_Mo_aloneOf_43 : DC b_Mo_aloneOf 43 (.iload_n 1) 1 44 := ⟨by decide +kernel, rfl⟩
theorem x_Mo_aloneOf_44 : DC b_Mo_aloneOf 44 (.if_icmp .ne 81) 3 47 := ⟨by decide +kernel, rfl⟩
theorem x_Mo_aloneOf_47 : DC b_Mo_aloneOf 47 (.aload_n 0) 1 48 := ⟨by decide +kernel, rfl⟩
theorem x_Mo_aloneOf_48 : DC b_Mo_aloneOf 48 (.getfield 50) 3 51 := ⟨by decide +kernel, rfl⟩
theorem x_Mo_aloneOf_51 : DC b_Mo_aloneOf 51 (.iload 6) 2 53 := ⟨by decide +kernel, rfl⟩
theorem x_Mo_aloneOf_53 : DC b_Mo_aloneOf 53 (.iaload) 1 54 := ⟨by decide +kernel, rfl⟩
theorem x_Mo_aloneOf_54 : DC b_Mo_aloneOf 54 (.iload_n 2) 1 55 := ⟨by decide +kernel, rfl⟩
theorem x_Mo_aloneOf_55 : DC b_Mo_aloneOf 55 (.if_icmp .eq 6) 3 58 := ⟨by decide +kernel, rfl⟩
theorem x_Mo_aloneOf_58 : DC b_Mo_aloneOf 58 (.goto 67) 3 61 := ⟨by decide +kernel, rfl⟩
theorem x_Mo_aloneOf_61 : DC b_Mo_aloneOf 61 (.iconst 0) 1 62 := ⟨by decide +kernel, rfl⟩
theorem x_Mo_aloneOf_62 : DC b_Mo_aloneOf 62 (.aload_n 0) 1 63 := ⟨by decide +kernel, rfl⟩
theorem x_Mo_aloneOf_63 : DC b_Mo_aloneOf 63 (.getfield 197) 3 66 := ⟨by decide +kernel, rfl⟩
theorem x_Mo_aloneOf_66 : DC b_Mo_aloneOf 66 (.iconst 0) 1 67 := ⟨by decide +kernel, rfl⟩
theorem x_Mo_aloneOf_67 : DC b_Mo_aloneOf 67 (.aload_n 0) 1 68 := ⟨by decide +kernel, rfl⟩
theorem x_Mo_aloneOf_68 : DC b_Mo_aloneOf 68 (.getfield 59) 3 71 := ⟨by decide +kernel, rfl⟩
theorem x_Mo_aloneOf_71 : DC b_Mo_aloneOf 71 (.iload 6) 2 73 := ⟨by decide +kernel, rfl⟩
theorem x_Mo_aloneOf_73 : DC b_Mo_aloneOf 73 (.iaload) 1 74 := ⟨by decide +kernel, rfl⟩
theorem x_Mo_aloneOf_74 : DC b_Mo_aloneOf 74 (.aload_n 0) 1 75 := ⟨by decide +kernel, rfl⟩
theorem x_Mo_aloneOf_75 : DC b_Mo_aloneOf 75 (.getfield 206) 3 78 := ⟨by decide +kernel, rfl⟩
theorem x_Mo_aloneOf_78 : DC b_Mo_aloneOf 78 (.isub) 1 79 := ⟨by decide +kernel, rfl⟩
theorem x_Mo_aloneOf_79 : DC b_Mo_aloneOf 79 (.invokestatic 393) 3 82 := ⟨by decide +kernel, rfl⟩
theorem x_Mo_aloneOf_82 : DC b_Mo_aloneOf 82 (.iaload) 1 83 := ⟨by decide +kernel, rfl⟩
theorem x_Mo_aloneOf_83 : DC b_Mo_aloneOf 83 (.aload_n 0) 1 84 := ⟨by decide +kernel, rfl⟩
theorem x_Mo_aloneOf_84 : DC b_Mo_aloneOf 84 (.getfield 203) 3 87 := ⟨by decide +kernel, rfl⟩
theorem x_Mo_aloneOf_87 : DC b_Mo_aloneOf 87 (.aload_n 0) 1 88 := ⟨by decide +kernel, rfl⟩
theorem x_Mo_aloneOf_88 : DC b_Mo_aloneOf 88 (.getfield 89) 3 91 := ⟨by decide +kernel, rfl⟩
theorem x_Mo_aloneOf_91 : DC b_Mo_aloneOf 91 (.iload 6) 2 93 := ⟨by decide +kernel, rfl⟩
theorem x_Mo_aloneOf_93 : DC b_Mo_aloneOf 93 (.iaload) 1 94 := ⟨by decide +kernel, rfl⟩
theorem x_Mo_aloneOf_94 : DC b_Mo_aloneOf 94 (.imul) 1 95 := ⟨by decide +kernel, rfl⟩
theorem x_Mo_aloneOf_95 : DC b_Mo_aloneOf 95 (.isub) 1 96 := ⟨by decide +kernel, rfl⟩
theorem x_Mo_aloneOf_96 : DC b_Mo_aloneOf 96 (.invokestatic 393) 3 99 := ⟨by decide +kernel, rfl⟩
theorem x_Mo_aloneOf_99 : DC b_Mo_aloneOf 99 (.istore 7) 2 101 := ⟨by decide +kernel, rfl⟩
theorem x_Mo_aloneOf_101 : DC b_Mo_aloneOf 101 (.lload 4) 2 103 := ⟨by decide +kernel, rfl⟩
theorem x_Mo_aloneOf_103 : DC b_Mo_aloneOf 103 (.iload 7) 2 105 := ⟨by decide +kernel, rfl⟩
theorem x_Mo_aloneOf_105 : DC b_Mo_aloneOf 105 (.i2l) 1 106 := ⟨by decide +kernel, rfl⟩
theorem x_Mo_aloneOf_106 : DC b_Mo_aloneOf 106 (.aload_n 0) 1 107 := ⟨by decide +kernel, rfl⟩
theorem x_Mo_aloneOf_107 : DC b_Mo_aloneOf 107 (.iload 6) 2 109 := ⟨by decide +kernel, rfl⟩
theorem x_Mo_aloneOf_109 : DC b_Mo_aloneOf 109 (.invokevirtual 347) 3 112 := ⟨by decide +kernel, rfl⟩
theorem x_Mo_aloneOf_112 : DC b_Mo_aloneOf 112 (.aload_n 0) 1 113 := ⟨by decide +kernel, rfl⟩
theorem x_Mo_aloneOf_113 : DC b_Mo_aloneOf 113 (.getfield 83) 3 116 := ⟨by decide +kernel, rfl⟩
theorem x_Mo_aloneOf_116 : DC b_Mo_aloneOf 116 (.iload 6) 2 118 := ⟨by decide +kernel, rfl⟩
theorem x_Mo_aloneOf_118 : DC b_Mo_aloneOf 118 (.iaload) 1 119 := ⟨by decide +kernel, rfl⟩
theorem x_Mo_aloneOf_119 : DC b_Mo_aloneOf 119 (.isub) 1 120 := ⟨by decide +kernel, rfl⟩
theorem x_Mo_aloneOf_120 : DC b_Mo_aloneOf 120 (.i2l) 1 121 := ⟨by decide +kernel, rfl⟩
theorem x_Mo_aloneOf_121 : DC b_Mo_aloneOf 121 (.lmul) 1 122 := ⟨by decide +kernel, rfl⟩
theorem x_Mo_aloneOf_122 : DC b_Mo_aloneOf 122 (.ladd) 1 123 := ⟨by decide +kernel, rfl⟩
theorem x_Mo_aloneOf_123 : DC b_Mo_aloneOf 123 (.lstore 4) 2 125 := ⟨by decide +kernel, rfl⟩
theorem x_Mo_aloneOf_125 : DC b_Mo_aloneOf 125 (.iinc 6 1) 3 128 := ⟨by decide +kernel, rfl⟩
theorem x_Mo_aloneOf_128 : DC b_Mo_aloneOf 128 (.goto (-122)) 3 131 := ⟨by decide +kernel, rfl⟩
theorem x_Mo_aloneOf_131 : DC b_Mo_aloneOf 131 (.lload 4) 2 133 := ⟨by decide +kernel, rfl⟩
theorem x_Mo_aloneOf_133 : DC b_Mo_aloneOf 133 (.lreturn) 1 134 := ⟨by decide +kernel, rfl⟩
def k_Mo_aloneOf_125 (R6 : Int → Int → Int → Int → Int → Mem → Res) (a1 a2 a3 a4 a6 : Int) (M : Mem) : Res := blet (a6 + 1) fun v1 => R6 a1 a2 a3 a4 v1 M
theorem z_Mo_aloneOf_125 (C : Cx p s m args meth c G b_Mo_aloneOf 8 "PrairiePoolModel" (some .long)) (hlev : 1 ≤ lev) {r : Int × Mem} {R6 : Int → Int → Int → Int → Int → Mem → Res} (hR6 : ∀ (a1 a2 a3 a4 a6 : Int) (M : Mem), R6 a1 a2 a3 a4 a6 M = some r → Z p l e lev s m args below meth c G 8 (MQ below (Qm G 2 r) args s 0 0 (Ab G)) M 6 [(0, .ref (G.1 + 111)), (1, vi a1), (2, vi a2), (3, vi a3), (4, vl a4), (6, vi a6)] []) {a1 a2 a3 a4 a6 : Int} {M : Mem} (h : k_Mo_aloneOf_125 R6 a1 a2 a3 a4 a6 M = some r) : Z p l e lev s m args below meth c G 8 (MQ below (Qm G 2 r) args s 0 0 (Ab G)) M 125 [(0, .ref (G.1 + 111)), (1, vi a1), (2, vi a2), (3, vi a3), (4, vl a4), (6, vi a6)] [] := by
  unfold k_Mo_aloneOf_125 at h
  obtain ⟨v1, ev1, h⟩ := blet_e h
  refine z_iinc (lv' := [(6, vi v1), (0, .ref (G.1 + 111)), (1, vi a1), (2, vi a2), (3, vi a3), (4, vl a4)]) C 5 ev1 x_Mo_aloneOf_125 rfl (i_lt rfl) rfl ?_
  refine z_goto (tgt := 6) C x_Mo_aloneOf_128 rfl ?_
  exact z_sub [1, 2, 3, 4, 5, 0] rfl (hR6 a1 a2 a3 a4 v1 M h)
def k_Mo_aloneOf_6 (R6 : Int → Int → Int → Int → Int → Mem → Res) (a1 a2 a3 a4 a6 : Int) (M : Mem) : Res := blet (M 111 7) fun v1 => if w32 a6 < w32 v1 then (chk (0 ≤ w32 a6 ∧ w32 a6 < 120) <| blet (M 129 (ix a6)) fun v4 => if w32 a3 < w32 v4 then (k_Mo_aloneOf_125 R6 a1 a2 a3 a4 a6 M) else (chk (0 ≤ w32 a6 ∧ w32 a6 < 120) <| blet (M 120 (ix a6)) fun v7 => if w32 v7 = 0 then (chk (0 ≤ w32 a6 ∧ w32 a6 < 120) <| blet (M 121 (ix a6)) fun v10 => if w32 v10 = w32 a1 then (chk (0 ≤ w32 a6 ∧ w32 a6 < 120) <| blet (M 125 (ix a6)) fun v13 => if w32 v13 = w32 a2 then (chk (0 ≤ w32 a6 ∧ w32 a6 < 120) <| blet (M 128 (ix a6)) fun v16 => blet (M 111 90) fun v17 => chk (0 ≤ w32 (mx32 0 (v16 - v17)) ∧ w32 (mx32 0 (v16 - v17)) < 520) <| blet (M 171 (ix (mx32 0 (v16 - v17)))) fun v19 => blet (M 111 89) fun v20 => chk (0 ≤ w32 a6 ∧ w32 a6 < 120) <| blet (M 138 (ix a6)) fun v22 => blet (mx32 0 (v19 - (v20 * v22))) fun v23 => bcall (d_Mo_net a6 M) fun v24 M25 => chk (0 ≤ w32 a6 ∧ w32 a6 < 120) <| blet (M25 136 (ix a6)) fun v27 => blet (a4 + ((w32 v23) * (w32 (v24 - v27)))) fun v28 => k_Mo_aloneOf_125 R6 a1 a2 a3 v28 a6 M25) else (k_Mo_aloneOf_125 R6 a1 a2 a3 a4 a6 M)) else (k_Mo_aloneOf_125 R6 a1 a2 a3 a4 a6 M)) else (k_Mo_aloneOf_125 R6 a1 a2 a3 a4 a6 M))) else (some (a4, M))
theorem z_Mo_aloneOf_6 (C : Cx p s m args meth c G b_Mo_aloneOf 8 "PrairiePoolModel" (some .long)) (hlev : 1 ≤ lev) {r : Int × Mem} {R6 : Int → Int → Int → Int → Int → Mem → Res} (hR6 : ∀ (a1 a2 a3 a4 a6 : Int) (M : Mem), R6 a1 a2 a3 a4 a6 M = some r → Z p l e lev s m args below meth c G 8 (MQ below (Qm G 2 r) args s 0 0 (Ab G)) M 6 [(0, .ref (G.1 + 111)), (1, vi a1), (2, vi a2), (3, vi a3), (4, vl a4), (6, vi a6)] []) {a1 a2 a3 a4 a6 : Int} {M : Mem} (h : k_Mo_aloneOf_6 R6 a1 a2 a3 a4 a6 M = some r) : Z p l e lev s m args below meth c G 8 (MQ below (Qm G 2 r) args s 0 0 (Ab G)) M 6 [(0, .ref (G.1 + 111)), (1, vi a1), (2, vi a2), (3, vi a3), (4, vl a4), (6, vi a6)] [] := by
  unfold k_Mo_aloneOf_6 at h
  refine z_iload C 5 x_Mo_aloneOf_6 rfl ?_
  refine z_aload_n C 0 x_Mo_aloneOf_8 rfl ?_
  obtain ⟨v1, ev1, h⟩ := blet_e h
  refine z_getI (j := 7) C x_Mo_aloneOf_9 nk_111 ck_111 cw_12 (i_lt rfl) rfl rfl fl_Mo_309 ev1 ?_
  rcases ite_e h with ⟨c2, h⟩ | ⟨c2, h⟩
  · refine z_icmp_ge_f (tgt := 131) C x_Mo_aloneOf_12 rfl c2 ?_
    refine z_aload_n C 0 x_Mo_aloneOf_15 rfl ?_
    refine z_getR (j := 25) C x_Mo_aloneOf_16 nk_111 ck_111 cw_12 (i_lt rfl) rfl rf_111_25 rfl fl_Mo_62 ?_
    refine z_iload C 5 x_Mo_aloneOf_19 rfl ?_
    obtain ⟨c3, h⟩ := chk_e h
    obtain ⟨v4, ev4, h⟩ := blet_e h
    refine z_iald C x_Mo_aloneOf_21 nk_129 ck_129 c3 ev4 ?_
    refine z_iload_n C 3 x_Mo_aloneOf_22 rfl ?_
    rcases ite_e h with ⟨c5, h⟩ | ⟨c5, h⟩
    · refine z_icmp_gt_t (tgt := 125) C x_Mo_aloneOf_23 rfl c5 ?_
      exact z_sub [0, 1, 2, 3, 4, 5] rfl (z_Mo_aloneOf_125 C hlev hR6 h)
    · refine z_icmp_gt_f (tgt := 125) C x_Mo_aloneOf_23 rfl c5 ?_
      refine z_aload_n C 0 x_Mo_aloneOf_26 rfl ?_
      refine z_getR (j := 16) C x_Mo_aloneOf_27 nk_111 ck_111 cw_12 (i_lt rfl) rfl rf_111_16 rfl fl_Mo_35 ?_
      refine z_iload C 5 x_Mo_aloneOf_30 rfl ?_
      obtain ⟨c6, h⟩ := chk_e h
      obtain ⟨v7, ev7, h⟩ := blet_e h
      refine z_iald C x_Mo_aloneOf_32 nk_120 ck_120 c6 ev7 ?_
      rcases ite_e h with ⟨c8, h⟩ | ⟨c8, h⟩
      · refine z_if_ne_f (tgt := 125) C x_Mo_aloneOf_33 rfl c8 ?_
        refine z_aload_n C 0 x_Mo_aloneOf_36 rfl ?_
        refine z_getR (j := 17) C x_Mo_aloneOf_37 nk_111 ck_111 cw_12 (i_lt rfl) rfl rf_111_17 rfl fl_Mo_38 ?_
        refine z_iload C 5 x_Mo_aloneOf_40 rfl ?_
        obtain ⟨c9, h⟩ := chk_e h
        obtain ⟨v10, ev10, h⟩ := blet_e h
        refine z_iald C x_Mo_aloneOf_42 nk_121 ck_121 c9 ev10 ?_
        refine z_iload_n C 1 x_Mo_aloneOf_43 rfl ?_
        rcases ite_e h with ⟨c11, h⟩ | ⟨c11, h⟩
        · refine z_icmp_ne_f (tgt := 125) C x_Mo_aloneOf_44 rfl c11 ?_
          refine z_aload_n C 0 x_Mo_aloneOf_47 rfl ?_
          refine z_getR (j := 21) C x_Mo_aloneOf_48 nk_111 ck_111 cw_12 (i_lt rfl) rfl rf_111_21 rfl fl_Mo_50 ?_
          refine z_iload C 5 x_Mo_aloneOf_51 rfl ?_
          obtain ⟨c12, h⟩ := chk_e h
          obtain ⟨v13, ev13, h⟩ := blet_e h
          refine z_iald C x_Mo_aloneOf_53 nk_125 ck_125 c12 ev13 ?_
          refine z_iload_n C 2 x_Mo_aloneOf_54 rfl ?_
          rcases ite_e h with ⟨c14, h⟩ | ⟨c14, h⟩
          · refine z_icmp_eq_t (tgt := 61) C x_Mo_aloneOf_55 rfl c14 ?_
            refine z_iconst C x_Mo_aloneOf_61 ?_
            refine z_aload_n C 0 x_Mo_aloneOf_62 rfl ?_
            refine z_getR (j := 86) C x_Mo_aloneOf_63 nk_111 ck_111 cw_12 (i_lt rfl) rfl rf_111_86 rfl fl_Mo_197 ?_
            refine z_iconst C x_Mo_aloneOf_66 ?_
            refine z_aload_n C 0 x_Mo_aloneOf_67 rfl ?_
            refine z_getR (j := 24) C x_Mo_aloneOf_68 nk_111 ck_111 cw_12 (i_lt rfl) rfl rf_111_24 rfl fl_Mo_59 ?_
            refine z_iload C 5 x_Mo_aloneOf_71 rfl ?_
            obtain ⟨c15, h⟩ := chk_e h
            obtain ⟨v16, ev16, h⟩ := blet_e h
            refine z_iald C x_Mo_aloneOf_73 nk_128 ck_128 c15 ev16 ?_
            refine z_aload_n C 0 x_Mo_aloneOf_74 rfl ?_
            obtain ⟨v17, ev17, h⟩ := blet_e h
            refine z_getI (j := 90) C x_Mo_aloneOf_75 nk_111 ck_111 cw_12 (i_lt rfl) rfl rfl fl_Mo_206 ev17 ?_
            refine z_isub C x_Mo_aloneOf_78 ?_
            refine z_mx32 C x_Mo_aloneOf_79 cs_Mo_393 (by omega) (i_le rfl) ?_
            obtain ⟨c18, h⟩ := chk_e h
            obtain ⟨v19, ev19, h⟩ := blet_e h
            refine z_iald C x_Mo_aloneOf_82 nk_171 ck_171 c18 ev19 ?_
            refine z_aload_n C 0 x_Mo_aloneOf_83 rfl ?_
            obtain ⟨v20, ev20, h⟩ := blet_e h
            refine z_getI (j := 89) C x_Mo_aloneOf_84 nk_111 ck_111 cw_12 (i_lt rfl) rfl rfl fl_Mo_203 ev20 ?_
            refine z_aload_n C 0 x_Mo_aloneOf_87 rfl ?_
            refine z_getR (j := 34) C x_Mo_aloneOf_88 nk_111 ck_111 cw_12 (i_lt rfl) rfl rf_111_34 rfl fl_Mo_89 ?_
            refine z_iload C 5 x_Mo_aloneOf_91 rfl ?_
            obtain ⟨c21, h⟩ := chk_e h
            obtain ⟨v22, ev22, h⟩ := blet_e h
            refine z_iald C x_Mo_aloneOf_93 nk_138 ck_138 c21 ev22 ?_
            refine z_imul C x_Mo_aloneOf_94 ?_
            refine z_isub C x_Mo_aloneOf_95 ?_
            refine z_mx32 C x_Mo_aloneOf_96 cs_Mo_393 (by omega) (i_le rfl) ?_
            obtain ⟨v23, ev23, h⟩ := blet_e h
            refine z_istore (lv' := [(7, vi v23), (0, .ref (G.1 + 111)), (1, vi a1), (2, vi a2), (3, vi a3), (4, vl a4), (6, vi a6)]) C ev23 x_Mo_aloneOf_99 (i_lt rfl) rfl ?_
            refine z_lload C 5 x_Mo_aloneOf_101 rfl ?_
            refine z_iload C 0 x_Mo_aloneOf_103 rfl ?_
            refine z_i2l C x_Mo_aloneOf_105 ?_
            refine z_aload_n C 1 x_Mo_aloneOf_106 rfl ?_
            refine z_iload C 6 x_Mo_aloneOf_107 rfl ?_
            obtain ⟨v24, M25, fv24, h⟩ := bcall_e h
            refine z_callVi (k := 111) C x_Mo_aloneOf_109 cv_Mo_347 (t_Mo_net (lev := lev - 1) l G (by omega) fv24) nk_111 ck_111 rfl (by omega) rfl (i_le rfl) rfl ?_
            refine z_aload_n C 1 x_Mo_aloneOf_112 rfl ?_
            refine z_getR (j := 32) C x_Mo_aloneOf_113 nk_111 ck_111 cw_12 (i_lt rfl) rfl rf_111_32 rfl fl_Mo_83 ?_
            refine z_iload C 6 x_Mo_aloneOf_116 rfl ?_
            obtain ⟨c26, h⟩ := chk_e h
            obtain ⟨v27, ev27, h⟩ := blet_e h
            refine z_iald C x_Mo_aloneOf_118 nk_136 ck_136 c26 ev27 ?_
            refine z_isub C x_Mo_aloneOf_119 ?_
            refine z_i2l C x_Mo_aloneOf_120 ?_
            refine z_lmul C x_Mo_aloneOf_121 ?_
            refine z_ladd C x_Mo_aloneOf_122 ?_
            obtain ⟨v28, ev28, h⟩ := blet_e h
            refine z_lstore (lv' := [(4, vl v28), (7, vi v23), (0, .ref (G.1 + 111)), (1, vi a1), (2, vi a2), (3, vi a3), (6, vi a6)]) C ev28 x_Mo_aloneOf_123 (i_lt rfl) rfl ?_
            exact z_sub [2, 3, 4, 5, 0, 6] rfl (z_Mo_aloneOf_125 C hlev hR6 h)
          · refine z_icmp_eq_f (tgt := 61) C x_Mo_aloneOf_55 rfl c14 ?_
            refine z_goto (tgt := 125) C x_Mo_aloneOf_58 rfl ?_
            exact z_sub [0, 1, 2, 3, 4, 5] rfl (z_Mo_aloneOf_125 C hlev hR6 h)
        · refine z_icmp_ne_t (tgt := 125) C x_Mo_aloneOf_44 rfl c11 ?_
          exact z_sub [0, 1, 2, 3, 4, 5] rfl (z_Mo_aloneOf_125 C hlev hR6 h)
      · refine z_if_ne_t (tgt := 125) C x_Mo_aloneOf_33 rfl c8 ?_
        exact z_sub [0, 1, 2, 3, 4, 5] rfl (z_Mo_aloneOf_125 C hlev hR6 h)
  · refine z_icmp_ge_t (tgt := 131) C x_Mo_aloneOf_12 rfl c2 ?_
    refine z_lload C 4 x_Mo_aloneOf_131 rfl ?_
    exact z_lret C x_Mo_aloneOf_133 h
theorem zl_Mo_aloneOf_6 (C : Cx p s m args meth c G b_Mo_aloneOf 8 "PrairiePoolModel" (some .long)) (hlev : 1 ≤ lev) {r : Int × Mem}  : ∀ (n : Nat) (a1 a2 a3 a4 a6 : Int) (M : Mem), fix (fun _ _ _ _ _ _ => none) (k_Mo_aloneOf_6) n a1 a2 a3 a4 a6 M = some r → Z p l e lev s m args below meth c G 8 (MQ below (Qm G 2 r) args s 0 0 (Ab G)) M 6 [(0, .ref (G.1 + 111)), (1, vi a1), (2, vi a2), (3, vi a3), (4, vl a4), (6, vi a6)] [] := by
  intro n
  induction n with
  | zero => intro a1 a2 a3 a4 a6 M h; exact nomatch (show (none : Res) = some r from h)
  | succ n ih => intro a1 a2 a3 a4 a6 M h; exact z_Mo_aloneOf_6 C hlev ih h
def d_Mo_aloneOf (a1 a2 a3 : Int) (M : Mem) : Res := fix (fun _ _ _ _ _ _ => none) (k_Mo_aloneOf_6) FU a1 a2 a3 0 0 M
theorem t_Mo_aloneOf (l : Launch) (G : GX) {lev : Nat} (hlev : 1 ≤ lev) {a1 a2 a3 : Int} {M : Mem} {r : Int × Mem} (h : d_Mo_aloneOf a1 a2 a3 M = some r) : Mt l G y_Mo_aloneOf b_Mo_aloneOf 8 (some .long) lev 2 [.ref (G.1 + 111), vi a1, vi a2, vi a3] M r := by
  refine Mt.of (by decide) (i_le rfl) ?_
  intro p e s m args below meth c C
  have C : Cx p s m args meth c G b_Mo_aloneOf 8 "PrairiePoolModel" (some .long) := C
  unfold d_Mo_aloneOf at h
  refine z_sub (lv' := [(0, .ref (G.1 + 111)), (1, vi a1), (2, vi a2), (3, vi a3)]) [0, 1, 2, 3] rfl ?_
  refine z_lconst0 C x_Mo_aloneOf_0 ?_
  refine z_lstore (lv' := [(4, vl 0), (0, .ref (G.1 + 111)), (1, vi a1), (2, vi a2), (3, vi a3)]) C rfl x_Mo_aloneOf_1 (i_lt rfl) rfl ?_
  refine z_iconst C x_Mo_aloneOf_3 ?_
  refine z_istore (lv' := [(6, vi 0), (4, vl 0), (0, .ref (G.1 + 111)), (1, vi a1), (2, vi a2), (3, vi a3)]) C rfl x_Mo_aloneOf_4 (i_lt rfl) rfl ?_
  exact z_sub [2, 3, 4, 5, 1, 0] rfl (zl_Mo_aloneOf_6 C hlev FU a1 a2 a3 0 0 M h)
theorem x_Mo_alone_0 : DC b_Mo_alone 0 (.aload_n 0) 1 1 := ⟨by decide +kernel, rfl⟩
theorem x_Mo_alone_1 : DC b_Mo_alone 1 (.iconst 0) 1 2 := ⟨by decide +kernel, rfl⟩
theorem x_Mo_alone_2 : DC b_Mo_alone 2 (.putfield 257) 3 5 := ⟨by decide +kernel, rfl⟩
theorem x_Mo_alone_5 : DC b_Mo_alone 5 (.aload_n 0) 1 6 := ⟨by decide +kernel, rfl⟩
theorem x_Mo_alone_6 : DC b_Mo_alone 6 (.aload_n 0) 1 7 := ⟨by decide +kernel, rfl⟩
theorem x_Mo_alone_7 : DC b_Mo_alone 7 (.iload_n 1) 1 8 := ⟨by decide +kernel, rfl⟩
theorem x_Mo_alone_8 : DC b_Mo_alone 8 (.iload_n 2) 1 9 := ⟨by decide +kernel, rfl⟩
theorem x_Mo_alone_9 : DC b_Mo_alone 9 (.iload_n 3) 1 10 := ⟨by decide +kernel, rfl⟩
theorem x_Mo_alone_10 : DC b_Mo_alone 10 (.invokevirtual 618) 3 13 := ⟨by decide +kernel, rfl⟩
theorem x_Mo_alone_13 : DC b_Mo_alone 13 (.putfield 260) 3 16 := ⟨by decide +kernel, rfl⟩
theorem x_Mo_alone_16 : DC b_Mo_alone 16 (.aload_n 0) 1 17 := ⟨by decide +kernel, rfl⟩
theorem x_Mo_alone_17 : DC b_Mo_alone 17 (.getfield 260) 3 20 := ⟨by decide +kernel, rfl⟩
theorem x_Mo_alone_20 : DC b_Mo_alone 20 (.ifCond .le 7) 3 23 := ⟨by decide +kernel, rfl⟩
theorem x_Mo_alone_23 : DC b_Mo_alone 23 (.ldc2_w 289) 3 26 := ⟨by decide +kernel, rfl⟩
theorem x_Mo_alone_26 : DC b_Mo_alone 26 (.lreturn) 1 27 := ⟨by decide +kernel, rfl⟩
theorem x_Mo_alone_27 : DC b_Mo_alone 27 (.aload_n 0) 1 28 := ⟨by decide +kernel, rfl⟩
theorem x_Mo_alone_28 : DC b_Mo_alone 28 (.iload_n 3) 1 29 := ⟨by decide +kernel, rfl⟩
theorem x_Mo_alone_29 : DC b_Mo_alone 29 (.invokevirtual 403) 3 32 := ⟨by decide +kernel, rfl⟩
theorem x_Mo_alone_32 : DC b_Mo_alone 32 (.aload_n 0) 1 33 := ⟨by decide +kernel, rfl⟩
theorem x_Mo_alone_33 : DC b_Mo_alone 33 (.iload_n 1) 1 34 := ⟨by decide +kernel, rfl⟩
theorem x_Mo_alone_34 : DC b_Mo_alone 34 (.iload_n 2) 1 35 := ⟨by decide +kernel, rfl⟩
theorem x_Mo_alone_35 : DC b_Mo_alone 35 (.iload_n 3) 1 36 := ⟨by decide +kernel, rfl⟩
theorem x_Mo_alone_36 : DC b_Mo_alone 36 (.invokevirtual 638) 3 39 := ⟨by decide +kernel, rfl⟩
theorem x_Mo_alone_39 : DC b_Mo_alone 39 (.lreturn) 1 40 := ⟨by decide +kernel, rfl⟩
def d_Mo_alone (a1 a2 a3 : Int) (M : Mem) : Res := blet (sto M 111 1 0) fun M1 => bcall (d_Mo_asksFarm a1 a2 a3 M1) fun v2 M3 => blet (sto M3 111 0 v2) fun M4 => blet (M4 111 0) fun v5 => if 0 < w32 v5 then (some ((-1), M4)) else (bcall (d_Mo_play a3 M4) fun v7 M8 => bcall (d_Mo_aloneOf a1 a2 a3 M8) fun v9 M10 => some (v9, M10))
theorem t_Mo_alone (l : Launch) (G : GX) {lev : Nat} (hlev : 8 ≤ lev) {a1 a2 a3 : Int} {M : Mem} {r : Int × Mem} (h : d_Mo_alone a1 a2 a3 M = some r) : Mt l G y_Mo_alone b_Mo_alone 4 (some .long) lev 2 [.ref (G.1 + 111), vi a1, vi a2, vi a3] M r := by
  refine Mt.of (by decide) (i_le rfl) ?_
  intro p e s m args below meth c C
  have C : Cx p s m args meth c G b_Mo_alone 4 "PrairiePoolModel" (some .long) := C
  unfold d_Mo_alone at h
  refine z_sub (lv' := [(0, .ref (G.1 + 111)), (1, vi a1), (2, vi a2), (3, vi a3)]) [0, 1, 2, 3] rfl ?_
  refine z_aload_n C 0 x_Mo_alone_0 rfl ?_
  refine z_iconst C x_Mo_alone_1 ?_
  obtain ⟨M1, eM1, h⟩ := blet_e h
  refine z_putI (j := 1) C x_Mo_alone_2 nk_111 ck_111 cw_12 (i_lt rfl) rfl rfl rfl rfl fl_Mo_257 eM1 ?_
  refine z_aload_n C 0 x_Mo_alone_5 rfl ?_
  refine z_aload_n C 0 x_Mo_alone_6 rfl ?_
  refine z_iload_n C 1 x_Mo_alone_7 rfl ?_
  refine z_iload_n C 2 x_Mo_alone_8 rfl ?_
  refine z_iload_n C 3 x_Mo_alone_9 rfl ?_
  obtain ⟨v2, M3, fv2, h⟩ := bcall_e h
  refine z_callVi (k := 111) C x_Mo_alone_10 cv_Mo_618 (t_Mo_asksFarm (lev := lev - 1) l G (by omega) fv2) nk_111 ck_111 rfl (by omega) rfl (i_le rfl) rfl ?_
  obtain ⟨M4, eM4, h⟩ := blet_e h
  refine z_putI (j := 0) C x_Mo_alone_13 nk_111 ck_111 cw_12 (i_lt rfl) rfl rfl rfl rfl fl_Mo_260 eM4 ?_
  refine z_aload_n C 0 x_Mo_alone_16 rfl ?_
  obtain ⟨v5, ev5, h⟩ := blet_e h
  refine z_getI (j := 0) C x_Mo_alone_17 nk_111 ck_111 cw_12 (i_lt rfl) rfl rfl fl_Mo_260 ev5 ?_
  rcases ite_e h with ⟨c6, h⟩ | ⟨c6, h⟩
  · refine z_if_le_f (tgt := 27) C x_Mo_alone_20 rfl c6 ?_
    refine z_ldc2 C kl_Mo_289 x_Mo_alone_23 ?_
    exact z_lret C x_Mo_alone_26 h
  · refine z_if_le_t (tgt := 27) C x_Mo_alone_20 rfl c6 ?_
    refine z_aload_n C 0 x_Mo_alone_27 rfl ?_
    refine z_iload_n C 3 x_Mo_alone_28 rfl ?_
    obtain ⟨v7, M8, fv7, h⟩ := bcall_e h
    refine z_callVv (k := 111) C x_Mo_alone_29 cv_Mo_403 (t_Mo_play (lev := lev - 1) l G (by omega) fv7) nk_111 ck_111 rfl (by omega) rfl (i_le rfl) rfl ?_
    refine z_aload_n C 0 x_Mo_alone_32 rfl ?_
    refine z_iload_n C 1 x_Mo_alone_33 rfl ?_
    refine z_iload_n C 2 x_Mo_alone_34 rfl ?_
    refine z_iload_n C 3 x_Mo_alone_35 rfl ?_
    obtain ⟨v9, M10, fv9, h⟩ := bcall_e h
    refine z_callVl (k := 111) C x_Mo_alone_36 cv_Mo_638 (t_Mo_aloneOf (lev := lev - 1) l G (by omega) fv9) nk_111 ck_111 rfl (by omega) rfl (i_le rfl) rfl ?_
    exact z_lret C x_Mo_alone_39 h
theorem x_Mo_more_0 : DC b_Mo_more 0 (.aload_n 0) 1 1 := ⟨by decide +kernel, rfl⟩
theorem x_Mo_more_1 : DC b_Mo_more 1 (.iconst 0) 1 2 := ⟨by decide +kernel, rfl⟩
theorem x_Mo_more_2 : DC b_Mo_more 2 (.putfield 257) 3 5 := ⟨by decide +kernel, rfl⟩
theorem x_Mo_more_5 : DC b_Mo_more 5 (.aload_n 0) 1 6 := ⟨by decide +kernel, rfl⟩
theorem x_Mo_more_6 : DC b_Mo_more 6 (.iconst 0) 1 7 := ⟨by decide +kernel, rfl⟩
theorem x_Mo_more_7 : DC b_Mo_more 7 (.putfield 260) 3 10 := ⟨by decide +kernel, rfl⟩
theorem x_Mo_more_10 : DC b_Mo_more 10 (.iload_n 1) 1 11 := ⟨by decide +kernel, rfl⟩
theorem x_Mo_more_11 : DC b_Mo_more 11 (.invokestatic 335) 3 14 := ⟨by decide +kernel, rfl⟩
theorem x_Mo_more_14 : DC b_Mo_more 14 (.ifCond .eq 10) 3 17 := ⟨by decide +kernel, rfl⟩
theorem x_Mo_more_17 : DC b_Mo_more 17 (.iload_n 2) 1 18 := ⟨by decide +kernel, rfl⟩
theorem x_Mo_more_18 : DC b_Mo_more 18 (.invokestatic 306) 3 21 := ⟨by decide +kernel, rfl⟩
theorem x_Mo_more_21 : DC b_Mo_more 21 (.ifCond .ne 9) 3 24 := ⟨by decide +kernel, rfl⟩
theorem x_Mo_more_24 : DC b_Mo_more 24 (.aload_n 0) 1 25 := ⟨by decide +kernel, rfl⟩
theorem x_Mo_more_25 : DC b_Mo_more 25 (.iconst 5) 1 26 := ⟨by decide +kernel, rfl⟩
theorem x_Mo_more_26 : DC b_Mo_more 26 (.invokevirtual 297) 3 29 := ⟨by decide +kernel, rfl⟩
theorem x_Mo_more_29 : DC b_Mo_more 29 (.ireturn) 1 30 := ⟨by decide +kernel, rfl⟩
theorem x_Mo_more_30 : DC b_Mo_more 30 (.aload_n 0) 1 31 := ⟨by decide +kernel, rfl⟩
theorem x_Mo_more_31 : DC b_Mo_more 31 (.iload_n 1) 1 32 := ⟨by decide +kernel, rfl⟩
theorem x_Mo_more_32 : DC b_Mo_more 32 (.iload_n 2) 1 33 := ⟨by decide +kernel, rfl⟩
theorem x_Mo_more_33 : DC b_Mo_more 33 (.invokevirtual 621) 3 36 := ⟨by decide +kernel, rfl⟩
theorem x_Mo_more_36 : DC b_Mo_more 36 (.iconst 0) 1 37 := ⟨by decide +kernel, rfl⟩
theorem x_Mo_more_37 : DC b_Mo_more 37 (.istore_n 3) 1 38 := ⟨by decide +kernel, rfl⟩
theorem x_Mo_more_38 : DC b_Mo_more 38 (.iconst 0) 1 39 := ⟨by decide +kernel, rfl⟩
theorem x_Mo_more_39 : DC b_Mo_more 39 (.istore 4) 2 41 := ⟨by decide +kernel, rfl⟩
theorem x_Mo_more_41 : DC b_Mo_more 41 (.iload 4) 2 43 := ⟨by decide +kernel, rfl⟩
theorem x_Mo_more_43 : DC b_Mo_more 43 (.aload_n 0) 1 44 := ⟨by decide +kernel, rfl⟩
theorem x_Mo_more_44 : DC b_Mo_more 44 (.getfield 291) 3 47 := ⟨by decide +kernel, rfl⟩
theorem x_Mo_more_47 : DC b_Mo_more 47 (.if_icmp .ge 136) 3 50 := ⟨by decide +kernel, rfl⟩
theorem x_Mo_more_50 : DC b_Mo_more 50 (.lconst 0) 1 51 := ⟨by decide +kernel, rfl⟩
theorem x_Mo_more_51 : DC b_Mo_more 51 (.lstore 5) 2 53 := ⟨by decide +kernel, rfl⟩
theorem x_Mo_more_53 : DC b_Mo_more 53 (.iconst 0) 1 54 := ⟨by decide +kernel, rfl⟩
theorem x_Mo_more_54 : DC b_Mo_more 54 (.istore 7) 2 56 := ⟨by decide +kernel, rfl⟩
theorem x_Mo_more_56 : DC b_Mo_more 56 (.iload 7) 2 58 := ⟨by decide +kernel, rfl⟩
theorem x_Mo_more_58 : DC b_Mo_more 58 (.aload_n 0) 1 59 := ⟨by decide +kernel, rfl⟩
theorem x_Mo_more_59 : DC b_Mo_more 59 (.getfield 309) 3 62 := ⟨by decide +kernel, rfl⟩
theorem x_Mo_more_62 : DC b_Mo_more 62 (.if_icmp .ge 73) 3 65 := ⟨by decide +kernel, rfl⟩
theorem x_Mo_more_65 : DC b_Mo_more 65 (.aload_n 0) 1 66 := ⟨by decide +kernel, rfl⟩
theorem x_Mo_more_66 : DC b_Mo_more 66 (.getfield 62) 3 69 := ⟨by decide +kernel, rfl⟩
theorem x_Mo_more_69 : DC b_Mo_more 69 (.iload 7) 2 71 := ⟨by decide +kernel, rfl⟩
theorem x_Mo_more_71 : DC b_Mo_more 71 (.iaload) 1 72 := ⟨by decide +kernel, rfl⟩
theorem x_Mo_more_72 : DC b_Mo_more 72 (.iload_n 2) 1 73 := ⟨by decide +kernel, rfl⟩
theorem x_Mo_more_73 : DC b_Mo_more 73 (.if_icmp .gt 56) 3 76 := ⟨by decide +kernel, rfl⟩
theorem x_Mo_more_76 : DC b_Mo_more 76 (.aload_n 0) 1 77 := ⟨by decide +kernel, rfl⟩
theorem x_Mo_more_77 : DC b_Mo_more 77 (.getfield 35) 3 80 := ⟨by decide +kernel, rfl⟩
theorem x_Mo_more_80 : DC b_Mo_more 80 (.iload 7) 2 82 := ⟨by decide +kernel, rfl⟩
theorem x_Mo_more_82 : DC b_Mo_more 82 (.iaload) 1 83 := ⟨by decide +kernel, rfl⟩
theorem x_Mo_more_83 : DC b_Mo_more 83 (.ifCond .ne 46) 3 86 := ⟨by decide +kernel, rfl⟩
theorem x_Mo_more_86 : DC b_Mo_more 86 (.aload_n 0) 1 87 := ⟨by decide +kernel, rfl⟩
theorem x_Mo_more_87 : DC b_Mo_more 87 (.getfield 38) 3 90 := ⟨by decide +kernel, rfl⟩
theorem x_Mo_more_90 : DC b_Mo_more 90 (.iload 7) 2 92 := ⟨by decide +kernel, rfl⟩
theorem x_Mo_more_92 : DC b_Mo_more 92 (.iaload) 1 93 := ⟨by decide +kernel, rfl⟩
theorem x_Mo_more_93 : DC b_Mo_more 93 (.iload 4) 2 95 := ⟨by decide +kernel, rfl⟩
theorem x_Mo_more_95 : DC b_Mo_more 95 (.if_icmp .ne 34) 3 98 := ⟨by decide +kernel, rfl⟩
theorem x_Mo_more_98 : DC b_Mo_more 98 (.aload_n 0) 1 99 := ⟨by decide +kernel, rfl⟩
theorem x_Mo_more_99 : DC b_Mo_more 99 (.getfield 50) 3 102 := ⟨by decide +kernel, rfl⟩
theorem x_Mo_more_102 : DC b_Mo_more 102 (.iload 7) 2 104 := ⟨by decide +kernel, rfl⟩
theorem x_Mo_more_104 : DC b_Mo_more 104 (.iaload) 1 105 := ⟨by decide +kernel, rfl⟩
theorem x_Mo_more_105 : DC b_Mo_more 105 (.iload_n 1) 1 106 := ⟨by decide +kernel, rfl⟩
theorem x_Mo_more_106 : DC b_Mo_more 106 (.if_icmp .ne 23) 3 109 := ⟨by decide +kernel, rfl⟩
theorem x_Mo_more_109 : DC b_Mo_more 109 (.lload 5) 2 111 := ⟨by decide +kernel, rfl⟩
theorem x_Mo_more_111 : DC b_Mo_more 111 (.aload_n 0) 1 112 := ⟨by decide +kernel, rfl⟩
theorem x_Mo_more_112 : DC b_Mo_more 112 (.iload 7) 2 114 := ⟨by decide +kernel, rfl⟩
theorem x_Mo_more_114 : DC b_Mo_more 114 (.invokevirtual 347) 3 117 := ⟨by decide +kernel, rfl⟩
theorem x_Mo_more_117 : DC b_Mo_more 117 (.aload_n 0) 1 118 := ⟨by decide +kernel, rfl⟩
theorem x_Mo_more_118 : DC b_Mo_more 118 (.getfield 83) 3 121 := ⟨by decide +kernel, rfl⟩
theorem x_Mo_more_121 : DC b_Mo_more 121 (.iload 7) 2 123 := ⟨by decide +kernel, rfl⟩
theorem x_Mo_more_123 : DC b_Mo_more 123 (.iaload) 1 124 := ⟨by decide +kernel, rfl⟩
theorem x_Mo_more_124 : DC b_Mo_more 124 (.isub) 1 125 := ⟨by decide +kernel, rfl⟩
theorem x_Mo_more_125 : DC b_Mo_more 125 (.i2l) 1 126 := ⟨by decide +kernel, rfl⟩
theorem x_Mo_more_126 : DC b_Mo_more 126 (.ladd) 1 127 := ⟨by decide +kernel, rfl⟩
theorem x_Mo_more_127 : DC b_Mo_more 127 (.lstore 5) 2 129 := ⟨by decide +kernel, rfl⟩
theorem x_Mo_more_129 : DC b_Mo_more 129 (.iinc 7 1) 3 132 := ⟨by decide +kernel, rfl⟩
theorem x_Mo_more_132 : DC b_Mo_more 132 (.goto (-76)) 3 135 := ⟨by decide +kernel, rfl⟩
theorem x_Mo_more_135 : DC b_Mo_more 135 (.iload_n 3) 1 136 := ⟨by decide +kernel, rfl⟩
theorem x_Mo_more_136 : DC b_Mo_more 136 (.lload 5) 2 138 := ⟨by decide +kernel, rfl⟩
theorem x_Mo_more_138 : DC b_Mo_more 138 (.lconst 0) 1 139 := ⟨by decide +kernel, rfl⟩
theorem x_Mo_more_139 : DC b_Mo_more 139 (.lcmp) 1 140 := ⟨by decide +kernel, rfl⟩
theorem x_Mo_more_140 : DC b_Mo_more 140 (.ifCond .le 34) 3 143 := ⟨by decide +kernel, rfl⟩
theorem x_Mo_more_143 : DC b_Mo_more 143 (.aload_n 0) 1 144 := ⟨by decide +kernel, rfl⟩
theorem x_Mo_more_144 : DC b_Mo_more 144 (.getfield 167) 3 147 := ⟨by decide +kernel, rfl⟩
theorem x_Mo_more_147 : DC b_Mo_more 147 (.iload 4) 2 149 := ⟨by decide +kernel, rfl⟩
theorem x_Mo_more_149 : DC b_Mo_more 149 (.laload) 1 150 := ⟨by decide +kernel, rfl⟩
theorem x_Mo_more_150 : DC b_Mo_more 150 (.aload_n 0) 1 151 := ⟨by decide +kernel, rfl⟩
theorem x_Mo_more_151 : DC b_Mo_more 151 (.getfield 170) 3 154 := ⟨by decide +kernel, rfl⟩
theorem x_Mo_more_154 : DC b_Mo_more 154 (.iload 4) 2 156 := ⟨by decide +kernel, rfl⟩
theorem x_Mo_more_156 : DC b_Mo_more 156 (.laload) 1 157 := ⟨by decide +kernel, rfl⟩
theorem x_Mo_more_157 : DC b_Mo_more 157 (.ladd) 1 158 := ⟨by decide +kernel, rfl⟩
theorem x_Mo_more_158 : DC b_Mo_more 158 (.aload_n 0) 1 159 := ⟨by decide +kernel, rfl⟩
theorem x_Mo_more_159 : DC b_Mo_more 159 (.iload 4) 2 161 := ⟨by decide +kernel, rfl⟩
theorem x_Mo_more_161 : DC b_Mo_more 161 (.iload_n 1) 1 162 := ⟨by decide +kernel, rfl⟩
theorem x_Mo_more_162 : DC b_Mo_more 162 (.iload_n 2) 1 163 := ⟨by decide +kernel, rfl⟩
theorem x_Mo_more_163 : DC b_Mo_more 163 (.invokevirtual 638) 3 166 := ⟨by decide +kernel, rfl⟩
theorem x_Mo_more_166 : DC b_Mo_more 166 (.lcmp) 1 167 := ⟨by decide +kernel, rfl⟩
theorem x_Mo_more_167 : DC b_Mo_more 167 (.ifCond .le 7) 3 170 := ⟨by decide +kernel, rfl⟩
theorem x_Mo_more_170 : DC b_Mo_more 170 (.iconst 1) 1 171 := ⟨by decide +kernel, rfl⟩
theorem x_Mo_more_171 : DC b_Mo_more 171 (.goto 4) 3 174 := ⟨by decide +kernel, rfl⟩
theorem x_Mo_more_174 : DC b_Mo_more 174 (.iconst 0) 1 175 := ⟨by decide +kernel, rfl⟩
theorem x_Mo_more_175 : DC b_Mo_more 175 (.iadd) 1 176 := ⟨by decide +kernel, rfl⟩
theorem x_Mo_more_176 : DC b_Mo_more 176 (.istore_n 3) 1 177 := ⟨by decide +kernel, rfl⟩
theorem x_Mo_more_177 : DC b_Mo_more 177 (.iinc 4 1) 3 180 := ⟨by decide +kernel, rfl⟩
theorem x_Mo_more_180 : DC b_Mo_more 180 (.goto (-139)) 3 183 := ⟨by decide +kernel, rfl⟩
theorem x_Mo_more_183 : DC b_Mo_more 183 (.iload_n 3) 1 184 := ⟨by decide +kernel, rfl⟩
theorem x_Mo_more_184 : DC b_Mo_more 184 (.ireturn) 1 185 := ⟨by decide +kernel, rfl⟩
def k_Mo_more_175 (R41 : Int → Int → Int → Int → Mem → Res) (a1 a2 a4 s0 s1 : Int) (M : Mem) : Res := blet (s0 + s1) fun v1 => blet (a4 + 1) fun v2 => R41 a1 a2 v1 v2 M
theorem z_Mo_more_175 (C : Cx p s m args meth c G b_Mo_more 8 "PrairiePoolModel" (some .int)) (hlev : 9 ≤ lev) {r : Int × Mem} {R41 : Int → Int → Int → Int → Mem → Res} (hR41 : ∀ (a1 a2 a3 a4 : Int) (M : Mem), R41 a1 a2 a3 a4 M = some r → Z p l e lev s m args below meth c G 8 (MQ below (Qm G 1 r) args s 0 0 (Ab G)) M 41 [(0, .ref (G.1 + 111)), (1, vi a1), (2, vi a2), (3, vi a3), (4, vi a4)] []) {a1 a2 a4 s0 s1 : Int} {M : Mem} (h : k_Mo_more_175 R41 a1 a2 a4 s0 s1 M = some r) : Z p l e lev s m args below meth c G 8 (MQ below (Qm G 1 r) args s 0 0 (Ab G)) M 175 [(0, .ref (G.1 + 111)), (1, vi a1), (2, vi a2), (4, vi a4)] [vi s1, vi s0] := by
  unfold k_Mo_more_175 at h
  refine z_iadd C x_Mo_more_175 ?_
  obtain ⟨v1, ev1, h⟩ := blet_e h
  refine z_istore_n (lv' := [(3, vi v1), (0, .ref (G.1 + 111)), (1, vi a1), (2, vi a2), (4, vi a4)]) C ev1 x_Mo_more_176 (i_lt rfl) rfl ?_
  obtain ⟨v2, ev2, h⟩ := blet_e h
  refine z_iinc (lv' := [(4, vi v2), (3, vi v1), (0, .ref (G.1 + 111)), (1, vi a1), (2, vi a2)]) C 4 ev2 x_Mo_more_177 rfl (i_lt rfl) rfl ?_
  refine z_goto (tgt := 41) C x_Mo_more_180 rfl ?_
  exact z_sub [2, 3, 4, 1, 0] rfl (hR41 a1 a2 v1 v2 M h)
def k_Mo_more_174 (R41 : Int → Int → Int → Int → Mem → Res) (a1 a2 a4 s0 : Int) (M : Mem) : Res := k_Mo_more_175 R41 a1 a2 a4 s0 0 M
theorem z_Mo_more_174 (C : Cx p s m args meth c G b_Mo_more 8 "PrairiePoolModel" (some .int)) (hlev : 9 ≤ lev) {r : Int × Mem} {R41 : Int → Int → Int → Int → Mem → Res} (hR41 : ∀ (a1 a2 a3 a4 : Int) (M : Mem), R41 a1 a2 a3 a4 M = some r → Z p l e lev s m args below meth c G 8 (MQ below (Qm G 1 r) args s 0 0 (Ab G)) M 41 [(0, .ref (G.1 + 111)), (1, vi a1), (2, vi a2), (3, vi a3), (4, vi a4)] []) {a1 a2 a4 s0 : Int} {M : Mem} (h : k_Mo_more_174 R41 a1 a2 a4 s0 M = some r) : Z p l e lev s m args below meth c G 8 (MQ below (Qm G 1 r) args s 0 0 (Ab G)) M 174 [(0, .ref (G.1 + 111)), (1, vi a1), (2, vi a2), (4, vi a4)] [vi s0] := by
  unfold k_Mo_more_174 at h
  refine z_iconst C x_Mo_more_174 ?_
  exact z_sub [0, 1, 2, 3] rfl (z_Mo_more_175 C hlev hR41 h)
def k_Mo_more_129 (R41 : Int → Int → Int → Int → Mem → Res) (R56 : Int → Int → Int → Int → Int → Int → Mem → Res) (a1 a2 a3 a4 a5 a7 : Int) (M : Mem) : Res := blet (a7 + 1) fun v1 => R56 a1 a2 a3 a4 a5 v1 M
theorem z_Mo_more_129 (C : Cx p s m args meth c G b_Mo_more 8 "PrairiePoolModel" (some .int)) (hlev : 9 ≤ lev) {r : Int × Mem} {R41 : Int → Int → Int → Int → Mem → Res} {R56 : Int → Int → Int → Int → Int → Int → Mem → Res} (hR41 : ∀ (a1 a2 a3 a4 : Int) (M : Mem), R41 a1 a2 a3 a4 M = some r → Z p l e lev s m args below meth c G 8 (MQ below (Qm G 1 r) args s 0 0 (Ab G)) M 41 [(0, .ref (G.1 + 111)), (1, vi a1), (2, vi a2), (3, vi a3), (4, vi a4)] []) (hR56 : ∀ (a1 a2 a3 a4 a5 a7 : Int) (M : Mem), R56 a1 a2 a3 a4 a5 a7 M = some r → Z p l e lev s m args below meth c G 8 (MQ below (Qm G 1 r) args s 0 0 (Ab G)) M 56 [(0, .ref (G.1 + 111)), (1, vi a1), (2, vi a2), (3, vi a3), (4, vi a4), (5, vl a5), (7, vi a7)] []) {a1 a2 a3 a4 a5 a7 : Int} {M : Mem} (h : k_Mo_more_129 R41 R56 a1 a2 a3 a4 a5 a7 M = some r) : Z p l e lev s m args below meth c G 8 (MQ below (Qm G 1 r) args s 0 0 (Ab G)) M 129 [(0, .ref (G.1 + 111)), (1, vi a1), (2, vi a2), (3, vi a3), (4, vi a4), (5, vl a5), (7, vi a7)] [] := by
  unfold k_Mo_more_129 at h
  obtain ⟨v1, ev1, h⟩ := blet_e h
  refine z_iinc (lv' := [(7, vi v1), (0, .ref (G.1 + 111)), (1, vi a1), (2, vi a2), (3, vi a3), (4, vi a4), (5, vl a5)]) C 6 ev1 x_Mo_more_129 rfl (i_lt rfl) rfl ?_
  refine z_goto (tgt := 56) C x_Mo_more_132 rfl ?_
  exact z_sub [1, 2, 3, 4, 5, 6, 0] rfl (hR56 a1 a2 a3 a4 a5 v1 M h)
def k_Mo_more_56 (R41 : Int → Int → Int → Int → Mem → Res) (R56 : Int → Int → Int → Int → Int → Int → Mem → Res) (a1 a2 a3 a4 a5 a7 : Int) (M : Mem) : Res := blet (M 111 7) fun v1 => if w32 a7 < w32 v1 then (chk (0 ≤ w32 a7 ∧ w32 a7 < 120) <| blet (M 129 (ix a7)) fun v4 => if w32 a2 < w32 v4 then (k_Mo_more_129 R41 R56 a1 a2 a3 a4 a5 a7 M) else (chk (0 ≤ w32 a7 ∧ w32 a7 < 120) <| blet (M 120 (ix a7)) fun v7 => if w32 v7 = 0 then (chk (0 ≤ w32 a7 ∧ w32 a7 < 120) <| blet (M 121 (ix a7)) fun v10 => if w32 v10 = w32 a4 then (chk (0 ≤ w32 a7 ∧ w32 a7 < 120) <| blet (M 125 (ix a7)) fun v13 => if w32 v13 = w32 a1 then (bcall (d_Mo_net a7 M) fun v15 M16 => chk (0 ≤ w32 a7 ∧ w32 a7 < 120) <| blet (M16 136 (ix a7)) fun v18 => blet (a5 + (w32 (v15 - v18))) fun v19 => k_Mo_more_129 R41 R56 a1 a2 a3 a4 v19 a7 M16) else (k_Mo_more_129 R41 R56 a1 a2 a3 a4 a5 a7 M)) else (k_Mo_more_129 R41 R56 a1 a2 a3 a4 a5 a7 M)) else (k_Mo_more_129 R41 R56 a1 a2 a3 a4 a5 a7 M))) else (if 0 < w64 a5 then (chk (0 ≤ w32 a4 ∧ w32 a4 < 20) <| blet (M 161 (ix a4)) fun v22 => chk (0 ≤ w32 a4 ∧ w32 a4 < 20) <| blet (M 162 (ix a4)) fun v24 => bcall (d_Mo_aloneOf a4 a1 a2 M) fun v25 M26 => if w64 v25 < w64 (v22 + v24) then (k_Mo_more_175 R41 a1 a2 a4 a3 1 M26) else (k_Mo_more_174 R41 a1 a2 a4 a3 M26)) else (k_Mo_more_174 R41 a1 a2 a4 a3 M))
theorem z_Mo_more_56 (C : Cx p s m args meth c G b_Mo_more 8 "PrairiePoolModel" (some .int)) (hlev : 9 ≤ lev) {r : Int × Mem} {R41 : Int → Int → Int → Int → Mem → Res} {R56 : Int → Int → Int → Int → Int → Int → Mem → Res} (hR41 : ∀ (a1 a2 a3 a4 : Int) (M : Mem), R41 a1 a2 a3 a4 M = some r → Z p l e lev s m args below meth c G 8 (MQ below (Qm G 1 r) args s 0 0 (Ab G)) M 41 [(0, .ref (G.1 + 111)), (1, vi a1), (2, vi a2), (3, vi a3), (4, vi a4)] []) (hR56 : ∀ (a1 a2 a3 a4 a5 a7 : Int) (M : Mem), R56 a1 a2 a3 a4 a5 a7 M = some r → Z p l e lev s m args below meth c G 8 (MQ below (Qm G 1 r) args s 0 0 (Ab G)) M 56 [(0, .ref (G.1 + 111)), (1, vi a1), (2, vi a2), (3, vi a3), (4, vi a4), (5, vl a5), (7, vi a7)] []) {a1 a2 a3 a4 a5 a7 : Int} {M : Mem} (h : k_Mo_more_56 R41 R56 a1 a2 a3 a4 a5 a7 M = some r) : Z p l e lev s m args below meth c G 8 (MQ below (Qm G 1 r) args s 0 0 (Ab G)) M 56 [(0, .ref (G.1 + 111)), (1, vi a1), (2, vi a2), (3, vi a3), (4, vi a4), (5, vl a5), (7, vi a7)] [] := by
  unfold k_Mo_more_56 at h
  refine z_iload C 6 x_Mo_more_56 rfl ?_
  refine z_aload_n C 0 x_Mo_more_58 rfl ?_
  obtain ⟨v1, ev1, h⟩ := blet_e h
  refine z_getI (j := 7) C x_Mo_more_59 nk_111 ck_111 cw_12 (i_lt rfl) rfl rfl fl_Mo_309 ev1 ?_
  rcases ite_e h with ⟨c2, h⟩ | ⟨c2, h⟩
  · refine z_icmp_ge_f (tgt := 135) C x_Mo_more_62 rfl c2 ?_
    refine z_aload_n C 0 x_Mo_more_65 rfl ?_
    refine z_getR (j := 25) C x_Mo_more_66 nk_111 ck_111 cw_12 (i_lt rfl) rfl rf_111_25 rfl fl_Mo_62 ?_
    refine z_iload C 6 x_Mo_more_69 rfl ?_
    obtain ⟨c3, h⟩ := chk_e h
    obtain ⟨v4, ev4, h⟩ := blet_e h
    refine z_iald C x_Mo_more_71 nk_129 ck_129 c3 ev4 ?_
    refine z_iload_n C 2 x_Mo_more_72 rfl ?_
    rcases ite_e h with ⟨c5, h⟩ | ⟨c5, h⟩
    · refine z_icmp_gt_t (tgt := 129) C x_Mo_more_73 rfl c5 ?_
      exact z_sub [0, 1, 2, 3, 4, 5, 6] rfl (z_Mo_more_129 C hlev hR41 hR56 h)
    · refine z_icmp_gt_f (tgt := 129) C x_Mo_more_73 rfl c5 ?_
      refine z_aload_n C 0 x_Mo_more_76 rfl ?_
      refine z_getR (j := 16) C x_Mo_more_77 nk_111 ck_111 cw_12 (i_lt rfl) rfl rf_111_16 rfl fl_Mo_35 ?_
      refine z_iload C 6 x_Mo_more_80 rfl ?_
      obtain ⟨c6, h⟩ := chk_e h
      obtain ⟨v7, ev7, h⟩ := blet_e h
      refine z_iald C x_Mo_more_82 nk_120 ck_120 c6 ev7 ?_
      rcases ite_e h with ⟨c8, h⟩ | ⟨c8, h⟩
      · refine z_if_ne_f (tgt := 129) C x_Mo_more_83 rfl c8 ?_
        refine z_aload_n C 0 x_Mo_more_86 rfl ?_
        refine z_getR (j := 17) C x_Mo_more_87 nk_111 ck_111 cw_12 (i_lt rfl) rfl rf_111_17 rfl fl_Mo_38 ?_
        refine z_iload C 6 x_Mo_more_90 rfl ?_
        obtain ⟨c9, h⟩ := chk_e h
        obtain ⟨v10, ev10, h⟩ := blet_e h
        refine z_iald C x_Mo_more_92 nk_121 ck_121 c9 ev10 ?_
        refine z_iload C 4 x_Mo_more_93 rfl ?_
        rcases ite_e h with ⟨c11, h⟩ | ⟨c11, h⟩
        · refine z_icmp_ne_f (tgt := 129) C x_Mo_more_95 rfl c11 ?_
          refine z_aload_n C 0 x_Mo_more_98 rfl ?_
          refine z_getR (j := 21) C x_Mo_more_99 nk_111 ck_111 cw_12 (i_lt rfl) rfl rf_111_21 rfl fl_Mo_50 ?_
          refine z_iload C 6 x_Mo_more_102 rfl ?_
          obtain ⟨c12, h⟩ := chk_e h
          obtain ⟨v13, ev13, h⟩ := blet_e h
          refine z_iald C x_Mo_more_104 nk_125 ck_125 c12 ev13 ?_
          refine z_iload_n C 1 x_Mo_more_105 rfl ?_
          rcases ite_e h with ⟨c14, h⟩ | ⟨c14, h⟩
          · refine z_icmp_ne_f (tgt := 129) C x_Mo_more_106 rfl c14 ?_
            refine z_lload C 5 x_Mo_more_109 rfl ?_
            refine z_aload_n C 0 x_Mo_more_111 rfl ?_
            refine z_iload C 6 x_Mo_more_112 rfl ?_
            obtain ⟨v15, M16, fv15, h⟩ := bcall_e h
            refine z_callVi (k := 111) C x_Mo_more_114 cv_Mo_347 (t_Mo_net (lev := lev - 1) l G (by omega) fv15) nk_111 ck_111 rfl (by omega) rfl (i_le rfl) rfl ?_
            refine z_aload_n C 0 x_Mo_more_117 rfl ?_
            refine z_getR (j := 32) C x_Mo_more_118 nk_111 ck_111 cw_12 (i_lt rfl) rfl rf_111_32 rfl fl_Mo_83 ?_
            refine z_iload C 6 x_Mo_more_121 rfl ?_
            obtain ⟨c17, h⟩ := chk_e h
            obtain ⟨v18, ev18, h⟩ := blet_e h
            refine z_iald C x_Mo_more_123 nk_136 ck_136 c17 ev18 ?_
            refine z_isub C x_Mo_more_124 ?_
            refine z_i2l C x_Mo_more_125 ?_
            refine z_ladd C x_Mo_more_126 ?_
            obtain ⟨v19, ev19, h⟩ := blet_e h
            refine z_lstore (lv' := [(5, vl v19), (0, .ref (G.1 + 111)), (1, vi a1), (2, vi a2), (3, vi a3), (4, vi a4), (7, vi a7)]) C ev19 x_Mo_more_127 (i_lt rfl) rfl ?_
            exact z_sub [1, 2, 3, 4, 5, 0, 6] rfl (z_Mo_more_129 C hlev hR41 hR56 h)
          · refine z_icmp_ne_t (tgt := 129) C x_Mo_more_106 rfl c14 ?_
            exact z_sub [0, 1, 2, 3, 4, 5, 6] rfl (z_Mo_more_129 C hlev hR41 hR56 h)
        · refine z_icmp_ne_t (tgt := 129) C x_Mo_more_95 rfl c11 ?_
          exact z_sub [0, 1, 2, 3, 4, 5, 6] rfl (z_Mo_more_129 C hlev hR41 hR56 h)
      · refine z_if_ne_t (tgt := 129) C x_Mo_more_83 rfl c8 ?_
        exact z_sub [0, 1, 2, 3, 4, 5, 6] rfl (z_Mo_more_129 C hlev hR41 hR56 h)
  · refine z_icmp_ge_t (tgt := 135) C x_Mo_more_62 rfl c2 ?_
    refine z_iload_n C 3 x_Mo_more_135 rfl ?_
    refine z_lload C 5 x_Mo_more_136 rfl ?_
    refine z_lconst0 C x_Mo_more_138 ?_
    refine z_lcmp C x_Mo_more_139 ?_
    rcases ite_e h with ⟨c20, h⟩ | ⟨c20, h⟩
    · refine z_if_le_f (tgt := 174) C x_Mo_more_140 rfl (cm_gt.mpr c20) ?_
      refine z_aload_n C 0 x_Mo_more_143 rfl ?_
      refine z_getR (j := 74) C x_Mo_more_144 nk_111 ck_111 cw_12 (i_lt rfl) rfl rf_111_74 rfl fl_Mo_167 ?_
      refine z_iload C 4 x_Mo_more_147 rfl ?_
      obtain ⟨c21, h⟩ := chk_e h
      obtain ⟨v22, ev22, h⟩ := blet_e h
      refine z_lald C x_Mo_more_149 nk_161 ck_161 c21 ev22 ?_
      refine z_aload_n C 0 x_Mo_more_150 rfl ?_
      refine z_getR (j := 75) C x_Mo_more_151 nk_111 ck_111 cw_12 (i_lt rfl) rfl rf_111_75 rfl fl_Mo_170 ?_
      refine z_iload C 4 x_Mo_more_154 rfl ?_
      obtain ⟨c23, h⟩ := chk_e h
      obtain ⟨v24, ev24, h⟩ := blet_e h
      refine z_lald C x_Mo_more_156 nk_162 ck_162 c23 ev24 ?_
      refine z_ladd C x_Mo_more_157 ?_
      refine z_aload_n C 0 x_Mo_more_158 rfl ?_
      refine z_iload C 4 x_Mo_more_159 rfl ?_
      refine z_iload_n C 1 x_Mo_more_161 rfl ?_
      refine z_iload_n C 2 x_Mo_more_162 rfl ?_
      obtain ⟨v25, M26, fv25, h⟩ := bcall_e h
      refine z_callVl (k := 111) C x_Mo_more_163 cv_Mo_638 (t_Mo_aloneOf (lev := lev - 1) l G (by omega) fv25) nk_111 ck_111 rfl (by omega) rfl (i_le rfl) rfl ?_
      refine z_lcmp C x_Mo_more_166 ?_
      rcases ite_e h with ⟨c27, h⟩ | ⟨c27, h⟩
      · refine z_if_le_f (tgt := 174) C x_Mo_more_167 rfl (cm_gt.mpr c27) ?_
        refine z_iconst C x_Mo_more_170 ?_
        refine z_goto (tgt := 175) C x_Mo_more_171 rfl ?_
        exact z_sub [0, 1, 2, 4] rfl (z_Mo_more_175 C hlev hR41 h)
      · refine z_if_le_t (tgt := 174) C x_Mo_more_167 rfl (fun q => c27 (cm_gt.mp q)) ?_
        exact z_sub [0, 1, 2, 4] rfl (z_Mo_more_174 C hlev hR41 h)
    · refine z_if_le_t (tgt := 174) C x_Mo_more_140 rfl (fun q => c20 (cm_gt.mp q)) ?_
      exact z_sub [0, 1, 2, 4] rfl (z_Mo_more_174 C hlev hR41 h)
theorem zl_Mo_more_56 (C : Cx p s m args meth c G b_Mo_more 8 "PrairiePoolModel" (some .int)) (hlev : 9 ≤ lev) {r : Int × Mem} {R41 : Int → Int → Int → Int → Mem → Res} (hR41 : ∀ (a1 a2 a3 a4 : Int) (M : Mem), R41 a1 a2 a3 a4 M = some r → Z p l e lev s m args below meth c G 8 (MQ below (Qm G 1 r) args s 0 0 (Ab G)) M 41 [(0, .ref (G.1 + 111)), (1, vi a1), (2, vi a2), (3, vi a3), (4, vi a4)] []) : ∀ (n : Nat) (a1 a2 a3 a4 a5 a7 : Int) (M : Mem), fix (fun _ _ _ _ _ _ _ => none) (k_Mo_more_56 R41) n a1 a2 a3 a4 a5 a7 M = some r → Z p l e lev s m args below meth c G 8 (MQ below (Qm G 1 r) args s 0 0 (Ab G)) M 56 [(0, .ref (G.1 + 111)), (1, vi a1), (2, vi a2), (3, vi a3), (4, vi a4), (5, vl a5), (7, vi a7)] [] := by
  intro n
  induction n with
  | zero => intro a1 a2 a3 a4 a5 a7 M h; exact nomatch (show (none : Res) = some r from h)
  | succ n ih => intro a1 a2 a3 a4 a5 a7 M h; exact z_Mo_more_56 C hlev hR41 ih h
def k_Mo_more_41 (R41 : Int → Int → Int → Int → Mem → Res) (a1 a2 a3 a4 : Int) (M : Mem) : Res := blet (M 111 5) fun v1 => if w32 a4 < w32 v1 then (fix (fun _ _ _ _ _ _ _ => none) (k_Mo_more_56 R41) FU a1 a2 a3 a4 0 0 M) else (some (a3, M))
theorem z_Mo_more_41 (C : Cx p s m args meth c G b_Mo_more 8 "PrairiePoolModel" (some .int)) (hlev : 9 ≤ lev) {r : Int × Mem} {R41 : Int → Int → Int → Int → Mem → Res} (hR41 : ∀ (a1 a2 a3 a4 : Int) (M : Mem), R41 a1 a2 a3 a4 M = some r → Z p l e lev s m args below meth c G 8 (MQ below (Qm G 1 r) args s 0 0 (Ab G)) M 41 [(0, .ref (G.1 + 111)), (1, vi a1), (2, vi a2), (3, vi a3), (4, vi a4)] []) {a1 a2 a3 a4 : Int} {M : Mem} (h : k_Mo_more_41 R41 a1 a2 a3 a4 M = some r) : Z p l e lev s m args below meth c G 8 (MQ below (Qm G 1 r) args s 0 0 (Ab G)) M 41 [(0, .ref (G.1 + 111)), (1, vi a1), (2, vi a2), (3, vi a3), (4, vi a4)] [] := by
  unfold k_Mo_more_41 at h
  refine z_iload C 4 x_Mo_more_41 rfl ?_
  refine z_aload_n C 0 x_Mo_more_43 rfl ?_
  obtain ⟨v1, ev1, h⟩ := blet_e h
  refine z_getI (j := 5) C x_Mo_more_44 nk_111 ck_111 cw_12 (i_lt rfl) rfl rfl fl_Mo_291 ev1 ?_
  rcases ite_e h with ⟨c2, h⟩ | ⟨c2, h⟩
  · refine z_icmp_ge_f (tgt := 183) C x_Mo_more_47 rfl c2 ?_
    refine z_lconst0 C x_Mo_more_50 ?_
    refine z_lstore (lv' := [(5, vl 0), (0, .ref (G.1 + 111)), (1, vi a1), (2, vi a2), (3, vi a3), (4, vi a4)]) C rfl x_Mo_more_51 (i_lt rfl) rfl ?_
    refine z_iconst C x_Mo_more_53 ?_
    refine z_istore (lv' := [(7, vi 0), (5, vl 0), (0, .ref (G.1 + 111)), (1, vi a1), (2, vi a2), (3, vi a3), (4, vi a4)]) C rfl x_Mo_more_54 (i_lt rfl) rfl ?_
    exact z_sub [2, 3, 4, 5, 6, 1, 0] rfl (zl_Mo_more_56 C hlev hR41 FU a1 a2 a3 a4 0 0 M h)
  · refine z_icmp_ge_t (tgt := 183) C x_Mo_more_47 rfl c2 ?_
    refine z_iload_n C 3 x_Mo_more_183 rfl ?_
    exact z_iret C x_Mo_more_184 h
theorem zl_Mo_more_41 (C : Cx p s m args meth c G b_Mo_more 8 "PrairiePoolModel" (some .int)) (hlev : 9 ≤ lev) {r : Int × Mem}  : ∀ (n : Nat) (a1 a2 a3 a4 : Int) (M : Mem), fix (fun _ _ _ _ _ => none) (k_Mo_more_41) n a1 a2 a3 a4 M = some r → Z p l e lev s m args below meth c G 8 (MQ below (Qm G 1 r) args s 0 0 (Ab G)) M 41 [(0, .ref (G.1 + 111)), (1, vi a1), (2, vi a2), (3, vi a3), (4, vi a4)] [] := by
  intro n
  induction n with
  | zero => intro a1 a2 a3 a4 M h; exact nomatch (show (none : Res) = some r from h)
  | succ n ih => intro a1 a2 a3 a4 M h; exact z_Mo_more_41 C hlev ih h
def k_Mo_more_24 (M : Mem) : Res := bcall (d_Mo_refuse 5 M) fun v1 M2 => some (v1, M2)
theorem z_Mo_more_24 (C : Cx p s m args meth c G b_Mo_more 8 "PrairiePoolModel" (some .int)) (hlev : 9 ≤ lev) {r : Int × Mem}  {M : Mem} (h : k_Mo_more_24 M = some r) : Z p l e lev s m args below meth c G 8 (MQ below (Qm G 1 r) args s 0 0 (Ab G)) M 24 [(0, .ref (G.1 + 111))] [] := by
  unfold k_Mo_more_24 at h
  refine z_aload_n C 0 x_Mo_more_24 rfl ?_
  refine z_iconst C x_Mo_more_25 ?_
  obtain ⟨v1, M2, fv1, h⟩ := bcall_e h
  refine z_callVi (k := 111) C x_Mo_more_26 cv_Mo_297 (t_Mo_refuse (lev := lev - 1) l G (by omega) fv1) nk_111 ck_111 rfl (by omega) rfl (i_le rfl) rfl ?_
  exact z_iret C x_Mo_more_29 h
def d_Mo_more (a1 a2 : Int) (M : Mem) : Res := blet (sto M 111 1 0) fun M1 => blet (sto M1 111 0 0) fun M2 => bcall (d_Mo_isYear a1 M2) fun v3 M4 => if w32 v3 = 0 then (k_Mo_more_24 M4) else (bcall (d_Mo_isDay a2 M4) fun v6 M7 => if w32 v6 = 0 then (k_Mo_more_24 M7) else (bcall (d_Mo_pay a1 a2 M7) fun v9 M10 => fix (fun _ _ _ _ _ => none) (k_Mo_more_41) FU a1 a2 0 0 M10))
theorem t_Mo_more (l : Launch) (G : GX) {lev : Nat} (hlev : 9 ≤ lev) {a1 a2 : Int} {M : Mem} {r : Int × Mem} (h : d_Mo_more a1 a2 M = some r) : Mt l G y_Mo_more b_Mo_more 8 (some .int) lev 1 [.ref (G.1 + 111), vi a1, vi a2] M r := by
  refine Mt.of (by decide) (i_le rfl) ?_
  intro p e s m args below meth c C
  have C : Cx p s m args meth c G b_Mo_more 8 "PrairiePoolModel" (some .int) := C
  unfold d_Mo_more at h
  refine z_sub (lv' := [(0, .ref (G.1 + 111)), (1, vi a1), (2, vi a2)]) [0, 1, 2] rfl ?_
  refine z_aload_n C 0 x_Mo_more_0 rfl ?_
  refine z_iconst C x_Mo_more_1 ?_
  obtain ⟨M1, eM1, h⟩ := blet_e h
  refine z_putI (j := 1) C x_Mo_more_2 nk_111 ck_111 cw_12 (i_lt rfl) rfl rfl rfl rfl fl_Mo_257 eM1 ?_
  refine z_aload_n C 0 x_Mo_more_5 rfl ?_
  refine z_iconst C x_Mo_more_6 ?_
  obtain ⟨M2, eM2, h⟩ := blet_e h
  refine z_putI (j := 0) C x_Mo_more_7 nk_111 ck_111 cw_12 (i_lt rfl) rfl rfl rfl rfl fl_Mo_260 eM2 ?_
  refine z_iload_n C 1 x_Mo_more_10 rfl ?_
  obtain ⟨v3, M4, fv3, h⟩ := bcall_e h
  refine z_callSi C x_Mo_more_11 cs_Mo_335 (t_Mo_isYear (lev := lev - 1) l G (by omega) fv3) (by omega) rfl (i_le rfl) rfl ?_
  rcases ite_e h with ⟨c5, h⟩ | ⟨c5, h⟩
  · refine z_if_eq_t (tgt := 24) C x_Mo_more_14 rfl c5 ?_
    exact z_sub [0] rfl (z_Mo_more_24 C hlev h)
  · refine z_if_eq_f (tgt := 24) C x_Mo_more_14 rfl c5 ?_
    refine z_iload_n C 2 x_Mo_more_17 rfl ?_
    obtain ⟨v6, M7, fv6, h⟩ := bcall_e h
    refine z_callSi C x_Mo_more_18 cs_Mo_306 (t_Mo_isDay (lev := lev - 1) l G (by omega) fv6) (by omega) rfl (i_le rfl) rfl ?_
    rcases ite_e h with ⟨c8, h⟩ | ⟨c8, h⟩
    · refine z_if_ne_f (tgt := 30) C x_Mo_more_21 rfl c8 ?_
      exact z_sub [0] rfl (z_Mo_more_24 C hlev h)
    · refine z_if_ne_t (tgt := 30) C x_Mo_more_21 rfl c8 ?_
      refine z_aload_n C 0 x_Mo_more_30 rfl ?_
      refine z_iload_n C 1 x_Mo_more_31 rfl ?_
      refine z_iload_n C 2 x_Mo_more_32 rfl ?_
      obtain ⟨v9, M10, fv9, h⟩ := bcall_e h
      refine z_callVv (k := 111) C x_Mo_more_33 cv_Mo_621 (t_Mo_pay (lev := lev - 1) l G (by omega) fv9) nk_111 ck_111 rfl (by omega) rfl (i_le rfl) rfl ?_
      refine z_iconst C x_Mo_more_36 ?_
      refine z_istore_n (lv' := [(3, vi 0), (0, .ref (G.1 + 111)), (1, vi a1), (2, vi a2)]) C rfl x_Mo_more_37 (i_lt rfl) rfl ?_
      refine z_iconst C x_Mo_more_38 ?_
      refine z_istore (lv' := [(4, vi 0), (3, vi 0), (0, .ref (G.1 + 111)), (1, vi a1), (2, vi a2)]) C rfl x_Mo_more_39 (i_lt rfl) rfl ?_
      exact z_sub [2, 3, 4, 1, 0] rfl (zl_Mo_more_41 C hlev FU a1 a2 0 0 M10 h)
theorem x_Mo_vote_0 : DC b_Mo_vote 0 (.aload_n 0) 1 1 := ⟨by decide +kernel, rfl⟩
theorem x_Mo_vote_1 : DC b_Mo_vote 1 (.iconst 0) 1 2 := ⟨by decide +kernel, rfl⟩
theorem x_Mo_vote_2 : DC b_Mo_vote 2 (.putfield 257) 3 5 := ⟨by decide +kernel, rfl⟩
theorem x_Mo_vote_5 : DC b_Mo_vote 5 (.aload_n 0) 1 6 := ⟨by decide +kernel, rfl⟩
theorem x_Mo_vote_6 : DC b_Mo_vote 6 (.iconst 0) 1 7 := ⟨by decide +kernel, rfl⟩
theorem x_Mo_vote_7 : DC b_Mo_vote 7 (.putfield 260) 3 10 := ⟨by decide +kernel, rfl⟩
theorem x_Mo_vote_10 : DC b_Mo_vote 10 (.aload_n 0) 1 11 := ⟨by decide +kernel, rfl⟩
theorem x_Mo_vote_11 : DC b_Mo_vote 11 (.iload_n 1) 1 12 := ⟨by decide +kernel, rfl⟩
theorem x_Mo_vote_12 : DC b_Mo_vote 12 (.invokevirtual 318) 3 15 := ⟨by decide +kernel, rfl⟩
theorem x_Mo_vote_15 : DC b_Mo_vote 15 (.ifCond .ne 9) 3 18 := ⟨by decide +kernel, rfl⟩
theorem x_Mo_vote_18 : DC b_Mo_vote 18 (.aload_n 0) 1 19 := ⟨by decide +kernel, rfl⟩
theorem x_Mo_vote_19 : DC b_Mo_vote 19 (.iconst 2) 1 20 := ⟨by decide +kernel, rfl⟩
theorem x_Mo_vote_20 : DC b_Mo_vote 20 (.invokevirtual 273) 3 23 := ⟨by decide +kernel, rfl⟩
theorem x_Mo_vote_23 : DC b_Mo_vote 23 (.ireturn) 1 24 := ⟨by decide +kernel, rfl⟩
theorem x_Mo_vote_24 : DC b_Mo_vote 24 (.iload_n 2) 1 25 := ⟨by decide +kernel, rfl⟩
theorem x_Mo_vote_25 : DC b_Mo_vote 25 (.i2l) 1 26 := ⟨by decide +kernel, rfl⟩
theorem x_Mo_vote_26 : DC b_Mo_vote 26 (.ldc2_w 289) 3 29 := ⟨by decide +kernel, rfl⟩
theorem x_Mo_vote_29 : DC b_Mo_vote 29 (.lconst 1) 1 30 := ⟨by decide +kernel, rfl⟩
theorem x_Mo_vote_30 : DC b_Mo_vote 30 (.invokestatic 265) 3 33 := ⟨by decide +kernel, rfl⟩
theorem x_Mo_vote_33 : DC b_Mo_vote 33 (.ifCond .ne 9) 3 36 := ⟨by decide +kernel, rfl⟩
theorem x_Mo_vote_36 : DC b_Mo_vote 36 (.aload_n 0) 1 37 := ⟨by decide +kernel, rfl⟩
theorem x_Mo_vote_37 : DC b_Mo_vote 37 (.iconst 5) 1 38 := ⟨by decide +kernel, rfl⟩
theorem x_Mo_vote_38 : DC b_Mo_vote 38 (.invokevirtual 273) 3 41 := ⟨by decide +kernel, rfl⟩
theorem x_Mo_vote_41 : DC b_Mo_vote 41 (.ireturn) 1 42 := ⟨by decide +kernel, rfl⟩
theorem x_Mo_vote_42 : DC b_Mo_vote 42 (.aload_n 0) 1 43 := ⟨by decide +kernel, rfl⟩
theorem x_Mo_vote_43 : DC b_Mo_vote 43 (.getfield 182) 3 46 := ⟨by decide +kernel, rfl⟩
theorem x_Mo_vote_46 : DC b_Mo_vote 46 (.iload_n 1) 1 47 := ⟨by decide +kernel, rfl⟩
theorem x_Mo_vote_47 : DC b_Mo_vote 47 (.iload_n 2) 1 48 := ⟨by decide +kernel, rfl⟩
theorem x_Mo_vote_48 : DC b_Mo_vote 48 (.iastore) 1 49 := ⟨by decide +kernel, rfl⟩
theorem x_Mo_vote_49 : DC b_Mo_vote 49 (.iconst 1) 1 50 := ⟨by decide +kernel, rfl⟩
theorem x_Mo_vote_50 : DC b_Mo_vote 50 (.ireturn) 1 51 := ⟨by decide +kernel, rfl⟩
def d_Mo_vote (a1 a2 : Int) (M : Mem) : Res := blet (sto M 111 1 0) fun M1 => blet (sto M1 111 0 0) fun M2 => bcall (d_Mo_isFarm a1 M2) fun v3 M4 => if w32 v3 = 0 then (bcall (d_Mo_no 2 M4) fun v6 M7 => chk (w32 v6 = 0 ∨ w32 v6 = 1) <| some (v6, M7)) else (bcall (d_Mo_isIn (w32 a2) (-1) 1 M4) fun v9 M10 => if w32 v9 = 0 then (bcall (d_Mo_no 5 M10) fun v12 M13 => chk (w32 v12 = 0 ∨ w32 v12 = 1) <| some (v12, M13)) else (chk (0 ≤ w32 a1 ∧ w32 a1 < 20) <| blet (sto M10 166 (ix a1) a2) fun M16 => some (1, M16)))
theorem t_Mo_vote (l : Launch) (G : GX) {lev : Nat} (hlev : 2 ≤ lev) {a1 a2 : Int} {M : Mem} {r : Int × Mem} (h : d_Mo_vote a1 a2 M = some r) : Mt l G y_Mo_vote b_Mo_vote 3 (some .boolean) lev 1 [.ref (G.1 + 111), vi a1, vi a2] M r := by
  refine Mt.of (by decide) (i_le rfl) ?_
  intro p e s m args below meth c C
  have C : Cx p s m args meth c G b_Mo_vote 3 "PrairiePoolModel" (some .boolean) := C
  unfold d_Mo_vote at h
  refine z_sub (lv' := [(0, .ref (G.1 + 111)), (1, vi a1), (2, vi a2)]) [0, 1, 2] rfl ?_
  refine z_aload_n C 0 x_Mo_vote_0 rfl ?_
  refine z_iconst C x_Mo_vote_1 ?_
  obtain ⟨M1, eM1, h⟩ := blet_e h
  refine z_putI (j := 1) C x_Mo_vote_2 nk_111 ck_111 cw_12 (i_lt rfl) rfl rfl rfl rfl fl_Mo_257 eM1 ?_
  refine z_aload_n C 0 x_Mo_vote_5 rfl ?_
  refine z_iconst C x_Mo_vote_6 ?_
  obtain ⟨M2, eM2, h⟩ := blet_e h
  refine z_putI (j := 0) C x_Mo_vote_7 nk_111 ck_111 cw_12 (i_lt rfl) rfl rfl rfl rfl fl_Mo_260 eM2 ?_
  refine z_aload_n C 0 x_Mo_vote_10 rfl ?_
  refine z_iload_n C 1 x_Mo_vote_11 rfl ?_
  obtain ⟨v3, M4, fv3, h⟩ := bcall_e h
  refine z_callVi (k := 111) C x_Mo_vote_12 cv_Mo_318 (t_Mo_isFarm (lev := lev - 1) l G (by omega) fv3) nk_111 ck_111 rfl (by omega) rfl (i_le rfl) rfl ?_
  rcases ite_e h with ⟨c5, h⟩ | ⟨c5, h⟩
  · refine z_if_ne_f (tgt := 24) C x_Mo_vote_15 rfl c5 ?_
    refine z_aload_n C 0 x_Mo_vote_18 rfl ?_
    refine z_iconst C x_Mo_vote_19 ?_
    obtain ⟨v6, M7, fv6, h⟩ := bcall_e h
    refine z_callVi (k := 111) C x_Mo_vote_20 cv_Mo_273 (t_Mo_no (lev := lev - 1) l G (by omega) fv6) nk_111 ck_111 rfl (by omega) rfl (i_le rfl) rfl ?_
    obtain ⟨c8, h⟩ := chk_e h
    exact z_zret C x_Mo_vote_23 c8 h
  · refine z_if_ne_t (tgt := 24) C x_Mo_vote_15 rfl c5 ?_
    refine z_iload_n C 2 x_Mo_vote_24 rfl ?_
    refine z_i2l C x_Mo_vote_25 ?_
    refine z_ldc2 C kl_Mo_289 x_Mo_vote_26 ?_
    refine z_lconst1 C x_Mo_vote_29 ?_
    obtain ⟨v9, M10, fv9, h⟩ := bcall_e h
    refine z_callSi C x_Mo_vote_30 cs_Mo_265 (t_Mo_isIn (lev := lev - 1) l G (by omega) fv9) (by omega) rfl (i_le rfl) rfl ?_
    rcases ite_e h with ⟨c11, h⟩ | ⟨c11, h⟩
    · refine z_if_ne_f (tgt := 42) C x_Mo_vote_33 rfl c11 ?_
      refine z_aload_n C 0 x_Mo_vote_36 rfl ?_
      refine z_iconst C x_Mo_vote_37 ?_
      obtain ⟨v12, M13, fv12, h⟩ := bcall_e h
      refine z_callVi (k := 111) C x_Mo_vote_38 cv_Mo_273 (t_Mo_no (lev := lev - 1) l G (by omega) fv12) nk_111 ck_111 rfl (by omega) rfl (i_le rfl) rfl ?_
      obtain ⟨c14, h⟩ := chk_e h
      exact z_zret C x_Mo_vote_41 c14 h
    · refine z_if_ne_t (tgt := 42) C x_Mo_vote_33 rfl c11 ?_
      refine z_aload_n C 0 x_Mo_vote_42 rfl ?_
      refine z_getR (j := 81) C x_Mo_vote_43 nk_111 ck_111 cw_12 (i_lt rfl) rfl rf_111_81 rfl fl_Mo_182 ?_
      refine z_iload_n C 1 x_Mo_vote_46 rfl ?_
      refine z_iload_n C 2 x_Mo_vote_47 rfl ?_
      obtain ⟨c15, h⟩ := chk_e h
      obtain ⟨M16, eM16, h⟩ := blet_e h
      refine z_iast C x_Mo_vote_48 nk_166 ck_166 c15 eM16 ?_
      refine z_iconst C x_Mo_vote_49 ?_
      exact z_zret C x_Mo_vote_50 (by decide) h
theorem x_Mo_findVotes_0 : DC b_Mo_findVotes 0 (.iconst 0) 1 1 := ⟨by decide +kernel, rfl⟩
theorem x_Mo_findVotes_1 : DC b_Mo_findVotes 1 (.istore_n 2) 1 2 := ⟨by decide +kernel, rfl⟩
theorem x_Mo_findVotes_2 : DC b_Mo_findVotes 2 (.iload_n 2) 1 3 := ⟨by decide +kernel, rfl⟩
theorem x_Mo_findVotes_3 : DC b_Mo_findVotes 3 (.aload_n 0) 1 4 := ⟨by decide +kernel, rfl⟩
theorem x_Mo_findVotes_4 : DC b_Mo_findVotes 4 (.getfield 291) 3 7 := ⟨by decide +kernel, rfl⟩
theorem x_Mo_findVotes_7 : DC b_Mo_findVotes 7 (.if_icmp .ge 106) 3 10 := ⟨by decide +kernel, rfl⟩
theorem x_Mo_findVotes_10 : DC b_Mo_findVotes 10 (.aload_n 0) 1 11 := ⟨by decide +kernel, rfl⟩
theorem x_Mo_findVotes_11 : DC b_Mo_findVotes 11 (.invokevirtual 344) 3 14 := ⟨by decide +kernel, rfl⟩
theorem x_Mo_findVotes_14 : DC b_Mo_findVotes 14 (.aload_n 0) 1 15 := ⟨by decide +kernel, rfl⟩
theorem x_Mo_findVotes_15 : DC b_Mo_findVotes 15 (.getfield 151) 3 18 := ⟨by decide +kernel, rfl⟩
theorem x_Mo_findVotes_18 : DC b_Mo_findVotes 18 (.iconst 2) 1 19 := ⟨by decide +kernel, rfl⟩
theorem x_Mo_findVotes_19 : DC b_Mo_findVotes 19 (.iload_n 1) 1 20 := ⟨by decide +kernel, rfl⟩
theorem x_Mo_findVotes_20 : DC b_Mo_findVotes 20 (.i2l) 1 21 := ⟨by decide +kernel, rfl⟩
theorem x_Mo_findVotes_21 : DC b_Mo_findVotes 21 (.lastore) 1 22 := ⟨by decide +kernel, rfl⟩
theorem x_Mo_findVotes_22 : DC b_Mo_findVotes 22 (.aload_n 0) 1 23 := ⟨by decide +kernel, rfl⟩
theorem x_Mo_findVotes_23 : DC b_Mo_findVotes 23 (.getfield 151) 3 26 := ⟨by decide +kernel, rfl⟩
theorem x_Mo_findVotes_26 : DC b_Mo_findVotes 26 (.iconst 3) 1 27 := ⟨by decide +kernel, rfl⟩
theorem x_Mo_findVotes_27 : DC b_Mo_findVotes 27 (.iload_n 1) 1 28 := ⟨by decide +kernel, rfl⟩
theorem x_Mo_findVotes_28 : DC b_Mo_findVotes 28 (.bipush 52) 2 30 := ⟨by decide +kernel, rfl⟩
theorem x_Mo_findVotes_30 : DC b_Mo_findVotes 30 (.idiv) 1 31 := ⟨by decide +kernel, rfl⟩
theorem x_Mo_findVotes_31 : DC b_Mo_findVotes 31 (.i2l) 1 32 := ⟨by decide +kernel, rfl⟩
theorem x_Mo_findVotes_32 : DC b_Mo_findVotes 32 (.lastore) 1 33 := ⟨by decide +kernel, rfl⟩
theorem x_Mo_findVotes_33 : DC b_Mo_findVotes 33 (.aload_n 0) 1 34 := ⟨by decide +kernel, rfl⟩
theorem x_Mo_findVotes_34 : DC b_Mo_findVotes 34 (.getfield 151) 3 37 := ⟨by decide +kernel, rfl⟩
theorem x_Mo_findVotes_37 : DC b_Mo_findVotes 37 (.iconst 5) 1 38 := ⟨by decide +kernel, rfl⟩
theorem x_Mo_findVotes_38 : DC b_Mo_findVotes 38 (.aload_n 0) 1 39 := ⟨by decide +kernel, rfl⟩
theorem x_Mo_findVotes_39 : DC b_Mo_findVotes 39 (.getfield 23) 3 42 := ⟨by decide +kernel, rfl⟩
theorem x_Mo_findVotes_42 : DC b_Mo_findVotes 42 (.iload_n 2) 1 43 := ⟨by decide +kernel, rfl⟩
theorem x_Mo_findVotes_43 : DC b_Mo_findVotes 43 (.iaload) 1 44 := ⟨by decide +kernel, rfl⟩
theorem x_Mo_findVotes_44 : DC b_Mo_findVotes 44 (.i2l) 1 45 := ⟨by decide +kernel, rfl⟩
theorem x_Mo_findVotes_45 : DC b_Mo_findVotes 45 (.lastore) 1 46 := ⟨by decide +kernel, rfl⟩
theorem x_Mo_findVotes_46 : DC b_Mo_findVotes 46 (.aload_n 0) 1 47 := ⟨by decide +kernel, rfl⟩
theorem x_Mo_findVotes_47 : DC b_Mo_findVotes 47 (.getfield 151) 3 50 := ⟨by decide +kernel, rfl⟩
theorem x_Mo_findVotes_50 : DC b_Mo_findVotes 50 (.bipush 6) 2 52 := ⟨by decide +kernel, rfl⟩
theorem x_Mo_findVotes_52 : DC b_Mo_findVotes 52 (.aload_n 0) 1 53 := ⟨by decide +kernel, rfl⟩
theorem x_Mo_findVotes_53 : DC b_Mo_findVotes 53 (.getfield 26) 3 56 := ⟨by decide +kernel, rfl⟩
theorem x_Mo_findVotes_56 : DC b_Mo_findVotes 56 (.iload_n 2) 1 57 := ⟨by decide +kernel, rfl⟩
theorem x_Mo_findVotes_57 : DC b_Mo_findVotes 57 (.iaload) 1 58 := ⟨by decide +kernel, rfl⟩
theorem x_Mo_findVotes_58 : DC b_Mo_findVotes 58 (.i2l) 1 59 := ⟨by decide +kernel, rfl⟩
theorem x_Mo_findVotes_59 : DC b_Mo_findVotes 59 (.lastore) 1 60 := ⟨by decide +kernel, rfl⟩
theorem x_Mo_findVotes_60 : DC b_Mo_findVotes 60 (.aload_n 0) 1 61 := ⟨by decide +kernel, rfl⟩
theorem x_Mo_findVotes_61 : DC b_Mo_findVotes 61 (.getfield 151) 3 64 := ⟨by decide +kernel, rfl⟩
theorem x_Mo_findVotes_64 : DC b_Mo_findVotes 64 (.bipush 7) 2 66 := ⟨by decide +kernel, rfl⟩
theorem x_Mo_findVotes_66 : DC b_Mo_findVotes 66 (.aload_n 0) 1 67 := ⟨by decide +kernel, rfl⟩
theorem x_Mo_findVotes_67 : DC b_Mo_findVotes 67 (.getfield 20) 3 70 := ⟨by decide +kernel, rfl⟩
theorem x_Mo_findVotes_70 : DC b_Mo_findVotes 70 (.iload_n 2) 1 71 := ⟨by decide +kernel, rfl⟩
theorem x_Mo_findVotes_71 : DC b_Mo_findVotes 71 (.iaload) 1 72 := ⟨by decide +kernel, rfl⟩
theorem x_Mo_findVotes_72 : DC b_Mo_findVotes 72 (.i2l) 1 73 := ⟨by decide +kernel, rfl⟩
theorem x_Mo_findVotes_73 : DC b_Mo_findVotes 73 (.lastore) 1 74 := ⟨by decide +kernel, rfl⟩
theorem x_Mo_findVotes_74 : DC b_Mo_findVotes 74 (.aload_n 0) 1 75 := ⟨by decide +kernel, rfl⟩
theorem x_Mo_findVotes_75 : DC b_Mo_findVotes 75 (.getfield 221) 3 78 := ⟨by decide +kernel, rfl⟩
theorem x_Mo_findVotes_78 : DC b_Mo_findVotes 78 (.iload_n 2) 1 79 := ⟨by decide +kernel, rfl⟩
theorem x_Mo_findVotes_79 : DC b_Mo_findVotes 79 (.aload_n 0) 1 80 := ⟨by decide +kernel, rfl⟩
theorem x_Mo_findVotes_80 : DC b_Mo_findVotes 80 (.bipush 118) 2 82 := ⟨by decide +kernel, rfl⟩
theorem x_Mo_findVotes_82 : DC b_Mo_findVotes 82 (.bipush 111) 2 84 := ⟨by decide +kernel, rfl⟩
theorem x_Mo_findVotes_84 : DC b_Mo_findVotes 84 (.bipush 116) 2 86 := ⟨by decide +kernel, rfl⟩
theorem x_Mo_findVotes_86 : DC b_Mo_findVotes 86 (.bipush 101) 2 88 := ⟨by decide +kernel, rfl⟩
theorem x_Mo_findVotes_88 : DC b_Mo_findVotes 88 (.bipush 115) 2 90 := ⟨by decide +kernel, rfl⟩
theorem x_Mo_findVotes_90 : DC b_Mo_findVotes 90 (.iconst 0) 1 91 := ⟨by decide +kernel, rfl⟩
theorem x_Mo_findVotes_91 : DC b_Mo_findVotes 91 (.invokestatic 350) 3 94 := ⟨by decide +kernel, rfl⟩
theorem x_Mo_findVotes_94 : DC b_Mo_findVotes 94 (.iload_n 1) 1 95 := ⟨by decide +kernel, rfl⟩
theorem x_Mo_findVotes_95 : DC b_Mo_findVotes 95 (.lconst 1) 1 96 := ⟨by decide +kernel, rfl⟩
theorem x_Mo_findVotes_96 : DC b_Mo_findVotes 96 (.invokevirtual 354) 3 99 := ⟨by decide +kernel, rfl⟩
theorem x_Mo_findVotes_99 : DC b_Mo_findVotes 99 (.lconst 0) 1 100 := ⟨by decide +kernel, rfl⟩
theorem x_Mo_findVotes_100 : DC b_Mo_findVotes 100 (.ldc2_w 326) 3 103 := ⟨by decide +kernel, rfl⟩
theorem x_Mo_findVotes_103 : DC b_Mo_findVotes 103 (.invokestatic 360) 3 106 := ⟨by decide +kernel, rfl⟩
theorem x_Mo_findVotes_106 : DC b_Mo_findVotes 106 (.lastore) 1 107 := ⟨by decide +kernel, rfl⟩
theorem x_Mo_findVotes_107 : DC b_Mo_findVotes 107 (.iinc 2 1) 3 110 := ⟨by decide +kernel, rfl⟩
theorem x_Mo_findVotes_110 : DC b_Mo_findVotes 110 (.goto (-108)) 3 113 := ⟨by decide +kernel, rfl⟩
theorem x_Mo_findVotes_113 : DC b_Mo_findVotes 113 (.iconst 0) 1 114 := ⟨by decide +kernel, rfl⟩
theorem x_Mo_findVotes_114 : DC b_Mo_findVotes 114 (.istore_n 2) 1 115 := ⟨by decide +kernel, rfl⟩
theorem x_Mo_findVotes_115 : DC b_Mo_findVotes 115 (.iload_n 2) 1 116 := ⟨by decide +kernel, rfl⟩
theorem x_Mo_findVotes_116 : DC b_Mo_findVotes 116 (.bipush 6) 2 118 := ⟨by decide +kernel, rfl⟩
theorem x_Mo_findVotes_118 : DC b_Mo_findVotes 118 (.if_icmp .ge 23) 3 121 := ⟨by decide +kernel, rfl⟩
theorem x_Mo_findVotes_121 : DC b_Mo_findVotes 121 (.aload_n 0) 1 122 := ⟨by decide +kernel, rfl⟩
theorem x_Mo_findVotes_122 : DC b_Mo_findVotes 122 (.getfield 215) 3 125 := ⟨by decide +kernel, rfl⟩
theorem x_Mo_findVotes_125 : DC b_Mo_findVotes 125 (.iload_n 2) 1 126 := ⟨by decide +kernel, rfl⟩
theorem x_Mo_findVotes_126 : DC b_Mo_findVotes 126 (.lconst 0) 1 127 := ⟨by decide +kernel, rfl⟩
theorem x_Mo_findVotes_127 : DC b_Mo_findVotes 127 (.lastore) 1 128 := ⟨by decide +kernel, rfl⟩
theorem x_Mo_findVotes_128 : DC b_Mo_findVotes 128 (.aload_n 0) 1 129 := ⟨by decide +kernel, rfl⟩
theorem x_Mo_findVotes_129 : DC b_Mo_findVotes 129 (.getfield 218) 3 132 := ⟨by decide +kernel, rfl⟩
theorem x_Mo_findVotes_132 : DC b_Mo_findVotes 132 (.iload_n 2) 1 133 := ⟨by decide +kernel, rfl⟩
theorem x_Mo_findVotes_133 : DC b_Mo_findVotes 133 (.lconst 0) 1 134 := ⟨by decide +kernel, rfl⟩
theorem x_Mo_findVotes_134 : DC b_Mo_findVotes 134 (.lastore) 1 135 := ⟨by decide +kernel, rfl⟩
theorem x_Mo_findVotes_135 : DC b_Mo_findVotes 135 (.iinc 2 1) 3 138 := ⟨by decide +kernel, rfl⟩
theorem x_Mo_findVotes_138 : DC b_Mo_findVotes 138 (.goto (-23)) 3 141 := ⟨by decide +kernel, rfl⟩
theorem x_Mo_findVotes_141 : DC b_Mo_findVotes 141 (.iconst 0) 1 142 := ⟨by decide +kernel, rfl⟩
theorem x_Mo_findVotes_142 : DC b_Mo_findVotes 142 (.istore_n 2) 1 143 := ⟨by decide +kernel, rfl⟩
theorem x_Mo_findVotes_143 : DC b_Mo_findVotes 143 (.iload_n 2) 1 144 := ⟨by decide +kernel, rfl⟩
theorem x_Mo_findVotes_144 : DC b_Mo_findVotes 144 (.aload_n 0) 1 145 := ⟨by decide +kernel, rfl⟩
theorem x_Mo_findVotes_145 : DC b_Mo_findVotes 145 (.getfield 291) 3 148 := ⟨by decide +kernel, rfl⟩
theorem x_Mo_findVotes_148 : DC b_Mo_findVotes 148 (.if_icmp .ge 68) 3 151 := ⟨by decide +kernel, rfl⟩
theorem x_Mo_findVotes_151 : DC b_Mo_findVotes 151 (.aload_n 0) 1 152 := ⟨by decide +kernel, rfl⟩
theorem x_Mo_findVotes_152 : DC b_Mo_findVotes 152 (.getfield 182) 3 155 := ⟨by decide +kernel, rfl⟩
theorem x_Mo_findVotes_155 : DC b_Mo_findVotes 155 (.iload_n 2) 1 156 := ⟨by decide +kernel, rfl⟩
theorem x_Mo_findVotes_156 : DC b_Mo_findVotes 156 (.iaload) 1 157 := ⟨by decide +kernel, rfl⟩
theorem x_Mo_findVotes_157 : DC b_Mo_findVotes 157 (.iconst 1) 1 158 := ⟨by decide +kernel, rfl⟩
theorem x_Mo_findVotes_158 : DC b_Mo_findVotes 158 (.if_icmp .ne 23) 3 161 := ⟨by decide +kernel, rfl⟩
theorem x_Mo_findVotes_161 : DC b_Mo_findVotes 161 (.aload_n 0) 1 162 := ⟨by decide +kernel, rfl⟩
theorem x_Mo_findVotes_162 : DC b_Mo_findVotes 162 (.getfield 215) 3 165 := ⟨by decide +kernel, rfl⟩
theorem x_Mo_findVotes_165 : DC b_Mo_findVotes 165 (.aload_n 0) 1 166 := ⟨by decide +kernel, rfl⟩
theorem x_Mo_findVotes_166 : DC b_Mo_findVotes 166 (.getfield 20) 3 169 := ⟨by decide +kernel, rfl⟩
theorem x_Mo_findVotes_169 : DC b_Mo_findVotes 169 (.iload_n 2) 1 170 := ⟨by decide +kernel, rfl⟩
theorem x_Mo_findVotes_170 : DC b_Mo_findVotes 170 (.iaload) 1 171 := ⟨by decide +kernel, rfl⟩
theorem x_Mo_findVotes_171 : DC b_Mo_findVotes 171 (.dup2) 1 172 := ⟨by decide +kernel, rfl⟩
theorem x_Mo_findVotes_172 : DC b_Mo_findVotes 172 (.laload) 1 173 := ⟨by decide +kernel, rfl⟩
theorem x_Mo_findVotes_173 : DC b_Mo_findVotes 173 (.aload_n 0) 1 174 := ⟨by decide +kernel, rfl⟩
theorem x_Mo_findVotes_174 : DC b_Mo_findVotes 174 (.getfield 221) 3 177 := ⟨by decide +kernel, rfl⟩
theorem x_Mo_findVotes_177 : DC b_Mo_findVotes 177 (.iload_n 2) 1 178 := ⟨by decide +kernel, rfl⟩
theorem x_Mo_findVotes_178 : DC b_Mo_findVotes 178 (.laload) 1 179 := ⟨by decide +kernel, rfl⟩
theorem x_Mo_findVotes_179 : DC b_Mo_findVotes 179 (.ladd) 1 180 := ⟨by decide +kernel, rfl⟩
theorem x_Mo_findVotes_180 : DC b_Mo_findVotes 180 (.lastore) 1 181 := ⟨by decide +kernel, rfl⟩
theorem x_Mo_findVotes_181 : DC b_Mo_findVotes 181 (.aload_n 0) 1 182 := ⟨by decide +kernel, rfl⟩
theorem x_Mo_findVotes_182 : DC b_Mo_findVotes 182 (.getfield 182) 3 185 := ⟨by decide +kernel, rfl⟩
theorem x_Mo_findVotes_185 : DC b_Mo_findVotes 185 (.iload_n 2) 1 186 := ⟨by decide +kernel, rfl⟩
theorem x_Mo_findVotes_186 : DC b_Mo_findVotes 186 (.iaload) 1 187 := ⟨by decide +kernel, rfl⟩
theorem x_Mo_findVotes_187 : DC b_Mo_findVotes 187 (.ifCond .ne 23) 3 190 := ⟨by decide +kernel, rfl⟩
theorem x_Mo_findVotes_190 : DC b_Mo_findVotes 190 (.aload_n 0) 1 191 := ⟨by decide +kernel, rfl⟩
theorem x_Mo_findVotes_191 : DC b_Mo_findVotes 191 (.getfield 218) 3 194 := ⟨by decide +kernel, rfl⟩
theorem x_Mo_findVotes_194 : DC b_Mo_findVotes 194 (.aload_n 0) 1 195 := ⟨by decide +kernel, rfl⟩
theorem x_Mo_findVotes_195 : DC b_Mo_findVotes 195 (.getfield 20) 3 198 := ⟨by decide +kernel, rfl⟩
theorem x_Mo_findVotes_198 : DC b_Mo_findVotes 198 (.iload_n 2) 1 199 := ⟨by decide +kernel, rfl⟩
theorem x_Mo_findVotes_199 : DC b_Mo_findVotes 199 (.iaload) 1 200 := ⟨by decide +kernel, rfl⟩
theorem x_Mo_findVotes_200 : DC b_Mo_findVotes 200 (.dup2) 1 201 := ⟨by decide +kernel, rfl⟩
theorem x_Mo_findVotes_201 : DC b_Mo_findVotes 201 (.laload) 1 202 := ⟨by decide +kernel, rfl⟩
theorem x_Mo_findVotes_202 : DC b_Mo_findVotes 202 (.aload_n 0) 1 203 := ⟨by decide +kernel, rfl⟩
theorem x_Mo_findVotes_203 : DC b_Mo_findVotes 203 (.getfield 221) 3 206 := ⟨by decide +kernel, rfl⟩
theorem x_Mo_findVotes_206 : DC b_Mo_findVotes 206 (.iload_n 2) 1 207 := ⟨by decide +kernel, rfl⟩
theorem x_Mo_findVotes_207 : DC b_Mo_findVotes 207 (.laload) 1 208 := ⟨by decide +kernel, rfl⟩
theorem x_Mo_findVotes_208 : DC b_Mo_findVotes 208 (.ladd) 1 209 := ⟨by decide +kernel, rfl⟩
theorem x_Mo_findVotes_209 : DC b_Mo_findVotes 209 (.lastore) 1 210 := ⟨by decide +kernel, rfl⟩
theorem x_Mo_findVotes_210 : DC b_Mo_findVotes 210 (.iinc 2 1) 3 213 := ⟨by decide +kernel, rfl⟩
theorem x_Mo_findVotes_213 : DC b_Mo_findVotes 213 (.goto (-70)) 3 216 := ⟨by decide +kernel, rfl⟩
theorem x_Mo_findVotes_216 : DC b_Mo_findVotes 216 (.return_) 1 217 := ⟨by decide +kernel, rfl⟩
def k_Mo_findVotes_210 (R143 : Int → Mem → Res) (a2 : Int) (M : Mem) : Res := blet (a2 + 1) fun v1 => R143 v1 M
theorem z_Mo_findVotes_210 (C : Cx p s m args meth c G b_Mo_findVotes 3 "PrairiePoolModel" none) (hlev : 5 ≤ lev) {r : Int × Mem} {R143 : Int → Mem → Res} (hR143 : ∀ (a2 : Int) (M : Mem), R143 a2 M = some r → Z p l e lev s m args below meth c G 3 (MQ below (Qm G 0 r) args s 0 0 (Ab G)) M 143 [(0, .ref (G.1 + 111)), (2, vi a2)] []) {a2 : Int} {M : Mem} (h : k_Mo_findVotes_210 R143 a2 M = some r) : Z p l e lev s m args below meth c G 3 (MQ below (Qm G 0 r) args s 0 0 (Ab G)) M 210 [(0, .ref (G.1 + 111)), (2, vi a2)] [] := by
  unfold k_Mo_findVotes_210 at h
  obtain ⟨v1, ev1, h⟩ := blet_e h
  refine z_iinc (lv' := [(2, vi v1), (0, .ref (G.1 + 111))]) C 1 ev1 x_Mo_findVotes_210 rfl (i_lt rfl) rfl ?_
  refine z_goto (tgt := 143) C x_Mo_findVotes_213 rfl ?_
  exact z_sub [1, 0] rfl (hR143 v1 M h)
def k_Mo_findVotes_181 (R143 : Int → Mem → Res) (a2 : Int) (M : Mem) : Res := chk (0 ≤ w32 a2 ∧ w32 a2 < 20) <| blet (M 166 (ix a2)) fun v2 => if w32 v2 = 0 then (chk (0 ≤ w32 a2 ∧ w32 a2 < 20) <| blet (M 115 (ix a2)) fun v5 => chk (0 ≤ w32 v5 ∧ w32 v5 < 6) <| blet (M 176 (ix v5)) fun v7 => chk (0 ≤ w32 a2 ∧ w32 a2 < 20) <| blet (M 177 (ix a2)) fun v9 => chk (0 ≤ w32 v5 ∧ w32 v5 < 6) <| blet (sto M 176 (ix v5) (v7 + v9)) fun M11 => k_Mo_findVotes_210 R143 a2 M11) else (k_Mo_findVotes_210 R143 a2 M)
theorem z_Mo_findVotes_181 (C : Cx p s m args meth c G b_Mo_findVotes 3 "PrairiePoolModel" none) (hlev : 5 ≤ lev) {r : Int × Mem} {R143 : Int → Mem → Res} (hR143 : ∀ (a2 : Int) (M : Mem), R143 a2 M = some r → Z p l e lev s m args below meth c G 3 (MQ below (Qm G 0 r) args s 0 0 (Ab G)) M 143 [(0, .ref (G.1 + 111)), (2, vi a2)] []) {a2 : Int} {M : Mem} (h : k_Mo_findVotes_181 R143 a2 M = some r) : Z p l e lev s m args below meth c G 3 (MQ below (Qm G 0 r) args s 0 0 (Ab G)) M 181 [(0, .ref (G.1 + 111)), (2, vi a2)] [] := by
  unfold k_Mo_findVotes_181 at h
  refine z_aload_n C 0 x_Mo_findVotes_181 rfl ?_
  refine z_getR (j := 81) C x_Mo_findVotes_182 nk_111 ck_111 cw_12 (i_lt rfl) rfl rf_111_81 rfl fl_Mo_182 ?_
  refine z_iload_n C 1 x_Mo_findVotes_185 rfl ?_
  obtain ⟨c1, h⟩ := chk_e h
  obtain ⟨v2, ev2, h⟩ := blet_e h
  refine z_iald C x_Mo_findVotes_186 nk_166 ck_166 c1 ev2 ?_
  rcases ite_e h with ⟨c3, h⟩ | ⟨c3, h⟩
  · refine z_if_ne_f (tgt := 210) C x_Mo_findVotes_187 rfl c3 ?_
    refine z_aload_n C 0 x_Mo_findVotes_190 rfl ?_
    refine z_getR (j := 94) C x_Mo_findVotes_191 nk_111 ck_111 cw_12 (i_lt rfl) rfl rf_111_94 rfl fl_Mo_218 ?_
    refine z_aload_n C 0 x_Mo_findVotes_194 rfl ?_
    refine z_getR (j := 11) C x_Mo_findVotes_195 nk_111 ck_111 cw_12 (i_lt rfl) rfl rf_111_11 rfl fl_Mo_20 ?_
    refine z_iload_n C 1 x_Mo_findVotes_198 rfl ?_
    obtain ⟨c4, h⟩ := chk_e h
    obtain ⟨v5, ev5, h⟩ := blet_e h
    refine z_iald C x_Mo_findVotes_199 nk_115 ck_115 c4 ev5 ?_
    refine z_dup2 C x_Mo_findVotes_200 rfl rfl ?_
    obtain ⟨c6, h⟩ := chk_e h
    obtain ⟨v7, ev7, h⟩ := blet_e h
    refine z_lald C x_Mo_findVotes_201 nk_176 ck_176 c6 ev7 ?_
    refine z_aload_n C 0 x_Mo_findVotes_202 rfl ?_
    refine z_getR (j := 95) C x_Mo_findVotes_203 nk_111 ck_111 cw_12 (i_lt rfl) rfl rf_111_95 rfl fl_Mo_221 ?_
    refine z_iload_n C 1 x_Mo_findVotes_206 rfl ?_
    obtain ⟨c8, h⟩ := chk_e h
    obtain ⟨v9, ev9, h⟩ := blet_e h
    refine z_lald C x_Mo_findVotes_207 nk_177 ck_177 c8 ev9 ?_
    refine z_ladd C x_Mo_findVotes_208 ?_
    obtain ⟨c10, h⟩ := chk_e h
    obtain ⟨M11, eM11, h⟩ := blet_e h
    refine z_last C x_Mo_findVotes_209 nk_176 ck_176 c10 eM11 ?_
    exact z_sub [0, 1] rfl (z_Mo_findVotes_210 C hlev hR143 h)
  · refine z_if_ne_t (tgt := 210) C x_Mo_findVotes_187 rfl c3 ?_
    exact z_sub [0, 1] rfl (z_Mo_findVotes_210 C hlev hR143 h)
def k_Mo_findVotes_143 (R143 : Int → Mem → Res) (a2 : Int) (M : Mem) : Res := blet (M 111 5) fun v1 => if w32 a2 < w32 v1 then (chk (0 ≤ w32 a2 ∧ w32 a2 < 20) <| blet (M 166 (ix a2)) fun v4 => if w32 v4 = 1 then (chk (0 ≤ w32 a2 ∧ w32 a2 < 20) <| blet (M 115 (ix a2)) fun v7 => chk (0 ≤ w32 v7 ∧ w32 v7 < 6) <| blet (M 175 (ix v7)) fun v9 => chk (0 ≤ w32 a2 ∧ w32 a2 < 20) <| blet (M 177 (ix a2)) fun v11 => chk (0 ≤ w32 v7 ∧ w32 v7 < 6) <| blet (sto M 175 (ix v7) (v9 + v11)) fun M13 => k_Mo_findVotes_181 R143 a2 M13) else (k_Mo_findVotes_181 R143 a2 M)) else (some (0, M))
theorem z_Mo_findVotes_143 (C : Cx p s m args meth c G b_Mo_findVotes 3 "PrairiePoolModel" none) (hlev : 5 ≤ lev) {r : Int × Mem} {R143 : Int → Mem → Res} (hR143 : ∀ (a2 : Int) (M : Mem), R143 a2 M = some r → Z p l e lev s m args below meth c G 3 (MQ below (Qm G 0 r) args s 0 0 (Ab G)) M 143 [(0, .ref (G.1 + 111)), (2, vi a2)] []) {a2 : Int} {M : Mem} (h : k_Mo_findVotes_143 R143 a2 M = some r) : Z p l e lev s m args below meth c G 3 (MQ below (Qm G 0 r) args s 0 0 (Ab G)) M 143 [(0, .ref (G.1 + 111)), (2, vi a2)] [] := by
  unfold k_Mo_findVotes_143 at h
  refine z_iload_n C 1 x_Mo_findVotes_143 rfl ?_
  refine z_aload_n C 0 x_Mo_findVotes_144 rfl ?_
  obtain ⟨v1, ev1, h⟩ := blet_e h
  refine z_getI (j := 5) C x_Mo_findVotes_145 nk_111 ck_111 cw_12 (i_lt rfl) rfl rfl fl_Mo_291 ev1 ?_
  rcases ite_e h with ⟨c2, h⟩ | ⟨c2, h⟩
  · refine z_icmp_ge_f (tgt := 216) C x_Mo_findVotes_148 rfl c2 ?_
    refine z_aload_n C 0 x_Mo_findVotes_151 rfl ?_
    refine z_getR (j := 81) C x_Mo_findVotes_152 nk_111 ck_111 cw_12 (i_lt rfl) rfl rf_111_81 rfl fl_Mo_182 ?_
    refine z_iload_n C 1 x_Mo_findVotes_155 rfl ?_
    obtain ⟨c3, h⟩ := chk_e h
    obtain ⟨v4, ev4, h⟩ := blet_e h
    refine z_iald C x_Mo_findVotes_156 nk_166 ck_166 c3 ev4 ?_
    refine z_iconst C x_Mo_findVotes_157 ?_
    rcases ite_e h with ⟨c5, h⟩ | ⟨c5, h⟩
    · refine z_icmp_ne_f (tgt := 181) C x_Mo_findVotes_158 rfl c5 ?_
      refine z_aload_n C 0 x_Mo_findVotes_161 rfl ?_
      refine z_getR (j := 93) C x_Mo_findVotes_162 nk_111 ck_111 cw_12 (i_lt rfl) rfl rf_111_93 rfl fl_Mo_215 ?_
      refine z_aload_n C 0 x_Mo_findVotes_165 rfl ?_
      refine z_getR (j := 11) C x_Mo_findVotes_166 nk_111 ck_111 cw_12 (i_lt rfl) rfl rf_111_11 rfl fl_Mo_20 ?_
      refine z_iload_n C 1 x_Mo_findVotes_169 rfl ?_
      obtain ⟨c6, h⟩ := chk_e h
      obtain ⟨v7, ev7, h⟩ := blet_e h
      refine z_iald C x_Mo_findVotes_170 nk_115 ck_115 c6 ev7 ?_
      refine z_dup2 C x_Mo_findVotes_171 rfl rfl ?_
      obtain ⟨c8, h⟩ := chk_e h
      obtain ⟨v9, ev9, h⟩ := blet_e h
      refine z_lald C x_Mo_findVotes_172 nk_175 ck_175 c8 ev9 ?_
      refine z_aload_n C 0 x_Mo_findVotes_173 rfl ?_
      refine z_getR (j := 95) C x_Mo_findVotes_174 nk_111 ck_111 cw_12 (i_lt rfl) rfl rf_111_95 rfl fl_Mo_221 ?_
      refine z_iload_n C 1 x_Mo_findVotes_177 rfl ?_
      obtain ⟨c10, h⟩ := chk_e h
      obtain ⟨v11, ev11, h⟩ := blet_e h
      refine z_lald C x_Mo_findVotes_178 nk_177 ck_177 c10 ev11 ?_
      refine z_ladd C x_Mo_findVotes_179 ?_
      obtain ⟨c12, h⟩ := chk_e h
      obtain ⟨M13, eM13, h⟩ := blet_e h
      refine z_last C x_Mo_findVotes_180 nk_175 ck_175 c12 eM13 ?_
      exact z_sub [0, 1] rfl (z_Mo_findVotes_181 C hlev hR143 h)
    · refine z_icmp_ne_t (tgt := 181) C x_Mo_findVotes_158 rfl c5 ?_
      exact z_sub [0, 1] rfl (z_Mo_findVotes_181 C hlev hR143 h)
  · refine z_icmp_ge_t (tgt := 216) C x_Mo_findVotes_148 rfl c2 ?_
    exact z_vret C x_Mo_findVotes_216 h
theorem zl_Mo_findVotes_143 (C : Cx p s m args meth c G b_Mo_findVotes 3 "PrairiePoolModel" none) (hlev : 5 ≤ lev) {r : Int × Mem}  : ∀ (n : Nat) (a2 : Int) (M : Mem), fix (fun _ _ => none) (k_Mo_findVotes_143) n a2 M = some r → Z p l e lev s m args below meth c G 3 (MQ below (Qm G 0 r) args s 0 0 (Ab G)) M 143 [(0, .ref (G.1 + 111)), (2, vi a2)] [] := by
  intro n
  induction n with
  | zero => intro a2 M h; exact nomatch (show (none : Res) = some r from h)
  | succ n ih => intro a2 M h; exact z_Mo_findVotes_143 C hlev ih h
def k_Mo_findVotes_115 (R115 : Int → Mem → Res) (a2 : Int) (M : Mem) : Res := if w32 a2 < 6 then (chk (0 ≤ w32 a2 ∧ w32 a2 < 6) <| blet (sto M 175 (ix a2) 0) fun M3 => chk (0 ≤ w32 a2 ∧ w32 a2 < 6) <| blet (sto M3 176 (ix a2) 0) fun M5 => blet (a2 + 1) fun v6 => R115 v6 M5) else (fix (fun _ _ => none) (k_Mo_findVotes_143) FU 0 M)
theorem z_Mo_findVotes_115 (C : Cx p s m args meth c G b_Mo_findVotes 3 "PrairiePoolModel" none) (hlev : 5 ≤ lev) {r : Int × Mem} {R115 : Int → Mem → Res} (hR115 : ∀ (a2 : Int) (M : Mem), R115 a2 M = some r → Z p l e lev s m args below meth c G 3 (MQ below (Qm G 0 r) args s 0 0 (Ab G)) M 115 [(0, .ref (G.1 + 111)), (2, vi a2)] []) {a2 : Int} {M : Mem} (h : k_Mo_findVotes_115 R115 a2 M = some r) : Z p l e lev s m args below meth c G 3 (MQ below (Qm G 0 r) args s 0 0 (Ab G)) M 115 [(0, .ref (G.1 + 111)), (2, vi a2)] [] := by
  unfold k_Mo_findVotes_115 at h
  refine z_iload_n C 1 x_Mo_findVotes_115 rfl ?_
  refine z_bipush C rfl x_Mo_findVotes_116 ?_
  rcases ite_e h with ⟨c1, h⟩ | ⟨c1, h⟩
  · refine z_icmp_ge_f (tgt := 141) C x_Mo_findVotes_118 rfl c1 ?_
    refine z_aload_n C 0 x_Mo_findVotes_121 rfl ?_
    refine z_getR (j := 93) C x_Mo_findVotes_122 nk_111 ck_111 cw_12 (i_lt rfl) rfl rf_111_93 rfl fl_Mo_215 ?_
    refine z_iload_n C 1 x_Mo_findVotes_125 rfl ?_
    refine z_lconst0 C x_Mo_findVotes_126 ?_
    obtain ⟨c2, h⟩ := chk_e h
    obtain ⟨M3, eM3, h⟩ := blet_e h
    refine z_last C x_Mo_findVotes_127 nk_175 ck_175 c2 eM3 ?_
    refine z_aload_n C 0 x_Mo_findVotes_128 rfl ?_
    refine z_getR (j := 94) C x_Mo_findVotes_129 nk_111 ck_111 cw_12 (i_lt rfl) rfl rf_111_94 rfl fl_Mo_218 ?_
    refine z_iload_n C 1 x_Mo_findVotes_132 rfl ?_
    refine z_lconst0 C x_Mo_findVotes_133 ?_
    obtain ⟨c4, h⟩ := chk_e h
    obtain ⟨M5, eM5, h⟩ := blet_e h
    refine z_last C x_Mo_findVotes_134 nk_176 ck_176 c4 eM5 ?_
    obtain ⟨v6, ev6, h⟩ := blet_e h
    refine z_iinc (lv' := [(2, vi v6), (0, .ref (G.1 + 111))]) C 1 ev6 x_Mo_findVotes_135 rfl (i_lt rfl) rfl ?_
    refine z_goto (tgt := 115) C x_Mo_findVotes_138 rfl ?_
    exact z_sub [1, 0] rfl (hR115 v6 M5 h)
  · refine z_icmp_ge_t (tgt := 141) C x_Mo_findVotes_118 rfl c1 ?_
    refine z_iconst C x_Mo_findVotes_141 ?_
    refine z_istore_n (lv' := [(2, vi 0), (0, .ref (G.1 + 111))]) C rfl x_Mo_findVotes_142 (i_lt rfl) rfl ?_
    exact z_sub [1, 0] rfl (zl_Mo_findVotes_143 C hlev FU 0 M h)
theorem zl_Mo_findVotes_115 (C : Cx p s m args meth c G b_Mo_findVotes 3 "PrairiePoolModel" none) (hlev : 5 ≤ lev) {r : Int × Mem}  : ∀ (n : Nat) (a2 : Int) (M : Mem), fix (fun _ _ => none) (k_Mo_findVotes_115) n a2 M = some r → Z p l e lev s m args below meth c G 3 (MQ below (Qm G 0 r) args s 0 0 (Ab G)) M 115 [(0, .ref (G.1 + 111)), (2, vi a2)] [] := by
  intro n
  induction n with
  | zero => intro a2 M h; exact nomatch (show (none : Res) = some r from h)
  | succ n ih => intro a2 M h; exact z_Mo_findVotes_115 C hlev ih h
def k_Mo_findVotes_2 (R2 : Int → Int → Mem → Res) (a1 a2 : Int) (M : Mem) : Res := blet (M 111 5) fun v1 => if w32 a2 < w32 v1 then (bcall (d_Mo_letNothing M) fun v3 M4 => blet (sto M4 156 2 (w32 a1)) fun M5 => blet (sto M5 156 3 (w32 (dv32 a1 52))) fun M6 => chk (0 ≤ w32 a2 ∧ w32 a2 < 20) <| blet (M6 116 (ix a2)) fun v8 => blet (sto M6 156 5 (w32 v8)) fun M9 => chk (0 ≤ w32 a2 ∧ w32 a2 < 20) <| blet (M9 117 (ix a2)) fun v11 => blet (sto M9 156 6 (w32 v11)) fun M12 => chk (0 ≤ w32 a2 ∧ w32 a2 < 20) <| blet (M12 115 (ix a2)) fun v14 => blet (sto M12 156 7 (w32 v14)) fun M15 => bcall (d_Mo_spelled 118 111 116 101 115 0 M15) fun v16 M17 => bcall (d_Mo_told v16 a1 1 M17) fun v18 M19 => bcall (d_Mo_cut1 v18 0 1000 M19) fun v20 M21 => chk (0 ≤ w32 a2 ∧ w32 a2 < 20) <| blet (sto M21 177 (ix a2) v20) fun M23 => blet (a2 + 1) fun v24 => R2 a1 v24 M23) else (fix (fun _ _ => none) (k_Mo_findVotes_115) FU 0 M)
theorem z_Mo_findVotes_2 (C : Cx p s m args meth c G b_Mo_findVotes 3 "PrairiePoolModel" none) (hlev : 5 ≤ lev) {r : Int × Mem} {R2 : Int → Int → Mem → Res} (hR2 : ∀ (a1 a2 : Int) (M : Mem), R2 a1 a2 M = some r → Z p l e lev s m args below meth c G 3 (MQ below (Qm G 0 r) args s 0 0 (Ab G)) M 2 [(0, .ref (G.1 + 111)), (1, vi a1), (2, vi a2)] []) {a1 a2 : Int} {M : Mem} (h : k_Mo_findVotes_2 R2 a1 a2 M = some r) : Z p l e lev s m args below meth c G 3 (MQ below (Qm G 0 r) args s 0 0 (Ab G)) M 2 [(0, .ref (G.1 + 111)), (1, vi a1), (2, vi a2)] [] := by
  unfold k_Mo_findVotes_2 at h
  refine z_iload_n C 2 x_Mo_findVotes_2 rfl ?_
  refine z_aload_n C 0 x_Mo_findVotes_3 rfl ?_
  obtain ⟨v1, ev1, h⟩ := blet_e h
  refine z_getI (j := 5) C x_Mo_findVotes_4 nk_111 ck_111 cw_12 (i_lt rfl) rfl rfl fl_Mo_291 ev1 ?_
  rcases ite_e h with ⟨c2, h⟩ | ⟨c2, h⟩
  · refine z_icmp_ge_f (tgt := 113) C x_Mo_findVotes_7 rfl c2 ?_
    refine z_aload_n C 0 x_Mo_findVotes_10 rfl ?_
    obtain ⟨v3, M4, fv3, h⟩ := bcall_e h
    refine z_callVv (k := 111) C x_Mo_findVotes_11 cv_Mo_344 (t_Mo_letNothing (lev := lev - 1) l G (by omega) fv3) nk_111 ck_111 rfl (by omega) rfl (i_le rfl) rfl ?_
    refine z_aload_n C 0 x_Mo_findVotes_14 rfl ?_
    refine z_getR (j := 68) C x_Mo_findVotes_15 nk_111 ck_111 cw_12 (i_lt rfl) rfl rf_111_68 rfl fl_Mo_151 ?_
    refine z_iconst C x_Mo_findVotes_18 ?_
    refine z_iload_n C 1 x_Mo_findVotes_19 rfl ?_
    refine z_i2l C x_Mo_findVotes_20 ?_
    obtain ⟨M5, eM5, h⟩ := blet_e h
    refine z_last C x_Mo_findVotes_21 nk_156 ck_156 (by decide) eM5 ?_
    refine z_aload_n C 0 x_Mo_findVotes_22 rfl ?_
    refine z_getR (j := 68) C x_Mo_findVotes_23 nk_111 ck_111 cw_12 (i_lt rfl) rfl rf_111_68 rfl fl_Mo_151 ?_
    refine z_iconst C x_Mo_findVotes_26 ?_
    refine z_iload_n C 1 x_Mo_findVotes_27 rfl ?_
    refine z_bipush C rfl x_Mo_findVotes_28 ?_
    refine z_idiv C (by decide) x_Mo_findVotes_30 ?_
    refine z_i2l C x_Mo_findVotes_31 ?_
    obtain ⟨M6, eM6, h⟩ := blet_e h
    refine z_last C x_Mo_findVotes_32 nk_156 ck_156 (by decide) eM6 ?_
    refine z_aload_n C 0 x_Mo_findVotes_33 rfl ?_
    refine z_getR (j := 68) C x_Mo_findVotes_34 nk_111 ck_111 cw_12 (i_lt rfl) rfl rf_111_68 rfl fl_Mo_151 ?_
    refine z_iconst C x_Mo_findVotes_37 ?_
    refine z_aload_n C 0 x_Mo_findVotes_38 rfl ?_
    refine z_getR (j := 12) C x_Mo_findVotes_39 nk_111 ck_111 cw_12 (i_lt rfl) rfl rf_111_12 rfl fl_Mo_23 ?_
    refine z_iload_n C 2 x_Mo_findVotes_42 rfl ?_
    obtain ⟨c7, h⟩ := chk_e h
    obtain ⟨v8, ev8, h⟩ := blet_e h
    refine z_iald C x_Mo_findVotes_43 nk_116 ck_116 c7 ev8 ?_
    refine z_i2l C x_Mo_findVotes_44 ?_
    obtain ⟨M9, eM9, h⟩ := blet_e h
    refine z_last C x_Mo_findVotes_45 nk_156 ck_156 (by decide) eM9 ?_
    refine z_aload_n C 0 x_Mo_findVotes_46 rfl ?_
    refine z_getR (j := 68) C x_Mo_findVotes_47 nk_111 ck_111 cw_12 (i_lt rfl) rfl rf_111_68 rfl fl_Mo_151 ?_
    refine z_bipush C rfl x_Mo_findVotes_50 ?_
    refine z_aload_n C 0 x_Mo_findVotes_52 rfl ?_
    refine z_getR (j := 13) C x_Mo_findVotes_53 nk_111 ck_111 cw_12 (i_lt rfl) rfl rf_111_13 rfl fl_Mo_26 ?_
    refine z_iload_n C 2 x_Mo_findVotes_56 rfl ?_
    obtain ⟨c10, h⟩ := chk_e h
    obtain ⟨v11, ev11, h⟩ := blet_e h
    refine z_iald C x_Mo_findVotes_57 nk_117 ck_117 c10 ev11 ?_
    refine z_i2l C x_Mo_findVotes_58 ?_
    obtain ⟨M12, eM12, h⟩ := blet_e h
    refine z_last C x_Mo_findVotes_59 nk_156 ck_156 (by decide) eM12 ?_
    refine z_aload_n C 0 x_Mo_findVotes_60 rfl ?_
    refine z_getR (j := 68) C x_Mo_findVotes_61 nk_111 ck_111 cw_12 (i_lt rfl) rfl rf_111_68 rfl fl_Mo_151 ?_
    refine z_bipush C rfl x_Mo_findVotes_64 ?_
    refine z_aload_n C 0 x_Mo_findVotes_66 rfl ?_
    refine z_getR (j := 11) C x_Mo_findVotes_67 nk_111 ck_111 cw_12 (i_lt rfl) rfl rf_111_11 rfl fl_Mo_20 ?_
    refine z_iload_n C 2 x_Mo_findVotes_70 rfl ?_
    obtain ⟨c13, h⟩ := chk_e h
    obtain ⟨v14, ev14, h⟩ := blet_e h
    refine z_iald C x_Mo_findVotes_71 nk_115 ck_115 c13 ev14 ?_
    refine z_i2l C x_Mo_findVotes_72 ?_
    obtain ⟨M15, eM15, h⟩ := blet_e h
    refine z_last C x_Mo_findVotes_73 nk_156 ck_156 (by decide) eM15 ?_
    refine z_aload_n C 0 x_Mo_findVotes_74 rfl ?_
    refine z_getR (j := 95) C x_Mo_findVotes_75 nk_111 ck_111 cw_12 (i_lt rfl) rfl rf_111_95 rfl fl_Mo_221 ?_
    refine z_iload_n C 2 x_Mo_findVotes_78 rfl ?_
    refine z_aload_n C 0 x_Mo_findVotes_79 rfl ?_
    refine z_bipush C rfl x_Mo_findVotes_80 ?_
    refine z_bipush C rfl x_Mo_findVotes_82 ?_
    refine z_bipush C rfl x_Mo_findVotes_84 ?_
    refine z_bipush C rfl x_Mo_findVotes_86 ?_
    refine z_bipush C rfl x_Mo_findVotes_88 ?_
    refine z_iconst C x_Mo_findVotes_90 ?_
    obtain ⟨v16, M17, fv16, h⟩ := bcall_e h
    refine z_callSl C x_Mo_findVotes_91 cs_Mo_350 (t_Mo_spelled (lev := lev - 1) l G (by omega) fv16) (by omega) rfl (i_le rfl) rfl ?_
    refine z_iload_n C 1 x_Mo_findVotes_94 rfl ?_
    refine z_lconst1 C x_Mo_findVotes_95 ?_
    obtain ⟨v18, M19, fv18, h⟩ := bcall_e h
    refine z_callVl (k := 111) C x_Mo_findVotes_96 cv_Mo_354 (t_Mo_told (lev := lev - 1) l G (by omega) fv18) nk_111 ck_111 rfl (by omega) rfl (i_le rfl) rfl ?_
    refine z_lconst0 C x_Mo_findVotes_99 ?_
    refine z_ldc2 C kl_Mo_326 x_Mo_findVotes_100 ?_
    obtain ⟨v20, M21, fv20, h⟩ := bcall_e h
    refine z_callSl C x_Mo_findVotes_103 cs_Mo_360 (t_Mo_cut1 (lev := lev - 1) l G (by omega) fv20) (by omega) rfl (i_le rfl) rfl ?_
    obtain ⟨c22, h⟩ := chk_e h
    obtain ⟨M23, eM23, h⟩ := blet_e h
    refine z_last C x_Mo_findVotes_106 nk_177 ck_177 c22 eM23 ?_
    obtain ⟨v24, ev24, h⟩ := blet_e h
    refine z_iinc (lv' := [(2, vi v24), (0, .ref (G.1 + 111)), (1, vi a1)]) C 2 ev24 x_Mo_findVotes_107 rfl (i_lt rfl) rfl ?_
    refine z_goto (tgt := 2) C x_Mo_findVotes_110 rfl ?_
    exact z_sub [1, 2, 0] rfl (hR2 a1 v24 M23 h)
  · refine z_icmp_ge_t (tgt := 113) C x_Mo_findVotes_7 rfl c2 ?_
    refine z_iconst C x_Mo_findVotes_113 ?_
    refine z_istore_n (lv' := [(2, vi 0), (0, .ref (G.1 + 111)), (1, vi a1)]) C rfl x_Mo_findVotes_114 (i_lt rfl) rfl ?_
    exact z_sub [1, 0] rfl (zl_Mo_findVotes_115 C hlev FU 0 M h)
theorem zl_Mo_findVotes_2 (C : Cx p s m args meth c G b_Mo_findVotes 3 "PrairiePoolModel" none) (hlev : 5 ≤ lev) {r : Int × Mem}  : ∀ (n : Nat) (a1 a2 : Int) (M : Mem), fix (fun _ _ _ => none) (k_Mo_findVotes_2) n a1 a2 M = some r → Z p l e lev s m args below meth c G 3 (MQ below (Qm G 0 r) args s 0 0 (Ab G)) M 2 [(0, .ref (G.1 + 111)), (1, vi a1), (2, vi a2)] [] := by
  intro n
  induction n with
  | zero => intro a1 a2 M h; exact nomatch (show (none : Res) = some r from h)
  | succ n ih => intro a1 a2 M h; exact z_Mo_findVotes_2 C hlev ih h
def d_Mo_findVotes (a1 : Int) (M : Mem) : Res := fix (fun _ _ _ => none) (k_Mo_findVotes_2) FU a1 0 M
theorem t_Mo_findVotes (l : Launch) (G : GX) {lev : Nat} (hlev : 5 ≤ lev) {a1 : Int} {M : Mem} {r : Int × Mem} (h : d_Mo_findVotes a1 M = some r) : Mt l G y_Mo_findVotes b_Mo_findVotes 3 none lev 0 [.ref (G.1 + 111), vi a1] M r := by
  refine Mt.of (by decide) (i_le rfl) ?_
  intro p e s m args below meth c C
  have C : Cx p s m args meth c G b_Mo_findVotes 3 "PrairiePoolModel" none := C
  unfold d_Mo_findVotes at h
  refine z_sub (lv' := [(0, .ref (G.1 + 111)), (1, vi a1)]) [0, 1] rfl ?_
  refine z_iconst C x_Mo_findVotes_0 ?_
  refine z_istore_n (lv' := [(2, vi 0), (0, .ref (G.1 + 111)), (1, vi a1)]) C rfl x_Mo_findVotes_1 (i_lt rfl) rfl ?_
  exact z_sub [1, 2, 0] rfl (zl_Mo_findVotes_2 C hlev FU a1 0 M h)
theorem x_Mo_isFor_0 : DC b_Mo_isFor 0 (.iconst 0) 1 1 := ⟨by decide +kernel, rfl⟩
theorem x_Mo_isFor_1 : DC b_Mo_isFor 1 (.istore_n 1) 1 2 := ⟨by decide +kernel, rfl⟩
theorem x_Mo_isFor_2 : DC b_Mo_isFor 2 (.iconst 0) 1 3 := ⟨by decide +kernel, rfl⟩
theorem x_Mo_isFor_3 : DC b_Mo_isFor 3 (.istore_n 2) 1 4 := ⟨by decide +kernel, rfl⟩
theorem x_Mo_isFor_4 : DC b_Mo_isFor 4 (.iload_n 2) 1 5 := ⟨by decide +kernel, rfl⟩
theorem x_Mo_isFor_5 : DC b_Mo_isFor 5 (.bipush 6) 2 7 := ⟨by decide +kernel, rfl⟩
theorem x_Mo_isFor_7 : DC b_Mo_isFor 7 (.if_icmp .ge 53) 3 10 := ⟨by decide +kernel, rfl⟩
theorem x_Mo_isFor_10 : DC b_Mo_isFor 10 (.iload_n 1) 1 11 := ⟨by decide +kernel, rfl⟩
theorem x_Mo_isFor_11 : DC b_Mo_isFor 11 (.aload_n 0) 1 12 := ⟨by decide +kernel, rfl⟩
theorem x_Mo_isFor_12 : DC b_Mo_isFor 12 (.getfield 215) 3 15 := ⟨by decide +kernel, rfl⟩
theorem x_Mo_isFor_15 : DC b_Mo_isFor 15 (.iload_n 2) 1 16 := ⟨by decide +kernel, rfl⟩
theorem x_Mo_isFor_16 : DC b_Mo_isFor 16 (.laload) 1 17 := ⟨by decide +kernel, rfl⟩
theorem x_Mo_isFor_17 : DC b_Mo_isFor 17 (.aload_n 0) 1 18 := ⟨by decide +kernel, rfl⟩
theorem x_Mo_isFor_18 : DC b_Mo_isFor 18 (.getfield 218) 3 21 := ⟨by decide +kernel, rfl⟩
theorem x_Mo_isFor_21 : DC b_Mo_isFor 21 (.iload_n 2) 1 22 := ⟨by decide +kernel, rfl⟩
theorem x_Mo_isFor_22 : DC b_Mo_isFor 22 (.laload) 1 23 := ⟨by decide +kernel, rfl⟩
theorem x_Mo_isFor_23 : DC b_Mo_isFor 23 (.lcmp) 1 24 := ⟨by decide +kernel, rfl⟩
theorem x_Mo_isFor_24 : DC b_Mo_isFor 24 (.ifCond .le 7) 3 27 := ⟨by decide +kernel, rfl⟩
theorem x_Mo_isFor_27 : DC b_Mo_isFor 27 (.iconst 1) 1 28 := ⟨by decide +kernel, rfl⟩
theorem x_Mo_isFor_28 : DC b_Mo_isFor 28 (.goto 24) 3 31 := ⟨by decide +kernel, rfl⟩
theorem x_Mo_isFor_31 : DC b_Mo_isFor 31 (.aload_n 0) 1 32 := ⟨by decide +kernel, rfl⟩
theorem x_Mo_isFor_32 : DC b_Mo_isFor 32 (.getfield 215) 3 35 := ⟨by decide +kernel, rfl⟩
theorem x_Mo_isFor_35 : DC b_Mo_isFor 35 (.iload_n 2) 1 36 := ⟨by decide +kernel, rfl⟩
theorem x_Mo_isFor_36 : DC b_Mo_isFor 36 (.laload) 1 37 := ⟨by decide +kernel, rfl⟩
theorem x_Mo_isFor_37 : DC b_Mo_isFor 37 (.aload_n 0) 1 38 := ⟨by decide +kernel, rfl⟩
theorem x_Mo_isFor_38 : DC b_Mo_isFor 38 (.getfield 218) 3 41 := ⟨by decide +kernel, rfl⟩
theorem x_Mo_isFor_41 : DC b_Mo_isFor 41 (.iload_n 2) 1 42 := ⟨by decide +kernel, rfl⟩
theorem x_Mo_isFor_42 : DC b_Mo_isFor 42 (.laload) 1 43 := ⟨by decide +kernel, rfl⟩
theorem x_Mo_isFor_43 : DC b_Mo_isFor 43 (.lcmp) 1 44 := ⟨by decide +kernel, rfl⟩
theorem x_Mo_isFor_44 : DC b_Mo_isFor 44 (.ifCond .ge 7) 3 47 := ⟨by decide +kernel, rfl⟩
theorem x_Mo_isFor_47 : DC b_Mo_isFor 47 (.iconst (-1)) 1 48 := ⟨by decide +kernel, rfl⟩
theorem x_Mo_isFor_48 : DC b_Mo_isFor 48 (.goto 4) 3 51 := ⟨by decide +kernel, rfl⟩
theorem x_Mo_isFor_51 : DC b_Mo_isFor 51 (.iconst 0) 1 52 := ⟨by decide +kernel, rfl⟩
theorem x_Mo_isFor_52 : DC b_Mo_isFor 52 (.iadd) 1 53 := ⟨by decide +kernel, rfl⟩
theorem x_Mo_isFor_53 : DC b_Mo_isFor 53 (.istore_n 1) 1 54 := ⟨by decide +kernel, rfl⟩
theorem x_Mo_isFor_54 : DC b_Mo_isFor 54 (.iinc 2 1) 3 57 := ⟨by decide +kernel, rfl⟩
theorem x_Mo_isFor_57 : DC b_Mo_isFor 57 (.goto (-53)) 3 60 := ⟨by decide +kernel, rfl⟩
theorem x_Mo_isFor_60 : DC b_Mo_isFor 60 (.iload_n 1) 1 61 := ⟨by decide +kernel, rfl⟩
theorem x_Mo_isFor_61 : DC b_Mo_isFor 61 (.ifCond .le 7) 3 64 := ⟨by decide +kernel, rfl⟩
theorem x_Mo_isFor_64 : DC b_Mo_isFor 64 (.iconst 1) 1 65 := ⟨by decide +kernel, rfl⟩
theorem x_Mo_isFor_65 : DC b_Mo_isFor 65 (.goto 4) 3 68 := ⟨by decide +kernel, rfl⟩
theorem x_Mo_isFor_68 : DC b_Mo_isFor 68 (.iconst 0) 1 69 := ⟨by decide +kernel, rfl⟩
theorem x_Mo_isFor_69 : DC b_Mo_isFor 69 (.ireturn) 1 70 := ⟨by decide +kernel, rfl⟩
def k_Mo_isFor_52 (R4 : Int → Int → Mem → Res) (a2 s0 s1 : Int) (M : Mem) : Res := blet (s0 + s1) fun v1 => blet (a2 + 1) fun v2 => R4 v1 v2 M
theorem z_Mo_isFor_52 (C : Cx p s m args meth c G b_Mo_isFor 3 "PrairiePoolModel" (some .boolean)) (hlev : 0 ≤ lev) {r : Int × Mem} {R4 : Int → Int → Mem → Res} (hR4 : ∀ (a1 a2 : Int) (M : Mem), R4 a1 a2 M = some r → Z p l e lev s m args below meth c G 3 (MQ below (Qm G 1 r) args s 0 0 (Ab G)) M 4 [(0, .ref (G.1 + 111)), (1, vi a1), (2, vi a2)] []) {a2 s0 s1 : Int} {M : Mem} (h : k_Mo_isFor_52 R4 a2 s0 s1 M = some r) : Z p l e lev s m args below meth c G 3 (MQ below (Qm G 1 r) args s 0 0 (Ab G)) M 52 [(0, .ref (G.1 + 111)), (2, vi a2)] [vi s1, vi s0] := by
  unfold k_Mo_isFor_52 at h
  refine z_iadd C x_Mo_isFor_52 ?_
  obtain ⟨v1, ev1, h⟩ := blet_e h
  refine z_istore_n (lv' := [(1, vi v1), (0, .ref (G.1 + 111)), (2, vi a2)]) C ev1 x_Mo_isFor_53 (i_lt rfl) rfl ?_
  obtain ⟨v2, ev2, h⟩ := blet_e h
  refine z_iinc (lv' := [(2, vi v2), (1, vi v1), (0, .ref (G.1 + 111))]) C 2 ev2 x_Mo_isFor_54 rfl (i_lt rfl) rfl ?_
  refine z_goto (tgt := 4) C x_Mo_isFor_57 rfl ?_
  exact z_sub [2, 1, 0] rfl (hR4 v1 v2 M h)
def k_Mo_isFor_4 (R4 : Int → Int → Mem → Res) (a1 a2 : Int) (M : Mem) : Res := if w32 a2 < 6 then (chk (0 ≤ w32 a2 ∧ w32 a2 < 6) <| blet (M 175 (ix a2)) fun v3 => chk (0 ≤ w32 a2 ∧ w32 a2 < 6) <| blet (M 176 (ix a2)) fun v5 => if w64 v5 < w64 v3 then (k_Mo_isFor_52 R4 a2 a1 1 M) else (chk (0 ≤ w32 a2 ∧ w32 a2 < 6) <| blet (M 175 (ix a2)) fun v8 => chk (0 ≤ w32 a2 ∧ w32 a2 < 6) <| blet (M 176 (ix a2)) fun v10 => if w64 v8 < w64 v10 then (k_Mo_isFor_52 R4 a2 a1 (-1) M) else (k_Mo_isFor_52 R4 a2 a1 0 M))) else (if 0 < w32 a1 then (some (1, M)) else (some (0, M)))
theorem z_Mo_isFor_4 (C : Cx p s m args meth c G b_Mo_isFor 3 "PrairiePoolModel" (some .boolean)) (hlev : 0 ≤ lev) {r : Int × Mem} {R4 : Int → Int → Mem → Res} (hR4 : ∀ (a1 a2 : Int) (M : Mem), R4 a1 a2 M = some r → Z p l e lev s m args below meth c G 3 (MQ below (Qm G 1 r) args s 0 0 (Ab G)) M 4 [(0, .ref (G.1 + 111)), (1, vi a1), (2, vi a2)] []) {a1 a2 : Int} {M : Mem} (h : k_Mo_isFor_4 R4 a1 a2 M = some r) : Z p l e lev s m args below meth c G 3 (MQ below (Qm G 1 r) args s 0 0 (Ab G)) M 4 [(0, .ref (G.1 + 111)), (1, vi a1), (2, vi a2)] [] := by
  unfold k_Mo_isFor_4 at h
  refine z_iload_n C 2 x_Mo_isFor_4 rfl ?_
  refine z_bipush C rfl x_Mo_isFor_5 ?_
  rcases ite_e h with ⟨c1, h⟩ | ⟨c1, h⟩
  · refine z_icmp_ge_f (tgt := 60) C x_Mo_isFor_7 rfl c1 ?_
    refine z_iload_n C 1 x_Mo_isFor_10 rfl ?_
    refine z_aload_n C 0 x_Mo_isFor_11 rfl ?_
    refine z_getR (j := 93) C x_Mo_isFor_12 nk_111 ck_111 cw_12 (i_lt rfl) rfl rf_111_93 rfl fl_Mo_215 ?_
    refine z_iload_n C 2 x_Mo_isFor_15 rfl ?_
    obtain ⟨c2, h⟩ := chk_e h
    obtain ⟨v3, ev3, h⟩ := blet_e h
    refine z_lald C x_Mo_isFor_16 nk_175 ck_175 c2 ev3 ?_
    refine z_aload_n C 0 x_Mo_isFor_17 rfl ?_
    refine z_getR (j := 94) C x_Mo_isFor_18 nk_111 ck_111 cw_12 (i_lt rfl) rfl rf_111_94 rfl fl_Mo_218 ?_
    refine z_iload_n C 2 x_Mo_isFor_21 rfl ?_
    obtain ⟨c4, h⟩ := chk_e h
    obtain ⟨v5, ev5, h⟩ := blet_e h
    refine z_lald C x_Mo_isFor_22 nk_176 ck_176 c4 ev5 ?_
    refine z_lcmp C x_Mo_isFor_23 ?_
    rcases ite_e h with ⟨c6, h⟩ | ⟨c6, h⟩
    · refine z_if_le_f (tgt := 31) C x_Mo_isFor_24 rfl (cm_gt.mpr c6) ?_
      refine z_iconst C x_Mo_isFor_27 ?_
      refine z_goto (tgt := 52) C x_Mo_isFor_28 rfl ?_
      exact z_sub [0, 2] rfl (z_Mo_isFor_52 C hlev hR4 h)
    · refine z_if_le_t (tgt := 31) C x_Mo_isFor_24 rfl (fun q => c6 (cm_gt.mp q)) ?_
      refine z_aload_n C 0 x_Mo_isFor_31 rfl ?_
      refine z_getR (j := 93) C x_Mo_isFor_32 nk_111 ck_111 cw_12 (i_lt rfl) rfl rf_111_93 rfl fl_Mo_215 ?_
      refine z_iload_n C 2 x_Mo_isFor_35 rfl ?_
      obtain ⟨c7, h⟩ := chk_e h
      obtain ⟨v8, ev8, h⟩ := blet_e h
      refine z_lald C x_Mo_isFor_36 nk_175 ck_175 c7 ev8 ?_
      refine z_aload_n C 0 x_Mo_isFor_37 rfl ?_
      refine z_getR (j := 94) C x_Mo_isFor_38 nk_111 ck_111 cw_12 (i_lt rfl) rfl rf_111_94 rfl fl_Mo_218 ?_
      refine z_iload_n C 2 x_Mo_isFor_41 rfl ?_
      obtain ⟨c9, h⟩ := chk_e h
      obtain ⟨v10, ev10, h⟩ := blet_e h
      refine z_lald C x_Mo_isFor_42 nk_176 ck_176 c9 ev10 ?_
      refine z_lcmp C x_Mo_isFor_43 ?_
      rcases ite_e h with ⟨c11, h⟩ | ⟨c11, h⟩
      · refine z_if_ge_f (tgt := 51) C x_Mo_isFor_44 rfl (cm_lt.mpr c11) ?_
        refine z_iconst C x_Mo_isFor_47 ?_
        refine z_goto (tgt := 52) C x_Mo_isFor_48 rfl ?_
        exact z_sub [0, 2] rfl (z_Mo_isFor_52 C hlev hR4 h)
      · refine z_if_ge_t (tgt := 51) C x_Mo_isFor_44 rfl (fun q => c11 (cm_lt.mp q)) ?_
        refine z_iconst C x_Mo_isFor_51 ?_
        exact z_sub [0, 2] rfl (z_Mo_isFor_52 C hlev hR4 h)
  · refine z_icmp_ge_t (tgt := 60) C x_Mo_isFor_7 rfl c1 ?_
    refine z_iload_n C 1 x_Mo_isFor_60 rfl ?_
    rcases ite_e h with ⟨c12, h⟩ | ⟨c12, h⟩
    · refine z_if_le_f (tgt := 68) C x_Mo_isFor_61 rfl c12 ?_
      refine z_iconst C x_Mo_isFor_64 ?_
      refine z_goto (tgt := 69) C x_Mo_isFor_65 rfl ?_
      exact z_zret C x_Mo_isFor_69 (by decide) h
    · refine z_if_le_t (tgt := 68) C x_Mo_isFor_61 rfl c12 ?_
      refine z_iconst C x_Mo_isFor_68 ?_
      exact z_zret C x_Mo_isFor_69 (by decide) h
theorem zl_Mo_isFor_4 (C : Cx p s m args meth c G b_Mo_isFor 3 "PrairiePoolModel" (some .boolean)) (hlev : 0 ≤ lev) {r : Int × Mem}  : ∀ (n : Nat) (a1 a2 : Int) (M : Mem), fix (fun _ _ _ => none) (k_Mo_isFor_4) n a1 a2 M = some r → Z p l e lev s m args below meth c G 3 (MQ below (Qm G 1 r) args s 0 0 (Ab G)) M 4 [(0, .ref (G.1 + 111)), (1, vi a1), (2, vi a2)] [] := by
  intro n
  induction n with
  | zero => intro a1 a2 M h; exact nomatch (show (none : Res) = some r from h)
  | succ n ih => intro a1 a2 M h; exact z_Mo_isFor_4 C hlev ih h
def d_Mo_isFor (M : Mem) : Res := fix (fun _ _ _ => none) (k_Mo_isFor_4) FU 0 0 M
theorem t_Mo_isFor (l : Launch) (G : GX) {lev : Nat} (hlev : 0 ≤ lev) {M : Mem} {r : Int × Mem} (h : d_Mo_isFor M = some r) : Mt l G y_Mo_isFor b_Mo_isFor 3 (some .boolean) lev 1 [.ref (G.1 + 111)] M r := by
  refine Mt.of (by decide) (i_le rfl) ?_
  intro p e s m args below meth c C
  have C : Cx p s m args meth c G b_Mo_isFor 3 "PrairiePoolModel" (some .boolean) := C
  unfold d_Mo_isFor at h
  refine z_sub (lv' := [(0, .ref (G.1 + 111))]) [0] rfl ?_
  refine z_iconst C x_Mo_isFor_0 ?_
  refine z_istore_n (lv' := [(1, vi 0), (0, .ref (G.1 + 111))]) C rfl x_Mo_isFor_1 (i_lt rfl) rfl ?_
  refine z_iconst C x_Mo_isFor_2 ?_
  refine z_istore_n (lv' := [(2, vi 0), (1, vi 0), (0, .ref (G.1 + 111))]) C rfl x_Mo_isFor_3 (i_lt rfl) rfl ?_
  exact z_sub [2, 1, 0] rfl (zl_Mo_isFor_4 C hlev FU 0 0 M h)
theorem x_Mo_result_0 : DC b_Mo_result 0 (.aload_n 0) 1 1 := ⟨by decide +kernel, rfl⟩
theorem x_Mo_result_1 : DC b_Mo_result 1 (.iconst 0) 1 2 := ⟨by decide +kernel, rfl⟩
theorem x_Mo_result_2 : DC b_Mo_result 2 (.putfield 257) 3 5 := ⟨by decide +kernel, rfl⟩
theorem x_Mo_result_5 : DC b_Mo_result 5 (.aload_n 0) 1 6 := ⟨by decide +kernel, rfl⟩
theorem x_Mo_result_6 : DC b_Mo_result 6 (.iconst 0) 1 7 := ⟨by decide +kernel, rfl⟩
theorem x_Mo_result_7 : DC b_Mo_result 7 (.putfield 260) 3 10 := ⟨by decide +kernel, rfl⟩
theorem x_Mo_result_10 : DC b_Mo_result 10 (.iload_n 1) 1 11 := ⟨by decide +kernel, rfl⟩
theorem x_Mo_result_11 : DC b_Mo_result 11 (.i2l) 1 12 := ⟨by decide +kernel, rfl⟩
theorem x_Mo_result_12 : DC b_Mo_result 12 (.ldc2_w 289) 3 15 := ⟨by decide +kernel, rfl⟩
theorem x_Mo_result_15 : DC b_Mo_result 15 (.ldc2_w 271) 3 18 := ⟨by decide +kernel, rfl⟩
theorem x_Mo_result_18 : DC b_Mo_result 18 (.invokestatic 265) 3 21 := ⟨by decide +kernel, rfl⟩
theorem x_Mo_result_21 : DC b_Mo_result 21 (.ifCond .ne 9) 3 24 := ⟨by decide +kernel, rfl⟩
theorem x_Mo_result_24 : DC b_Mo_result 24 (.aload_n 0) 1 25 := ⟨by decide +kernel, rfl⟩
theorem x_Mo_result_25 : DC b_Mo_result 25 (.iconst 2) 1 26 := ⟨by decide +kernel, rfl⟩
theorem x_Mo_result_26 : DC b_Mo_result 26 (.invokevirtual 297) 3 29 := ⟨by decide +kernel, rfl⟩
theorem x_Mo_result_29 : DC b_Mo_result 29 (.ireturn) 1 30 := ⟨by decide +kernel, rfl⟩
theorem x_Mo_result_30 : DC b_Mo_result 30 (.iload_n 2) 1 31 := ⟨by decide +kernel, rfl⟩
theorem x_Mo_result_31 : DC b_Mo_result 31 (.invokestatic 306) 3 34 := ⟨by decide +kernel, rfl⟩
theorem x_Mo_result_34 : DC b_Mo_result 34 (.ifCond .ne 9) 3 37 := ⟨by decide +kernel, rfl⟩
theorem x_Mo_result_37 : DC b_Mo_result 37 (.aload_n 0) 1 38 := ⟨by decide +kernel, rfl⟩
theorem x_Mo_result_38 : DC b_Mo_result 38 (.iconst 5) 1 39 := ⟨by decide +kernel, rfl⟩
theorem x_Mo_result_39 : DC b_Mo_result 39 (.invokevirtual 297) 3 42 := ⟨by decide +kernel, rfl⟩
theorem x_Mo_result_42 : DC b_Mo_result 42 (.ireturn) 1 43 := ⟨by decide +kernel, rfl⟩
theorem x_Mo_result_43 : DC b_Mo_result 43 (.aload_n 0) 1 44 := ⟨by decide +kernel, rfl⟩
theorem x_Mo_result_44 : DC b_Mo_result 44 (.iload_n 2) 1 45 := ⟨by decide +kernel, rfl⟩
theorem x_Mo_result_45 : DC b_Mo_result 45 (.invokevirtual 641) 3 48 := ⟨by decide +kernel, rfl⟩
theorem x_Mo_result_48 : DC b_Mo_result 48 (.iload_n 1) 1 49 := ⟨by decide +kernel, rfl⟩
theorem x_Mo_result_49 : DC b_Mo_result 49 (.iconst (-1)) 1 50 := ⟨by decide +kernel, rfl⟩
theorem x_Mo_result_50 : DC b_Mo_result 50 (.if_icmp .ne 13) 3 53 := ⟨by decide +kernel, rfl⟩
theorem x_Mo_result_53 : DC b_Mo_result 53 (.aload_n 0) 1 54 := ⟨by decide +kernel, rfl⟩
theorem x_Mo_result_54 : DC b_Mo_result 54 (.invokevirtual 644) 3 57 := ⟨by decide +kernel, rfl⟩
theorem x_Mo_result_57 : DC b_Mo_result 57 (.ifCond .eq 26) 3 60 := ⟨by decide +kernel, rfl⟩
theorem x_Mo_result_60 : DC b_Mo_result 60 (.goto 19) 3 63 := ⟨by decide +kernel, rfl⟩
theorem x_Mo_result_63 : DC b_Mo_result 63 (.aload_n 0) 1 64 := ⟨by decide +kernel, rfl⟩
theorem x_Mo_result_64 : DC b_Mo_result 64 (.getfield 215) 3 67 := ⟨by decide +kernel, rfl⟩
theorem x_Mo_result_67 : DC b_Mo_result 67 (.iload_n 1) 1 68 := ⟨by decide +kernel, rfl⟩
theorem x_Mo_result_68 : DC b_Mo_result 68 (.laload) 1 69 := ⟨by decide +kernel, rfl⟩
theorem x_Mo_result_69 : DC b_Mo_result 69 (.aload_n 0) 1 70 := ⟨by decide +kernel, rfl⟩
theorem x_Mo_result_70 : DC b_Mo_result 70 (.getfield 218) 3 73 := ⟨by decide +kernel, rfl⟩
theorem x_Mo_result_73 : DC b_Mo_result 73 (.iload_n 1) 1 74 := ⟨by decide +kernel, rfl⟩
theorem x_Mo_result_74 : DC b_Mo_result 74 (.laload) 1 75 := ⟨by decide +kernel, rfl⟩
theorem x_Mo_result_75 : DC b_Mo_result 75 (.lcmp) 1 76 := ⟨by decide +kernel, rfl⟩
theorem x_Mo_result_76 : DC b_Mo_result 76 (.ifCond .le 7) 3 79 := ⟨by decide +kernel, rfl⟩
theorem x_Mo_result_79 : DC b_Mo_result 79 (.iconst 1) 1 80 := ⟨by decide +kernel, rfl⟩
theorem x_Mo_result_80 : DC b_Mo_result 80 (.goto 4) 3 83 := ⟨by decide +kernel, rfl⟩
theorem x_Mo_result_83 : DC b_Mo_result 83 (.iconst 0) 1 84 := ⟨by decide +kernel, rfl⟩
theorem x_Mo_result_84 : DC b_Mo_result 84 (.ireturn) 1 85 := ⟨by decide +kernel, rfl⟩
def k_Mo_result_79 (M : Mem) : Res := some (1, M)
theorem z_Mo_result_79 (C : Cx p s m args meth c G b_Mo_result 3 "PrairiePoolModel" (some .int)) (hlev : 6 ≤ lev) {r : Int × Mem}  {M : Mem} (h : k_Mo_result_79 M = some r) : Z p l e lev s m args below meth c G 3 (MQ below (Qm G 1 r) args s 0 0 (Ab G)) M 79 [] [] := by
  unfold k_Mo_result_79 at h
  refine z_iconst C x_Mo_result_79 ?_
  refine z_goto (tgt := 84) C x_Mo_result_80 rfl ?_
  exact z_iret C x_Mo_result_84 h
def d_Mo_result (a1 a2 : Int) (M : Mem) : Res := blet (sto M 111 1 0) fun M1 => blet (sto M1 111 0 0) fun M2 => bcall (d_Mo_isIn (w32 a1) (-1) 5 M2) fun v3 M4 => if w32 v3 = 0 then (bcall (d_Mo_refuse 2 M4) fun v6 M7 => some (v6, M7)) else (bcall (d_Mo_isDay a2 M4) fun v8 M9 => if w32 v8 = 0 then (bcall (d_Mo_refuse 5 M9) fun v11 M12 => some (v11, M12)) else (bcall (d_Mo_findVotes a2 M9) fun v13 M14 => if w32 a1 = (-1) then (bcall (d_Mo_isFor M14) fun v16 M17 => if w32 v16 = 0 then (some (0, M17)) else (k_Mo_result_79 M17)) else (chk (0 ≤ w32 a1 ∧ w32 a1 < 6) <| blet (M14 175 (ix a1)) fun v20 => chk (0 ≤ w32 a1 ∧ w32 a1 < 6) <| blet (M14 176 (ix a1)) fun v22 => if w64 v22 < w64 v20 then (k_Mo_result_79 M14) else (some (0, M14)))))
theorem t_Mo_result (l : Launch) (G : GX) {lev : Nat} (hlev : 6 ≤ lev) {a1 a2 : Int} {M : Mem} {r : Int × Mem} (h : d_Mo_result a1 a2 M = some r) : Mt l G y_Mo_result b_Mo_result 3 (some .int) lev 1 [.ref (G.1 + 111), vi a1, vi a2] M r := by
  refine Mt.of (by decide) (i_le rfl) ?_
  intro p e s m args below meth c C
  have C : Cx p s m args meth c G b_Mo_result 3 "PrairiePoolModel" (some .int) := C
  unfold d_Mo_result at h
  refine z_sub (lv' := [(0, .ref (G.1 + 111)), (1, vi a1), (2, vi a2)]) [0, 1, 2] rfl ?_
  refine z_aload_n C 0 x_Mo_result_0 rfl ?_
  refine z_iconst C x_Mo_result_1 ?_
  obtain ⟨M1, eM1, h⟩ := blet_e h
  refine z_putI (j := 1) C x_Mo_result_2 nk_111 ck_111 cw_12 (i_lt rfl) rfl rfl rfl rfl fl_Mo_257 eM1 ?_
  refine z_aload_n C 0 x_Mo_result_5 rfl ?_
  refine z_iconst C x_Mo_result_6 ?_
  obtain ⟨M2, eM2, h⟩ := blet_e h
  refine z_putI (j := 0) C x_Mo_result_7 nk_111 ck_111 cw_12 (i_lt rfl) rfl rfl rfl rfl fl_Mo_260 eM2 ?_
  refine z_iload_n C 1 x_Mo_result_10 rfl ?_
  refine z_i2l C x_Mo_result_11 ?_
  refine z_ldc2 C kl_Mo_289 x_Mo_result_12 ?_
  refine z_ldc2 C kl_Mo_271 x_Mo_result_15 ?_
  obtain ⟨v3, M4, fv3, h⟩ := bcall_e h
  refine z_callSi C x_Mo_result_18 cs_Mo_265 (t_Mo_isIn (lev := lev - 1) l G (by omega) fv3) (by omega) rfl (i_le rfl) rfl ?_
  rcases ite_e h with ⟨c5, h⟩ | ⟨c5, h⟩
  · refine z_if_ne_f (tgt := 30) C x_Mo_result_21 rfl c5 ?_
    refine z_aload_n C 0 x_Mo_result_24 rfl ?_
    refine z_iconst C x_Mo_result_25 ?_
    obtain ⟨v6, M7, fv6, h⟩ := bcall_e h
    refine z_callVi (k := 111) C x_Mo_result_26 cv_Mo_297 (t_Mo_refuse (lev := lev - 1) l G (by omega) fv6) nk_111 ck_111 rfl (by omega) rfl (i_le rfl) rfl ?_
    exact z_iret C x_Mo_result_29 h
  · refine z_if_ne_t (tgt := 30) C x_Mo_result_21 rfl c5 ?_
    refine z_iload_n C 2 x_Mo_result_30 rfl ?_
    obtain ⟨v8, M9, fv8, h⟩ := bcall_e h
    refine z_callSi C x_Mo_result_31 cs_Mo_306 (t_Mo_isDay (lev := lev - 1) l G (by omega) fv8) (by omega) rfl (i_le rfl) rfl ?_
    rcases ite_e h with ⟨c10, h⟩ | ⟨c10, h⟩
    · refine z_if_ne_f (tgt := 43) C x_Mo_result_34 rfl c10 ?_
      refine z_aload_n C 0 x_Mo_result_37 rfl ?_
      refine z_iconst C x_Mo_result_38 ?_
      obtain ⟨v11, M12, fv11, h⟩ := bcall_e h
      refine z_callVi (k := 111) C x_Mo_result_39 cv_Mo_297 (t_Mo_refuse (lev := lev - 1) l G (by omega) fv11) nk_111 ck_111 rfl (by omega) rfl (i_le rfl) rfl ?_
      exact z_iret C x_Mo_result_42 h
    · refine z_if_ne_t (tgt := 43) C x_Mo_result_34 rfl c10 ?_
      refine z_aload_n C 0 x_Mo_result_43 rfl ?_
      refine z_iload_n C 2 x_Mo_result_44 rfl ?_
      obtain ⟨v13, M14, fv13, h⟩ := bcall_e h
      refine z_callVv (k := 111) C x_Mo_result_45 cv_Mo_641 (t_Mo_findVotes (lev := lev - 1) l G (by omega) fv13) nk_111 ck_111 rfl (by omega) rfl (i_le rfl) rfl ?_
      refine z_iload_n C 1 x_Mo_result_48 rfl ?_
      refine z_iconst C x_Mo_result_49 ?_
      rcases ite_e h with ⟨c15, h⟩ | ⟨c15, h⟩
      · refine z_icmp_ne_f (tgt := 63) C x_Mo_result_50 rfl c15 ?_
        refine z_aload_n C 0 x_Mo_result_53 rfl ?_
        obtain ⟨v16, M17, fv16, h⟩ := bcall_e h
        refine z_callVi (k := 111) C x_Mo_result_54 cv_Mo_644 (t_Mo_isFor (lev := lev - 1) l G (by omega) fv16) nk_111 ck_111 rfl (by omega) rfl (i_le rfl) rfl ?_
        rcases ite_e h with ⟨c18, h⟩ | ⟨c18, h⟩
        · refine z_if_eq_t (tgt := 83) C x_Mo_result_57 rfl c18 ?_
          refine z_iconst C x_Mo_result_83 ?_
          exact z_iret C x_Mo_result_84 h
        · refine z_if_eq_f (tgt := 83) C x_Mo_result_57 rfl c18 ?_
          refine z_goto (tgt := 79) C x_Mo_result_60 rfl ?_
          exact z_sub [] rfl (z_Mo_result_79 C hlev h)
      · refine z_icmp_ne_t (tgt := 63) C x_Mo_result_50 rfl c15 ?_
        refine z_aload_n C 0 x_Mo_result_63 rfl ?_
        refine z_getR (j := 93) C x_Mo_result_64 nk_111 ck_111 cw_12 (i_lt rfl) rfl rf_111_93 rfl fl_Mo_215 ?_
        refine z_iload_n C 1 x_Mo_result_67 rfl ?_
        obtain ⟨c19, h⟩ := chk_e h
        obtain ⟨v20, ev20, h⟩ := blet_e h
        refine z_lald C x_Mo_result_68 nk_175 ck_175 c19 ev20 ?_
        refine z_aload_n C 0 x_Mo_result_69 rfl ?_
        refine z_getR (j := 94) C x_Mo_result_70 nk_111 ck_111 cw_12 (i_lt rfl) rfl rf_111_94 rfl fl_Mo_218 ?_
        refine z_iload_n C 1 x_Mo_result_73 rfl ?_
        obtain ⟨c21, h⟩ := chk_e h
        obtain ⟨v22, ev22, h⟩ := blet_e h
        refine z_lald C x_Mo_result_74 nk_176 ck_176 c21 ev22 ?_
        refine z_lcmp C x_Mo_result_75 ?_
        rcases ite_e h with ⟨c23, h⟩ | ⟨c23, h⟩
        · refine z_if_le_f (tgt := 83) C x_Mo_result_76 rfl (cm_gt.mpr c23) ?_
          exact z_sub [] rfl (z_Mo_result_79 C hlev h)
        · refine z_if_le_t (tgt := 83) C x_Mo_result_76 rfl (fun q => c23 (cm_gt.mp q)) ?_
          refine z_iconst C x_Mo_result_83 ?_
          exact z_iret C x_Mo_result_84 h
theorem x_Mo_add_0 : DC b_Mo_add 0 (.iconst 0) 1 1 := ⟨by decide +kernel, rfl⟩
theorem x_Mo_add_1 : DC b_Mo_add 1 (.istore 5) 2 3 := ⟨by decide +kernel, rfl⟩
theorem x_Mo_add_3 : DC b_Mo_add 3 (.iload 5) 2 5 := ⟨by decide +kernel, rfl⟩
theorem x_Mo_add_5 : DC b_Mo_add 5 (.iload_n 2) 1 6 := ⟨by decide +kernel, rfl⟩
theorem x_Mo_add_6 : DC b_Mo_add 6 (.if_icmp .ge 89) 3 9 := ⟨by decide +kernel, rfl⟩
theorem x_Mo_add_9 : DC b_Mo_add 9 (.iload_n 1) 1 10 := ⟨by decide +kernel, rfl⟩
theorem x_Mo_add_10 : DC b_Mo_add 10 (.iload 5) 2 12 := ⟨by decide +kernel, rfl⟩
theorem x_Mo_add_12 : DC b_Mo_add 12 (.ishr) 1 13 := ⟨by decide +kernel, rfl⟩
theorem x_Mo_add_13 : DC b_Mo_add 13 (.iconst 1) 1 14 := ⟨by decide +kernel, rfl⟩
theorem x_Mo_add_14 : DC b_Mo_add 14 (.iand) 1 15 := ⟨by decide +kernel, rfl⟩
theorem x_Mo_add_15 : DC b_Mo_add 15 (.ifCond .ne 6) 3 18 := ⟨by decide +kernel, rfl⟩
theorem x_Mo_add_18 : DC b_Mo_add 18 (.goto 71) 3 21 := ⟨by decide +kernel, rfl⟩
theorem x_Mo_add_21 : DC b_Mo_add 21 (.aload_n 0) 1 22 := ⟨by decide +kernel, rfl⟩
theorem x_Mo_add_22 : DC b_Mo_add 22 (.getfield 209) 3 25 := ⟨by decide +kernel, rfl⟩
theorem x_Mo_add_25 : DC b_Mo_add 25 (.iload 5) 2 27 := ⟨by decide +kernel, rfl⟩
theorem x_Mo_add_27 : DC b_Mo_add 27 (.iaload) 1 28 := ⟨by decide +kernel, rfl⟩
theorem x_Mo_add_28 : DC b_Mo_add 28 (.istore 6) 2 30 := ⟨by decide +kernel, rfl⟩
theorem x_Mo_add_30 : DC b_Mo_add 30 (.iload_n 3) 1 31 := ⟨by decide +kernel, rfl⟩
theorem x_Mo_add_31 : DC b_Mo_add 31 (.ifCond .eq 32) 3 34 := ⟨by decide +kernel, rfl⟩
theorem x_Mo_add_34 : DC b_Mo_add 34 (.aload_n 0) 1 35 := ⟨by decide +kernel, rfl⟩
theorem x_Mo_add_35 : DC b_Mo_add 35 (.getfield 218) 3 38 := ⟨by decide +kernel, rfl⟩
theorem x_Mo_add_38 : DC b_Mo_add 38 (.aload_n 0) 1 39 := ⟨by decide +kernel, rfl⟩
theorem x_Mo_add_39 : DC b_Mo_add 39 (.getfield 20) 3 42 := ⟨by decide +kernel, rfl⟩
theorem x_Mo_add_42 : DC b_Mo_add 42 (.iload 6) 2 44 := ⟨by decide +kernel, rfl⟩
theorem x_Mo_add_44 : DC b_Mo_add 44 (.iaload) 1 45 := ⟨by decide +kernel, rfl⟩
theorem x_Mo_add_45 : DC b_Mo_add 45 (.dup2) 1 46 := ⟨by decide +kernel, rfl⟩
theorem x_Mo_add_46 : DC b_Mo_add 46 (.laload) 1 47 := ⟨by decide +kernel, rfl⟩
theorem x_Mo_add_47 : DC b_Mo_add 47 (.iload 4) 2 49 := ⟨by decide +kernel, rfl⟩
theorem x_Mo_add_49 : DC b_Mo_add 49 (.i2l) 1 50 := ⟨by decide +kernel, rfl⟩
theorem x_Mo_add_50 : DC b_Mo_add 50 (.aload_n 0) 1 51 := ⟨by decide +kernel, rfl⟩
theorem x_Mo_add_51 : DC b_Mo_add 51 (.getfield 221) 3 54 := ⟨by decide +kernel, rfl⟩
theorem x_Mo_add_54 : DC b_Mo_add 54 (.iload 6) 2 56 := ⟨by decide +kernel, rfl⟩
theorem x_Mo_add_56 : DC b_Mo_add 56 (.laload) 1 57 := ⟨by decide +kernel, rfl⟩
theorem x_Mo_add_57 : DC b_Mo_add 57 (.lmul) 1 58 := ⟨by decide +kernel, rfl⟩
theorem x_Mo_add_58 : DC b_Mo_add 58 (.ladd) 1 59 := ⟨by decide +kernel, rfl⟩
theorem x_Mo_add_59 : DC b_Mo_add 59 (.lastore) 1 60 := ⟨by decide +kernel, rfl⟩
theorem x_Mo_add_60 : DC b_Mo_add 60 (.goto 29) 3 63 := ⟨by decide +kernel, rfl⟩
theorem x_Mo_add_63 : DC b_Mo_add 63 (.aload_n 0) 1 64 := ⟨by decide +kernel, rfl⟩
theorem x_Mo_add_64 : DC b_Mo_add 64 (.getfield 215) 3 67 := ⟨by decide +kernel, rfl⟩
theorem x_Mo_add_67 : DC b_Mo_add 67 (.aload_n 0) 1 68 := ⟨by decide +kernel, rfl⟩
theorem x_Mo_add_68 : DC b_Mo_add 68 (.getfield 20) 3 71 := ⟨by decide +kernel, rfl⟩
theorem x_Mo_add_71 : DC b_Mo_add 71 (.iload 6) 2 73 := ⟨by decide +kernel, rfl⟩
theorem x_Mo_add_73 : DC b_Mo_add 73 (.iaload) 1 74 := ⟨by decide +kernel, rfl⟩
theorem x_Mo_add_74 : DC b_Mo_add 74 (.dup2) 1 75 := ⟨by decide +kernel, rfl⟩
theorem x_Mo_add_75 : DC b_Mo_add 75 (.laload) 1 76 := ⟨by decide +kernel, rfl⟩
theorem x_Mo_add_76 : DC b_Mo_add 76 (.iload 4) 2 78 := ⟨by decide +kernel, rfl⟩
theorem x_Mo_add_78 : DC b_Mo_add 78 (.i2l) 1 79 := ⟨by decide +kernel, rfl⟩
theorem x_Mo_add_79 : DC b_Mo_add 79 (.aload_n 0) 1 80 := ⟨by decide +kernel, rfl⟩
theorem x_Mo_add_80 : DC b_Mo_add 80 (.getfield 221) 3 83 := ⟨by decide +kernel, rfl⟩
theorem x_Mo_add_83 : DC b_Mo_add 83 (.iload 6) 2 85 := ⟨by decide +kernel, rfl⟩
theorem x_Mo_add_85 : DC b_Mo_add 85 (.laload) 1 86 := ⟨by decide +kernel, rfl⟩
theorem x_Mo_add_86 : DC b_Mo_add 86 (.lmul) 1 87 := ⟨by decide +kernel, rfl⟩
theorem x_Mo_add_87 : DC b_Mo_add 87 (.ladd) 1 88 := ⟨by decide +kernel, rfl⟩
theorem x_Mo_add_88 : DC b_Mo_add 88 (.lastore) 1 89 := ⟨by decide +kernel, rfl⟩
theorem x_Mo_add_89 : DC b_Mo_add 89 (.iinc 5 1) 3 92 := ⟨by decide +kernel, rfl⟩
theorem x_Mo_add_92 : DC b_Mo_add 92 (.goto (-89)) 3 95 := ⟨by decide +kernel, rfl⟩
theorem x_Mo_add_95 : DC b_Mo_add 95 (.return_) 1 96 := ⟨by decide +kernel, rfl⟩
def k_Mo_add_89 (R3 : Int → Int → Int → Int → Int → Mem → Res) (a1 a2 a3 a4 a5 : Int) (M : Mem) : Res := blet (a5 + 1) fun v1 => R3 a1 a2 a3 a4 v1 M
theorem z_Mo_add_89 (C : Cx p s m args meth c G b_Mo_add 7 "PrairiePoolModel" none) (hlev : 0 ≤ lev) {r : Int × Mem} {R3 : Int → Int → Int → Int → Int → Mem → Res} (hR3 : ∀ (a1 a2 a3 a4 a5 : Int) (M : Mem), R3 a1 a2 a3 a4 a5 M = some r → Z p l e lev s m args below meth c G 7 (MQ below (Qm G 0 r) args s 0 0 (Ab G)) M 3 [(0, .ref (G.1 + 111)), (1, vi a1), (2, vi a2), (3, vi a3), (4, vi a4), (5, vi a5)] []) {a1 a2 a3 a4 a5 : Int} {M : Mem} (h : k_Mo_add_89 R3 a1 a2 a3 a4 a5 M = some r) : Z p l e lev s m args below meth c G 7 (MQ below (Qm G 0 r) args s 0 0 (Ab G)) M 89 [(0, .ref (G.1 + 111)), (1, vi a1), (2, vi a2), (3, vi a3), (4, vi a4), (5, vi a5)] [] := by
  unfold k_Mo_add_89 at h
  obtain ⟨v1, ev1, h⟩ := blet_e h
  refine z_iinc (lv' := [(5, vi v1), (0, .ref (G.1 + 111)), (1, vi a1), (2, vi a2), (3, vi a3), (4, vi a4)]) C 5 ev1 x_Mo_add_89 rfl (i_lt rfl) rfl ?_
  refine z_goto (tgt := 3) C x_Mo_add_92 rfl ?_
  exact z_sub [1, 2, 3, 4, 5, 0] rfl (hR3 a1 a2 a3 a4 v1 M h)
def k_Mo_add_3 (R3 : Int → Int → Int → Int → Int → Mem → Res) (a1 a2 a3 a4 a5 : Int) (M : Mem) : Res := if w32 a5 < w32 a2 then (if w32 (an32 (sr32 a1 a5) 1) = 0 then (k_Mo_add_89 R3 a1 a2 a3 a4 a5 M) else (chk (0 ≤ w32 a5 ∧ w32 a5 < 20) <| blet (M 173 (ix a5)) fun v4 => if w32 a3 = 0 then (chk (0 ≤ w32 v4 ∧ w32 v4 < 20) <| blet (M 115 (ix v4)) fun v7 => chk (0 ≤ w32 v7 ∧ w32 v7 < 6) <| blet (M 175 (ix v7)) fun v9 => chk (0 ≤ w32 v4 ∧ w32 v4 < 20) <| blet (M 177 (ix v4)) fun v11 => chk (0 ≤ w32 v7 ∧ w32 v7 < 6) <| blet (sto M 175 (ix v7) (v9 + ((w32 a4) * v11))) fun M13 => k_Mo_add_89 R3 a1 a2 a3 a4 a5 M13) else (chk (0 ≤ w32 v4 ∧ w32 v4 < 20) <| blet (M 115 (ix v4)) fun v15 => chk (0 ≤ w32 v15 ∧ w32 v15 < 6) <| blet (M 176 (ix v15)) fun v17 => chk (0 ≤ w32 v4 ∧ w32 v4 < 20) <| blet (M 177 (ix v4)) fun v19 => chk (0 ≤ w32 v15 ∧ w32 v15 < 6) <| blet (sto M 176 (ix v15) (v17 + ((w32 a4) * v19))) fun M21 => k_Mo_add_89 R3 a1 a2 a3 a4 a5 M21))) else (some (0, M))
theorem z_Mo_add_3 (C : Cx p s m args meth c G b_Mo_add 7 "PrairiePoolModel" none) (hlev : 0 ≤ lev) {r : Int × Mem} {R3 : Int → Int → Int → Int → Int → Mem → Res} (hR3 : ∀ (a1 a2 a3 a4 a5 : Int) (M : Mem), R3 a1 a2 a3 a4 a5 M = some r → Z p l e lev s m args below meth c G 7 (MQ below (Qm G 0 r) args s 0 0 (Ab G)) M 3 [(0, .ref (G.1 + 111)), (1, vi a1), (2, vi a2), (3, vi a3), (4, vi a4), (5, vi a5)] []) {a1 a2 a3 a4 a5 : Int} {M : Mem} (h : k_Mo_add_3 R3 a1 a2 a3 a4 a5 M = some r) : Z p l e lev s m args below meth c G 7 (MQ below (Qm G 0 r) args s 0 0 (Ab G)) M 3 [(0, .ref (G.1 + 111)), (1, vi a1), (2, vi a2), (3, vi a3), (4, vi a4), (5, vi a5)] [] := by
  unfold k_Mo_add_3 at h
  refine z_iload C 5 x_Mo_add_3 rfl ?_
  refine z_iload_n C 2 x_Mo_add_5 rfl ?_
  rcases ite_e h with ⟨c1, h⟩ | ⟨c1, h⟩
  · refine z_icmp_ge_f (tgt := 95) C x_Mo_add_6 rfl c1 ?_
    refine z_iload_n C 1 x_Mo_add_9 rfl ?_
    refine z_iload C 5 x_Mo_add_10 rfl ?_
    refine z_ishr C x_Mo_add_12 ?_
    refine z_iconst C x_Mo_add_13 ?_
    refine z_iand C x_Mo_add_14 ?_
    rcases ite_e h with ⟨c2, h⟩ | ⟨c2, h⟩
    · refine z_if_ne_f (tgt := 21) C x_Mo_add_15 rfl c2 ?_
      refine z_goto (tgt := 89) C x_Mo_add_18 rfl ?_
      exact z_sub [0, 1, 2, 3, 4, 5] rfl (z_Mo_add_89 C hlev hR3 h)
    · refine z_if_ne_t (tgt := 21) C x_Mo_add_15 rfl c2 ?_
      refine z_aload_n C 0 x_Mo_add_21 rfl ?_
      refine z_getR (j := 91) C x_Mo_add_22 nk_111 ck_111 cw_12 (i_lt rfl) rfl rf_111_91 rfl fl_Mo_209 ?_
      refine z_iload C 5 x_Mo_add_25 rfl ?_
      obtain ⟨c3, h⟩ := chk_e h
      obtain ⟨v4, ev4, h⟩ := blet_e h
      refine z_iald C x_Mo_add_27 nk_173 ck_173 c3 ev4 ?_
      refine z_istore (lv' := [(6, vi v4), (0, .ref (G.1 + 111)), (1, vi a1), (2, vi a2), (3, vi a3), (4, vi a4), (5, vi a5)]) C rfl x_Mo_add_28 (i_lt rfl) rfl ?_
      refine z_iload_n C 4 x_Mo_add_30 rfl ?_
      rcases ite_e h with ⟨c5, h⟩ | ⟨c5, h⟩
      · refine z_if_eq_t (tgt := 63) C x_Mo_add_31 rfl c5 ?_
        refine z_aload_n C 1 x_Mo_add_63 rfl ?_
        refine z_getR (j := 93) C x_Mo_add_64 nk_111 ck_111 cw_12 (i_lt rfl) rfl rf_111_93 rfl fl_Mo_215 ?_
        refine z_aload_n C 1 x_Mo_add_67 rfl ?_
        refine z_getR (j := 11) C x_Mo_add_68 nk_111 ck_111 cw_12 (i_lt rfl) rfl rf_111_11 rfl fl_Mo_20 ?_
        refine z_iload C 0 x_Mo_add_71 rfl ?_
        obtain ⟨c6, h⟩ := chk_e h
        obtain ⟨v7, ev7, h⟩ := blet_e h
        refine z_iald C x_Mo_add_73 nk_115 ck_115 c6 ev7 ?_
        refine z_dup2 C x_Mo_add_74 rfl rfl ?_
        obtain ⟨c8, h⟩ := chk_e h
        obtain ⟨v9, ev9, h⟩ := blet_e h
        refine z_lald C x_Mo_add_75 nk_175 ck_175 c8 ev9 ?_
        refine z_iload C 5 x_Mo_add_76 rfl ?_
        refine z_i2l C x_Mo_add_78 ?_
        refine z_aload_n C 1 x_Mo_add_79 rfl ?_
        refine z_getR (j := 95) C x_Mo_add_80 nk_111 ck_111 cw_12 (i_lt rfl) rfl rf_111_95 rfl fl_Mo_221 ?_
        refine z_iload C 0 x_Mo_add_83 rfl ?_
        obtain ⟨c10, h⟩ := chk_e h
        obtain ⟨v11, ev11, h⟩ := blet_e h
        refine z_lald C x_Mo_add_85 nk_177 ck_177 c10 ev11 ?_
        refine z_lmul C x_Mo_add_86 ?_
        refine z_ladd C x_Mo_add_87 ?_
        obtain ⟨c12, h⟩ := chk_e h
        obtain ⟨M13, eM13, h⟩ := blet_e h
        refine z_last C x_Mo_add_88 nk_175 ck_175 c12 eM13 ?_
        exact z_sub [1, 2, 3, 4, 5, 6] rfl (z_Mo_add_89 C hlev hR3 h)
      · refine z_if_eq_f (tgt := 63) C x_Mo_add_31 rfl c5 ?_
        refine z_aload_n C 1 x_Mo_add_34 rfl ?_
        refine z_getR (j := 94) C x_Mo_add_35 nk_111 ck_111 cw_12 (i_lt rfl) rfl rf_111_94 rfl fl_Mo_218 ?_
        refine z_aload_n C 1 x_Mo_add_38 rfl ?_
        refine z_getR (j := 11) C x_Mo_add_39 nk_111 ck_111 cw_12 (i_lt rfl) rfl rf_111_11 rfl fl_Mo_20 ?_
        refine z_iload C 0 x_Mo_add_42 rfl ?_
        obtain ⟨c14, h⟩ := chk_e h
        obtain ⟨v15, ev15, h⟩ := blet_e h
        refine z_iald C x_Mo_add_44 nk_115 ck_115 c14 ev15 ?_
        refine z_dup2 C x_Mo_add_45 rfl rfl ?_
        obtain ⟨c16, h⟩ := chk_e h
        obtain ⟨v17, ev17, h⟩ := blet_e h
        refine z_lald C x_Mo_add_46 nk_176 ck_176 c16 ev17 ?_
        refine z_iload C 5 x_Mo_add_47 rfl ?_
        refine z_i2l C x_Mo_add_49 ?_
        refine z_aload_n C 1 x_Mo_add_50 rfl ?_
        refine z_getR (j := 95) C x_Mo_add_51 nk_111 ck_111 cw_12 (i_lt rfl) rfl rf_111_95 rfl fl_Mo_221 ?_
        refine z_iload C 0 x_Mo_add_54 rfl ?_
        obtain ⟨c18, h⟩ := chk_e h
        obtain ⟨v19, ev19, h⟩ := blet_e h
        refine z_lald C x_Mo_add_56 nk_177 ck_177 c18 ev19 ?_
        refine z_lmul C x_Mo_add_57 ?_
        refine z_ladd C x_Mo_add_58 ?_
        obtain ⟨c20, h⟩ := chk_e h
        obtain ⟨M21, eM21, h⟩ := blet_e h
        refine z_last C x_Mo_add_59 nk_176 ck_176 c20 eM21 ?_
        refine z_goto (tgt := 89) C x_Mo_add_60 rfl ?_
        exact z_sub [1, 2, 3, 4, 5, 6] rfl (z_Mo_add_89 C hlev hR3 h)
  · refine z_icmp_ge_t (tgt := 95) C x_Mo_add_6 rfl c1 ?_
    exact z_vret C x_Mo_add_95 h
theorem zl_Mo_add_3 (C : Cx p s m args meth c G b_Mo_add 7 "PrairiePoolModel" none) (hlev : 0 ≤ lev) {r : Int × Mem}  : ∀ (n : Nat) (a1 a2 a3 a4 a5 : Int) (M : Mem), fix (fun _ _ _ _ _ _ => none) (k_Mo_add_3) n a1 a2 a3 a4 a5 M = some r → Z p l e lev s m args below meth c G 7 (MQ below (Qm G 0 r) args s 0 0 (Ab G)) M 3 [(0, .ref (G.1 + 111)), (1, vi a1), (2, vi a2), (3, vi a3), (4, vi a4), (5, vi a5)] [] := by
  intro n
  induction n with
  | zero => intro a1 a2 a3 a4 a5 M h; exact nomatch (show (none : Res) = some r from h)
  | succ n ih => intro a1 a2 a3 a4 a5 M h; exact z_Mo_add_3 C hlev ih h
def d_Mo_add (a1 a2 a3 a4 : Int) (M : Mem) : Res := fix (fun _ _ _ _ _ _ => none) (k_Mo_add_3) FU a1 a2 a3 a4 0 M
theorem t_Mo_add (l : Launch) (G : GX) {lev : Nat} (hlev : 0 ≤ lev) {a1 a2 a3 a4 : Int} {M : Mem} {r : Int × Mem} (h : d_Mo_add a1 a2 a3 a4 M = some r) : Mt l G y_Mo_add b_Mo_add 7 none lev 0 [.ref (G.1 + 111), vi a1, vi a2, vi a3, vi a4] M r := by
  refine Mt.of (by decide) (i_le rfl) ?_
  intro p e s m args below meth c C
  have C : Cx p s m args meth c G b_Mo_add 7 "PrairiePoolModel" none := C
  unfold d_Mo_add at h
  refine z_sub (lv' := [(0, .ref (G.1 + 111)), (1, vi a1), (2, vi a2), (3, vi a3), (4, vi a4)]) [0, 1, 2, 3, 4] rfl ?_
  refine z_iconst C x_Mo_add_0 ?_
  refine z_istore (lv' := [(5, vi 0), (0, .ref (G.1 + 111)), (1, vi a1), (2, vi a2), (3, vi a3), (4, vi a4)]) C rfl x_Mo_add_1 (i_lt rfl) rfl ?_
  exact z_sub [1, 2, 3, 4, 5, 0] rfl (zl_Mo_add_3 C hlev FU a1 a2 a3 a4 0 M h)
theorem x_Mo_hangs_0 : DC b_Mo_hangs 0 (.aload_n 0) 1 1 := ⟨by decide +kernel, rfl⟩
theorem x_Mo_hangs_1 : DC b_Mo_hangs 1 (.iconst 0) 1 2 := ⟨by decide +kernel, rfl⟩
theorem x_Mo_hangs_2 : DC b_Mo_hangs 2 (.putfield 257) 3 5 := ⟨by decide +kernel, rfl⟩
theorem x_Mo_hangs_5 : DC b_Mo_hangs 5 (.aload_n 0) 1 6 := ⟨by decide +kernel, rfl⟩
theorem x_Mo_hangs_6 : DC b_Mo_hangs 6 (.iconst 0) 1 7 := ⟨by decide +kernel, rfl⟩
theorem x_Mo_hangs_7 : DC b_Mo_hangs 7 (.putfield 260) 3 10 := ⟨by decide +kernel, rfl⟩
theorem x_Mo_hangs_10 : DC b_Mo_hangs 10 (.iload_n 1) 1 11 := ⟨by decide +kernel, rfl⟩
theorem x_Mo_hangs_11 : DC b_Mo_hangs 11 (.invokestatic 306) 3 14 := ⟨by decide +kernel, rfl⟩
theorem x_Mo_hangs_14 : DC b_Mo_hangs 14 (.ifCond .ne 9) 3 17 := ⟨by decide +kernel, rfl⟩
theorem x_Mo_hangs_17 : DC b_Mo_hangs 17 (.aload_n 0) 1 18 := ⟨by decide +kernel, rfl⟩
theorem x_Mo_hangs_18 : DC b_Mo_hangs 18 (.iconst 5) 1 19 := ⟨by decide +kernel, rfl⟩
theorem x_Mo_hangs_19 : DC b_Mo_hangs 19 (.invokevirtual 297) 3 22 := ⟨by decide +kernel, rfl⟩
theorem x_Mo_hangs_22 : DC b_Mo_hangs 22 (.ireturn) 1 23 := ⟨by decide +kernel, rfl⟩
theorem x_Mo_hangs_23 : DC b_Mo_hangs 23 (.aload_n 0) 1 24 := ⟨by decide +kernel, rfl⟩
theorem x_Mo_hangs_24 : DC b_Mo_hangs 24 (.iload_n 1) 1 25 := ⟨by decide +kernel, rfl⟩
theorem x_Mo_hangs_25 : DC b_Mo_hangs 25 (.invokevirtual 641) 3 28 := ⟨by decide +kernel, rfl⟩
theorem x_Mo_hangs_28 : DC b_Mo_hangs 28 (.aload_n 0) 1 29 := ⟨by decide +kernel, rfl⟩
theorem x_Mo_hangs_29 : DC b_Mo_hangs 29 (.invokevirtual 644) 3 32 := ⟨by decide +kernel, rfl⟩
theorem x_Mo_hangs_32 : DC b_Mo_hangs 32 (.istore_n 2) 1 33 := ⟨by decide +kernel, rfl⟩
theorem x_Mo_hangs_33 : DC b_Mo_hangs 33 (.iconst 0) 1 34 := ⟨by decide +kernel, rfl⟩
theorem x_Mo_hangs_34 : DC b_Mo_hangs 34 (.istore_n 3) 1 35 := ⟨by decide +kernel, rfl⟩
theorem x_Mo_hangs_35 : DC b_Mo_hangs 35 (.iconst 0) 1 36 := ⟨by decide +kernel, rfl⟩
theorem x_Mo_hangs_36 : DC b_Mo_hangs 36 (.istore 4) 2 38 := ⟨by decide +kernel, rfl⟩
theorem x_Mo_hangs_38 : DC b_Mo_hangs 38 (.iload 4) 2 40 := ⟨by decide +kernel, rfl⟩
theorem x_Mo_hangs_40 : DC b_Mo_hangs 40 (.aload_n 0) 1 41 := ⟨by decide +kernel, rfl⟩
theorem x_Mo_hangs_41 : DC b_Mo_hangs 41 (.getfield 291) 3 44 := ⟨by decide +kernel, rfl⟩
theorem x_Mo_hangs_44 : DC b_Mo_hangs 44 (.if_icmp .ge 34) 3 47 := ⟨by decide +kernel, rfl⟩
theorem x_Mo_hangs_47 : DC b_Mo_hangs 47 (.aload_n 0) 1 48 := ⟨by decide +kernel, rfl⟩
theorem x_Mo_hangs_48 : DC b_Mo_hangs 48 (.getfield 182) 3 51 := ⟨by decide +kernel, rfl⟩
theorem x_Mo_hangs_51 : DC b_Mo_hangs 51 (.iload 4) 2 53 := ⟨by decide +kernel, rfl⟩
theorem x_Mo_hangs_53 : DC b_Mo_hangs 53 (.iaload) 1 54 := ⟨by decide +kernel, rfl⟩
theorem x_Mo_hangs_54 : DC b_Mo_hangs 54 (.iconst (-1)) 1 55 := ⟨by decide +kernel, rfl⟩
theorem x_Mo_hangs_55 : DC b_Mo_hangs 55 (.if_icmp .eq 6) 3 58 := ⟨by decide +kernel, rfl⟩
theorem x_Mo_hangs_58 : DC b_Mo_hangs 58 (.goto 14) 3 61 := ⟨by decide +kernel, rfl⟩
theorem x_Mo_hangs_61 : DC b_Mo_hangs 61 (.aload_n 0) 1 62 := ⟨by decide +kernel, rfl⟩
theorem x_Mo_hangs_62 : DC b_Mo_hangs 62 (.getfield 209) 3 65 := ⟨by decide +kernel, rfl⟩
theorem x_Mo_hangs_65 : DC b_Mo_hangs 65 (.iload_n 3) 1 66 := ⟨by decide +kernel, rfl⟩
theorem x_Mo_hangs_66 : DC b_Mo_hangs 66 (.iload 4) 2 68 := ⟨by decide +kernel, rfl⟩
theorem x_Mo_hangs_68 : DC b_Mo_hangs 68 (.iastore) 1 69 := ⟨by decide +kernel, rfl⟩
theorem x_Mo_hangs_69 : DC b_Mo_hangs 69 (.iinc 3 1) 3 72 := ⟨by decide +kernel, rfl⟩
theorem x_Mo_hangs_72 : DC b_Mo_hangs 72 (.iinc 4 1) 3 75 := ⟨by decide +kernel, rfl⟩
theorem x_Mo_hangs_75 : DC b_Mo_hangs 75 (.goto (-37)) 3 78 := ⟨by decide +kernel, rfl⟩
theorem x_Mo_hangs_78 : DC b_Mo_hangs 78 (.iconst (-1)) 1 79 := ⟨by decide +kernel, rfl⟩
theorem x_Mo_hangs_79 : DC b_Mo_hangs 79 (.istore 4) 2 81 := ⟨by decide +kernel, rfl⟩
theorem x_Mo_hangs_81 : DC b_Mo_hangs 81 (.iload_n 3) 1 82 := ⟨by decide +kernel, rfl⟩
theorem x_Mo_hangs_82 : DC b_Mo_hangs 82 (.iconst 1) 1 83 := ⟨by decide +kernel, rfl⟩
theorem x_Mo_hangs_83 : DC b_Mo_hangs 83 (.iadd) 1 84 := ⟨by decide +kernel, rfl⟩
theorem x_Mo_hangs_84 : DC b_Mo_hangs 84 (.istore 5) 2 86 := ⟨by decide +kernel, rfl⟩
theorem x_Mo_hangs_86 : DC b_Mo_hangs 86 (.iconst 1) 1 87 := ⟨by decide +kernel, rfl⟩
theorem x_Mo_hangs_87 : DC b_Mo_hangs 87 (.istore 6) 2 89 := ⟨by decide +kernel, rfl⟩
theorem x_Mo_hangs_89 : DC b_Mo_hangs 89 (.iload 6) 2 91 := ⟨by decide +kernel, rfl⟩
theorem x_Mo_hangs_91 : DC b_Mo_hangs 91 (.iconst 1) 1 92 := ⟨by decide +kernel, rfl⟩
theorem x_Mo_hangs_92 : DC b_Mo_hangs 92 (.iload_n 3) 1 93 := ⟨by decide +kernel, rfl⟩
theorem x_Mo_hangs_93 : DC b_Mo_hangs 93 (.ishl) 1 94 := ⟨by decide +kernel, rfl⟩
theorem x_Mo_hangs_94 : DC b_Mo_hangs 94 (.if_icmp .ge 59) 3 97 := ⟨by decide +kernel, rfl⟩
theorem x_Mo_hangs_97 : DC b_Mo_hangs 97 (.iload 6) 2 99 := ⟨by decide +kernel, rfl⟩
theorem x_Mo_hangs_99 : DC b_Mo_hangs 99 (.invokestatic 647) 3 102 := ⟨by decide +kernel, rfl⟩
theorem x_Mo_hangs_102 : DC b_Mo_hangs 102 (.iload 5) 2 104 := ⟨by decide +kernel, rfl⟩
theorem x_Mo_hangs_104 : DC b_Mo_hangs 104 (.if_icmp .lt 6) 3 107 := ⟨by decide +kernel, rfl⟩
theorem x_Mo_hangs_107 : DC b_Mo_hangs 107 (.goto 40) 3 110 := ⟨by decide +kernel, rfl⟩
theorem x_Mo_hangs_110 : DC b_Mo_hangs 110 (.aload_n 0) 1 111 := ⟨by decide +kernel, rfl⟩
theorem x_Mo_hangs_111 : DC b_Mo_hangs 111 (.iload 6) 2 113 := ⟨by decide +kernel, rfl⟩
theorem x_Mo_hangs_113 : DC b_Mo_hangs 113 (.iload_n 3) 1 114 := ⟨by decide +kernel, rfl⟩
theorem x_Mo_hangs_114 : DC b_Mo_hangs 114 (.iload_n 2) 1 115 := ⟨by decide +kernel, rfl⟩
theorem x_Mo_hangs_115 : DC b_Mo_hangs 115 (.iconst 1) 1 116 := ⟨by decide +kernel, rfl⟩
theorem x_Mo_hangs_116 : DC b_Mo_hangs 116 (.invokevirtual 652) 3 119 := ⟨by decide +kernel, rfl⟩
theorem x_Mo_hangs_119 : DC b_Mo_hangs 119 (.aload_n 0) 1 120 := ⟨by decide +kernel, rfl⟩
theorem x_Mo_hangs_120 : DC b_Mo_hangs 120 (.invokevirtual 644) 3 123 := ⟨by decide +kernel, rfl⟩
theorem x_Mo_hangs_123 : DC b_Mo_hangs 123 (.iload_n 2) 1 124 := ⟨by decide +kernel, rfl⟩
theorem x_Mo_hangs_124 : DC b_Mo_hangs 124 (.if_icmp .eq 14) 3 127 := ⟨by decide +kernel, rfl⟩
theorem x_Mo_hangs_127 : DC b_Mo_hangs 127 (.iload 6) 2 129 := ⟨by decide +kernel, rfl⟩
theorem x_Mo_hangs_129 : DC b_Mo_hangs 129 (.invokestatic 647) 3 132 := ⟨by decide +kernel, rfl⟩
theorem x_Mo_hangs_132 : DC b_Mo_hangs 132 (.istore 5) 2 134 := ⟨by decide +kernel, rfl⟩
theorem x_Mo_hangs_134 : DC b_Mo_hangs 134 (.iload 6) 2 136 := ⟨by decide +kernel, rfl⟩
theorem x_Mo_hangs_136 : DC b_Mo_hangs 136 (.istore 4) 2 138 := ⟨by decide +kernel, rfl⟩
theorem x_Mo_hangs_138 : DC b_Mo_hangs 138 (.aload_n 0) 1 139 := ⟨by decide +kernel, rfl⟩
theorem x_Mo_hangs_139 : DC b_Mo_hangs 139 (.iload 6) 2 141 := ⟨by decide +kernel, rfl⟩
theorem x_Mo_hangs_141 : DC b_Mo_hangs 141 (.iload_n 3) 1 142 := ⟨by decide +kernel, rfl⟩
theorem x_Mo_hangs_142 : DC b_Mo_hangs 142 (.iload_n 2) 1 143 := ⟨by decide +kernel, rfl⟩
theorem x_Mo_hangs_143 : DC b_Mo_hangs 143 (.iconst (-1)) 1 144 := ⟨by decide +kernel, rfl⟩
theorem x_Mo_hangs_144 : DC b_Mo_hangs 144 (.invokevirtual 652) 3 147 := ⟨by decide +kernel, rfl⟩
theorem x_Mo_hangs_147 : DC b_Mo_hangs 147 (.iinc 6 1) 3 150 := ⟨by decide +kernel, rfl⟩
theorem x_Mo_hangs_150 : DC b_Mo_hangs 150 (.goto (-61)) 3 153 := ⟨by decide +kernel, rfl⟩
theorem x_Mo_hangs_153 : DC b_Mo_hangs 153 (.iload 4) 2 155 := ⟨by decide +kernel, rfl⟩
theorem x_Mo_hangs_155 : DC b_Mo_hangs 155 (.ifCond .ge 5) 3 158 := ⟨by decide +kernel, rfl⟩
theorem x_Mo_hangs_158 : DC b_Mo_hangs 158 (.iconst (-1)) 1 159 := ⟨by decide +kernel, rfl⟩
theorem x_Mo_hangs_159 : DC b_Mo_hangs 159 (.ireturn) 1 160 := ⟨by decide +kernel, rfl⟩
theorem x_Mo_hangs_160 : DC b_Mo_hangs 160 (.iconst 0) 1 161 := ⟨by decide +kernel, rfl⟩
theorem x_Mo_hangs_161 : DC b_Mo_hangs 161 (.istore 6) 2 163 := ⟨by decide +kernel, rfl⟩
theorem x_Mo_hangs_163 : DC b_Mo_hangs 163 (.iconst 0) 1 164 := ⟨by decide +kernel, rfl⟩
theorem x_Mo_hangs_164 : DC b_Mo_hangs 164 (.istore 7) 2 166 := ⟨by decide +kernel, rfl⟩
theorem x_Mo_hangs_166 : DC b_Mo_hangs 166 (.iload 7) 2 168 := ⟨by decide +kernel, rfl⟩
theorem x_Mo_hangs_168 : DC b_Mo_hangs 168 (.iload_n 3) 1 169 := ⟨by decide +kernel, rfl⟩
theorem x_Mo_hangs_169 : DC b_Mo_hangs 169 (.if_icmp .ge 29) 3 172 := ⟨by decide +kernel, rfl⟩
theorem x_Mo_hangs_172 : DC b_Mo_hangs 172 (.iload 6) 2 174 := ⟨by decide +kernel, rfl⟩
theorem x_Mo_hangs_174 : DC b_Mo_hangs 174 (.iload 4) 2 176 := ⟨by decide +kernel, rfl⟩
theorem x_Mo_hangs_176 : DC b_Mo_hangs 176 (.iload 7) 2 178 := ⟨by decide +kernel, rfl⟩
theorem x_Mo_hangs_178 : DC b_Mo_hangs 178 (.ishr) 1 179 := ⟨by decide +kernel, rfl⟩
theorem x_Mo_hangs_179 : DC b_Mo_hangs 179 (.iconst 1) 1 180 := ⟨by decide +kernel, rfl⟩
theorem x_Mo_hangs_180 : DC b_Mo_hangs 180 (.iand) 1 181 := ⟨by decide +kernel, rfl⟩
theorem x_Mo_hangs_181 : DC b_Mo_hangs 181 (.aload_n 0) 1 182 := ⟨by decide +kernel, rfl⟩
theorem x_Mo_hangs_182 : DC b_Mo_hangs 182 (.getfield 209) 3 185 := ⟨by decide +kernel, rfl⟩
theorem x_Mo_hangs_185 : DC b_Mo_hangs 185 (.iload 7) 2 187 := ⟨by decide +kernel, rfl⟩
theorem x_Mo_hangs_187 : DC b_Mo_hangs 187 (.iaload) 1 188 := ⟨by decide +kernel, rfl⟩
theorem x_Mo_hangs_188 : DC b_Mo_hangs 188 (.ishl) 1 189 := ⟨by decide +kernel, rfl⟩
theorem x_Mo_hangs_189 : DC b_Mo_hangs 189 (.ior) 1 190 := ⟨by decide +kernel, rfl⟩
theorem x_Mo_hangs_190 : DC b_Mo_hangs 190 (.istore 6) 2 192 := ⟨by decide +kernel, rfl⟩
theorem x_Mo_hangs_192 : DC b_Mo_hangs 192 (.iinc 7 1) 3 195 := ⟨by decide +kernel, rfl⟩
theorem x_Mo_hangs_195 : DC b_Mo_hangs 195 (.goto (-29)) 3 198 := ⟨by decide +kernel, rfl⟩
theorem x_Mo_hangs_198 : DC b_Mo_hangs 198 (.iload 6) 2 200 := ⟨by decide +kernel, rfl⟩
theorem x_Mo_hangs_200 : DC b_Mo_hangs 200 (.ireturn) 1 201 := ⟨by decide +kernel, rfl⟩
def k_Mo_hangs_166 (R166 : Int → Int → Int → Int → Mem → Res) (a3 a4 a6 a7 : Int) (M : Mem) : Res := if w32 a7 < w32 a3 then (chk (0 ≤ w32 a7 ∧ w32 a7 < 20) <| blet (M 173 (ix a7)) fun v3 => blet (or32 a6 (sl32 (an32 (sr32 a4 a7) 1) v3)) fun v4 => blet (a7 + 1) fun v5 => R166 a3 a4 v4 v5 M) else (some (a6, M))
theorem z_Mo_hangs_166 (C : Cx p s m args meth c G b_Mo_hangs 8 "PrairiePoolModel" (some .int)) (hlev : 6 ≤ lev) {r : Int × Mem} {R166 : Int → Int → Int → Int → Mem → Res} (hR166 : ∀ (a3 a4 a6 a7 : Int) (M : Mem), R166 a3 a4 a6 a7 M = some r → Z p l e lev s m args below meth c G 8 (MQ below (Qm G 1 r) args s 0 0 (Ab G)) M 166 [(0, .ref (G.1 + 111)), (3, vi a3), (4, vi a4), (6, vi a6), (7, vi a7)] []) {a3 a4 a6 a7 : Int} {M : Mem} (h : k_Mo_hangs_166 R166 a3 a4 a6 a7 M = some r) : Z p l e lev s m args below meth c G 8 (MQ below (Qm G 1 r) args s 0 0 (Ab G)) M 166 [(0, .ref (G.1 + 111)), (3, vi a3), (4, vi a4), (6, vi a6), (7, vi a7)] [] := by
  unfold k_Mo_hangs_166 at h
  refine z_iload C 4 x_Mo_hangs_166 rfl ?_
  refine z_iload_n C 1 x_Mo_hangs_168 rfl ?_
  rcases ite_e h with ⟨c1, h⟩ | ⟨c1, h⟩
  · refine z_icmp_ge_f (tgt := 198) C x_Mo_hangs_169 rfl c1 ?_
    refine z_iload C 3 x_Mo_hangs_172 rfl ?_
    refine z_iload C 2 x_Mo_hangs_174 rfl ?_
    refine z_iload C 4 x_Mo_hangs_176 rfl ?_
    refine z_ishr C x_Mo_hangs_178 ?_
    refine z_iconst C x_Mo_hangs_179 ?_
    refine z_iand C x_Mo_hangs_180 ?_
    refine z_aload_n C 0 x_Mo_hangs_181 rfl ?_
    refine z_getR (j := 91) C x_Mo_hangs_182 nk_111 ck_111 cw_12 (i_lt rfl) rfl rf_111_91 rfl fl_Mo_209 ?_
    refine z_iload C 4 x_Mo_hangs_185 rfl ?_
    obtain ⟨c2, h⟩ := chk_e h
    obtain ⟨v3, ev3, h⟩ := blet_e h
    refine z_iald C x_Mo_hangs_187 nk_173 ck_173 c2 ev3 ?_
    refine z_ishl C x_Mo_hangs_188 ?_
    refine z_ior C x_Mo_hangs_189 ?_
    obtain ⟨v4, ev4, h⟩ := blet_e h
    refine z_istore (lv' := [(6, vi v4), (0, .ref (G.1 + 111)), (3, vi a3), (4, vi a4), (7, vi a7)]) C ev4 x_Mo_hangs_190 (i_lt rfl) rfl ?_
    obtain ⟨v5, ev5, h⟩ := blet_e h
    refine z_iinc (lv' := [(7, vi v5), (6, vi v4), (0, .ref (G.1 + 111)), (3, vi a3), (4, vi a4)]) C 4 ev5 x_Mo_hangs_192 rfl (i_lt rfl) rfl ?_
    refine z_goto (tgt := 166) C x_Mo_hangs_195 rfl ?_
    exact z_sub [2, 3, 4, 1, 0] rfl (hR166 a3 a4 v4 v5 M h)
  · refine z_icmp_ge_t (tgt := 198) C x_Mo_hangs_169 rfl c1 ?_
    refine z_iload C 3 x_Mo_hangs_198 rfl ?_
    exact z_iret C x_Mo_hangs_200 h
theorem zl_Mo_hangs_166 (C : Cx p s m args meth c G b_Mo_hangs 8 "PrairiePoolModel" (some .int)) (hlev : 6 ≤ lev) {r : Int × Mem}  : ∀ (n : Nat) (a3 a4 a6 a7 : Int) (M : Mem), fix (fun _ _ _ _ _ => none) (k_Mo_hangs_166) n a3 a4 a6 a7 M = some r → Z p l e lev s m args below meth c G 8 (MQ below (Qm G 1 r) args s 0 0 (Ab G)) M 166 [(0, .ref (G.1 + 111)), (3, vi a3), (4, vi a4), (6, vi a6), (7, vi a7)] [] := by
  intro n
  induction n with
  | zero => intro a3 a4 a6 a7 M h; exact nomatch (show (none : Res) = some r from h)
  | succ n ih => intro a3 a4 a6 a7 M h; exact z_Mo_hangs_166 C hlev ih h
def k_Mo_hangs_147 (R89 : Int → Int → Int → Int → Int → Mem → Res) (a2 a3 a4 a5 a6 : Int) (M : Mem) : Res := blet (a6 + 1) fun v1 => R89 a2 a3 a4 a5 v1 M
theorem z_Mo_hangs_147 (C : Cx p s m args meth c G b_Mo_hangs 8 "PrairiePoolModel" (some .int)) (hlev : 6 ≤ lev) {r : Int × Mem} {R89 : Int → Int → Int → Int → Int → Mem → Res} (hR89 : ∀ (a2 a3 a4 a5 a6 : Int) (M : Mem), R89 a2 a3 a4 a5 a6 M = some r → Z p l e lev s m args below meth c G 8 (MQ below (Qm G 1 r) args s 0 0 (Ab G)) M 89 [(0, .ref (G.1 + 111)), (2, vi a2), (3, vi a3), (4, vi a4), (5, vi a5), (6, vi a6)] []) {a2 a3 a4 a5 a6 : Int} {M : Mem} (h : k_Mo_hangs_147 R89 a2 a3 a4 a5 a6 M = some r) : Z p l e lev s m args below meth c G 8 (MQ below (Qm G 1 r) args s 0 0 (Ab G)) M 147 [(0, .ref (G.1 + 111)), (2, vi a2), (3, vi a3), (4, vi a4), (5, vi a5), (6, vi a6)] [] := by
  unfold k_Mo_hangs_147 at h
  obtain ⟨v1, ev1, h⟩ := blet_e h
  refine z_iinc (lv' := [(6, vi v1), (0, .ref (G.1 + 111)), (2, vi a2), (3, vi a3), (4, vi a4), (5, vi a5)]) C 5 ev1 x_Mo_hangs_147 rfl (i_lt rfl) rfl ?_
  refine z_goto (tgt := 89) C x_Mo_hangs_150 rfl ?_
  exact z_sub [1, 2, 3, 4, 5, 0] rfl (hR89 a2 a3 a4 a5 v1 M h)
def k_Mo_hangs_138 (R89 : Int → Int → Int → Int → Int → Mem → Res) (a2 a3 a4 a5 a6 : Int) (M : Mem) : Res := bcall (d_Mo_add a6 a3 a2 (-1) M) fun v1 M2 => k_Mo_hangs_147 R89 a2 a3 a4 a5 a6 M2
theorem z_Mo_hangs_138 (C : Cx p s m args meth c G b_Mo_hangs 8 "PrairiePoolModel" (some .int)) (hlev : 6 ≤ lev) {r : Int × Mem} {R89 : Int → Int → Int → Int → Int → Mem → Res} (hR89 : ∀ (a2 a3 a4 a5 a6 : Int) (M : Mem), R89 a2 a3 a4 a5 a6 M = some r → Z p l e lev s m args below meth c G 8 (MQ below (Qm G 1 r) args s 0 0 (Ab G)) M 89 [(0, .ref (G.1 + 111)), (2, vi a2), (3, vi a3), (4, vi a4), (5, vi a5), (6, vi a6)] []) {a2 a3 a4 a5 a6 : Int} {M : Mem} (h : k_Mo_hangs_138 R89 a2 a3 a4 a5 a6 M = some r) : Z p l e lev s m args below meth c G 8 (MQ below (Qm G 1 r) args s 0 0 (Ab G)) M 138 [(0, .ref (G.1 + 111)), (2, vi a2), (3, vi a3), (4, vi a4), (5, vi a5), (6, vi a6)] [] := by
  unfold k_Mo_hangs_138 at h
  refine z_aload_n C 0 x_Mo_hangs_138 rfl ?_
  refine z_iload C 5 x_Mo_hangs_139 rfl ?_
  refine z_iload_n C 2 x_Mo_hangs_141 rfl ?_
  refine z_iload_n C 1 x_Mo_hangs_142 rfl ?_
  refine z_iconst C x_Mo_hangs_143 ?_
  obtain ⟨v1, M2, fv1, h⟩ := bcall_e h
  refine z_callVv (k := 111) C x_Mo_hangs_144 cv_Mo_652 (t_Mo_add (lev := lev - 1) l G (by omega) fv1) nk_111 ck_111 rfl (by omega) rfl (i_le rfl) rfl ?_
  exact z_sub [0, 1, 2, 3, 4, 5] rfl (z_Mo_hangs_147 C hlev hR89 h)
def k_Mo_hangs_89 (R89 : Int → Int → Int → Int → Int → Mem → Res) (a2 a3 a4 a5 a6 : Int) (M : Mem) : Res := if w32 a6 < w32 (sl32 1 a3) then (bcall (d_In_bitCount a6 M) fun v2 M3 => if w32 v2 < w32 a5 then (bcall (d_Mo_add a6 a3 a2 1 M3) fun v5 M6 => bcall (d_Mo_isFor M6) fun v7 M8 => if w32 v7 = w32 a2 then (k_Mo_hangs_138 R89 a2 a3 a4 a5 a6 M8) else (bcall (d_In_bitCount a6 M8) fun v10 M11 => k_Mo_hangs_138 R89 a2 a3 a6 v10 a6 M11)) else (k_Mo_hangs_147 R89 a2 a3 a4 a5 a6 M3)) else (if w32 a4 < 0 then (some ((-1), M)) else (fix (fun _ _ _ _ _ => none) (k_Mo_hangs_166) FU a3 a4 0 0 M))
theorem z_Mo_hangs_89 (C : Cx p s m args meth c G b_Mo_hangs 8 "PrairiePoolModel" (some .int)) (hlev : 6 ≤ lev) {r : Int × Mem} {R89 : Int → Int → Int → Int → Int → Mem → Res} (hR89 : ∀ (a2 a3 a4 a5 a6 : Int) (M : Mem), R89 a2 a3 a4 a5 a6 M = some r → Z p l e lev s m args below meth c G 8 (MQ below (Qm G 1 r) args s 0 0 (Ab G)) M 89 [(0, .ref (G.1 + 111)), (2, vi a2), (3, vi a3), (4, vi a4), (5, vi a5), (6, vi a6)] []) {a2 a3 a4 a5 a6 : Int} {M : Mem} (h : k_Mo_hangs_89 R89 a2 a3 a4 a5 a6 M = some r) : Z p l e lev s m args below meth c G 8 (MQ below (Qm G 1 r) args s 0 0 (Ab G)) M 89 [(0, .ref (G.1 + 111)), (2, vi a2), (3, vi a3), (4, vi a4), (5, vi a5), (6, vi a6)] [] := by
  unfold k_Mo_hangs_89 at h
  refine z_iload C 5 x_Mo_hangs_89 rfl ?_
  refine z_iconst C x_Mo_hangs_91 ?_
  refine z_iload_n C 2 x_Mo_hangs_92 rfl ?_
  refine z_ishl C x_Mo_hangs_93 ?_
  rcases ite_e h with ⟨c1, h⟩ | ⟨c1, h⟩
  · refine z_icmp_ge_f (tgt := 153) C x_Mo_hangs_94 rfl c1 ?_
    refine z_iload C 5 x_Mo_hangs_97 rfl ?_
    obtain ⟨v2, M3, fv2, h⟩ := bcall_e h
    refine z_callSi C x_Mo_hangs_99 cs_Mo_647 (t_In_bitCount (lev := lev - 1) l G (by omega) fv2) (by omega) rfl (i_le rfl) rfl ?_
    refine z_iload C 4 x_Mo_hangs_102 rfl ?_
    rcases ite_e h with ⟨c4, h⟩ | ⟨c4, h⟩
    · refine z_icmp_lt_t (tgt := 110) C x_Mo_hangs_104 rfl c4 ?_
      refine z_aload_n C 0 x_Mo_hangs_110 rfl ?_
      refine z_iload C 5 x_Mo_hangs_111 rfl ?_
      refine z_iload_n C 2 x_Mo_hangs_113 rfl ?_
      refine z_iload_n C 1 x_Mo_hangs_114 rfl ?_
      refine z_iconst C x_Mo_hangs_115 ?_
      obtain ⟨v5, M6, fv5, h⟩ := bcall_e h
      refine z_callVv (k := 111) C x_Mo_hangs_116 cv_Mo_652 (t_Mo_add (lev := lev - 1) l G (by omega) fv5) nk_111 ck_111 rfl (by omega) rfl (i_le rfl) rfl ?_
      refine z_aload_n C 0 x_Mo_hangs_119 rfl ?_
      obtain ⟨v7, M8, fv7, h⟩ := bcall_e h
      refine z_callVi (k := 111) C x_Mo_hangs_120 cv_Mo_644 (t_Mo_isFor (lev := lev - 1) l G (by omega) fv7) nk_111 ck_111 rfl (by omega) rfl (i_le rfl) rfl ?_
      refine z_iload_n C 1 x_Mo_hangs_123 rfl ?_
      rcases ite_e h with ⟨c9, h⟩ | ⟨c9, h⟩
      · refine z_icmp_eq_t (tgt := 138) C x_Mo_hangs_124 rfl c9 ?_
        exact z_sub [0, 1, 2, 3, 4, 5] rfl (z_Mo_hangs_138 C hlev hR89 h)
      · refine z_icmp_eq_f (tgt := 138) C x_Mo_hangs_124 rfl c9 ?_
        refine z_iload C 5 x_Mo_hangs_127 rfl ?_
        obtain ⟨v10, M11, fv10, h⟩ := bcall_e h
        refine z_callSi C x_Mo_hangs_129 cs_Mo_647 (t_In_bitCount (lev := lev - 1) l G (by omega) fv10) (by omega) rfl (i_le rfl) rfl ?_
        refine z_istore (lv' := [(5, vi v10), (0, .ref (G.1 + 111)), (2, vi a2), (3, vi a3), (4, vi a4), (6, vi a6)]) C rfl x_Mo_hangs_132 (i_lt rfl) rfl ?_
        refine z_iload C 5 x_Mo_hangs_134 rfl ?_
        refine z_istore (lv' := [(4, vi a6), (5, vi v10), (0, .ref (G.1 + 111)), (2, vi a2), (3, vi a3), (6, vi a6)]) C rfl x_Mo_hangs_136 (i_lt rfl) rfl ?_
        exact z_sub [2, 3, 4, 0, 1, 5] rfl (z_Mo_hangs_138 C hlev hR89 h)
    · refine z_icmp_lt_f (tgt := 110) C x_Mo_hangs_104 rfl c4 ?_
      refine z_goto (tgt := 147) C x_Mo_hangs_107 rfl ?_
      exact z_sub [0, 1, 2, 3, 4, 5] rfl (z_Mo_hangs_147 C hlev hR89 h)
  · refine z_icmp_ge_t (tgt := 153) C x_Mo_hangs_94 rfl c1 ?_
    refine z_iload C 3 x_Mo_hangs_153 rfl ?_
    rcases ite_e h with ⟨c12, h⟩ | ⟨c12, h⟩
    · refine z_if_ge_f (tgt := 160) C x_Mo_hangs_155 rfl c12 ?_
      refine z_iconst C x_Mo_hangs_158 ?_
      exact z_iret C x_Mo_hangs_159 h
    · refine z_if_ge_t (tgt := 160) C x_Mo_hangs_155 rfl c12 ?_
      refine z_iconst C x_Mo_hangs_160 ?_
      refine z_istore (lv' := [(6, vi 0), (0, .ref (G.1 + 111)), (2, vi a2), (3, vi a3), (4, vi a4), (5, vi a5)]) C rfl x_Mo_hangs_161 (i_lt rfl) rfl ?_
      refine z_iconst C x_Mo_hangs_163 ?_
      refine z_istore (lv' := [(7, vi 0), (6, vi 0), (0, .ref (G.1 + 111)), (2, vi a2), (3, vi a3), (4, vi a4), (5, vi a5)]) C rfl x_Mo_hangs_164 (i_lt rfl) rfl ?_
      exact z_sub [2, 4, 5, 1, 0] rfl (zl_Mo_hangs_166 C hlev FU a3 a4 0 0 M h)
theorem zl_Mo_hangs_89 (C : Cx p s m args meth c G b_Mo_hangs 8 "PrairiePoolModel" (some .int)) (hlev : 6 ≤ lev) {r : Int × Mem}  : ∀ (n : Nat) (a2 a3 a4 a5 a6 : Int) (M : Mem), fix (fun _ _ _ _ _ _ => none) (k_Mo_hangs_89) n a2 a3 a4 a5 a6 M = some r → Z p l e lev s m args below meth c G 8 (MQ below (Qm G 1 r) args s 0 0 (Ab G)) M 89 [(0, .ref (G.1 + 111)), (2, vi a2), (3, vi a3), (4, vi a4), (5, vi a5), (6, vi a6)] [] := by
  intro n
  induction n with
  | zero => intro a2 a3 a4 a5 a6 M h; exact nomatch (show (none : Res) = some r from h)
  | succ n ih => intro a2 a3 a4 a5 a6 M h; exact z_Mo_hangs_89 C hlev ih h
def k_Mo_hangs_72 (R38 : Int → Int → Int → Mem → Res) (a2 a3 a4 : Int) (M : Mem) : Res := blet (a4 + 1) fun v1 => R38 a2 a3 v1 M
theorem z_Mo_hangs_72 (C : Cx p s m args meth c G b_Mo_hangs 8 "PrairiePoolModel" (some .int)) (hlev : 6 ≤ lev) {r : Int × Mem} {R38 : Int → Int → Int → Mem → Res} (hR38 : ∀ (a2 a3 a4 : Int) (M : Mem), R38 a2 a3 a4 M = some r → Z p l e lev s m args below meth c G 8 (MQ below (Qm G 1 r) args s 0 0 (Ab G)) M 38 [(0, .ref (G.1 + 111)), (2, vi a2), (3, vi a3), (4, vi a4)] []) {a2 a3 a4 : Int} {M : Mem} (h : k_Mo_hangs_72 R38 a2 a3 a4 M = some r) : Z p l e lev s m args below meth c G 8 (MQ below (Qm G 1 r) args s 0 0 (Ab G)) M 72 [(0, .ref (G.1 + 111)), (2, vi a2), (3, vi a3), (4, vi a4)] [] := by
  unfold k_Mo_hangs_72 at h
  obtain ⟨v1, ev1, h⟩ := blet_e h
  refine z_iinc (lv' := [(4, vi v1), (0, .ref (G.1 + 111)), (2, vi a2), (3, vi a3)]) C 3 ev1 x_Mo_hangs_72 rfl (i_lt rfl) rfl ?_
  refine z_goto (tgt := 38) C x_Mo_hangs_75 rfl ?_
  exact z_sub [1, 2, 3, 0] rfl (hR38 a2 a3 v1 M h)
def k_Mo_hangs_38 (R38 : Int → Int → Int → Mem → Res) (a2 a3 a4 : Int) (M : Mem) : Res := blet (M 111 5) fun v1 => if w32 a4 < w32 v1 then (chk (0 ≤ w32 a4 ∧ w32 a4 < 20) <| blet (M 166 (ix a4)) fun v4 => if w32 v4 = (-1) then (chk (0 ≤ w32 a3 ∧ w32 a3 < 20) <| blet (sto M 173 (ix a3) a4) fun M7 => blet (a3 + 1) fun v8 => k_Mo_hangs_72 R38 a2 v8 a4 M7) else (k_Mo_hangs_72 R38 a2 a3 a4 M)) else (blet (a3 + 1) fun v9 => fix (fun _ _ _ _ _ _ => none) (k_Mo_hangs_89) FU a2 a3 (-1) v9 1 M)
theorem z_Mo_hangs_38 (C : Cx p s m args meth c G b_Mo_hangs 8 "PrairiePoolModel" (some .int)) (hlev : 6 ≤ lev) {r : Int × Mem} {R38 : Int → Int → Int → Mem → Res} (hR38 : ∀ (a2 a3 a4 : Int) (M : Mem), R38 a2 a3 a4 M = some r → Z p l e lev s m args below meth c G 8 (MQ below (Qm G 1 r) args s 0 0 (Ab G)) M 38 [(0, .ref (G.1 + 111)), (2, vi a2), (3, vi a3), (4, vi a4)] []) {a2 a3 a4 : Int} {M : Mem} (h : k_Mo_hangs_38 R38 a2 a3 a4 M = some r) : Z p l e lev s m args below meth c G 8 (MQ below (Qm G 1 r) args s 0 0 (Ab G)) M 38 [(0, .ref (G.1 + 111)), (2, vi a2), (3, vi a3), (4, vi a4)] [] := by
  unfold k_Mo_hangs_38 at h
  refine z_iload C 3 x_Mo_hangs_38 rfl ?_
  refine z_aload_n C 0 x_Mo_hangs_40 rfl ?_
  obtain ⟨v1, ev1, h⟩ := blet_e h
  refine z_getI (j := 5) C x_Mo_hangs_41 nk_111 ck_111 cw_12 (i_lt rfl) rfl rfl fl_Mo_291 ev1 ?_
  rcases ite_e h with ⟨c2, h⟩ | ⟨c2, h⟩
  · refine z_icmp_ge_f (tgt := 78) C x_Mo_hangs_44 rfl c2 ?_
    refine z_aload_n C 0 x_Mo_hangs_47 rfl ?_
    refine z_getR (j := 81) C x_Mo_hangs_48 nk_111 ck_111 cw_12 (i_lt rfl) rfl rf_111_81 rfl fl_Mo_182 ?_
    refine z_iload C 3 x_Mo_hangs_51 rfl ?_
    obtain ⟨c3, h⟩ := chk_e h
    obtain ⟨v4, ev4, h⟩ := blet_e h
    refine z_iald C x_Mo_hangs_53 nk_166 ck_166 c3 ev4 ?_
    refine z_iconst C x_Mo_hangs_54 ?_
    rcases ite_e h with ⟨c5, h⟩ | ⟨c5, h⟩
    · refine z_icmp_eq_t (tgt := 61) C x_Mo_hangs_55 rfl c5 ?_
      refine z_aload_n C 0 x_Mo_hangs_61 rfl ?_
      refine z_getR (j := 91) C x_Mo_hangs_62 nk_111 ck_111 cw_12 (i_lt rfl) rfl rf_111_91 rfl fl_Mo_209 ?_
      refine z_iload_n C 2 x_Mo_hangs_65 rfl ?_
      refine z_iload C 3 x_Mo_hangs_66 rfl ?_
      obtain ⟨c6, h⟩ := chk_e h
      obtain ⟨M7, eM7, h⟩ := blet_e h
      refine z_iast C x_Mo_hangs_68 nk_173 ck_173 c6 eM7 ?_
      obtain ⟨v8, ev8, h⟩ := blet_e h
      refine z_iinc (lv' := [(3, vi v8), (0, .ref (G.1 + 111)), (2, vi a2), (4, vi a4)]) C 2 ev8 x_Mo_hangs_69 rfl (i_lt rfl) rfl ?_
      exact z_sub [1, 2, 0, 3] rfl (z_Mo_hangs_72 C hlev hR38 h)
    · refine z_icmp_eq_f (tgt := 61) C x_Mo_hangs_55 rfl c5 ?_
      refine z_goto (tgt := 72) C x_Mo_hangs_58 rfl ?_
      exact z_sub [0, 1, 2, 3] rfl (z_Mo_hangs_72 C hlev hR38 h)
  · refine z_icmp_ge_t (tgt := 78) C x_Mo_hangs_44 rfl c2 ?_
    refine z_iconst C x_Mo_hangs_78 ?_
    refine z_istore (lv' := [(4, vi (-1)), (0, .ref (G.1 + 111)), (2, vi a2), (3, vi a3)]) C rfl x_Mo_hangs_79 (i_lt rfl) rfl ?_
    refine z_iload_n C 3 x_Mo_hangs_81 rfl ?_
    refine z_iconst C x_Mo_hangs_82 ?_
    refine z_iadd C x_Mo_hangs_83 ?_
    obtain ⟨v9, ev9, h⟩ := blet_e h
    refine z_istore (lv' := [(5, vi v9), (4, vi (-1)), (0, .ref (G.1 + 111)), (2, vi a2), (3, vi a3)]) C ev9 x_Mo_hangs_84 (i_lt rfl) rfl ?_
    refine z_iconst C x_Mo_hangs_86 ?_
    refine z_istore (lv' := [(6, vi 1), (5, vi v9), (4, vi (-1)), (0, .ref (G.1 + 111)), (2, vi a2), (3, vi a3)]) C rfl x_Mo_hangs_87 (i_lt rfl) rfl ?_
    exact z_sub [3, 4, 5, 2, 1, 0] rfl (zl_Mo_hangs_89 C hlev FU a2 a3 (-1) v9 1 M h)
theorem zl_Mo_hangs_38 (C : Cx p s m args meth c G b_Mo_hangs 8 "PrairiePoolModel" (some .int)) (hlev : 6 ≤ lev) {r : Int × Mem}  : ∀ (n : Nat) (a2 a3 a4 : Int) (M : Mem), fix (fun _ _ _ _ => none) (k_Mo_hangs_38) n a2 a3 a4 M = some r → Z p l e lev s m args below meth c G 8 (MQ below (Qm G 1 r) args s 0 0 (Ab G)) M 38 [(0, .ref (G.1 + 111)), (2, vi a2), (3, vi a3), (4, vi a4)] [] := by
  intro n
  induction n with
  | zero => intro a2 a3 a4 M h; exact nomatch (show (none : Res) = some r from h)
  | succ n ih => intro a2 a3 a4 M h; exact z_Mo_hangs_38 C hlev ih h
def d_Mo_hangs (a1 : Int) (M : Mem) : Res := blet (sto M 111 1 0) fun M1 => blet (sto M1 111 0 0) fun M2 => bcall (d_Mo_isDay a1 M2) fun v3 M4 => if w32 v3 = 0 then (bcall (d_Mo_refuse 5 M4) fun v6 M7 => some (v6, M7)) else (bcall (d_Mo_findVotes a1 M4) fun v8 M9 => bcall (d_Mo_isFor M9) fun v10 M11 => fix (fun _ _ _ _ => none) (k_Mo_hangs_38) FU v10 0 0 M11)
theorem t_Mo_hangs (l : Launch) (G : GX) {lev : Nat} (hlev : 6 ≤ lev) {a1 : Int} {M : Mem} {r : Int × Mem} (h : d_Mo_hangs a1 M = some r) : Mt l G y_Mo_hangs b_Mo_hangs 8 (some .int) lev 1 [.ref (G.1 + 111), vi a1] M r := by
  refine Mt.of (by decide) (i_le rfl) ?_
  intro p e s m args below meth c C
  have C : Cx p s m args meth c G b_Mo_hangs 8 "PrairiePoolModel" (some .int) := C
  unfold d_Mo_hangs at h
  refine z_sub (lv' := [(0, .ref (G.1 + 111)), (1, vi a1)]) [0, 1] rfl ?_
  refine z_aload_n C 0 x_Mo_hangs_0 rfl ?_
  refine z_iconst C x_Mo_hangs_1 ?_
  obtain ⟨M1, eM1, h⟩ := blet_e h
  refine z_putI (j := 1) C x_Mo_hangs_2 nk_111 ck_111 cw_12 (i_lt rfl) rfl rfl rfl rfl fl_Mo_257 eM1 ?_
  refine z_aload_n C 0 x_Mo_hangs_5 rfl ?_
  refine z_iconst C x_Mo_hangs_6 ?_
  obtain ⟨M2, eM2, h⟩ := blet_e h
  refine z_putI (j := 0) C x_Mo_hangs_7 nk_111 ck_111 cw_12 (i_lt rfl) rfl rfl rfl rfl fl_Mo_260 eM2 ?_
  refine z_iload_n C 1 x_Mo_hangs_10 rfl ?_
  obtain ⟨v3, M4, fv3, h⟩ := bcall_e h
  refine z_callSi C x_Mo_hangs_11 cs_Mo_306 (t_Mo_isDay (lev := lev - 1) l G (by omega) fv3) (by omega) rfl (i_le rfl) rfl ?_
  rcases ite_e h with ⟨c5, h⟩ | ⟨c5, h⟩
  · refine z_if_ne_f (tgt := 23) C x_Mo_hangs_14 rfl c5 ?_
    refine z_aload_n C 0 x_Mo_hangs_17 rfl ?_
    refine z_iconst C x_Mo_hangs_18 ?_
    obtain ⟨v6, M7, fv6, h⟩ := bcall_e h
    refine z_callVi (k := 111) C x_Mo_hangs_19 cv_Mo_297 (t_Mo_refuse (lev := lev - 1) l G (by omega) fv6) nk_111 ck_111 rfl (by omega) rfl (i_le rfl) rfl ?_
    exact z_iret C x_Mo_hangs_22 h
  · refine z_if_ne_t (tgt := 23) C x_Mo_hangs_14 rfl c5 ?_
    refine z_aload_n C 0 x_Mo_hangs_23 rfl ?_
    refine z_iload_n C 1 x_Mo_hangs_24 rfl ?_
    obtain ⟨v8, M9, fv8, h⟩ := bcall_e h
    refine z_callVv (k := 111) C x_Mo_hangs_25 cv_Mo_641 (t_Mo_findVotes (lev := lev - 1) l G (by omega) fv8) nk_111 ck_111 rfl (by omega) rfl (i_le rfl) rfl ?_
    refine z_aload_n C 0 x_Mo_hangs_28 rfl ?_
    obtain ⟨v10, M11, fv10, h⟩ := bcall_e h
    refine z_callVi (k := 111) C x_Mo_hangs_29 cv_Mo_644 (t_Mo_isFor (lev := lev - 1) l G (by omega) fv10) nk_111 ck_111 rfl (by omega) rfl (i_le rfl) rfl ?_
    refine z_istore_n (lv' := [(2, vi v10), (0, .ref (G.1 + 111)), (1, vi a1)]) C rfl x_Mo_hangs_32 (i_lt rfl) rfl ?_
    refine z_iconst C x_Mo_hangs_33 ?_
    refine z_istore_n (lv' := [(3, vi 0), (2, vi v10), (0, .ref (G.1 + 111)), (1, vi a1)]) C rfl x_Mo_hangs_34 (i_lt rfl) rfl ?_
    refine z_iconst C x_Mo_hangs_35 ?_
    refine z_istore (lv' := [(4, vi 0), (3, vi 0), (2, vi v10), (0, .ref (G.1 + 111)), (1, vi a1)]) C rfl x_Mo_hangs_36 (i_lt rfl) rfl ?_
    exact z_sub [3, 2, 1, 0] rfl (zl_Mo_hangs_38 C hlev FU v10 0 0 M11 h)
theorem x_Mo_numberOf_0 : DC b_Mo_numberOf 0 (.aload_n 0) 1 1 := ⟨by decide +kernel, rfl⟩
theorem x_Mo_numberOf_1 : DC b_Mo_numberOf 1 (.getfield 16) 3 4 := ⟨by decide +kernel, rfl⟩
theorem x_Mo_numberOf_4 : DC b_Mo_numberOf 4 (.bipush 40) 2 6 := ⟨by decide +kernel, rfl⟩
theorem x_Mo_numberOf_6 : DC b_Mo_numberOf 6 (.iload_n 1) 1 7 := ⟨by decide +kernel, rfl⟩
theorem x_Mo_numberOf_7 : DC b_Mo_numberOf 7 (.imul) 1 8 := ⟨by decide +kernel, rfl⟩
theorem x_Mo_numberOf_8 : DC b_Mo_numberOf 8 (.iload_n 2) 1 9 := ⟨by decide +kernel, rfl⟩
theorem x_Mo_numberOf_9 : DC b_Mo_numberOf 9 (.iadd) 1 10 := ⟨by decide +kernel, rfl⟩
theorem x_Mo_numberOf_10 : DC b_Mo_numberOf 10 (.laload) 1 11 := ⟨by decide +kernel, rfl⟩
theorem x_Mo_numberOf_11 : DC b_Mo_numberOf 11 (.lreturn) 1 12 := ⟨by decide +kernel, rfl⟩
def d_Mo_numberOf (a1 a2 : Int) (M : Mem) : Res := chk (0 ≤ w32 ((40 * a1) + a2) ∧ w32 ((40 * a1) + a2) < 160) <| blet (M 114 (ix ((40 * a1) + a2))) fun v2 => some (v2, M)
theorem t_Mo_numberOf (l : Launch) (G : GX) {lev : Nat} (hlev : 0 ≤ lev) {a1 a2 : Int} {M : Mem} {r : Int × Mem} (h : d_Mo_numberOf a1 a2 M = some r) : Mt l G y_Mo_numberOf b_Mo_numberOf 3 (some .long) lev 2 [.ref (G.1 + 111), vi a1, vi a2] M r := by
  refine Mt.of (by decide) (i_le rfl) ?_
  intro p e s m args below meth c C
  have C : Cx p s m args meth c G b_Mo_numberOf 3 "PrairiePoolModel" (some .long) := C
  unfold d_Mo_numberOf at h
  refine z_sub (lv' := [(0, .ref (G.1 + 111)), (1, vi a1), (2, vi a2)]) [0, 1, 2] rfl ?_
  refine z_aload_n C 0 x_Mo_numberOf_0 rfl ?_
  refine z_getR (j := 4) C x_Mo_numberOf_1 nk_111 ck_111 cw_12 (i_lt rfl) rfl rf_111_4 rfl fl_Mo_16 ?_
  refine z_bipush C rfl x_Mo_numberOf_4 ?_
  refine z_iload_n C 1 x_Mo_numberOf_6 rfl ?_
  refine z_imul C x_Mo_numberOf_7 ?_
  refine z_iload_n C 2 x_Mo_numberOf_8 rfl ?_
  refine z_iadd C x_Mo_numberOf_9 ?_
  obtain ⟨c1, h⟩ := chk_e h
  obtain ⟨v2, ev2, h⟩ := blet_e h
  refine z_lald C x_Mo_numberOf_10 nk_114 ck_114 c1 ev2 ?_
  exact z_lret C x_Mo_numberOf_11 h
theorem x_Mo_canTurn_0 : DC b_Mo_canTurn 0 (.iload_n 3) 1 1 := ⟨by decide +kernel, rfl⟩
theorem x_Mo_canTurn_1 : DC b_Mo_canTurn 1 (.iload_n 1) 1 2 := ⟨by decide +kernel, rfl⟩
theorem x_Mo_canTurn_2 : DC b_Mo_canTurn 2 (.ishr) 1 3 := ⟨by decide +kernel, rfl⟩
theorem x_Mo_canTurn_3 : DC b_Mo_canTurn 3 (.iconst 1) 1 4 := ⟨by decide +kernel, rfl⟩
theorem x_Mo_canTurn_4 : DC b_Mo_canTurn 4 (.iand) 1 5 := ⟨by decide +kernel, rfl⟩
theorem x_Mo_canTurn_5 : DC b_Mo_canTurn 5 (.ifCond .ne 17) 3 8 := ⟨by decide +kernel, rfl⟩
theorem x_Mo_canTurn_8 : DC b_Mo_canTurn 8 (.iload_n 2) 1 9 := ⟨by decide +kernel, rfl⟩
theorem x_Mo_canTurn_9 : DC b_Mo_canTurn 9 (.aload_n 0) 1 10 := ⟨by decide +kernel, rfl⟩
theorem x_Mo_canTurn_10 : DC b_Mo_canTurn 10 (.getfield 224) 3 13 := ⟨by decide +kernel, rfl⟩
theorem x_Mo_canTurn_13 : DC b_Mo_canTurn 13 (.iload_n 1) 1 14 := ⟨by decide +kernel, rfl⟩
theorem x_Mo_canTurn_14 : DC b_Mo_canTurn 14 (.iaload) 1 15 := ⟨by decide +kernel, rfl⟩
theorem x_Mo_canTurn_15 : DC b_Mo_canTurn 15 (.if_icmp .ge 7) 3 18 := ⟨by decide +kernel, rfl⟩
theorem x_Mo_canTurn_18 : DC b_Mo_canTurn 18 (.iconst 1) 1 19 := ⟨by decide +kernel, rfl⟩
theorem x_Mo_canTurn_19 : DC b_Mo_canTurn 19 (.goto 4) 3 22 := ⟨by decide +kernel, rfl⟩
theorem x_Mo_canTurn_22 : DC b_Mo_canTurn 22 (.iconst 0) 1 23 := ⟨by decide +kernel, rfl⟩
theorem x_Mo_canTurn_23 : DC b_Mo_canTurn 23 (.ireturn) 1 24 := ⟨by decide +kernel, rfl⟩
def d_Mo_canTurn (a1 a2 a3 : Int) (M : Mem) : Res := if w32 (an32 (sr32 a3 a1) 1) = 0 then (chk (0 ≤ w32 a1 ∧ w32 a1 < 8) <| blet (M 178 (ix a1)) fun v3 => if w32 a2 < w32 v3 then (some (1, M)) else (some (0, M))) else (some (0, M))
theorem t_Mo_canTurn (l : Launch) (G : GX) {lev : Nat} (hlev : 0 ≤ lev) {a1 a2 a3 : Int} {M : Mem} {r : Int × Mem} (h : d_Mo_canTurn a1 a2 a3 M = some r) : Mt l G y_Mo_canTurn b_Mo_canTurn 4 (some .boolean) lev 1 [.ref (G.1 + 111), vi a1, vi a2, vi a3] M r := by
  refine Mt.of (by decide) (i_le rfl) ?_
  intro p e s m args below meth c C
  have C : Cx p s m args meth c G b_Mo_canTurn 4 "PrairiePoolModel" (some .boolean) := C
  unfold d_Mo_canTurn at h
  refine z_sub (lv' := [(0, .ref (G.1 + 111)), (1, vi a1), (2, vi a2), (3, vi a3)]) [0, 1, 2, 3] rfl ?_
  refine z_iload_n C 3 x_Mo_canTurn_0 rfl ?_
  refine z_iload_n C 1 x_Mo_canTurn_1 rfl ?_
  refine z_ishr C x_Mo_canTurn_2 ?_
  refine z_iconst C x_Mo_canTurn_3 ?_
  refine z_iand C x_Mo_canTurn_4 ?_
  rcases ite_e h with ⟨c1, h⟩ | ⟨c1, h⟩
  · refine z_if_ne_f (tgt := 22) C x_Mo_canTurn_5 rfl c1 ?_
    refine z_iload_n C 2 x_Mo_canTurn_8 rfl ?_
    refine z_aload_n C 0 x_Mo_canTurn_9 rfl ?_
    refine z_getR (j := 96) C x_Mo_canTurn_10 nk_111 ck_111 cw_12 (i_lt rfl) rfl rf_111_96 rfl fl_Mo_224 ?_
    refine z_iload_n C 1 x_Mo_canTurn_13 rfl ?_
    obtain ⟨c2, h⟩ := chk_e h
    obtain ⟨v3, ev3, h⟩ := blet_e h
    refine z_iald C x_Mo_canTurn_14 nk_178 ck_178 c2 ev3 ?_
    rcases ite_e h with ⟨c4, h⟩ | ⟨c4, h⟩
    · refine z_icmp_ge_f (tgt := 22) C x_Mo_canTurn_15 rfl c4 ?_
      refine z_iconst C x_Mo_canTurn_18 ?_
      refine z_goto (tgt := 23) C x_Mo_canTurn_19 rfl ?_
      exact z_zret C x_Mo_canTurn_23 (by decide) h
    · refine z_icmp_ge_t (tgt := 22) C x_Mo_canTurn_15 rfl c4 ?_
      refine z_iconst C x_Mo_canTurn_22 ?_
      exact z_zret C x_Mo_canTurn_23 (by decide) h
  · refine z_if_ne_t (tgt := 22) C x_Mo_canTurn_5 rfl c1 ?_
    refine z_iconst C x_Mo_canTurn_22 ?_
    exact z_zret C x_Mo_canTurn_23 (by decide) h
theorem x_Mo_warm_0 : DC b_Mo_warm 0 (.aload_n 0) 1 1 := ⟨by decide +kernel, rfl⟩
theorem x_Mo_warm_1 : DC b_Mo_warm 1 (.iconst 0) 1 2 := ⟨by decide +kernel, rfl⟩
theorem x_Mo_warm_2 : DC b_Mo_warm 2 (.putfield 257) 3 5 := ⟨by decide +kernel, rfl⟩
theorem x_Mo_warm_5 : DC b_Mo_warm 5 (.aload_n 0) 1 6 := ⟨by decide +kernel, rfl⟩
theorem x_Mo_warm_6 : DC b_Mo_warm 6 (.iconst 0) 1 7 := ⟨by decide +kernel, rfl⟩
theorem x_Mo_warm_7 : DC b_Mo_warm 7 (.putfield 260) 3 10 := ⟨by decide +kernel, rfl⟩
theorem x_Mo_warm_10 : DC b_Mo_warm 10 (.iload_n 1) 1 11 := ⟨by decide +kernel, rfl⟩
theorem x_Mo_warm_11 : DC b_Mo_warm 11 (.i2l) 1 12 := ⟨by decide +kernel, rfl⟩
theorem x_Mo_warm_12 : DC b_Mo_warm 12 (.lconst 0) 1 13 := ⟨by decide +kernel, rfl⟩
theorem x_Mo_warm_13 : DC b_Mo_warm 13 (.ldc2_w 408) 3 16 := ⟨by decide +kernel, rfl⟩
theorem x_Mo_warm_16 : DC b_Mo_warm 16 (.invokestatic 265) 3 19 := ⟨by decide +kernel, rfl⟩
theorem x_Mo_warm_19 : DC b_Mo_warm 19 (.ifCond .eq 15) 3 22 := ⟨by decide +kernel, rfl⟩
theorem x_Mo_warm_22 : DC b_Mo_warm 22 (.iload_n 2) 1 23 := ⟨by decide +kernel, rfl⟩
theorem x_Mo_warm_23 : DC b_Mo_warm 23 (.i2l) 1 24 := ⟨by decide +kernel, rfl⟩
theorem x_Mo_warm_24 : DC b_Mo_warm 24 (.lconst 0) 1 25 := ⟨by decide +kernel, rfl⟩
theorem x_Mo_warm_25 : DC b_Mo_warm 25 (.ldc2_w 408) 3 28 := ⟨by decide +kernel, rfl⟩
theorem x_Mo_warm_28 : DC b_Mo_warm 28 (.invokestatic 265) 3 31 := ⟨by decide +kernel, rfl⟩
theorem x_Mo_warm_31 : DC b_Mo_warm 31 (.ifCond .ne 9) 3 34 := ⟨by decide +kernel, rfl⟩
theorem x_Mo_warm_34 : DC b_Mo_warm 34 (.aload_n 0) 1 35 := ⟨by decide +kernel, rfl⟩
theorem x_Mo_warm_35 : DC b_Mo_warm 35 (.iconst 1) 1 36 := ⟨by decide +kernel, rfl⟩
theorem x_Mo_warm_36 : DC b_Mo_warm 36 (.invokevirtual 297) 3 39 := ⟨by decide +kernel, rfl⟩
theorem x_Mo_warm_39 : DC b_Mo_warm 39 (.ireturn) 1 40 := ⟨by decide +kernel, rfl⟩
theorem x_Mo_warm_40 : DC b_Mo_warm 40 (.aload_n 0) 1 41 := ⟨by decide +kernel, rfl⟩
theorem x_Mo_warm_41 : DC b_Mo_warm 41 (.getfield 13) 3 44 := ⟨by decide +kernel, rfl⟩
theorem x_Mo_warm_44 : DC b_Mo_warm 44 (.iload_n 1) 1 45 := ⟨by decide +kernel, rfl⟩
theorem x_Mo_warm_45 : DC b_Mo_warm 45 (.iaload) 1 46 := ⟨by decide +kernel, rfl⟩
theorem x_Mo_warm_46 : DC b_Mo_warm 46 (.ifCond .lt 12) 3 49 := ⟨by decide +kernel, rfl⟩
theorem x_Mo_warm_49 : DC b_Mo_warm 49 (.aload_n 0) 1 50 := ⟨by decide +kernel, rfl⟩
theorem x_Mo_warm_50 : DC b_Mo_warm 50 (.getfield 13) 3 53 := ⟨by decide +kernel, rfl⟩
theorem x_Mo_warm_53 : DC b_Mo_warm 53 (.iload_n 2) 1 54 := ⟨by decide +kernel, rfl⟩
theorem x_Mo_warm_54 : DC b_Mo_warm 54 (.iaload) 1 55 := ⟨by decide +kernel, rfl⟩
theorem x_Mo_warm_55 : DC b_Mo_warm 55 (.ifCond .ge 9) 3 58 := ⟨by decide +kernel, rfl⟩
theorem x_Mo_warm_58 : DC b_Mo_warm 58 (.aload_n 0) 1 59 := ⟨by decide +kernel, rfl⟩
theorem x_Mo_warm_59 : DC b_Mo_warm 59 (.iconst 3) 1 60 := ⟨by decide +kernel, rfl⟩
theorem x_Mo_warm_60 : DC b_Mo_warm 60 (.invokevirtual 297) 3 63 := ⟨by decide +kernel, rfl⟩
theorem x_Mo_warm_63 : DC b_Mo_warm 63 (.ireturn) 1 64 := ⟨by decide +kernel, rfl⟩
theorem x_Mo_warm_64 : DC b_Mo_warm 64 (.iload_n 3) 1 65 := ⟨by decide +kernel, rfl⟩
theorem x_Mo_warm_65 : DC b_Mo_warm 65 (.i2l) 1 66 := ⟨by decide +kernel, rfl⟩
theorem x_Mo_warm_66 : DC b_Mo_warm 66 (.lconst 1) 1 67 := ⟨by decide +kernel, rfl⟩
theorem x_Mo_warm_67 : DC b_Mo_warm 67 (.ldc2_w 656) 3 70 := ⟨by decide +kernel, rfl⟩
theorem x_Mo_warm_70 : DC b_Mo_warm 70 (.invokestatic 265) 3 73 := ⟨by decide +kernel, rfl⟩
theorem x_Mo_warm_73 : DC b_Mo_warm 73 (.ifCond .ne 9) 3 76 := ⟨by decide +kernel, rfl⟩
theorem x_Mo_warm_76 : DC b_Mo_warm 76 (.aload_n 0) 1 77 := ⟨by decide +kernel, rfl⟩
theorem x_Mo_warm_77 : DC b_Mo_warm 77 (.iconst 5) 1 78 := ⟨by decide +kernel, rfl⟩
theorem x_Mo_warm_78 : DC b_Mo_warm 78 (.invokevirtual 297) 3 81 := ⟨by decide +kernel, rfl⟩
theorem x_Mo_warm_81 : DC b_Mo_warm 81 (.ireturn) 1 82 := ⟨by decide +kernel, rfl⟩
theorem x_Mo_warm_82 : DC b_Mo_warm 82 (.aload_n 0) 1 83 := ⟨by decide +kernel, rfl⟩
theorem x_Mo_warm_83 : DC b_Mo_warm 83 (.getfield 13) 3 86 := ⟨by decide +kernel, rfl⟩
theorem x_Mo_warm_86 : DC b_Mo_warm 86 (.iload_n 1) 1 87 := ⟨by decide +kernel, rfl⟩
theorem x_Mo_warm_87 : DC b_Mo_warm 87 (.iaload) 1 88 := ⟨by decide +kernel, rfl⟩
theorem x_Mo_warm_88 : DC b_Mo_warm 88 (.iload_n 3) 1 89 := ⟨by decide +kernel, rfl⟩
theorem x_Mo_warm_89 : DC b_Mo_warm 89 (.if_icmp .lt 13) 3 92 := ⟨by decide +kernel, rfl⟩
theorem x_Mo_warm_92 : DC b_Mo_warm 92 (.aload_n 0) 1 93 := ⟨by decide +kernel, rfl⟩
theorem x_Mo_warm_93 : DC b_Mo_warm 93 (.getfield 13) 3 96 := ⟨by decide +kernel, rfl⟩
theorem x_Mo_warm_96 : DC b_Mo_warm 96 (.iload_n 2) 1 97 := ⟨by decide +kernel, rfl⟩
theorem x_Mo_warm_97 : DC b_Mo_warm 97 (.iaload) 1 98 := ⟨by decide +kernel, rfl⟩
theorem x_Mo_warm_98 : DC b_Mo_warm 98 (.iload_n 3) 1 99 := ⟨by decide +kernel, rfl⟩
theorem x_Mo_warm_99 : DC b_Mo_warm 99 (.if_icmp .ge 9) 3 102 := ⟨by decide +kernel, rfl⟩
theorem x_Mo_warm_102 : DC b_Mo_warm 102 (.aload_n 0) 1 103 := ⟨by decide +kernel, rfl⟩
theorem x_Mo_warm_103 : DC b_Mo_warm 103 (.iconst 4) 1 104 := ⟨by decide +kernel, rfl⟩
theorem x_Mo_warm_104 : DC b_Mo_warm 104 (.invokevirtual 297) 3 107 := ⟨by decide +kernel, rfl⟩
theorem x_Mo_warm_107 : DC b_Mo_warm 107 (.ireturn) 1 108 := ⟨by decide +kernel, rfl⟩
theorem x_Mo_warm_108 : DC b_Mo_warm 108 (.iconst 0) 1 109 := ⟨by decide +kernel, rfl⟩
theorem x_Mo_warm_109 : DC b_Mo_warm 109 (.istore 4) 2 111 := ⟨by decide +kernel, rfl⟩
theorem x_Mo_warm_111 : DC b_Mo_warm 111 (.iload 4) 2 113 := ⟨by decide +kernel, rfl⟩
theorem x_Mo_warm_113 : DC b_Mo_warm 113 (.iload_n 3) 1 114 := ⟨by decide +kernel, rfl⟩
theorem x_Mo_warm_114 : DC b_Mo_warm 114 (.if_icmp .ge 49) 3 117 := ⟨by decide +kernel, rfl⟩
theorem x_Mo_warm_117 : DC b_Mo_warm 117 (.aload_n 0) 1 118 := ⟨by decide +kernel, rfl⟩
theorem x_Mo_warm_118 : DC b_Mo_warm 118 (.iload_n 1) 1 119 := ⟨by decide +kernel, rfl⟩
theorem x_Mo_warm_119 : DC b_Mo_warm 119 (.iload 4) 2 121 := ⟨by decide +kernel, rfl⟩
theorem x_Mo_warm_121 : DC b_Mo_warm 121 (.invokevirtual 658) 3 124 := ⟨by decide +kernel, rfl⟩
theorem x_Mo_warm_124 : DC b_Mo_warm 124 (.lconst 0) 1 125 := ⟨by decide +kernel, rfl⟩
theorem x_Mo_warm_125 : DC b_Mo_warm 125 (.ldc2_w 624) 3 128 := ⟨by decide +kernel, rfl⟩
theorem x_Mo_warm_128 : DC b_Mo_warm 128 (.invokestatic 265) 3 131 := ⟨by decide +kernel, rfl⟩
theorem x_Mo_warm_131 : DC b_Mo_warm 131 (.ifCond .eq 20) 3 134 := ⟨by decide +kernel, rfl⟩
theorem x_Mo_warm_134 : DC b_Mo_warm 134 (.aload_n 0) 1 135 := ⟨by decide +kernel, rfl⟩
theorem x_Mo_warm_135 : DC b_Mo_warm 135 (.iload_n 2) 1 136 := ⟨by decide +kernel, rfl⟩
theorem x_Mo_warm_136 : DC b_Mo_warm 136 (.iload 4) 2 138 := ⟨by decide +kernel, rfl⟩
theorem x_Mo_warm_138 : DC b_Mo_warm 138 (.invokevirtual 658) 3 141 := ⟨by decide +kernel, rfl⟩
theorem x_Mo_warm_141 : DC b_Mo_warm 141 (.lconst 1) 1 142 := ⟨by decide +kernel, rfl⟩
theorem x_Mo_warm_142 : DC b_Mo_warm 142 (.ldc2_w 324) 3 145 := ⟨by decide +kernel, rfl⟩
theorem x_Mo_warm_145 : DC b_Mo_warm 145 (.invokestatic 265) 3 148 := ⟨by decide +kernel, rfl⟩
theorem x_Mo_warm_148 : DC b_Mo_warm 148 (.ifCond .ne 9) 3 151 := ⟨by decide +kernel, rfl⟩
theorem x_Mo_warm_151 : DC b_Mo_warm 151 (.aload_n 0) 1 152 := ⟨by decide +kernel, rfl⟩
theorem x_Mo_warm_152 : DC b_Mo_warm 152 (.iconst 5) 1 153 := ⟨by decide +kernel, rfl⟩
theorem x_Mo_warm_153 : DC b_Mo_warm 153 (.invokevirtual 297) 3 156 := ⟨by decide +kernel, rfl⟩
theorem x_Mo_warm_156 : DC b_Mo_warm 156 (.ireturn) 1 157 := ⟨by decide +kernel, rfl⟩
theorem x_Mo_warm_157 : DC b_Mo_warm 157 (.iinc 4 1) 3 160 := ⟨by decide +kernel, rfl⟩
theorem x_Mo_warm_160 : DC b_Mo_warm 160 (.goto (-49)) 3 163 := ⟨by decide +kernel, rfl⟩
theorem x_Mo_warm_163 : DC b_Mo_warm 163 (.iconst 0) 1 164 := ⟨by decide +kernel, rfl⟩
theorem x_Mo_warm_164 : DC b_Mo_warm 164 (.istore 4) 2 166 := ⟨by decide +kernel, rfl⟩
theorem x_Mo_warm_166 : DC b_Mo_warm 166 (.iload 4) 2 168 := ⟨by decide +kernel, rfl⟩
theorem x_Mo_warm_168 : DC b_Mo_warm 168 (.iload_n 3) 1 169 := ⟨by decide +kernel, rfl⟩
theorem x_Mo_warm_169 : DC b_Mo_warm 169 (.if_icmp .ge 39) 3 172 := ⟨by decide +kernel, rfl⟩
theorem x_Mo_warm_172 : DC b_Mo_warm 172 (.aload_n 0) 1 173 := ⟨by decide +kernel, rfl⟩
theorem x_Mo_warm_173 : DC b_Mo_warm 173 (.getfield 224) 3 176 := ⟨by decide +kernel, rfl⟩
theorem x_Mo_warm_176 : DC b_Mo_warm 176 (.iload 4) 2 178 := ⟨by decide +kernel, rfl⟩
theorem x_Mo_warm_178 : DC b_Mo_warm 178 (.aload_n 0) 1 179 := ⟨by decide +kernel, rfl⟩
theorem x_Mo_warm_179 : DC b_Mo_warm 179 (.iload_n 1) 1 180 := ⟨by decide +kernel, rfl⟩
theorem x_Mo_warm_180 : DC b_Mo_warm 180 (.iload 4) 2 182 := ⟨by decide +kernel, rfl⟩
theorem x_Mo_warm_182 : DC b_Mo_warm 182 (.invokevirtual 658) 3 185 := ⟨by decide +kernel, rfl⟩
theorem x_Mo_warm_185 : DC b_Mo_warm 185 (.l2i) 1 186 := ⟨by decide +kernel, rfl⟩
theorem x_Mo_warm_186 : DC b_Mo_warm 186 (.iastore) 1 187 := ⟨by decide +kernel, rfl⟩
theorem x_Mo_warm_187 : DC b_Mo_warm 187 (.aload_n 0) 1 188 := ⟨by decide +kernel, rfl⟩
theorem x_Mo_warm_188 : DC b_Mo_warm 188 (.getfield 227) 3 191 := ⟨by decide +kernel, rfl⟩
theorem x_Mo_warm_191 : DC b_Mo_warm 191 (.iload 4) 2 193 := ⟨by decide +kernel, rfl⟩
theorem x_Mo_warm_193 : DC b_Mo_warm 193 (.aload_n 0) 1 194 := ⟨by decide +kernel, rfl⟩
theorem x_Mo_warm_194 : DC b_Mo_warm 194 (.iload_n 2) 1 195 := ⟨by decide +kernel, rfl⟩
theorem x_Mo_warm_195 : DC b_Mo_warm 195 (.iload 4) 2 197 := ⟨by decide +kernel, rfl⟩
theorem x_Mo_warm_197 : DC b_Mo_warm 197 (.invokevirtual 658) 3 200 := ⟨by decide +kernel, rfl⟩
theorem x_Mo_warm_200 : DC b_Mo_warm 200 (.l2i) 1 201 := ⟨by decide +kernel, rfl⟩
theorem x_Mo_warm_201 : DC b_Mo_warm 201 (.iastore) 1 202 := ⟨by decide +kernel, rfl⟩
theorem x_Mo_warm_202 : DC b_Mo_warm 202 (.iinc 4 1) 3 205 := ⟨by decide +kernel, rfl⟩
theorem x_Mo_warm_205 : DC b_Mo_warm 205 (.goto (-39)) 3 208 := ⟨by decide +kernel, rfl⟩
theorem x_Mo_warm_208 : DC b_Mo_warm 208 (.iconst 0) 1 209 := ⟨by decide +kernel, rfl⟩
theorem x_Mo_warm_209 : DC b_Mo_warm 209 (.istore 4) 2 211 := ⟨by decide +kernel, rfl⟩
theorem x_Mo_warm_211 : DC b_Mo_warm 211 (.iload 4) 2 213 := ⟨by decide +kernel, rfl⟩
theorem x_Mo_warm_213 : DC b_Mo_warm 213 (.iconst 1) 1 214 := ⟨by decide +kernel, rfl⟩
theorem x_Mo_warm_214 : DC b_Mo_warm 214 (.iload_n 3) 1 215 := ⟨by decide +kernel, rfl⟩
theorem x_Mo_warm_215 : DC b_Mo_warm 215 (.ishl) 1 216 := ⟨by decide +kernel, rfl⟩
theorem x_Mo_warm_216 : DC b_Mo_warm 216 (.if_icmp .ge 21) 3 219 := ⟨by decide +kernel, rfl⟩
theorem x_Mo_warm_219 : DC b_Mo_warm 219 (.aload_n 0) 1 220 := ⟨by decide +kernel, rfl⟩
theorem x_Mo_warm_220 : DC b_Mo_warm 220 (.getfield 233) 3 223 := ⟨by decide +kernel, rfl⟩
theorem x_Mo_warm_223 : DC b_Mo_warm 223 (.sipush 5120) 3 226 := ⟨by decide +kernel, rfl⟩
theorem x_Mo_warm_226 : DC b_Mo_warm 226 (.iload 4) 2 228 := ⟨by decide +kernel, rfl⟩
theorem x_Mo_warm_228 : DC b_Mo_warm 228 (.iadd) 1 229 := ⟨by decide +kernel, rfl⟩
theorem x_Mo_warm_229 : DC b_Mo_warm 229 (.iconst 0) 1 230 := ⟨by decide +kernel, rfl⟩
theorem x_Mo_warm_230 : DC b_Mo_warm 230 (.iastore) 1 231 := ⟨by decide +kernel, rfl⟩
theorem x_Mo_warm_231 : DC b_Mo_warm 231 (.iinc 4 1) 3 234 := ⟨by decide +kernel, rfl⟩
theorem x_Mo_warm_234 : DC b_Mo_warm 234 (.goto (-23)) 3 237 := ⟨by decide +kernel, rfl⟩
theorem x_Mo_warm_237 : DC b_Mo_warm 237 (.bipush 19) 2 239 := ⟨by decide +kernel, rfl⟩
theorem x_Mo_warm_239 : DC b_Mo_warm 239 (.istore 4) 2 241 := ⟨by decide +kernel, rfl⟩
theorem x_Mo_warm_241 : DC b_Mo_warm 241 (.iload 4) 2 243 := ⟨by decide +kernel, rfl⟩
theorem x_Mo_warm_243 : DC b_Mo_warm 243 (.ifCond .lt 128) 3 246 := ⟨by decide +kernel, rfl⟩
theorem x_Mo_warm_246 : DC b_Mo_warm 246 (.iconst 0) 1 247 := ⟨by decide +kernel, rfl⟩
theorem x_Mo_warm_247 : DC b_Mo_warm 247 (.istore 5) 2 249 := ⟨by decide +kernel, rfl⟩
theorem x_Mo_warm_249 : DC b_Mo_warm 249 (.iload 5) 2 251 := ⟨by decide +kernel, rfl⟩
theorem x_Mo_warm_251 : DC b_Mo_warm 251 (.iconst 1) 1 252 := ⟨by decide +kernel, rfl⟩
theorem x_Mo_warm_252 : DC b_Mo_warm 252 (.iload_n 3) 1 253 := ⟨by decide +kernel, rfl⟩
theorem x_Mo_warm_253 : DC b_Mo_warm 253 (.ishl) 1 254 := ⟨by decide +kernel, rfl⟩
theorem x_Mo_warm_254 : DC b_Mo_warm 254 (.if_icmp .ge 111) 3 257 := ⟨by decide +kernel, rfl⟩
theorem x_Mo_warm_257 : DC b_Mo_warm 257 (.aload_n 0) 1 258 := ⟨by decide +kernel, rfl⟩
theorem x_Mo_warm_258 : DC b_Mo_warm 258 (.getfield 233) 3 261 := ⟨by decide +kernel, rfl⟩
theorem x_Mo_warm_261 : DC b_Mo_warm 261 (.sipush 256) 3 264 := ⟨by decide +kernel, rfl⟩
theorem x_Mo_warm_264 : DC b_Mo_warm 264 (.iload 4) 2 266 := ⟨by decide +kernel, rfl⟩
theorem x_Mo_warm_266 : DC b_Mo_warm 266 (.imul) 1 267 := ⟨by decide +kernel, rfl⟩
theorem x_Mo_warm_267 : DC b_Mo_warm 267 (.sipush 256) 3 270 := ⟨by decide +kernel, rfl⟩
theorem x_Mo_warm_270 : DC b_Mo_warm 270 (.iadd) 1 271 := ⟨by decide +kernel, rfl⟩
theorem x_Mo_warm_271 : DC b_Mo_warm 271 (.iload 5) 2 273 := ⟨by decide +kernel, rfl⟩
theorem x_Mo_warm_273 : DC b_Mo_warm 273 (.iadd) 1 274 := ⟨by decide +kernel, rfl⟩
theorem x_Mo_warm_274 : DC b_Mo_warm 274 (.iaload) 1 275 := ⟨by decide +kernel, rfl⟩
theorem x_Mo_warm_275 : DC b_Mo_warm 275 (.istore 6) 2 277 := ⟨by decide +kernel, rfl⟩
theorem x_Mo_warm_277 : DC b_Mo_warm 277 (.iconst 0) 1 278 := ⟨by decide +kernel, rfl⟩
theorem x_Mo_warm_278 : DC b_Mo_warm 278 (.istore 7) 2 280 := ⟨by decide +kernel, rfl⟩
theorem x_Mo_warm_280 : DC b_Mo_warm 280 (.iload 7) 2 282 := ⟨by decide +kernel, rfl⟩
theorem x_Mo_warm_282 : DC b_Mo_warm 282 (.iload_n 3) 1 283 := ⟨by decide +kernel, rfl⟩
theorem x_Mo_warm_283 : DC b_Mo_warm 283 (.if_icmp .ge 60) 3 286 := ⟨by decide +kernel, rfl⟩
theorem x_Mo_warm_286 : DC b_Mo_warm 286 (.aload_n 0) 1 287 := ⟨by decide +kernel, rfl⟩
theorem x_Mo_warm_287 : DC b_Mo_warm 287 (.iload 7) 2 289 := ⟨by decide +kernel, rfl⟩
theorem x_Mo_warm_289 : DC b_Mo_warm 289 (.iload 4) 2 291 := ⟨by decide +kernel, rfl⟩
theorem x_Mo_warm_291 : DC b_Mo_warm 291 (.iload 5) 2 293 := ⟨by decide +kernel, rfl⟩
theorem x_Mo_warm_293 : DC b_Mo_warm 293 (.invokevirtual 662) 3 296 := ⟨by decide +kernel, rfl⟩
theorem x_Mo_warm_296 : DC b_Mo_warm 296 (.ifCond .eq 41) 3 299 := ⟨by decide +kernel, rfl⟩
theorem x_Mo_warm_299 : DC b_Mo_warm 299 (.iload 6) 2 301 := ⟨by decide +kernel, rfl⟩
theorem x_Mo_warm_301 : DC b_Mo_warm 301 (.aload_n 0) 1 302 := ⟨by decide +kernel, rfl⟩
theorem x_Mo_warm_302 : DC b_Mo_warm 302 (.getfield 227) 3 305 := ⟨by decide +kernel, rfl⟩
theorem x_Mo_warm_305 : DC b_Mo_warm 305 (.iload 7) 2 307 := ⟨by decide +kernel, rfl⟩
theorem x_Mo_warm_307 : DC b_Mo_warm 307 (.iaload) 1 308 := ⟨by decide +kernel, rfl⟩
theorem x_Mo_warm_308 : DC b_Mo_warm 308 (.aload_n 0) 1 309 := ⟨by decide +kernel, rfl⟩
theorem x_Mo_warm_309 : DC b_Mo_warm 309 (.getfield 233) 3 312 := ⟨by decide +kernel, rfl⟩
theorem x_Mo_warm_312 : DC b_Mo_warm 312 (.sipush 256) 3 315 := ⟨by decide +kernel, rfl⟩
theorem x_Mo_warm_315 : DC b_Mo_warm 315 (.iload 4) 2 317 := ⟨by decide +kernel, rfl⟩
theorem x_Mo_warm_317 : DC b_Mo_warm 317 (.imul) 1 318 := ⟨by decide +kernel, rfl⟩
theorem x_Mo_warm_318 : DC b_Mo_warm 318 (.sipush 256) 3 321 := ⟨by decide +kernel, rfl⟩
theorem x_Mo_warm_321 : DC b_Mo_warm 321 (.iadd) 1 322 := ⟨by decide +kernel, rfl⟩
theorem x_Mo_warm_322 : DC b_Mo_warm 322 (.iload 5) 2 324 := ⟨by decide +kernel, rfl⟩
theorem x_Mo_warm_324 : DC b_Mo_warm 324 (.iconst 1) 1 325 := ⟨by decide +kernel, rfl⟩
theorem x_Mo_warm_325 : DC b_Mo_warm 325 (.iload 7) 2 327 := ⟨by decide +kernel, rfl⟩
theorem x_Mo_warm_327 : DC b_Mo_warm 327 (.ishl) 1 328 := ⟨by decide +kernel, rfl⟩
theorem x_Mo_warm_328 : DC b_Mo_warm 328 (.ior) 1 329 := ⟨by decide +kernel, rfl⟩
theorem x_Mo_warm_329 : DC b_Mo_warm 329 (.iadd) 1 330 := ⟨by decide +kernel, rfl⟩
theorem x_Mo_warm_330 : DC b_Mo_warm 330 (.iaload) 1 331 := ⟨by decide +kernel, rfl⟩
theorem x_Mo_warm_331 : DC b_Mo_warm 331 (.iadd) 1 332 := ⟨by decide +kernel, rfl⟩
theorem x_Mo_warm_332 : DC b_Mo_warm 332 (.invokestatic 393) 3 335 := ⟨by decide +kernel, rfl⟩
theorem x_Mo_warm_335 : DC b_Mo_warm 335 (.istore 6) 2 337 := ⟨by decide +kernel, rfl⟩
theorem x_Mo_warm_337 : DC b_Mo_warm 337 (.iinc 7 1) 3 340 := ⟨by decide +kernel, rfl⟩
theorem x_Mo_warm_340 : DC b_Mo_warm 340 (.goto (-60)) 3 343 := ⟨by decide +kernel, rfl⟩
theorem x_Mo_warm_343 : DC b_Mo_warm 343 (.aload_n 0) 1 344 := ⟨by decide +kernel, rfl⟩
theorem x_Mo_warm_344 : DC b_Mo_warm 344 (.getfield 233) 3 347 := ⟨by decide +kernel, rfl⟩
theorem x_Mo_warm_347 : DC b_Mo_warm 347 (.sipush 256) 3 350 := ⟨by decide +kernel, rfl⟩
theorem x_Mo_warm_350 : DC b_Mo_warm 350 (.iload 4) 2 352 := ⟨by decide +kernel, rfl⟩
theorem x_Mo_warm_352 : DC b_Mo_warm 352 (.imul) 1 353 := ⟨by decide +kernel, rfl⟩
theorem x_Mo_warm_353 : DC b_Mo_warm 353 (.iload 5) 2 355 := ⟨by decide +kernel, rfl⟩
theorem x_Mo_warm_355 : DC b_Mo_warm 355 (.iadd) 1 356 := ⟨by decide +kernel, rfl⟩
theorem x_Mo_warm_356 : DC b_Mo_warm 356 (.iload 6) 2 358 := ⟨by decide +kernel, rfl⟩
theorem x_Mo_warm_358 : DC b_Mo_warm 358 (.iastore) 1 359 := ⟨by decide +kernel, rfl⟩
theorem x_Mo_warm_359 : DC b_Mo_warm 359 (.iinc 5 1) 3 362 := ⟨by decide +kernel, rfl⟩
theorem x_Mo_warm_362 : DC b_Mo_warm 362 (.goto (-113)) 3 365 := ⟨by decide +kernel, rfl⟩
theorem x_Mo_warm_365 : DC b_Mo_warm 365 (.iinc 4 (-1)) 3 368 := ⟨by decide +kernel, rfl⟩
theorem x_Mo_warm_368 : DC b_Mo_warm 368 (.goto (-127)) 3 371 := ⟨by decide +kernel, rfl⟩
theorem x_Mo_warm_371 : DC b_Mo_warm 371 (.iconst 0) 1 372 := ⟨by decide +kernel, rfl⟩
theorem x_Mo_warm_372 : DC b_Mo_warm 372 (.istore 4) 2 374 := ⟨by decide +kernel, rfl⟩
theorem x_Mo_warm_374 : DC b_Mo_warm 374 (.iconst 0) 1 375 := ⟨by decide +kernel, rfl⟩
theorem x_Mo_warm_375 : DC b_Mo_warm 375 (.istore 5) 2 377 := ⟨by decide +kernel, rfl⟩
theorem x_Mo_warm_377 : DC b_Mo_warm 377 (.iload 5) 2 379 := ⟨by decide +kernel, rfl⟩
theorem x_Mo_warm_379 : DC b_Mo_warm 379 (.bipush 20) 2 381 := ⟨by decide +kernel, rfl⟩
theorem x_Mo_warm_381 : DC b_Mo_warm 381 (.if_icmp .ge 123) 3 384 := ⟨by decide +kernel, rfl⟩
theorem x_Mo_warm_384 : DC b_Mo_warm 384 (.iconst 0) 1 385 := ⟨by decide +kernel, rfl⟩
theorem x_Mo_warm_385 : DC b_Mo_warm 385 (.istore 6) 2 387 := ⟨by decide +kernel, rfl⟩
theorem x_Mo_warm_387 : DC b_Mo_warm 387 (.iload 6) 2 389 := ⟨by decide +kernel, rfl⟩
theorem x_Mo_warm_389 : DC b_Mo_warm 389 (.iload_n 3) 1 390 := ⟨by decide +kernel, rfl⟩
theorem x_Mo_warm_390 : DC b_Mo_warm 390 (.if_icmp .ge 70) 3 393 := ⟨by decide +kernel, rfl⟩
theorem x_Mo_warm_393 : DC b_Mo_warm 393 (.aload_n 0) 1 394 := ⟨by decide +kernel, rfl⟩
theorem x_Mo_warm_394 : DC b_Mo_warm 394 (.iload 6) 2 396 := ⟨by decide +kernel, rfl⟩
theorem x_Mo_warm_396 : DC b_Mo_warm 396 (.iload 5) 2 398 := ⟨by decide +kernel, rfl⟩
theorem x_Mo_warm_398 : DC b_Mo_warm 398 (.iload 4) 2 400 := ⟨by decide +kernel, rfl⟩
theorem x_Mo_warm_400 : DC b_Mo_warm 400 (.invokevirtual 662) 3 403 := ⟨by decide +kernel, rfl⟩
theorem x_Mo_warm_403 : DC b_Mo_warm 403 (.ifCond .eq 51) 3 406 := ⟨by decide +kernel, rfl⟩
theorem x_Mo_warm_406 : DC b_Mo_warm 406 (.aload_n 0) 1 407 := ⟨by decide +kernel, rfl⟩
theorem x_Mo_warm_407 : DC b_Mo_warm 407 (.getfield 227) 3 410 := ⟨by decide +kernel, rfl⟩
theorem x_Mo_warm_410 : DC b_Mo_warm 410 (.iload 6) 2 412 := ⟨by decide +kernel, rfl⟩
theorem x_Mo_warm_412 : DC b_Mo_warm 412 (.iaload) 1 413 := ⟨by decide +kernel, rfl⟩
theorem x_Mo_warm_413 : DC b_Mo_warm 413 (.aload_n 0) 1 414 := ⟨by decide +kernel, rfl⟩
theorem x_Mo_warm_414 : DC b_Mo_warm 414 (.getfield 233) 3 417 := ⟨by decide +kernel, rfl⟩
theorem x_Mo_warm_417 : DC b_Mo_warm 417 (.sipush 256) 3 420 := ⟨by decide +kernel, rfl⟩
theorem x_Mo_warm_420 : DC b_Mo_warm 420 (.iload 5) 2 422 := ⟨by decide +kernel, rfl⟩
theorem x_Mo_warm_422 : DC b_Mo_warm 422 (.imul) 1 423 := ⟨by decide +kernel, rfl⟩
theorem x_Mo_warm_423 : DC b_Mo_warm 423 (.sipush 256) 3 426 := ⟨by decide +kernel, rfl⟩
theorem x_Mo_warm_426 : DC b_Mo_warm 426 (.iadd) 1 427 := ⟨by decide +kernel, rfl⟩
theorem x_Mo_warm_427 : DC b_Mo_warm 427 (.iload 4) 2 429 := ⟨by decide +kernel, rfl⟩
theorem x_Mo_warm_429 : DC b_Mo_warm 429 (.iconst 1) 1 430 := ⟨by decide +kernel, rfl⟩
theorem x_Mo_warm_430 : DC b_Mo_warm 430 (.iload 6) 2 432 := ⟨by decide +kernel, rfl⟩
theorem x_Mo_warm_432 : DC b_Mo_warm 432 (.ishl) 1 433 := ⟨by decide +kernel, rfl⟩
theorem x_Mo_warm_433 : DC b_Mo_warm 433 (.ior) 1 434 := ⟨by decide +kernel, rfl⟩
theorem x_Mo_warm_434 : DC b_Mo_warm 434 (.iadd) 1 435 := ⟨by decide +kernel, rfl⟩
theorem x_Mo_warm_435 : DC b_Mo_warm 435 (.iaload) 1 436 := ⟨by decide +kernel, rfl⟩
theorem x_Mo_warm_436 : DC b_Mo_warm 436 (.iadd) 1 437 := ⟨by decide +kernel, rfl⟩
theorem x_Mo_warm_437 : DC b_Mo_warm 437 (.aload_n 0) 1 438 := ⟨by decide +kernel, rfl⟩
theorem x_Mo_warm_438 : DC b_Mo_warm 438 (.getfield 233) 3 441 := ⟨by decide +kernel, rfl⟩
theorem x_Mo_warm_441 : DC b_Mo_warm 441 (.sipush 256) 3 444 := ⟨by decide +kernel, rfl⟩
theorem x_Mo_warm_444 : DC b_Mo_warm 444 (.iload 5) 2 446 := ⟨by decide +kernel, rfl⟩
theorem x_Mo_warm_446 : DC b_Mo_warm 446 (.imul) 1 447 := ⟨by decide +kernel, rfl⟩
theorem x_Mo_warm_447 : DC b_Mo_warm 447 (.iload 4) 2 449 := ⟨by decide +kernel, rfl⟩
theorem x_Mo_warm_449 : DC b_Mo_warm 449 (.iadd) 1 450 := ⟨by decide +kernel, rfl⟩
theorem x_Mo_warm_450 : DC b_Mo_warm 450 (.iaload) 1 451 := ⟨by decide +kernel, rfl⟩
theorem x_Mo_warm_451 : DC b_Mo_warm 451 (.if_icmp .eq 9) 3 454 := ⟨by decide +kernel, rfl⟩
theorem x_Mo_warm_454 : DC b_Mo_warm 454 (.iinc 6 1) 3 457 := ⟨by decide +kernel, rfl⟩
theorem x_Mo_warm_457 : DC b_Mo_warm 457 (.goto (-70)) 3 460 := ⟨by decide +kernel, rfl⟩
theorem x_Mo_warm_460 : DC b_Mo_warm 460 (.aload_n 0) 1 461 := ⟨by decide +kernel, rfl⟩
theorem x_Mo_warm_461 : DC b_Mo_warm 461 (.getfield 230) 3 464 := ⟨by decide +kernel, rfl⟩
theorem x_Mo_warm_464 : DC b_Mo_warm 464 (.iload 5) 2 466 := ⟨by decide +kernel, rfl⟩
theorem x_Mo_warm_466 : DC b_Mo_warm 466 (.iload 6) 2 468 := ⟨by decide +kernel, rfl⟩
theorem x_Mo_warm_468 : DC b_Mo_warm 468 (.iload_n 3) 1 469 := ⟨by decide +kernel, rfl⟩
theorem x_Mo_warm_469 : DC b_Mo_warm 469 (.if_icmp .ge 8) 3 472 := ⟨by decide +kernel, rfl⟩
theorem x_Mo_warm_472 : DC b_Mo_warm 472 (.iload 6) 2 474 := ⟨by decide +kernel, rfl⟩
theorem x_Mo_warm_474 : DC b_Mo_warm 474 (.goto 4) 3 477 := ⟨by decide +kernel, rfl⟩
theorem x_Mo_warm_477 : DC b_Mo_warm 477 (.iconst (-1)) 1 478 := ⟨by decide +kernel, rfl⟩
theorem x_Mo_warm_478 : DC b_Mo_warm 478 (.iastore) 1 479 := ⟨by decide +kernel, rfl⟩
theorem x_Mo_warm_479 : DC b_Mo_warm 479 (.iload 4) 2 481 := ⟨by decide +kernel, rfl⟩
theorem x_Mo_warm_481 : DC b_Mo_warm 481 (.iload 6) 2 483 := ⟨by decide +kernel, rfl⟩
theorem x_Mo_warm_483 : DC b_Mo_warm 483 (.iload_n 3) 1 484 := ⟨by decide +kernel, rfl⟩
theorem x_Mo_warm_484 : DC b_Mo_warm 484 (.if_icmp .ge 10) 3 487 := ⟨by decide +kernel, rfl⟩
theorem x_Mo_warm_487 : DC b_Mo_warm 487 (.iconst 1) 1 488 := ⟨by decide +kernel, rfl⟩
theorem x_Mo_warm_488 : DC b_Mo_warm 488 (.iload 6) 2 490 := ⟨by decide +kernel, rfl⟩
theorem x_Mo_warm_490 : DC b_Mo_warm 490 (.ishl) 1 491 := ⟨by decide +kernel, rfl⟩
theorem x_Mo_warm_491 : DC b_Mo_warm 491 (.goto 4) 3 494 := ⟨by decide +kernel, rfl⟩
theorem x_Mo_warm_494 : DC b_Mo_warm 494 (.iconst 0) 1 495 := ⟨by decide +kernel, rfl⟩
theorem x_Mo_warm_495 : DC b_Mo_warm 495 (.ior) 1 496 := ⟨by decide +kernel, rfl⟩
theorem x_Mo_warm_496 : DC b_Mo_warm 496 (.istore 4) 2 498 := ⟨by decide +kernel, rfl⟩
theorem x_Mo_warm_498 : DC b_Mo_warm 498 (.iinc 5 1) 3 501 := ⟨by decide +kernel, rfl⟩
theorem x_Mo_warm_501 : DC b_Mo_warm 501 (.goto (-124)) 3 504 := ⟨by decide +kernel, rfl⟩
theorem x_Mo_warm_504 : DC b_Mo_warm 504 (.aload_n 0) 1 505 := ⟨by decide +kernel, rfl⟩
theorem x_Mo_warm_505 : DC b_Mo_warm 505 (.iconst 1) 1 506 := ⟨by decide +kernel, rfl⟩
theorem x_Mo_warm_506 : DC b_Mo_warm 506 (.putfield 666) 3 509 := ⟨by decide +kernel, rfl⟩
theorem x_Mo_warm_509 : DC b_Mo_warm 509 (.aload_n 0) 1 510 := ⟨by decide +kernel, rfl⟩
theorem x_Mo_warm_510 : DC b_Mo_warm 510 (.getfield 233) 3 513 := ⟨by decide +kernel, rfl⟩
theorem x_Mo_warm_513 : DC b_Mo_warm 513 (.iconst 0) 1 514 := ⟨by decide +kernel, rfl⟩
theorem x_Mo_warm_514 : DC b_Mo_warm 514 (.iaload) 1 515 := ⟨by decide +kernel, rfl⟩
theorem x_Mo_warm_515 : DC b_Mo_warm 515 (.ireturn) 1 516 := ⟨by decide +kernel, rfl⟩
def k_Mo_warm_495 (R377 : Int → Int → Int → Mem → Res) (a3 a5 s0 s1 : Int) (M : Mem) : Res := blet (or32 s0 s1) fun v1 => blet (a5 + 1) fun v2 => R377 a3 v1 v2 M
theorem z_Mo_warm_495 (C : Cx p s m args meth c G b_Mo_warm 8 "PrairiePoolModel" (some .int)) (hlev : 1 ≤ lev) {r : Int × Mem} {R377 : Int → Int → Int → Mem → Res} (hR377 : ∀ (a3 a4 a5 : Int) (M : Mem), R377 a3 a4 a5 M = some r → Z p l e lev s m args below meth c G 8 (MQ below (Qm G 1 r) args s 0 0 (Ab G)) M 377 [(0, .ref (G.1 + 111)), (3, vi a3), (4, vi a4), (5, vi a5)] []) {a3 a5 s0 s1 : Int} {M : Mem} (h : k_Mo_warm_495 R377 a3 a5 s0 s1 M = some r) : Z p l e lev s m args below meth c G 8 (MQ below (Qm G 1 r) args s 0 0 (Ab G)) M 495 [(0, .ref (G.1 + 111)), (3, vi a3), (5, vi a5)] [vi s1, vi s0] := by
  unfold k_Mo_warm_495 at h
  refine z_ior C x_Mo_warm_495 ?_
  obtain ⟨v1, ev1, h⟩ := blet_e h
  refine z_istore (lv' := [(4, vi v1), (0, .ref (G.1 + 111)), (3, vi a3), (5, vi a5)]) C ev1 x_Mo_warm_496 (i_lt rfl) rfl ?_
  obtain ⟨v2, ev2, h⟩ := blet_e h
  refine z_iinc (lv' := [(5, vi v2), (4, vi v1), (0, .ref (G.1 + 111)), (3, vi a3)]) C 3 ev2 x_Mo_warm_498 rfl (i_lt rfl) rfl ?_
  refine z_goto (tgt := 377) C x_Mo_warm_501 rfl ?_
  exact z_sub [2, 3, 1, 0] rfl (hR377 a3 v1 v2 M h)
def k_Mo_warm_478 (R377 : Int → Int → Int → Mem → Res) (a3 a4 a5 a6 s1 s2 : Int) (M : Mem) : Res := chk (0 ≤ w32 s1 ∧ w32 s1 < 20) <| blet (sto M 180 (ix s1) s2) fun M2 => if w32 a6 < w32 a3 then (k_Mo_warm_495 R377 a3 a5 a4 (sl32 1 a6) M2) else (k_Mo_warm_495 R377 a3 a5 a4 0 M2)
theorem z_Mo_warm_478 (C : Cx p s m args meth c G b_Mo_warm 8 "PrairiePoolModel" (some .int)) (hlev : 1 ≤ lev) {r : Int × Mem} {R377 : Int → Int → Int → Mem → Res} (hR377 : ∀ (a3 a4 a5 : Int) (M : Mem), R377 a3 a4 a5 M = some r → Z p l e lev s m args below meth c G 8 (MQ below (Qm G 1 r) args s 0 0 (Ab G)) M 377 [(0, .ref (G.1 + 111)), (3, vi a3), (4, vi a4), (5, vi a5)] []) {a3 a4 a5 a6 s1 s2 : Int} {M : Mem} (h : k_Mo_warm_478 R377 a3 a4 a5 a6 s1 s2 M = some r) : Z p l e lev s m args below meth c G 8 (MQ below (Qm G 1 r) args s 0 0 (Ab G)) M 478 [(0, .ref (G.1 + 111)), (3, vi a3), (4, vi a4), (5, vi a5), (6, vi a6)] [vi s2, vi s1, .ref (G.1 + 180)] := by
  unfold k_Mo_warm_478 at h
  obtain ⟨c1, h⟩ := chk_e h
  obtain ⟨M2, eM2, h⟩ := blet_e h
  refine z_iast C x_Mo_warm_478 nk_180 ck_180 c1 eM2 ?_
  refine z_iload C 2 x_Mo_warm_479 rfl ?_
  refine z_iload C 4 x_Mo_warm_481 rfl ?_
  refine z_iload_n C 1 x_Mo_warm_483 rfl ?_
  rcases ite_e h with ⟨c3, h⟩ | ⟨c3, h⟩
  · refine z_icmp_ge_f (tgt := 494) C x_Mo_warm_484 rfl c3 ?_
    refine z_iconst C x_Mo_warm_487 ?_
    refine z_iload C 4 x_Mo_warm_488 rfl ?_
    refine z_ishl C x_Mo_warm_490 ?_
    refine z_goto (tgt := 495) C x_Mo_warm_491 rfl ?_
    exact z_sub [0, 1, 3] rfl (z_Mo_warm_495 C hlev hR377 h)
  · refine z_icmp_ge_t (tgt := 494) C x_Mo_warm_484 rfl c3 ?_
    refine z_iconst C x_Mo_warm_494 ?_
    exact z_sub [0, 1, 3] rfl (z_Mo_warm_495 C hlev hR377 h)
def k_Mo_warm_460 (R377 : Int → Int → Int → Mem → Res) (a3 a4 a5 a6 : Int) (M : Mem) : Res := if w32 a6 < w32 a3 then (k_Mo_warm_478 R377 a3 a4 a5 a6 a5 a6 M) else (k_Mo_warm_478 R377 a3 a4 a5 a6 a5 (-1) M)
theorem z_Mo_warm_460 (C : Cx p s m args meth c G b_Mo_warm 8 "PrairiePoolModel" (some .int)) (hlev : 1 ≤ lev) {r : Int × Mem} {R377 : Int → Int → Int → Mem → Res} (hR377 : ∀ (a3 a4 a5 : Int) (M : Mem), R377 a3 a4 a5 M = some r → Z p l e lev s m args below meth c G 8 (MQ below (Qm G 1 r) args s 0 0 (Ab G)) M 377 [(0, .ref (G.1 + 111)), (3, vi a3), (4, vi a4), (5, vi a5)] []) {a3 a4 a5 a6 : Int} {M : Mem} (h : k_Mo_warm_460 R377 a3 a4 a5 a6 M = some r) : Z p l e lev s m args below meth c G 8 (MQ below (Qm G 1 r) args s 0 0 (Ab G)) M 460 [(0, .ref (G.1 + 111)), (3, vi a3), (4, vi a4), (5, vi a5), (6, vi a6)] [] := by
  unfold k_Mo_warm_460 at h
  refine z_aload_n C 0 x_Mo_warm_460 rfl ?_
  refine z_getR (j := 98) C x_Mo_warm_461 nk_111 ck_111 cw_12 (i_lt rfl) rfl rf_111_98 rfl fl_Mo_230 ?_
  refine z_iload C 3 x_Mo_warm_464 rfl ?_
  refine z_iload C 4 x_Mo_warm_466 rfl ?_
  refine z_iload_n C 1 x_Mo_warm_468 rfl ?_
  rcases ite_e h with ⟨c1, h⟩ | ⟨c1, h⟩
  · refine z_icmp_ge_f (tgt := 477) C x_Mo_warm_469 rfl c1 ?_
    refine z_iload C 4 x_Mo_warm_472 rfl ?_
    refine z_goto (tgt := 478) C x_Mo_warm_474 rfl ?_
    exact z_sub [0, 1, 2, 3, 4] rfl (z_Mo_warm_478 C hlev hR377 h)
  · refine z_icmp_ge_t (tgt := 477) C x_Mo_warm_469 rfl c1 ?_
    refine z_iconst C x_Mo_warm_477 ?_
    exact z_sub [0, 1, 2, 3, 4] rfl (z_Mo_warm_478 C hlev hR377 h)
def k_Mo_warm_454 (R377 : Int → Int → Int → Mem → Res) (R387 : Int → Int → Int → Int → Mem → Res) (a3 a4 a5 a6 : Int) (M : Mem) : Res := blet (a6 + 1) fun v1 => R387 a3 a4 a5 v1 M
theorem z_Mo_warm_454 (C : Cx p s m args meth c G b_Mo_warm 8 "PrairiePoolModel" (some .int)) (hlev : 1 ≤ lev) {r : Int × Mem} {R377 : Int → Int → Int → Mem → Res} {R387 : Int → Int → Int → Int → Mem → Res} (hR377 : ∀ (a3 a4 a5 : Int) (M : Mem), R377 a3 a4 a5 M = some r → Z p l e lev s m args below meth c G 8 (MQ below (Qm G 1 r) args s 0 0 (Ab G)) M 377 [(0, .ref (G.1 + 111)), (3, vi a3), (4, vi a4), (5, vi a5)] []) (hR387 : ∀ (a3 a4 a5 a6 : Int) (M : Mem), R387 a3 a4 a5 a6 M = some r → Z p l e lev s m args below meth c G 8 (MQ below (Qm G 1 r) args s 0 0 (Ab G)) M 387 [(0, .ref (G.1 + 111)), (3, vi a3), (4, vi a4), (5, vi a5), (6, vi a6)] []) {a3 a4 a5 a6 : Int} {M : Mem} (h : k_Mo_warm_454 R377 R387 a3 a4 a5 a6 M = some r) : Z p l e lev s m args below meth c G 8 (MQ below (Qm G 1 r) args s 0 0 (Ab G)) M 454 [(0, .ref (G.1 + 111)), (3, vi a3), (4, vi a4), (5, vi a5), (6, vi a6)] [] := by
  unfold k_Mo_warm_454 at h
  obtain ⟨v1, ev1, h⟩ := blet_e h
  refine z_iinc (lv' := [(6, vi v1), (0, .ref (G.1 + 111)), (3, vi a3), (4, vi a4), (5, vi a5)]) C 4 ev1 x_Mo_warm_454 rfl (i_lt rfl) rfl ?_
  refine z_goto (tgt := 387) C x_Mo_warm_457 rfl ?_
  exact z_sub [1, 2, 3, 4, 0] rfl (hR387 a3 a4 a5 v1 M h)
def k_Mo_warm_387 (R377 : Int → Int → Int → Mem → Res) (R387 : Int → Int → Int → Int → Mem → Res) (a3 a4 a5 a6 : Int) (M : Mem) : Res := if w32 a6 < w32 a3 then (bcall (d_Mo_canTurn a6 a5 a4 M) fun v2 M3 => if w32 v2 = 0 then (k_Mo_warm_454 R377 R387 a3 a4 a5 a6 M3) else (chk (0 ≤ w32 a6 ∧ w32 a6 < 8) <| blet (M3 179 (ix a6)) fun v6 => chk (0 ≤ w32 (((256 * a5) + 256) + (or32 a4 (sl32 1 a6))) ∧ w32 (((256 * a5) + 256) + (or32 a4 (sl32 1 a6))) < 5376) <| blet (M3 181 (ix (((256 * a5) + 256) + (or32 a4 (sl32 1 a6))))) fun v8 => chk (0 ≤ w32 ((256 * a5) + a4) ∧ w32 ((256 * a5) + a4) < 5376) <| blet (M3 181 (ix ((256 * a5) + a4))) fun v10 => if w32 (v6 + v8) = w32 v10 then (k_Mo_warm_460 R377 a3 a4 a5 a6 M3) else (k_Mo_warm_454 R377 R387 a3 a4 a5 a6 M3))) else (k_Mo_warm_460 R377 a3 a4 a5 a6 M)
theorem z_Mo_warm_387 (C : Cx p s m args meth c G b_Mo_warm 8 "PrairiePoolModel" (some .int)) (hlev : 1 ≤ lev) {r : Int × Mem} {R377 : Int → Int → Int → Mem → Res} {R387 : Int → Int → Int → Int → Mem → Res} (hR377 : ∀ (a3 a4 a5 : Int) (M : Mem), R377 a3 a4 a5 M = some r → Z p l e lev s m args below meth c G 8 (MQ below (Qm G 1 r) args s 0 0 (Ab G)) M 377 [(0, .ref (G.1 + 111)), (3, vi a3), (4, vi a4), (5, vi a5)] []) (hR387 : ∀ (a3 a4 a5 a6 : Int) (M : Mem), R387 a3 a4 a5 a6 M = some r → Z p l e lev s m args below meth c G 8 (MQ below (Qm G 1 r) args s 0 0 (Ab G)) M 387 [(0, .ref (G.1 + 111)), (3, vi a3), (4, vi a4), (5, vi a5), (6, vi a6)] []) {a3 a4 a5 a6 : Int} {M : Mem} (h : k_Mo_warm_387 R377 R387 a3 a4 a5 a6 M = some r) : Z p l e lev s m args below meth c G 8 (MQ below (Qm G 1 r) args s 0 0 (Ab G)) M 387 [(0, .ref (G.1 + 111)), (3, vi a3), (4, vi a4), (5, vi a5), (6, vi a6)] [] := by
  unfold k_Mo_warm_387 at h
  refine z_iload C 4 x_Mo_warm_387 rfl ?_
  refine z_iload_n C 1 x_Mo_warm_389 rfl ?_
  rcases ite_e h with ⟨c1, h⟩ | ⟨c1, h⟩
  · refine z_icmp_ge_f (tgt := 460) C x_Mo_warm_390 rfl c1 ?_
    refine z_aload_n C 0 x_Mo_warm_393 rfl ?_
    refine z_iload C 4 x_Mo_warm_394 rfl ?_
    refine z_iload C 3 x_Mo_warm_396 rfl ?_
    refine z_iload C 2 x_Mo_warm_398 rfl ?_
    obtain ⟨v2, M3, fv2, h⟩ := bcall_e h
    refine z_callVi (k := 111) C x_Mo_warm_400 cv_Mo_662 (t_Mo_canTurn (lev := lev - 1) l G (by omega) fv2) nk_111 ck_111 rfl (by omega) rfl (i_le rfl) rfl ?_
    rcases ite_e h with ⟨c4, h⟩ | ⟨c4, h⟩
    · refine z_if_eq_t (tgt := 454) C x_Mo_warm_403 rfl c4 ?_
      exact z_sub [0, 1, 2, 3, 4] rfl (z_Mo_warm_454 C hlev hR377 hR387 h)
    · refine z_if_eq_f (tgt := 454) C x_Mo_warm_403 rfl c4 ?_
      refine z_aload_n C 0 x_Mo_warm_406 rfl ?_
      refine z_getR (j := 97) C x_Mo_warm_407 nk_111 ck_111 cw_12 (i_lt rfl) rfl rf_111_97 rfl fl_Mo_227 ?_
      refine z_iload C 4 x_Mo_warm_410 rfl ?_
      obtain ⟨c5, h⟩ := chk_e h
      obtain ⟨v6, ev6, h⟩ := blet_e h
      refine z_iald C x_Mo_warm_412 nk_179 ck_179 c5 ev6 ?_
      refine z_aload_n C 0 x_Mo_warm_413 rfl ?_
      refine z_getR (j := 99) C x_Mo_warm_414 nk_111 ck_111 cw_12 (i_lt rfl) rfl rf_111_99 rfl fl_Mo_233 ?_
      refine z_sipush C rfl x_Mo_warm_417 ?_
      refine z_iload C 3 x_Mo_warm_420 rfl ?_
      refine z_imul C x_Mo_warm_422 ?_
      refine z_sipush C rfl x_Mo_warm_423 ?_
      refine z_iadd C x_Mo_warm_426 ?_
      refine z_iload C 2 x_Mo_warm_427 rfl ?_
      refine z_iconst C x_Mo_warm_429 ?_
      refine z_iload C 4 x_Mo_warm_430 rfl ?_
      refine z_ishl C x_Mo_warm_432 ?_
      refine z_ior C x_Mo_warm_433 ?_
      refine z_iadd C x_Mo_warm_434 ?_
      obtain ⟨c7, h⟩ := chk_e h
      obtain ⟨v8, ev8, h⟩ := blet_e h
      refine z_iald C x_Mo_warm_435 nk_181 ck_181 c7 ev8 ?_
      refine z_iadd C x_Mo_warm_436 ?_
      refine z_aload_n C 0 x_Mo_warm_437 rfl ?_
      refine z_getR (j := 99) C x_Mo_warm_438 nk_111 ck_111 cw_12 (i_lt rfl) rfl rf_111_99 rfl fl_Mo_233 ?_
      refine z_sipush C rfl x_Mo_warm_441 ?_
      refine z_iload C 3 x_Mo_warm_444 rfl ?_
      refine z_imul C x_Mo_warm_446 ?_
      refine z_iload C 2 x_Mo_warm_447 rfl ?_
      refine z_iadd C x_Mo_warm_449 ?_
      obtain ⟨c9, h⟩ := chk_e h
      obtain ⟨v10, ev10, h⟩ := blet_e h
      refine z_iald C x_Mo_warm_450 nk_181 ck_181 c9 ev10 ?_
      rcases ite_e h with ⟨c11, h⟩ | ⟨c11, h⟩
      · refine z_icmp_eq_t (tgt := 460) C x_Mo_warm_451 rfl c11 ?_
        exact z_sub [0, 1, 2, 3, 4] rfl (z_Mo_warm_460 C hlev hR377 h)
      · refine z_icmp_eq_f (tgt := 460) C x_Mo_warm_451 rfl c11 ?_
        exact z_sub [0, 1, 2, 3, 4] rfl (z_Mo_warm_454 C hlev hR377 hR387 h)
  · refine z_icmp_ge_t (tgt := 460) C x_Mo_warm_390 rfl c1 ?_
    exact z_sub [0, 1, 2, 3, 4] rfl (z_Mo_warm_460 C hlev hR377 h)
theorem zl_Mo_warm_387 (C : Cx p s m args meth c G b_Mo_warm 8 "PrairiePoolModel" (some .int)) (hlev : 1 ≤ lev) {r : Int × Mem} {R377 : Int → Int → Int → Mem → Res} (hR377 : ∀ (a3 a4 a5 : Int) (M : Mem), R377 a3 a4 a5 M = some r → Z p l e lev s m args below meth c G 8 (MQ below (Qm G 1 r) args s 0 0 (Ab G)) M 377 [(0, .ref (G.1 + 111)), (3, vi a3), (4, vi a4), (5, vi a5)] []) : ∀ (n : Nat) (a3 a4 a5 a6 : Int) (M : Mem), fix (fun _ _ _ _ _ => none) (k_Mo_warm_387 R377) n a3 a4 a5 a6 M = some r → Z p l e lev s m args below meth c G 8 (MQ below (Qm G 1 r) args s 0 0 (Ab G)) M 387 [(0, .ref (G.1 + 111)), (3, vi a3), (4, vi a4), (5, vi a5), (6, vi a6)] [] := by
  intro n
  induction n with
  | zero => intro a3 a4 a5 a6 M h; exact nomatch (show (none : Res) = some r from h)
  | succ n ih => intro a3 a4 a5 a6 M h; exact z_Mo_warm_387 C hlev hR377 ih h
def k_Mo_warm_377 (R377 : Int → Int → Int → Mem → Res) (a3 a4 a5 : Int) (M : Mem) : Res := if w32 a5 < 20 then (fix (fun _ _ _ _ _ => none) (k_Mo_warm_387 R377) FU a3 a4 a5 0 M) else (blet (sto M 111 107 1) fun M2 => blet (M2 181 0) fun v3 => some (v3, M2))
theorem z_Mo_warm_377 (C : Cx p s m args meth c G b_Mo_warm 8 "PrairiePoolModel" (some .int)) (hlev : 1 ≤ lev) {r : Int × Mem} {R377 : Int → Int → Int → Mem → Res} (hR377 : ∀ (a3 a4 a5 : Int) (M : Mem), R377 a3 a4 a5 M = some r → Z p l e lev s m args below meth c G 8 (MQ below (Qm G 1 r) args s 0 0 (Ab G)) M 377 [(0, .ref (G.1 + 111)), (3, vi a3), (4, vi a4), (5, vi a5)] []) {a3 a4 a5 : Int} {M : Mem} (h : k_Mo_warm_377 R377 a3 a4 a5 M = some r) : Z p l e lev s m args below meth c G 8 (MQ below (Qm G 1 r) args s 0 0 (Ab G)) M 377 [(0, .ref (G.1 + 111)), (3, vi a3), (4, vi a4), (5, vi a5)] [] := by
  unfold k_Mo_warm_377 at h
  refine z_iload C 3 x_Mo_warm_377 rfl ?_
  refine z_bipush C rfl x_Mo_warm_379 ?_
  rcases ite_e h with ⟨c1, h⟩ | ⟨c1, h⟩
  · refine z_icmp_ge_f (tgt := 504) C x_Mo_warm_381 rfl c1 ?_
    refine z_iconst C x_Mo_warm_384 ?_
    refine z_istore (lv' := [(6, vi 0), (0, .ref (G.1 + 111)), (3, vi a3), (4, vi a4), (5, vi a5)]) C rfl x_Mo_warm_385 (i_lt rfl) rfl ?_
    exact z_sub [1, 2, 3, 4, 0] rfl (zl_Mo_warm_387 C hlev hR377 FU a3 a4 a5 0 M h)
  · refine z_icmp_ge_t (tgt := 504) C x_Mo_warm_381 rfl c1 ?_
    refine z_aload_n C 0 x_Mo_warm_504 rfl ?_
    refine z_iconst C x_Mo_warm_505 ?_
    obtain ⟨M2, eM2, h⟩ := blet_e h
    refine z_putZ (j := 107) C x_Mo_warm_506 nk_111 ck_111 cw_12 (i_lt rfl) rfl rfl rfl (by decide) rfl fl_Mo_666 eM2 ?_
    refine z_aload_n C 0 x_Mo_warm_509 rfl ?_
    refine z_getR (j := 99) C x_Mo_warm_510 nk_111 ck_111 cw_12 (i_lt rfl) rfl rf_111_99 rfl fl_Mo_233 ?_
    refine z_iconst C x_Mo_warm_513 ?_
    obtain ⟨v3, ev3, h⟩ := blet_e h
    refine z_iald C x_Mo_warm_514 nk_181 ck_181 (by decide) ev3 ?_
    exact z_iret C x_Mo_warm_515 h
theorem zl_Mo_warm_377 (C : Cx p s m args meth c G b_Mo_warm 8 "PrairiePoolModel" (some .int)) (hlev : 1 ≤ lev) {r : Int × Mem}  : ∀ (n : Nat) (a3 a4 a5 : Int) (M : Mem), fix (fun _ _ _ _ => none) (k_Mo_warm_377) n a3 a4 a5 M = some r → Z p l e lev s m args below meth c G 8 (MQ below (Qm G 1 r) args s 0 0 (Ab G)) M 377 [(0, .ref (G.1 + 111)), (3, vi a3), (4, vi a4), (5, vi a5)] [] := by
  intro n
  induction n with
  | zero => intro a3 a4 a5 M h; exact nomatch (show (none : Res) = some r from h)
  | succ n ih => intro a3 a4 a5 M h; exact z_Mo_warm_377 C hlev ih h
def k_Mo_warm_337 (R241 : Int → Int → Mem → Res) (R249 : Int → Int → Int → Mem → Res) (R280 : Int → Int → Int → Int → Int → Mem → Res) (a3 a4 a5 a6 a7 : Int) (M : Mem) : Res := blet (a7 + 1) fun v1 => R280 a3 a4 a5 a6 v1 M
theorem z_Mo_warm_337 (C : Cx p s m args meth c G b_Mo_warm 8 "PrairiePoolModel" (some .int)) (hlev : 1 ≤ lev) {r : Int × Mem} {R241 : Int → Int → Mem → Res} {R249 : Int → Int → Int → Mem → Res} {R280 : Int → Int → Int → Int → Int → Mem → Res} (hR241 : ∀ (a3 a4 : Int) (M : Mem), R241 a3 a4 M = some r → Z p l e lev s m args below meth c G 8 (MQ below (Qm G 1 r) args s 0 0 (Ab G)) M 241 [(0, .ref (G.1 + 111)), (3, vi a3), (4, vi a4)] []) (hR249 : ∀ (a3 a4 a5 : Int) (M : Mem), R249 a3 a4 a5 M = some r → Z p l e lev s m args below meth c G 8 (MQ below (Qm G 1 r) args s 0 0 (Ab G)) M 249 [(0, .ref (G.1 + 111)), (3, vi a3), (4, vi a4), (5, vi a5)] []) (hR280 : ∀ (a3 a4 a5 a6 a7 : Int) (M : Mem), R280 a3 a4 a5 a6 a7 M = some r → Z p l e lev s m args below meth c G 8 (MQ below (Qm G 1 r) args s 0 0 (Ab G)) M 280 [(0, .ref (G.1 + 111)), (3, vi a3), (4, vi a4), (5, vi a5), (6, vi a6), (7, vi a7)] []) {a3 a4 a5 a6 a7 : Int} {M : Mem} (h : k_Mo_warm_337 R241 R249 R280 a3 a4 a5 a6 a7 M = some r) : Z p l e lev s m args below meth c G 8 (MQ below (Qm G 1 r) args s 0 0 (Ab G)) M 337 [(0, .ref (G.1 + 111)), (3, vi a3), (4, vi a4), (5, vi a5), (6, vi a6), (7, vi a7)] [] := by
  unfold k_Mo_warm_337 at h
  obtain ⟨v1, ev1, h⟩ := blet_e h
  refine z_iinc (lv' := [(7, vi v1), (0, .ref (G.1 + 111)), (3, vi a3), (4, vi a4), (5, vi a5), (6, vi a6)]) C 5 ev1 x_Mo_warm_337 rfl (i_lt rfl) rfl ?_
  refine z_goto (tgt := 280) C x_Mo_warm_340 rfl ?_
  exact z_sub [1, 2, 3, 4, 5, 0] rfl (hR280 a3 a4 a5 a6 v1 M h)
def k_Mo_warm_280 (R241 : Int → Int → Mem → Res) (R249 : Int → Int → Int → Mem → Res) (R280 : Int → Int → Int → Int → Int → Mem → Res) (a3 a4 a5 a6 a7 : Int) (M : Mem) : Res := if w32 a7 < w32 a3 then (bcall (d_Mo_canTurn a7 a4 a5 M) fun v2 M3 => if w32 v2 = 0 then (k_Mo_warm_337 R241 R249 R280 a3 a4 a5 a6 a7 M3) else (chk (0 ≤ w32 a7 ∧ w32 a7 < 8) <| blet (M3 179 (ix a7)) fun v6 => chk (0 ≤ w32 (((256 * a4) + 256) + (or32 a5 (sl32 1 a7))) ∧ w32 (((256 * a4) + 256) + (or32 a5 (sl32 1 a7))) < 5376) <| blet (M3 181 (ix (((256 * a4) + 256) + (or32 a5 (sl32 1 a7))))) fun v8 => blet (mx32 a6 (v6 + v8)) fun v9 => k_Mo_warm_337 R241 R249 R280 a3 a4 a5 v9 a7 M3)) else (chk (0 ≤ w32 ((256 * a4) + a5) ∧ w32 ((256 * a4) + a5) < 5376) <| blet (sto M 181 (ix ((256 * a4) + a5)) a6) fun M11 => blet (a5 + 1) fun v12 => R249 a3 a4 v12 M11)
theorem z_Mo_warm_280 (C : Cx p s m args meth c G b_Mo_warm 8 "PrairiePoolModel" (some .int)) (hlev : 1 ≤ lev) {r : Int × Mem} {R241 : Int → Int → Mem → Res} {R249 : Int → Int → Int → Mem → Res} {R280 : Int → Int → Int → Int → Int → Mem → Res} (hR241 : ∀ (a3 a4 : Int) (M : Mem), R241 a3 a4 M = some r → Z p l e lev s m args below meth c G 8 (MQ below (Qm G 1 r) args s 0 0 (Ab G)) M 241 [(0, .ref (G.1 + 111)), (3, vi a3), (4, vi a4)] []) (hR249 : ∀ (a3 a4 a5 : Int) (M : Mem), R249 a3 a4 a5 M = some r → Z p l e lev s m args below meth c G 8 (MQ below (Qm G 1 r) args s 0 0 (Ab G)) M 249 [(0, .ref (G.1 + 111)), (3, vi a3), (4, vi a4), (5, vi a5)] []) (hR280 : ∀ (a3 a4 a5 a6 a7 : Int) (M : Mem), R280 a3 a4 a5 a6 a7 M = some r → Z p l e lev s m args below meth c G 8 (MQ below (Qm G 1 r) args s 0 0 (Ab G)) M 280 [(0, .ref (G.1 + 111)), (3, vi a3), (4, vi a4), (5, vi a5), (6, vi a6), (7, vi a7)] []) {a3 a4 a5 a6 a7 : Int} {M : Mem} (h : k_Mo_warm_280 R241 R249 R280 a3 a4 a5 a6 a7 M = some r) : Z p l e lev s m args below meth c G 8 (MQ below (Qm G 1 r) args s 0 0 (Ab G)) M 280 [(0, .ref (G.1 + 111)), (3, vi a3), (4, vi a4), (5, vi a5), (6, vi a6), (7, vi a7)] [] := by
  unfold k_Mo_warm_280 at h
  refine z_iload C 5 x_Mo_warm_280 rfl ?_
  refine z_iload_n C 1 x_Mo_warm_282 rfl ?_
  rcases ite_e h with ⟨c1, h⟩ | ⟨c1, h⟩
  · refine z_icmp_ge_f (tgt := 343) C x_Mo_warm_283 rfl c1 ?_
    refine z_aload_n C 0 x_Mo_warm_286 rfl ?_
    refine z_iload C 5 x_Mo_warm_287 rfl ?_
    refine z_iload C 2 x_Mo_warm_289 rfl ?_
    refine z_iload C 3 x_Mo_warm_291 rfl ?_
    obtain ⟨v2, M3, fv2, h⟩ := bcall_e h
    refine z_callVi (k := 111) C x_Mo_warm_293 cv_Mo_662 (t_Mo_canTurn (lev := lev - 1) l G (by omega) fv2) nk_111 ck_111 rfl (by omega) rfl (i_le rfl) rfl ?_
    rcases ite_e h with ⟨c4, h⟩ | ⟨c4, h⟩
    · refine z_if_eq_t (tgt := 337) C x_Mo_warm_296 rfl c4 ?_
      exact z_sub [0, 1, 2, 3, 4, 5] rfl (z_Mo_warm_337 C hlev hR241 hR249 hR280 h)
    · refine z_if_eq_f (tgt := 337) C x_Mo_warm_296 rfl c4 ?_
      refine z_iload C 4 x_Mo_warm_299 rfl ?_
      refine z_aload_n C 0 x_Mo_warm_301 rfl ?_
      refine z_getR (j := 97) C x_Mo_warm_302 nk_111 ck_111 cw_12 (i_lt rfl) rfl rf_111_97 rfl fl_Mo_227 ?_
      refine z_iload C 5 x_Mo_warm_305 rfl ?_
      obtain ⟨c5, h⟩ := chk_e h
      obtain ⟨v6, ev6, h⟩ := blet_e h
      refine z_iald C x_Mo_warm_307 nk_179 ck_179 c5 ev6 ?_
      refine z_aload_n C 0 x_Mo_warm_308 rfl ?_
      refine z_getR (j := 99) C x_Mo_warm_309 nk_111 ck_111 cw_12 (i_lt rfl) rfl rf_111_99 rfl fl_Mo_233 ?_
      refine z_sipush C rfl x_Mo_warm_312 ?_
      refine z_iload C 2 x_Mo_warm_315 rfl ?_
      refine z_imul C x_Mo_warm_317 ?_
      refine z_sipush C rfl x_Mo_warm_318 ?_
      refine z_iadd C x_Mo_warm_321 ?_
      refine z_iload C 3 x_Mo_warm_322 rfl ?_
      refine z_iconst C x_Mo_warm_324 ?_
      refine z_iload C 5 x_Mo_warm_325 rfl ?_
      refine z_ishl C x_Mo_warm_327 ?_
      refine z_ior C x_Mo_warm_328 ?_
      refine z_iadd C x_Mo_warm_329 ?_
      obtain ⟨c7, h⟩ := chk_e h
      obtain ⟨v8, ev8, h⟩ := blet_e h
      refine z_iald C x_Mo_warm_330 nk_181 ck_181 c7 ev8 ?_
      refine z_iadd C x_Mo_warm_331 ?_
      refine z_mx32 C x_Mo_warm_332 cs_Mo_393 (by omega) (i_le rfl) ?_
      obtain ⟨v9, ev9, h⟩ := blet_e h
      refine z_istore (lv' := [(6, vi v9), (0, .ref (G.1 + 111)), (3, vi a3), (4, vi a4), (5, vi a5), (7, vi a7)]) C ev9 x_Mo_warm_335 (i_lt rfl) rfl ?_
      exact z_sub [1, 2, 3, 4, 0, 5] rfl (z_Mo_warm_337 C hlev hR241 hR249 hR280 h)
  · refine z_icmp_ge_t (tgt := 343) C x_Mo_warm_283 rfl c1 ?_
    refine z_aload_n C 0 x_Mo_warm_343 rfl ?_
    refine z_getR (j := 99) C x_Mo_warm_344 nk_111 ck_111 cw_12 (i_lt rfl) rfl rf_111_99 rfl fl_Mo_233 ?_
    refine z_sipush C rfl x_Mo_warm_347 ?_
    refine z_iload C 2 x_Mo_warm_350 rfl ?_
    refine z_imul C x_Mo_warm_352 ?_
    refine z_iload C 3 x_Mo_warm_353 rfl ?_
    refine z_iadd C x_Mo_warm_355 ?_
    refine z_iload C 4 x_Mo_warm_356 rfl ?_
    obtain ⟨c10, h⟩ := chk_e h
    obtain ⟨M11, eM11, h⟩ := blet_e h
    refine z_iast C x_Mo_warm_358 nk_181 ck_181 c10 eM11 ?_
    obtain ⟨v12, ev12, h⟩ := blet_e h
    refine z_iinc (lv' := [(5, vi v12), (0, .ref (G.1 + 111)), (3, vi a3), (4, vi a4), (6, vi a6), (7, vi a7)]) C 3 ev12 x_Mo_warm_359 rfl (i_lt rfl) rfl ?_
    refine z_goto (tgt := 249) C x_Mo_warm_362 rfl ?_
    exact z_sub [1, 2, 3, 0] rfl (hR249 a3 a4 v12 M11 h)
theorem zl_Mo_warm_280 (C : Cx p s m args meth c G b_Mo_warm 8 "PrairiePoolModel" (some .int)) (hlev : 1 ≤ lev) {r : Int × Mem} {R241 : Int → Int → Mem → Res} {R249 : Int → Int → Int → Mem → Res} (hR241 : ∀ (a3 a4 : Int) (M : Mem), R241 a3 a4 M = some r → Z p l e lev s m args below meth c G 8 (MQ below (Qm G 1 r) args s 0 0 (Ab G)) M 241 [(0, .ref (G.1 + 111)), (3, vi a3), (4, vi a4)] []) (hR249 : ∀ (a3 a4 a5 : Int) (M : Mem), R249 a3 a4 a5 M = some r → Z p l e lev s m args below meth c G 8 (MQ below (Qm G 1 r) args s 0 0 (Ab G)) M 249 [(0, .ref (G.1 + 111)), (3, vi a3), (4, vi a4), (5, vi a5)] []) : ∀ (n : Nat) (a3 a4 a5 a6 a7 : Int) (M : Mem), fix (fun _ _ _ _ _ _ => none) (k_Mo_warm_280 R241 R249) n a3 a4 a5 a6 a7 M = some r → Z p l e lev s m args below meth c G 8 (MQ below (Qm G 1 r) args s 0 0 (Ab G)) M 280 [(0, .ref (G.1 + 111)), (3, vi a3), (4, vi a4), (5, vi a5), (6, vi a6), (7, vi a7)] [] := by
  intro n
  induction n with
  | zero => intro a3 a4 a5 a6 a7 M h; exact nomatch (show (none : Res) = some r from h)
  | succ n ih => intro a3 a4 a5 a6 a7 M h; exact z_Mo_warm_280 C hlev hR241 hR249 ih h
def k_Mo_warm_249 (R241 : Int → Int → Mem → Res) (R249 : Int → Int → Int → Mem → Res) (a3 a4 a5 : Int) (M : Mem) : Res := if w32 a5 < w32 (sl32 1 a3) then (chk (0 ≤ w32 (((256 * a4) + 256) + a5) ∧ w32 (((256 * a4) + 256) + a5) < 5376) <| blet (M 181 (ix (((256 * a4) + 256) + a5))) fun v3 => fix (fun _ _ _ _ _ _ => none) (k_Mo_warm_280 R241 R249) FU a3 a4 a5 v3 0 M) else (blet (a4 + (-1)) fun v4 => R241 a3 v4 M)
theorem z_Mo_warm_249 (C : Cx p s m args meth c G b_Mo_warm 8 "PrairiePoolModel" (some .int)) (hlev : 1 ≤ lev) {r : Int × Mem} {R241 : Int → Int → Mem → Res} {R249 : Int → Int → Int → Mem → Res} (hR241 : ∀ (a3 a4 : Int) (M : Mem), R241 a3 a4 M = some r → Z p l e lev s m args below meth c G 8 (MQ below (Qm G 1 r) args s 0 0 (Ab G)) M 241 [(0, .ref (G.1 + 111)), (3, vi a3), (4, vi a4)] []) (hR249 : ∀ (a3 a4 a5 : Int) (M : Mem), R249 a3 a4 a5 M = some r → Z p l e lev s m args below meth c G 8 (MQ below (Qm G 1 r) args s 0 0 (Ab G)) M 249 [(0, .ref (G.1 + 111)), (3, vi a3), (4, vi a4), (5, vi a5)] []) {a3 a4 a5 : Int} {M : Mem} (h : k_Mo_warm_249 R241 R249 a3 a4 a5 M = some r) : Z p l e lev s m args below meth c G 8 (MQ below (Qm G 1 r) args s 0 0 (Ab G)) M 249 [(0, .ref (G.1 + 111)), (3, vi a3), (4, vi a4), (5, vi a5)] [] := by
  unfold k_Mo_warm_249 at h
  refine z_iload C 3 x_Mo_warm_249 rfl ?_
  refine z_iconst C x_Mo_warm_251 ?_
  refine z_iload_n C 1 x_Mo_warm_252 rfl ?_
  refine z_ishl C x_Mo_warm_253 ?_
  rcases ite_e h with ⟨c1, h⟩ | ⟨c1, h⟩
  · refine z_icmp_ge_f (tgt := 365) C x_Mo_warm_254 rfl c1 ?_
    refine z_aload_n C 0 x_Mo_warm_257 rfl ?_
    refine z_getR (j := 99) C x_Mo_warm_258 nk_111 ck_111 cw_12 (i_lt rfl) rfl rf_111_99 rfl fl_Mo_233 ?_
    refine z_sipush C rfl x_Mo_warm_261 ?_
    refine z_iload C 2 x_Mo_warm_264 rfl ?_
    refine z_imul C x_Mo_warm_266 ?_
    refine z_sipush C rfl x_Mo_warm_267 ?_
    refine z_iadd C x_Mo_warm_270 ?_
    refine z_iload C 3 x_Mo_warm_271 rfl ?_
    refine z_iadd C x_Mo_warm_273 ?_
    obtain ⟨c2, h⟩ := chk_e h
    obtain ⟨v3, ev3, h⟩ := blet_e h
    refine z_iald C x_Mo_warm_274 nk_181 ck_181 c2 ev3 ?_
    refine z_istore (lv' := [(6, vi v3), (0, .ref (G.1 + 111)), (3, vi a3), (4, vi a4), (5, vi a5)]) C rfl x_Mo_warm_275 (i_lt rfl) rfl ?_
    refine z_iconst C x_Mo_warm_277 ?_
    refine z_istore (lv' := [(7, vi 0), (6, vi v3), (0, .ref (G.1 + 111)), (3, vi a3), (4, vi a4), (5, vi a5)]) C rfl x_Mo_warm_278 (i_lt rfl) rfl ?_
    exact z_sub [2, 3, 4, 5, 1, 0] rfl (zl_Mo_warm_280 C hlev hR241 hR249 FU a3 a4 a5 v3 0 M h)
  · refine z_icmp_ge_t (tgt := 365) C x_Mo_warm_254 rfl c1 ?_
    obtain ⟨v4, ev4, h⟩ := blet_e h
    refine z_iinc (lv' := [(4, vi v4), (0, .ref (G.1 + 111)), (3, vi a3), (5, vi a5)]) C 2 ev4 x_Mo_warm_365 rfl (i_lt rfl) rfl ?_
    refine z_goto (tgt := 241) C x_Mo_warm_368 rfl ?_
    exact z_sub [1, 2, 0] rfl (hR241 a3 v4 M h)
theorem zl_Mo_warm_249 (C : Cx p s m args meth c G b_Mo_warm 8 "PrairiePoolModel" (some .int)) (hlev : 1 ≤ lev) {r : Int × Mem} {R241 : Int → Int → Mem → Res} (hR241 : ∀ (a3 a4 : Int) (M : Mem), R241 a3 a4 M = some r → Z p l e lev s m args below meth c G 8 (MQ below (Qm G 1 r) args s 0 0 (Ab G)) M 241 [(0, .ref (G.1 + 111)), (3, vi a3), (4, vi a4)] []) : ∀ (n : Nat) (a3 a4 a5 : Int) (M : Mem), fix (fun _ _ _ _ => none) (k_Mo_warm_249 R241) n a3 a4 a5 M = some r → Z p l e lev s m args below meth c G 8 (MQ below (Qm G 1 r) args s 0 0 (Ab G)) M 249 [(0, .ref (G.1 + 111)), (3, vi a3), (4, vi a4), (5, vi a5)] [] := by
  intro n
  induction n with
  | zero => intro a3 a4 a5 M h; exact nomatch (show (none : Res) = some r from h)
  | succ n ih => intro a3 a4 a5 M h; exact z_Mo_warm_249 C hlev hR241 ih h
def k_Mo_warm_241 (R241 : Int → Int → Mem → Res) (a3 a4 : Int) (M : Mem) : Res := if w32 a4 < 0 then (fix (fun _ _ _ _ => none) (k_Mo_warm_377) FU a3 0 0 M) else (fix (fun _ _ _ _ => none) (k_Mo_warm_249 R241) FU a3 a4 0 M)
theorem z_Mo_warm_241 (C : Cx p s m args meth c G b_Mo_warm 8 "PrairiePoolModel" (some .int)) (hlev : 1 ≤ lev) {r : Int × Mem} {R241 : Int → Int → Mem → Res} (hR241 : ∀ (a3 a4 : Int) (M : Mem), R241 a3 a4 M = some r → Z p l e lev s m args below meth c G 8 (MQ below (Qm G 1 r) args s 0 0 (Ab G)) M 241 [(0, .ref (G.1 + 111)), (3, vi a3), (4, vi a4)] []) {a3 a4 : Int} {M : Mem} (h : k_Mo_warm_241 R241 a3 a4 M = some r) : Z p l e lev s m args below meth c G 8 (MQ below (Qm G 1 r) args s 0 0 (Ab G)) M 241 [(0, .ref (G.1 + 111)), (3, vi a3), (4, vi a4)] [] := by
  unfold k_Mo_warm_241 at h
  refine z_iload C 2 x_Mo_warm_241 rfl ?_
  rcases ite_e h with ⟨c1, h⟩ | ⟨c1, h⟩
  · refine z_if_lt_t (tgt := 371) C x_Mo_warm_243 rfl c1 ?_
    refine z_iconst C x_Mo_warm_371 ?_
    refine z_istore (lv' := [(4, vi 0), (0, .ref (G.1 + 111)), (3, vi a3)]) C rfl x_Mo_warm_372 (i_lt rfl) rfl ?_
    refine z_iconst C x_Mo_warm_374 ?_
    refine z_istore (lv' := [(5, vi 0), (4, vi 0), (0, .ref (G.1 + 111)), (3, vi a3)]) C rfl x_Mo_warm_375 (i_lt rfl) rfl ?_
    exact z_sub [2, 3, 1, 0] rfl (zl_Mo_warm_377 C hlev FU a3 0 0 M h)
  · refine z_if_lt_f (tgt := 371) C x_Mo_warm_243 rfl c1 ?_
    refine z_iconst C x_Mo_warm_246 ?_
    refine z_istore (lv' := [(5, vi 0), (0, .ref (G.1 + 111)), (3, vi a3), (4, vi a4)]) C rfl x_Mo_warm_247 (i_lt rfl) rfl ?_
    exact z_sub [1, 2, 3, 0] rfl (zl_Mo_warm_249 C hlev hR241 FU a3 a4 0 M h)
theorem zl_Mo_warm_241 (C : Cx p s m args meth c G b_Mo_warm 8 "PrairiePoolModel" (some .int)) (hlev : 1 ≤ lev) {r : Int × Mem}  : ∀ (n : Nat) (a3 a4 : Int) (M : Mem), fix (fun _ _ _ => none) (k_Mo_warm_241) n a3 a4 M = some r → Z p l e lev s m args below meth c G 8 (MQ below (Qm G 1 r) args s 0 0 (Ab G)) M 241 [(0, .ref (G.1 + 111)), (3, vi a3), (4, vi a4)] [] := by
  intro n
  induction n with
  | zero => intro a3 a4 M h; exact nomatch (show (none : Res) = some r from h)
  | succ n ih => intro a3 a4 M h; exact z_Mo_warm_241 C hlev ih h
def k_Mo_warm_211 (R211 : Int → Int → Mem → Res) (a3 a4 : Int) (M : Mem) : Res := if w32 a4 < w32 (sl32 1 a3) then (chk (0 ≤ w32 (5120 + a4) ∧ w32 (5120 + a4) < 5376) <| blet (sto M 181 (ix (5120 + a4)) 0) fun M3 => blet (a4 + 1) fun v4 => R211 a3 v4 M3) else (fix (fun _ _ _ => none) (k_Mo_warm_241) FU a3 19 M)
theorem z_Mo_warm_211 (C : Cx p s m args meth c G b_Mo_warm 8 "PrairiePoolModel" (some .int)) (hlev : 1 ≤ lev) {r : Int × Mem} {R211 : Int → Int → Mem → Res} (hR211 : ∀ (a3 a4 : Int) (M : Mem), R211 a3 a4 M = some r → Z p l e lev s m args below meth c G 8 (MQ below (Qm G 1 r) args s 0 0 (Ab G)) M 211 [(0, .ref (G.1 + 111)), (3, vi a3), (4, vi a4)] []) {a3 a4 : Int} {M : Mem} (h : k_Mo_warm_211 R211 a3 a4 M = some r) : Z p l e lev s m args below meth c G 8 (MQ below (Qm G 1 r) args s 0 0 (Ab G)) M 211 [(0, .ref (G.1 + 111)), (3, vi a3), (4, vi a4)] [] := by
  unfold k_Mo_warm_211 at h
  refine z_iload C 2 x_Mo_warm_211 rfl ?_
  refine z_iconst C x_Mo_warm_213 ?_
  refine z_iload_n C 1 x_Mo_warm_214 rfl ?_
  refine z_ishl C x_Mo_warm_215 ?_
  rcases ite_e h with ⟨c1, h⟩ | ⟨c1, h⟩
  · refine z_icmp_ge_f (tgt := 237) C x_Mo_warm_216 rfl c1 ?_
    refine z_aload_n C 0 x_Mo_warm_219 rfl ?_
    refine z_getR (j := 99) C x_Mo_warm_220 nk_111 ck_111 cw_12 (i_lt rfl) rfl rf_111_99 rfl fl_Mo_233 ?_
    refine z_sipush C rfl x_Mo_warm_223 ?_
    refine z_iload C 2 x_Mo_warm_226 rfl ?_
    refine z_iadd C x_Mo_warm_228 ?_
    refine z_iconst C x_Mo_warm_229 ?_
    obtain ⟨c2, h⟩ := chk_e h
    obtain ⟨M3, eM3, h⟩ := blet_e h
    refine z_iast C x_Mo_warm_230 nk_181 ck_181 c2 eM3 ?_
    obtain ⟨v4, ev4, h⟩ := blet_e h
    refine z_iinc (lv' := [(4, vi v4), (0, .ref (G.1 + 111)), (3, vi a3)]) C 2 ev4 x_Mo_warm_231 rfl (i_lt rfl) rfl ?_
    refine z_goto (tgt := 211) C x_Mo_warm_234 rfl ?_
    exact z_sub [1, 2, 0] rfl (hR211 a3 v4 M3 h)
  · refine z_icmp_ge_t (tgt := 237) C x_Mo_warm_216 rfl c1 ?_
    refine z_bipush C rfl x_Mo_warm_237 ?_
    refine z_istore (lv' := [(4, vi 19), (0, .ref (G.1 + 111)), (3, vi a3)]) C rfl x_Mo_warm_239 (i_lt rfl) rfl ?_
    exact z_sub [1, 2, 0] rfl (zl_Mo_warm_241 C hlev FU a3 19 M h)
theorem zl_Mo_warm_211 (C : Cx p s m args meth c G b_Mo_warm 8 "PrairiePoolModel" (some .int)) (hlev : 1 ≤ lev) {r : Int × Mem}  : ∀ (n : Nat) (a3 a4 : Int) (M : Mem), fix (fun _ _ _ => none) (k_Mo_warm_211) n a3 a4 M = some r → Z p l e lev s m args below meth c G 8 (MQ below (Qm G 1 r) args s 0 0 (Ab G)) M 211 [(0, .ref (G.1 + 111)), (3, vi a3), (4, vi a4)] [] := by
  intro n
  induction n with
  | zero => intro a3 a4 M h; exact nomatch (show (none : Res) = some r from h)
  | succ n ih => intro a3 a4 M h; exact z_Mo_warm_211 C hlev ih h
def k_Mo_warm_166 (R166 : Int → Int → Int → Int → Mem → Res) (a1 a2 a3 a4 : Int) (M : Mem) : Res := if w32 a4 < w32 a3 then (bcall (d_Mo_numberOf a1 a4 M) fun v2 M3 => chk (0 ≤ w32 a4 ∧ w32 a4 < 8) <| blet (sto M3 178 (ix a4) v2) fun M5 => bcall (d_Mo_numberOf a2 a4 M5) fun v6 M7 => chk (0 ≤ w32 a4 ∧ w32 a4 < 8) <| blet (sto M7 179 (ix a4) v6) fun M9 => blet (a4 + 1) fun v10 => R166 a1 a2 a3 v10 M9) else (fix (fun _ _ _ => none) (k_Mo_warm_211) FU a3 0 M)
theorem z_Mo_warm_166 (C : Cx p s m args meth c G b_Mo_warm 8 "PrairiePoolModel" (some .int)) (hlev : 1 ≤ lev) {r : Int × Mem} {R166 : Int → Int → Int → Int → Mem → Res} (hR166 : ∀ (a1 a2 a3 a4 : Int) (M : Mem), R166 a1 a2 a3 a4 M = some r → Z p l e lev s m args below meth c G 8 (MQ below (Qm G 1 r) args s 0 0 (Ab G)) M 166 [(0, .ref (G.1 + 111)), (1, vi a1), (2, vi a2), (3, vi a3), (4, vi a4)] []) {a1 a2 a3 a4 : Int} {M : Mem} (h : k_Mo_warm_166 R166 a1 a2 a3 a4 M = some r) : Z p l e lev s m args below meth c G 8 (MQ below (Qm G 1 r) args s 0 0 (Ab G)) M 166 [(0, .ref (G.1 + 111)), (1, vi a1), (2, vi a2), (3, vi a3), (4, vi a4)] [] := by
  unfold k_Mo_warm_166 at h
  refine z_iload C 4 x_Mo_warm_166 rfl ?_
  refine z_iload_n C 3 x_Mo_warm_168 rfl ?_
  rcases ite_e h with ⟨c1, h⟩ | ⟨c1, h⟩
  · refine z_icmp_ge_f (tgt := 208) C x_Mo_warm_169 rfl c1 ?_
    refine z_aload_n C 0 x_Mo_warm_172 rfl ?_
    refine z_getR (j := 96) C x_Mo_warm_173 nk_111 ck_111 cw_12 (i_lt rfl) rfl rf_111_96 rfl fl_Mo_224 ?_
    refine z_iload C 4 x_Mo_warm_176 rfl ?_
    refine z_aload_n C 0 x_Mo_warm_178 rfl ?_
    refine z_iload_n C 1 x_Mo_warm_179 rfl ?_
    refine z_iload C 4 x_Mo_warm_180 rfl ?_
    obtain ⟨v2, M3, fv2, h⟩ := bcall_e h
    refine z_callVl (k := 111) C x_Mo_warm_182 cv_Mo_658 (t_Mo_numberOf (lev := lev - 1) l G (by omega) fv2) nk_111 ck_111 rfl (by omega) rfl (i_le rfl) rfl ?_
    refine z_l2i C x_Mo_warm_185 ?_
    obtain ⟨c4, h⟩ := chk_e h
    obtain ⟨M5, eM5, h⟩ := blet_e h
    refine z_iast C x_Mo_warm_186 nk_178 ck_178 c4 eM5 ?_
    refine z_aload_n C 0 x_Mo_warm_187 rfl ?_
    refine z_getR (j := 97) C x_Mo_warm_188 nk_111 ck_111 cw_12 (i_lt rfl) rfl rf_111_97 rfl fl_Mo_227 ?_
    refine z_iload C 4 x_Mo_warm_191 rfl ?_
    refine z_aload_n C 0 x_Mo_warm_193 rfl ?_
    refine z_iload_n C 2 x_Mo_warm_194 rfl ?_
    refine z_iload C 4 x_Mo_warm_195 rfl ?_
    obtain ⟨v6, M7, fv6, h⟩ := bcall_e h
    refine z_callVl (k := 111) C x_Mo_warm_197 cv_Mo_658 (t_Mo_numberOf (lev := lev - 1) l G (by omega) fv6) nk_111 ck_111 rfl (by omega) rfl (i_le rfl) rfl ?_
    refine z_l2i C x_Mo_warm_200 ?_
    obtain ⟨c8, h⟩ := chk_e h
    obtain ⟨M9, eM9, h⟩ := blet_e h
    refine z_iast C x_Mo_warm_201 nk_179 ck_179 c8 eM9 ?_
    obtain ⟨v10, ev10, h⟩ := blet_e h
    refine z_iinc (lv' := [(4, vi v10), (0, .ref (G.1 + 111)), (1, vi a1), (2, vi a2), (3, vi a3)]) C 4 ev10 x_Mo_warm_202 rfl (i_lt rfl) rfl ?_
    refine z_goto (tgt := 166) C x_Mo_warm_205 rfl ?_
    exact z_sub [1, 2, 3, 4, 0] rfl (hR166 a1 a2 a3 v10 M9 h)
  · refine z_icmp_ge_t (tgt := 208) C x_Mo_warm_169 rfl c1 ?_
    refine z_iconst C x_Mo_warm_208 ?_
    refine z_istore (lv' := [(4, vi 0), (0, .ref (G.1 + 111)), (1, vi a1), (2, vi a2), (3, vi a3)]) C rfl x_Mo_warm_209 (i_lt rfl) rfl ?_
    exact z_sub [1, 4, 0] rfl (zl_Mo_warm_211 C hlev FU a3 0 M h)
theorem zl_Mo_warm_166 (C : Cx p s m args meth c G b_Mo_warm 8 "PrairiePoolModel" (some .int)) (hlev : 1 ≤ lev) {r : Int × Mem}  : ∀ (n : Nat) (a1 a2 a3 a4 : Int) (M : Mem), fix (fun _ _ _ _ _ => none) (k_Mo_warm_166) n a1 a2 a3 a4 M = some r → Z p l e lev s m args below meth c G 8 (MQ below (Qm G 1 r) args s 0 0 (Ab G)) M 166 [(0, .ref (G.1 + 111)), (1, vi a1), (2, vi a2), (3, vi a3), (4, vi a4)] [] := by
  intro n
  induction n with
  | zero => intro a1 a2 a3 a4 M h; exact nomatch (show (none : Res) = some r from h)
  | succ n ih => intro a1 a2 a3 a4 M h; exact z_Mo_warm_166 C hlev ih h
def k_Mo_warm_151 (M : Mem) : Res := bcall (d_Mo_refuse 5 M) fun v1 M2 => some (v1, M2)
theorem z_Mo_warm_151 (C : Cx p s m args meth c G b_Mo_warm 8 "PrairiePoolModel" (some .int)) (hlev : 1 ≤ lev) {r : Int × Mem}  {M : Mem} (h : k_Mo_warm_151 M = some r) : Z p l e lev s m args below meth c G 8 (MQ below (Qm G 1 r) args s 0 0 (Ab G)) M 151 [(0, .ref (G.1 + 111))] [] := by
  unfold k_Mo_warm_151 at h
  refine z_aload_n C 0 x_Mo_warm_151 rfl ?_
  refine z_iconst C x_Mo_warm_152 ?_
  obtain ⟨v1, M2, fv1, h⟩ := bcall_e h
  refine z_callVi (k := 111) C x_Mo_warm_153 cv_Mo_297 (t_Mo_refuse (lev := lev - 1) l G (by omega) fv1) nk_111 ck_111 rfl (by omega) rfl (i_le rfl) rfl ?_
  exact z_iret C x_Mo_warm_156 h
def k_Mo_warm_111 (R111 : Int → Int → Int → Int → Mem → Res) (a1 a2 a3 a4 : Int) (M : Mem) : Res := if w32 a4 < w32 a3 then (bcall (d_Mo_numberOf a1 a4 M) fun v2 M3 => bcall (d_Mo_isIn v2 0 20 M3) fun v4 M5 => if w32 v4 = 0 then (k_Mo_warm_151 M5) else (bcall (d_Mo_numberOf a2 a4 M5) fun v7 M8 => bcall (d_Mo_isIn v7 1 10000 M8) fun v9 M10 => if w32 v9 = 0 then (k_Mo_warm_151 M10) else (blet (a4 + 1) fun v12 => R111 a1 a2 a3 v12 M10))) else (fix (fun _ _ _ _ _ => none) (k_Mo_warm_166) FU a1 a2 a3 0 M)
theorem z_Mo_warm_111 (C : Cx p s m args meth c G b_Mo_warm 8 "PrairiePoolModel" (some .int)) (hlev : 1 ≤ lev) {r : Int × Mem} {R111 : Int → Int → Int → Int → Mem → Res} (hR111 : ∀ (a1 a2 a3 a4 : Int) (M : Mem), R111 a1 a2 a3 a4 M = some r → Z p l e lev s m args below meth c G 8 (MQ below (Qm G 1 r) args s 0 0 (Ab G)) M 111 [(0, .ref (G.1 + 111)), (1, vi a1), (2, vi a2), (3, vi a3), (4, vi a4)] []) {a1 a2 a3 a4 : Int} {M : Mem} (h : k_Mo_warm_111 R111 a1 a2 a3 a4 M = some r) : Z p l e lev s m args below meth c G 8 (MQ below (Qm G 1 r) args s 0 0 (Ab G)) M 111 [(0, .ref (G.1 + 111)), (1, vi a1), (2, vi a2), (3, vi a3), (4, vi a4)] [] := by
  unfold k_Mo_warm_111 at h
  refine z_iload C 4 x_Mo_warm_111 rfl ?_
  refine z_iload_n C 3 x_Mo_warm_113 rfl ?_
  rcases ite_e h with ⟨c1, h⟩ | ⟨c1, h⟩
  · refine z_icmp_ge_f (tgt := 163) C x_Mo_warm_114 rfl c1 ?_
    refine z_aload_n C 0 x_Mo_warm_117 rfl ?_
    refine z_iload_n C 1 x_Mo_warm_118 rfl ?_
    refine z_iload C 4 x_Mo_warm_119 rfl ?_
    obtain ⟨v2, M3, fv2, h⟩ := bcall_e h
    refine z_callVl (k := 111) C x_Mo_warm_121 cv_Mo_658 (t_Mo_numberOf (lev := lev - 1) l G (by omega) fv2) nk_111 ck_111 rfl (by omega) rfl (i_le rfl) rfl ?_
    refine z_lconst0 C x_Mo_warm_124 ?_
    refine z_ldc2 C kl_Mo_624 x_Mo_warm_125 ?_
    obtain ⟨v4, M5, fv4, h⟩ := bcall_e h
    refine z_callSi C x_Mo_warm_128 cs_Mo_265 (t_Mo_isIn (lev := lev - 1) l G (by omega) fv4) (by omega) rfl (i_le rfl) rfl ?_
    rcases ite_e h with ⟨c6, h⟩ | ⟨c6, h⟩
    · refine z_if_eq_t (tgt := 151) C x_Mo_warm_131 rfl c6 ?_
      exact z_sub [0] rfl (z_Mo_warm_151 C hlev h)
    · refine z_if_eq_f (tgt := 151) C x_Mo_warm_131 rfl c6 ?_
      refine z_aload_n C 0 x_Mo_warm_134 rfl ?_
      refine z_iload_n C 2 x_Mo_warm_135 rfl ?_
      refine z_iload C 4 x_Mo_warm_136 rfl ?_
      obtain ⟨v7, M8, fv7, h⟩ := bcall_e h
      refine z_callVl (k := 111) C x_Mo_warm_138 cv_Mo_658 (t_Mo_numberOf (lev := lev - 1) l G (by omega) fv7) nk_111 ck_111 rfl (by omega) rfl (i_le rfl) rfl ?_
      refine z_lconst1 C x_Mo_warm_141 ?_
      refine z_ldc2 C kl_Mo_324 x_Mo_warm_142 ?_
      obtain ⟨v9, M10, fv9, h⟩ := bcall_e h
      refine z_callSi C x_Mo_warm_145 cs_Mo_265 (t_Mo_isIn (lev := lev - 1) l G (by omega) fv9) (by omega) rfl (i_le rfl) rfl ?_
      rcases ite_e h with ⟨c11, h⟩ | ⟨c11, h⟩
      · refine z_if_ne_f (tgt := 157) C x_Mo_warm_148 rfl c11 ?_
        exact z_sub [0] rfl (z_Mo_warm_151 C hlev h)
      · refine z_if_ne_t (tgt := 157) C x_Mo_warm_148 rfl c11 ?_
        obtain ⟨v12, ev12, h⟩ := blet_e h
        refine z_iinc (lv' := [(4, vi v12), (0, .ref (G.1 + 111)), (1, vi a1), (2, vi a2), (3, vi a3)]) C 4 ev12 x_Mo_warm_157 rfl (i_lt rfl) rfl ?_
        refine z_goto (tgt := 111) C x_Mo_warm_160 rfl ?_
        exact z_sub [1, 2, 3, 4, 0] rfl (hR111 a1 a2 a3 v12 M10 h)
  · refine z_icmp_ge_t (tgt := 163) C x_Mo_warm_114 rfl c1 ?_
    refine z_iconst C x_Mo_warm_163 ?_
    refine z_istore (lv' := [(4, vi 0), (0, .ref (G.1 + 111)), (1, vi a1), (2, vi a2), (3, vi a3)]) C rfl x_Mo_warm_164 (i_lt rfl) rfl ?_
    exact z_sub [1, 2, 3, 4, 0] rfl (zl_Mo_warm_166 C hlev FU a1 a2 a3 0 M h)
theorem zl_Mo_warm_111 (C : Cx p s m args meth c G b_Mo_warm 8 "PrairiePoolModel" (some .int)) (hlev : 1 ≤ lev) {r : Int × Mem}  : ∀ (n : Nat) (a1 a2 a3 a4 : Int) (M : Mem), fix (fun _ _ _ _ _ => none) (k_Mo_warm_111) n a1 a2 a3 a4 M = some r → Z p l e lev s m args below meth c G 8 (MQ below (Qm G 1 r) args s 0 0 (Ab G)) M 111 [(0, .ref (G.1 + 111)), (1, vi a1), (2, vi a2), (3, vi a3), (4, vi a4)] [] := by
  intro n
  induction n with
  | zero => intro a1 a2 a3 a4 M h; exact nomatch (show (none : Res) = some r from h)
  | succ n ih => intro a1 a2 a3 a4 M h; exact z_Mo_warm_111 C hlev ih h
def k_Mo_warm_102 (M : Mem) : Res := bcall (d_Mo_refuse 4 M) fun v1 M2 => some (v1, M2)
theorem z_Mo_warm_102 (C : Cx p s m args meth c G b_Mo_warm 8 "PrairiePoolModel" (some .int)) (hlev : 1 ≤ lev) {r : Int × Mem}  {M : Mem} (h : k_Mo_warm_102 M = some r) : Z p l e lev s m args below meth c G 8 (MQ below (Qm G 1 r) args s 0 0 (Ab G)) M 102 [(0, .ref (G.1 + 111))] [] := by
  unfold k_Mo_warm_102 at h
  refine z_aload_n C 0 x_Mo_warm_102 rfl ?_
  refine z_iconst C x_Mo_warm_103 ?_
  obtain ⟨v1, M2, fv1, h⟩ := bcall_e h
  refine z_callVi (k := 111) C x_Mo_warm_104 cv_Mo_297 (t_Mo_refuse (lev := lev - 1) l G (by omega) fv1) nk_111 ck_111 rfl (by omega) rfl (i_le rfl) rfl ?_
  exact z_iret C x_Mo_warm_107 h
def k_Mo_warm_58 (M : Mem) : Res := bcall (d_Mo_refuse 3 M) fun v1 M2 => some (v1, M2)
theorem z_Mo_warm_58 (C : Cx p s m args meth c G b_Mo_warm 8 "PrairiePoolModel" (some .int)) (hlev : 1 ≤ lev) {r : Int × Mem}  {M : Mem} (h : k_Mo_warm_58 M = some r) : Z p l e lev s m args below meth c G 8 (MQ below (Qm G 1 r) args s 0 0 (Ab G)) M 58 [(0, .ref (G.1 + 111))] [] := by
  unfold k_Mo_warm_58 at h
  refine z_aload_n C 0 x_Mo_warm_58 rfl ?_
  refine z_iconst C x_Mo_warm_59 ?_
  obtain ⟨v1, M2, fv1, h⟩ := bcall_e h
  refine z_callVi (k := 111) C x_Mo_warm_60 cv_Mo_297 (t_Mo_refuse (lev := lev - 1) l G (by omega) fv1) nk_111 ck_111 rfl (by omega) rfl (i_le rfl) rfl ?_
  exact z_iret C x_Mo_warm_63 h
def k_Mo_warm_34 (M : Mem) : Res := bcall (d_Mo_refuse 1 M) fun v1 M2 => some (v1, M2)
theorem z_Mo_warm_34 (C : Cx p s m args meth c G b_Mo_warm 8 "PrairiePoolModel" (some .int)) (hlev : 1 ≤ lev) {r : Int × Mem}  {M : Mem} (h : k_Mo_warm_34 M = some r) : Z p l e lev s m args below meth c G 8 (MQ below (Qm G 1 r) args s 0 0 (Ab G)) M 34 [(0, .ref (G.1 + 111))] [] := by
  unfold k_Mo_warm_34 at h
  refine z_aload_n C 0 x_Mo_warm_34 rfl ?_
  refine z_iconst C x_Mo_warm_35 ?_
  obtain ⟨v1, M2, fv1, h⟩ := bcall_e h
  refine z_callVi (k := 111) C x_Mo_warm_36 cv_Mo_297 (t_Mo_refuse (lev := lev - 1) l G (by omega) fv1) nk_111 ck_111 rfl (by omega) rfl (i_le rfl) rfl ?_
  exact z_iret C x_Mo_warm_39 h
def d_Mo_warm (a1 a2 a3 : Int) (M : Mem) : Res := blet (sto M 111 1 0) fun M1 => blet (sto M1 111 0 0) fun M2 => bcall (d_Mo_isIn (w32 a1) 0 3 M2) fun v3 M4 => if w32 v3 = 0 then (k_Mo_warm_34 M4) else (bcall (d_Mo_isIn (w32 a2) 0 3 M4) fun v6 M7 => if w32 v6 = 0 then (k_Mo_warm_34 M7) else (chk (0 ≤ w32 a1 ∧ w32 a1 < 4) <| blet (M7 113 (ix a1)) fun v10 => if w32 v10 < 0 then (k_Mo_warm_58 M7) else (chk (0 ≤ w32 a2 ∧ w32 a2 < 4) <| blet (M7 113 (ix a2)) fun v13 => if w32 v13 < 0 then (k_Mo_warm_58 M7) else (bcall (d_Mo_isIn (w32 a3) 1 8 M7) fun v15 M16 => if w32 v15 = 0 then (bcall (d_Mo_refuse 5 M16) fun v18 M19 => some (v18, M19)) else (chk (0 ≤ w32 a1 ∧ w32 a1 < 4) <| blet (M16 113 (ix a1)) fun v21 => if w32 v21 < w32 a3 then (k_Mo_warm_102 M16) else (chk (0 ≤ w32 a2 ∧ w32 a2 < 4) <| blet (M16 113 (ix a2)) fun v24 => if w32 v24 < w32 a3 then (k_Mo_warm_102 M16) else (fix (fun _ _ _ _ _ => none) (k_Mo_warm_111) FU a1 a2 a3 0 M16)))))))
theorem t_Mo_warm (l : Launch) (G : GX) {lev : Nat} (hlev : 1 ≤ lev) {a1 a2 a3 : Int} {M : Mem} {r : Int × Mem} (h : d_Mo_warm a1 a2 a3 M = some r) : Mt l G y_Mo_warm b_Mo_warm 8 (some .int) lev 1 [.ref (G.1 + 111), vi a1, vi a2, vi a3] M r := by
  refine Mt.of (by decide) (i_le rfl) ?_
  intro p e s m args below meth c C
  have C : Cx p s m args meth c G b_Mo_warm 8 "PrairiePoolModel" (some .int) := C
  unfold d_Mo_warm at h
  refine z_sub (lv' := [(0, .ref (G.1 + 111)), (1, vi a1), (2, vi a2), (3, vi a3)]) [0, 1, 2, 3] rfl ?_
  refine z_aload_n C 0 x_Mo_warm_0 rfl ?_
  refine z_iconst C x_Mo_warm_1 ?_
  obtain ⟨M1, eM1, h⟩ := blet_e h
  refine z_putI (j := 1) C x_Mo_warm_2 nk_111 ck_111 cw_12 (i_lt rfl) rfl rfl rfl rfl fl_Mo_257 eM1 ?_
  refine z_aload_n C 0 x_Mo_warm_5 rfl ?_
  refine z_iconst C x_Mo_warm_6 ?_
  obtain ⟨M2, eM2, h⟩ := blet_e h
  refine z_putI (j := 0) C x_Mo_warm_7 nk_111 ck_111 cw_12 (i_lt rfl) rfl rfl rfl rfl fl_Mo_260 eM2 ?_
  refine z_iload_n C 1 x_Mo_warm_10 rfl ?_
  refine z_i2l C x_Mo_warm_11 ?_
  refine z_lconst0 C x_Mo_warm_12 ?_
  refine z_ldc2 C kl_Mo_408 x_Mo_warm_13 ?_
  obtain ⟨v3, M4, fv3, h⟩ := bcall_e h
  refine z_callSi C x_Mo_warm_16 cs_Mo_265 (t_Mo_isIn (lev := lev - 1) l G (by omega) fv3) (by omega) rfl (i_le rfl) rfl ?_
  rcases ite_e h with ⟨c5, h⟩ | ⟨c5, h⟩
  · refine z_if_eq_t (tgt := 34) C x_Mo_warm_19 rfl c5 ?_
    exact z_sub [0] rfl (z_Mo_warm_34 C hlev h)
  · refine z_if_eq_f (tgt := 34) C x_Mo_warm_19 rfl c5 ?_
    refine z_iload_n C 2 x_Mo_warm_22 rfl ?_
    refine z_i2l C x_Mo_warm_23 ?_
    refine z_lconst0 C x_Mo_warm_24 ?_
    refine z_ldc2 C kl_Mo_408 x_Mo_warm_25 ?_
    obtain ⟨v6, M7, fv6, h⟩ := bcall_e h
    refine z_callSi C x_Mo_warm_28 cs_Mo_265 (t_Mo_isIn (lev := lev - 1) l G (by omega) fv6) (by omega) rfl (i_le rfl) rfl ?_
    rcases ite_e h with ⟨c8, h⟩ | ⟨c8, h⟩
    · refine z_if_ne_f (tgt := 40) C x_Mo_warm_31 rfl c8 ?_
      exact z_sub [0] rfl (z_Mo_warm_34 C hlev h)
    · refine z_if_ne_t (tgt := 40) C x_Mo_warm_31 rfl c8 ?_
      refine z_aload_n C 0 x_Mo_warm_40 rfl ?_
      refine z_getR (j := 3) C x_Mo_warm_41 nk_111 ck_111 cw_12 (i_lt rfl) rfl rf_111_3 rfl fl_Mo_13 ?_
      refine z_iload_n C 1 x_Mo_warm_44 rfl ?_
      obtain ⟨c9, h⟩ := chk_e h
      obtain ⟨v10, ev10, h⟩ := blet_e h
      refine z_iald C x_Mo_warm_45 nk_113 ck_113 c9 ev10 ?_
      rcases ite_e h with ⟨c11, h⟩ | ⟨c11, h⟩
      · refine z_if_lt_t (tgt := 58) C x_Mo_warm_46 rfl c11 ?_
        exact z_sub [0] rfl (z_Mo_warm_58 C hlev h)
      · refine z_if_lt_f (tgt := 58) C x_Mo_warm_46 rfl c11 ?_
        refine z_aload_n C 0 x_Mo_warm_49 rfl ?_
        refine z_getR (j := 3) C x_Mo_warm_50 nk_111 ck_111 cw_12 (i_lt rfl) rfl rf_111_3 rfl fl_Mo_13 ?_
        refine z_iload_n C 2 x_Mo_warm_53 rfl ?_
        obtain ⟨c12, h⟩ := chk_e h
        obtain ⟨v13, ev13, h⟩ := blet_e h
        refine z_iald C x_Mo_warm_54 nk_113 ck_113 c12 ev13 ?_
        rcases ite_e h with ⟨c14, h⟩ | ⟨c14, h⟩
        · refine z_if_ge_f (tgt := 64) C x_Mo_warm_55 rfl c14 ?_
          exact z_sub [0] rfl (z_Mo_warm_58 C hlev h)
        · refine z_if_ge_t (tgt := 64) C x_Mo_warm_55 rfl c14 ?_
          refine z_iload_n C 3 x_Mo_warm_64 rfl ?_
          refine z_i2l C x_Mo_warm_65 ?_
          refine z_lconst1 C x_Mo_warm_66 ?_
          refine z_ldc2 C kl_Mo_656 x_Mo_warm_67 ?_
          obtain ⟨v15, M16, fv15, h⟩ := bcall_e h
          refine z_callSi C x_Mo_warm_70 cs_Mo_265 (t_Mo_isIn (lev := lev - 1) l G (by omega) fv15) (by omega) rfl (i_le rfl) rfl ?_
          rcases ite_e h with ⟨c17, h⟩ | ⟨c17, h⟩
          · refine z_if_ne_f (tgt := 82) C x_Mo_warm_73 rfl c17 ?_
            refine z_aload_n C 0 x_Mo_warm_76 rfl ?_
            refine z_iconst C x_Mo_warm_77 ?_
            obtain ⟨v18, M19, fv18, h⟩ := bcall_e h
            refine z_callVi (k := 111) C x_Mo_warm_78 cv_Mo_297 (t_Mo_refuse (lev := lev - 1) l G (by omega) fv18) nk_111 ck_111 rfl (by omega) rfl (i_le rfl) rfl ?_
            exact z_iret C x_Mo_warm_81 h
          · refine z_if_ne_t (tgt := 82) C x_Mo_warm_73 rfl c17 ?_
            refine z_aload_n C 0 x_Mo_warm_82 rfl ?_
            refine z_getR (j := 3) C x_Mo_warm_83 nk_111 ck_111 cw_12 (i_lt rfl) rfl rf_111_3 rfl fl_Mo_13 ?_
            refine z_iload_n C 1 x_Mo_warm_86 rfl ?_
            obtain ⟨c20, h⟩ := chk_e h
            obtain ⟨v21, ev21, h⟩ := blet_e h
            refine z_iald C x_Mo_warm_87 nk_113 ck_113 c20 ev21 ?_
            refine z_iload_n C 3 x_Mo_warm_88 rfl ?_
            rcases ite_e h with ⟨c22, h⟩ | ⟨c22, h⟩
            · refine z_icmp_lt_t (tgt := 102) C x_Mo_warm_89 rfl c22 ?_
              exact z_sub [0] rfl (z_Mo_warm_102 C hlev h)
            · refine z_icmp_lt_f (tgt := 102) C x_Mo_warm_89 rfl c22 ?_
              refine z_aload_n C 0 x_Mo_warm_92 rfl ?_
              refine z_getR (j := 3) C x_Mo_warm_93 nk_111 ck_111 cw_12 (i_lt rfl) rfl rf_111_3 rfl fl_Mo_13 ?_
              refine z_iload_n C 2 x_Mo_warm_96 rfl ?_
              obtain ⟨c23, h⟩ := chk_e h
              obtain ⟨v24, ev24, h⟩ := blet_e h
              refine z_iald C x_Mo_warm_97 nk_113 ck_113 c23 ev24 ?_
              refine z_iload_n C 3 x_Mo_warm_98 rfl ?_
              rcases ite_e h with ⟨c25, h⟩ | ⟨c25, h⟩
              · refine z_icmp_ge_f (tgt := 108) C x_Mo_warm_99 rfl c25 ?_
                exact z_sub [0] rfl (z_Mo_warm_102 C hlev h)
              · refine z_icmp_ge_t (tgt := 108) C x_Mo_warm_99 rfl c25 ?_
                refine z_iconst C x_Mo_warm_108 ?_
                refine z_istore (lv' := [(4, vi 0), (0, .ref (G.1 + 111)), (1, vi a1), (2, vi a2), (3, vi a3)]) C rfl x_Mo_warm_109 (i_lt rfl) rfl ?_
                exact z_sub [1, 2, 3, 4, 0] rfl (zl_Mo_warm_111 C hlev FU a1 a2 a3 0 M16 h)
theorem x_Mo_turned_0 : DC b_Mo_turned 0 (.aload_n 0) 1 1 := ⟨by decide +kernel, rfl⟩
theorem x_Mo_turned_1 : DC b_Mo_turned 1 (.iconst 0) 1 2 := ⟨by decide +kernel, rfl⟩
theorem x_Mo_turned_2 : DC b_Mo_turned 2 (.putfield 257) 3 5 := ⟨by decide +kernel, rfl⟩
theorem x_Mo_turned_5 : DC b_Mo_turned 5 (.aload_n 0) 1 6 := ⟨by decide +kernel, rfl⟩
theorem x_Mo_turned_6 : DC b_Mo_turned 6 (.iconst 0) 1 7 := ⟨by decide +kernel, rfl⟩
theorem x_Mo_turned_7 : DC b_Mo_turned 7 (.putfield 260) 3 10 := ⟨by decide +kernel, rfl⟩
theorem x_Mo_turned_10 : DC b_Mo_turned 10 (.aload_n 0) 1 11 := ⟨by decide +kernel, rfl⟩
theorem x_Mo_turned_11 : DC b_Mo_turned 11 (.getfield 666) 3 14 := ⟨by decide +kernel, rfl⟩
theorem x_Mo_turned_14 : DC b_Mo_turned 14 (.ifCond .eq 24) 3 17 := ⟨by decide +kernel, rfl⟩
theorem x_Mo_turned_17 : DC b_Mo_turned 17 (.iload_n 1) 1 18 := ⟨by decide +kernel, rfl⟩
theorem x_Mo_turned_18 : DC b_Mo_turned 18 (.i2l) 1 19 := ⟨by decide +kernel, rfl⟩
theorem x_Mo_turned_19 : DC b_Mo_turned 19 (.lconst 0) 1 20 := ⟨by decide +kernel, rfl⟩
theorem x_Mo_turned_20 : DC b_Mo_turned 20 (.ldc2_w 669) 3 23 := ⟨by decide +kernel, rfl⟩
theorem x_Mo_turned_23 : DC b_Mo_turned 23 (.invokestatic 265) 3 26 := ⟨by decide +kernel, rfl⟩
theorem x_Mo_turned_26 : DC b_Mo_turned 26 (.ifCond .eq 12) 3 29 := ⟨by decide +kernel, rfl⟩
theorem x_Mo_turned_29 : DC b_Mo_turned 29 (.aload_n 0) 1 30 := ⟨by decide +kernel, rfl⟩
theorem x_Mo_turned_30 : DC b_Mo_turned 30 (.getfield 230) 3 33 := ⟨by decide +kernel, rfl⟩
theorem x_Mo_turned_33 : DC b_Mo_turned 33 (.iload_n 1) 1 34 := ⟨by decide +kernel, rfl⟩
theorem x_Mo_turned_34 : DC b_Mo_turned 34 (.iaload) 1 35 := ⟨by decide +kernel, rfl⟩
theorem x_Mo_turned_35 : DC b_Mo_turned 35 (.goto 9) 3 38 := ⟨by decide +kernel, rfl⟩
theorem x_Mo_turned_38 : DC b_Mo_turned 38 (.aload_n 0) 1 39 := ⟨by decide +kernel, rfl⟩
theorem x_Mo_turned_39 : DC b_Mo_turned 39 (.bipush 8) 2 41 := ⟨by decide +kernel, rfl⟩
theorem x_Mo_turned_41 : DC b_Mo_turned 41 (.invokevirtual 297) 3 44 := ⟨by decide +kernel, rfl⟩
theorem x_Mo_turned_44 : DC b_Mo_turned 44 (.ireturn) 1 45 := ⟨by decide +kernel, rfl⟩
def k_Mo_turned_38 (M : Mem) : Res := bcall (d_Mo_refuse 8 M) fun v1 M2 => some (v1, M2)
theorem z_Mo_turned_38 (C : Cx p s m args meth c G b_Mo_turned 2 "PrairiePoolModel" (some .int)) (hlev : 1 ≤ lev) {r : Int × Mem}  {M : Mem} (h : k_Mo_turned_38 M = some r) : Z p l e lev s m args below meth c G 2 (MQ below (Qm G 1 r) args s 0 0 (Ab G)) M 38 [(0, .ref (G.1 + 111))] [] := by
  unfold k_Mo_turned_38 at h
  refine z_aload_n C 0 x_Mo_turned_38 rfl ?_
  refine z_bipush C rfl x_Mo_turned_39 ?_
  obtain ⟨v1, M2, fv1, h⟩ := bcall_e h
  refine z_callVi (k := 111) C x_Mo_turned_41 cv_Mo_297 (t_Mo_refuse (lev := lev - 1) l G (by omega) fv1) nk_111 ck_111 rfl (by omega) rfl (i_le rfl) rfl ?_
  exact z_iret C x_Mo_turned_44 h
def d_Mo_turned (a1 : Int) (M : Mem) : Res := blet (sto M 111 1 0) fun M1 => blet (sto M1 111 0 0) fun M2 => blet (M2 111 107) fun v3 => if w32 v3 = 0 then (k_Mo_turned_38 M2) else (bcall (d_Mo_isIn (w32 a1) 0 19 M2) fun v5 M6 => if w32 v5 = 0 then (k_Mo_turned_38 M6) else (chk (0 ≤ w32 a1 ∧ w32 a1 < 20) <| blet (M6 180 (ix a1)) fun v9 => some (v9, M6)))
theorem t_Mo_turned (l : Launch) (G : GX) {lev : Nat} (hlev : 1 ≤ lev) {a1 : Int} {M : Mem} {r : Int × Mem} (h : d_Mo_turned a1 M = some r) : Mt l G y_Mo_turned b_Mo_turned 2 (some .int) lev 1 [.ref (G.1 + 111), vi a1] M r := by
  refine Mt.of (by decide) (i_le rfl) ?_
  intro p e s m args below meth c C
  have C : Cx p s m args meth c G b_Mo_turned 2 "PrairiePoolModel" (some .int) := C
  unfold d_Mo_turned at h
  refine z_sub (lv' := [(0, .ref (G.1 + 111)), (1, vi a1)]) [0, 1] rfl ?_
  refine z_aload_n C 0 x_Mo_turned_0 rfl ?_
  refine z_iconst C x_Mo_turned_1 ?_
  obtain ⟨M1, eM1, h⟩ := blet_e h
  refine z_putI (j := 1) C x_Mo_turned_2 nk_111 ck_111 cw_12 (i_lt rfl) rfl rfl rfl rfl fl_Mo_257 eM1 ?_
  refine z_aload_n C 0 x_Mo_turned_5 rfl ?_
  refine z_iconst C x_Mo_turned_6 ?_
  obtain ⟨M2, eM2, h⟩ := blet_e h
  refine z_putI (j := 0) C x_Mo_turned_7 nk_111 ck_111 cw_12 (i_lt rfl) rfl rfl rfl rfl fl_Mo_260 eM2 ?_
  refine z_aload_n C 0 x_Mo_turned_10 rfl ?_
  obtain ⟨v3, ev3, h⟩ := blet_e h
  refine z_getI (j := 107) C x_Mo_turned_11 nk_111 ck_111 cw_12 (i_lt rfl) rfl rfl fl_Mo_666 ev3 ?_
  rcases ite_e h with ⟨c4, h⟩ | ⟨c4, h⟩
  · refine z_if_eq_t (tgt := 38) C x_Mo_turned_14 rfl c4 ?_
    exact z_sub [0] rfl (z_Mo_turned_38 C hlev h)
  · refine z_if_eq_f (tgt := 38) C x_Mo_turned_14 rfl c4 ?_
    refine z_iload_n C 1 x_Mo_turned_17 rfl ?_
    refine z_i2l C x_Mo_turned_18 ?_
    refine z_lconst0 C x_Mo_turned_19 ?_
    refine z_ldc2 C kl_Mo_669 x_Mo_turned_20 ?_
    obtain ⟨v5, M6, fv5, h⟩ := bcall_e h
    refine z_callSi C x_Mo_turned_23 cs_Mo_265 (t_Mo_isIn (lev := lev - 1) l G (by omega) fv5) (by omega) rfl (i_le rfl) rfl ?_
    rcases ite_e h with ⟨c7, h⟩ | ⟨c7, h⟩
    · refine z_if_eq_t (tgt := 38) C x_Mo_turned_26 rfl c7 ?_
      exact z_sub [0] rfl (z_Mo_turned_38 C hlev h)
    · refine z_if_eq_f (tgt := 38) C x_Mo_turned_26 rfl c7 ?_
      refine z_aload_n C 0 x_Mo_turned_29 rfl ?_
      refine z_getR (j := 98) C x_Mo_turned_30 nk_111 ck_111 cw_12 (i_lt rfl) rfl rf_111_98 rfl fl_Mo_230 ?_
      refine z_iload_n C 1 x_Mo_turned_33 rfl ?_
      obtain ⟨c8, h⟩ := chk_e h
      obtain ⟨v9, ev9, h⟩ := blet_e h
      refine z_iald C x_Mo_turned_34 nk_180 ck_180 c8 ev9 ?_
      refine z_goto (tgt := 44) C x_Mo_turned_35 rfl ?_
      exact z_iret C x_Mo_turned_44 h
theorem x_Mo_asksSend_0 : DC b_Mo_asksSend 0 (.iload_n 1) 1 1 := ⟨by decide +kernel, rfl⟩
theorem x_Mo_asksSend_1 : DC b_Mo_asksSend 1 (.i2l) 1 2 := ⟨by decide +kernel, rfl⟩
theorem x_Mo_asksSend_2 : DC b_Mo_asksSend 2 (.lconst 0) 1 3 := ⟨by decide +kernel, rfl⟩
theorem x_Mo_asksSend_3 : DC b_Mo_asksSend 3 (.ldc2_w 408) 3 6 := ⟨by decide +kernel, rfl⟩
theorem x_Mo_asksSend_6 : DC b_Mo_asksSend 6 (.invokestatic 265) 3 9 := ⟨by decide +kernel, rfl⟩
theorem x_Mo_asksSend_9 : DC b_Mo_asksSend 9 (.ifCond .eq 28) 3 12 := ⟨by decide +kernel, rfl⟩
theorem x_Mo_asksSend_12 : DC b_Mo_asksSend 12 (.iload_n 3) 1 13 := ⟨by decide +kernel, rfl⟩
theorem x_Mo_asksSend_13 : DC b_Mo_asksSend 13 (.i2l) 1 14 := ⟨by decide +kernel, rfl⟩
theorem x_Mo_asksSend_14 : DC b_Mo_asksSend 14 (.lconst 0) 1 15 := ⟨by decide +kernel, rfl⟩
theorem x_Mo_asksSend_15 : DC b_Mo_asksSend 15 (.ldc2_w 408) 3 18 := ⟨by decide +kernel, rfl⟩
theorem x_Mo_asksSend_18 : DC b_Mo_asksSend 18 (.invokestatic 265) 3 21 := ⟨by decide +kernel, rfl⟩
theorem x_Mo_asksSend_21 : DC b_Mo_asksSend 21 (.ifCond .eq 16) 3 24 := ⟨by decide +kernel, rfl⟩
theorem x_Mo_asksSend_24 : DC b_Mo_asksSend 24 (.iload 5) 2 26 := ⟨by decide +kernel, rfl⟩
theorem x_Mo_asksSend_26 : DC b_Mo_asksSend 26 (.i2l) 1 27 := ⟨by decide +kernel, rfl⟩
theorem x_Mo_asksSend_27 : DC b_Mo_asksSend 27 (.lconst 0) 1 28 := ⟨by decide +kernel, rfl⟩
theorem x_Mo_asksSend_28 : DC b_Mo_asksSend 28 (.ldc2_w 408) 3 31 := ⟨by decide +kernel, rfl⟩
theorem x_Mo_asksSend_31 : DC b_Mo_asksSend 31 (.invokestatic 265) 3 34 := ⟨by decide +kernel, rfl⟩
theorem x_Mo_asksSend_34 : DC b_Mo_asksSend 34 (.ifCond .ne 5) 3 37 := ⟨by decide +kernel, rfl⟩
theorem x_Mo_asksSend_37 : DC b_Mo_asksSend 37 (.iconst 1) 1 38 := ⟨by decide +kernel, rfl⟩
theorem x_Mo_asksSend_38 : DC b_Mo_asksSend 38 (.ireturn) 1 39 := ⟨by decide +kernel, rfl⟩
theorem x_Mo_asksSend_39 : DC b_Mo_asksSend 39 (.aload_n 0) 1 40 := ⟨by decide +kernel, rfl⟩
theorem x_Mo_asksSend_40 : DC b_Mo_asksSend 40 (.getfield 13) 3 43 := ⟨by decide +kernel, rfl⟩
theorem x_Mo_asksSend_43 : DC b_Mo_asksSend 43 (.iload_n 1) 1 44 := ⟨by decide +kernel, rfl⟩
theorem x_Mo_asksSend_44 : DC b_Mo_asksSend 44 (.iaload) 1 45 := ⟨by decide +kernel, rfl⟩
theorem x_Mo_asksSend_45 : DC b_Mo_asksSend 45 (.ifCond .lt 22) 3 48 := ⟨by decide +kernel, rfl⟩
theorem x_Mo_asksSend_48 : DC b_Mo_asksSend 48 (.aload_n 0) 1 49 := ⟨by decide +kernel, rfl⟩
theorem x_Mo_asksSend_49 : DC b_Mo_asksSend 49 (.getfield 13) 3 52 := ⟨by decide +kernel, rfl⟩
theorem x_Mo_asksSend_52 : DC b_Mo_asksSend 52 (.iload_n 3) 1 53 := ⟨by decide +kernel, rfl⟩
theorem x_Mo_asksSend_53 : DC b_Mo_asksSend 53 (.iaload) 1 54 := ⟨by decide +kernel, rfl⟩
theorem x_Mo_asksSend_54 : DC b_Mo_asksSend 54 (.ifCond .lt 13) 3 57 := ⟨by decide +kernel, rfl⟩
theorem x_Mo_asksSend_57 : DC b_Mo_asksSend 57 (.aload_n 0) 1 58 := ⟨by decide +kernel, rfl⟩
theorem x_Mo_asksSend_58 : DC b_Mo_asksSend 58 (.getfield 13) 3 61 := ⟨by decide +kernel, rfl⟩
theorem x_Mo_asksSend_61 : DC b_Mo_asksSend 61 (.iload 5) 2 63 := ⟨by decide +kernel, rfl⟩
theorem x_Mo_asksSend_63 : DC b_Mo_asksSend 63 (.iaload) 1 64 := ⟨by decide +kernel, rfl⟩
theorem x_Mo_asksSend_64 : DC b_Mo_asksSend 64 (.ifCond .ge 5) 3 67 := ⟨by decide +kernel, rfl⟩
theorem x_Mo_asksSend_67 : DC b_Mo_asksSend 67 (.iconst 3) 1 68 := ⟨by decide +kernel, rfl⟩
theorem x_Mo_asksSend_68 : DC b_Mo_asksSend 68 (.ireturn) 1 69 := ⟨by decide +kernel, rfl⟩
theorem x_Mo_asksSend_69 : DC b_Mo_asksSend 69 (.iload_n 2) 1 70 := ⟨by decide +kernel, rfl⟩
theorem x_Mo_asksSend_70 : DC b_Mo_asksSend 70 (.i2l) 1 71 := ⟨by decide +kernel, rfl⟩
theorem x_Mo_asksSend_71 : DC b_Mo_asksSend 71 (.lconst 1) 1 72 := ⟨by decide +kernel, rfl⟩
theorem x_Mo_asksSend_72 : DC b_Mo_asksSend 72 (.ldc2_w 271) 3 75 := ⟨by decide +kernel, rfl⟩
theorem x_Mo_asksSend_75 : DC b_Mo_asksSend 75 (.invokestatic 265) 3 78 := ⟨by decide +kernel, rfl⟩
theorem x_Mo_asksSend_78 : DC b_Mo_asksSend 78 (.ifCond .eq 16) 3 81 := ⟨by decide +kernel, rfl⟩
theorem x_Mo_asksSend_81 : DC b_Mo_asksSend 81 (.iload 4) 2 83 := ⟨by decide +kernel, rfl⟩
theorem x_Mo_asksSend_83 : DC b_Mo_asksSend 83 (.i2l) 1 84 := ⟨by decide +kernel, rfl⟩
theorem x_Mo_asksSend_84 : DC b_Mo_asksSend 84 (.lconst 1) 1 85 := ⟨by decide +kernel, rfl⟩
theorem x_Mo_asksSend_85 : DC b_Mo_asksSend 85 (.ldc2_w 406) 3 88 := ⟨by decide +kernel, rfl⟩
theorem x_Mo_asksSend_88 : DC b_Mo_asksSend 88 (.invokestatic 265) 3 91 := ⟨by decide +kernel, rfl⟩
theorem x_Mo_asksSend_91 : DC b_Mo_asksSend 91 (.ifCond .ne 5) 3 94 := ⟨by decide +kernel, rfl⟩
theorem x_Mo_asksSend_94 : DC b_Mo_asksSend 94 (.iconst 5) 1 95 := ⟨by decide +kernel, rfl⟩
theorem x_Mo_asksSend_95 : DC b_Mo_asksSend 95 (.ireturn) 1 96 := ⟨by decide +kernel, rfl⟩
theorem x_Mo_asksSend_96 : DC b_Mo_asksSend 96 (.aload_n 0) 1 97 := ⟨by decide +kernel, rfl⟩
theorem x_Mo_asksSend_97 : DC b_Mo_asksSend 97 (.getfield 13) 3 100 := ⟨by decide +kernel, rfl⟩
theorem x_Mo_asksSend_100 : DC b_Mo_asksSend 100 (.iload_n 1) 1 101 := ⟨by decide +kernel, rfl⟩
theorem x_Mo_asksSend_101 : DC b_Mo_asksSend 101 (.iaload) 1 102 := ⟨by decide +kernel, rfl⟩
theorem x_Mo_asksSend_102 : DC b_Mo_asksSend 102 (.iload_n 2) 1 103 := ⟨by decide +kernel, rfl⟩
theorem x_Mo_asksSend_103 : DC b_Mo_asksSend 103 (.if_icmp .lt 28) 3 106 := ⟨by decide +kernel, rfl⟩
theorem x_Mo_asksSend_106 : DC b_Mo_asksSend 106 (.aload_n 0) 1 107 := ⟨by decide +kernel, rfl⟩
theorem x_Mo_asksSend_107 : DC b_Mo_asksSend 107 (.getfield 13) 3 110 := ⟨by decide +kernel, rfl⟩
theorem x_Mo_asksSend_110 : DC b_Mo_asksSend 110 (.iload_n 3) 1 111 := ⟨by decide +kernel, rfl⟩
theorem x_Mo_asksSend_111 : DC b_Mo_asksSend 111 (.iaload) 1 112 := ⟨by decide +kernel, rfl⟩
theorem x_Mo_asksSend_112 : DC b_Mo_asksSend 112 (.iload 4) 2 114 := ⟨by decide +kernel, rfl⟩
theorem x_Mo_asksSend_114 : DC b_Mo_asksSend 114 (.if_icmp .lt 17) 3 117 := ⟨by decide +kernel, rfl⟩
theorem x_Mo_asksSend_117 : DC b_Mo_asksSend 117 (.aload_n 0) 1 118 := ⟨by decide +kernel, rfl⟩
theorem x_Mo_asksSend_118 : DC b_Mo_asksSend 118 (.getfield 13) 3 121 := ⟨by decide +kernel, rfl⟩
theorem x_Mo_asksSend_121 : DC b_Mo_asksSend 121 (.iload 5) 2 123 := ⟨by decide +kernel, rfl⟩
theorem x_Mo_asksSend_123 : DC b_Mo_asksSend 123 (.iaload) 1 124 := ⟨by decide +kernel, rfl⟩
theorem x_Mo_asksSend_124 : DC b_Mo_asksSend 124 (.iload_n 2) 1 125 := ⟨by decide +kernel, rfl⟩
theorem x_Mo_asksSend_125 : DC b_Mo_asksSend 125 (.iload 4) 2 127 := ⟨by decide +kernel, rfl⟩
theorem x_Mo_asksSend_127 : DC b_Mo_asksSend 127 (.imul) 1 128 := ⟨by decide +kernel, rfl⟩
theorem x_Mo_asksSend_128 : DC b_Mo_asksSend 128 (.if_icmp .ge 5) 3 131 := ⟨by decide +kernel, rfl⟩
theorem x_Mo_asksSend_131 : DC b_Mo_asksSend 131 (.iconst 4) 1 132 := ⟨by decide +kernel, rfl⟩
theorem x_Mo_asksSend_132 : DC b_Mo_asksSend 132 (.ireturn) 1 133 := ⟨by decide +kernel, rfl⟩
theorem x_Mo_asksSend_133 : DC b_Mo_asksSend 133 (.iconst 0) 1 134 := ⟨by decide +kernel, rfl⟩
theorem x_Mo_asksSend_134 : DC b_Mo_asksSend 134 (.istore 6) 2 136 := ⟨by decide +kernel, rfl⟩
theorem x_Mo_asksSend_136 : DC b_Mo_asksSend 136 (.iload 6) 2 138 := ⟨by decide +kernel, rfl⟩
theorem x_Mo_asksSend_138 : DC b_Mo_asksSend 138 (.iload_n 2) 1 139 := ⟨by decide +kernel, rfl⟩
theorem x_Mo_asksSend_139 : DC b_Mo_asksSend 139 (.if_icmp .ge 28) 3 142 := ⟨by decide +kernel, rfl⟩
theorem x_Mo_asksSend_142 : DC b_Mo_asksSend 142 (.aload_n 0) 1 143 := ⟨by decide +kernel, rfl⟩
theorem x_Mo_asksSend_143 : DC b_Mo_asksSend 143 (.iload_n 1) 1 144 := ⟨by decide +kernel, rfl⟩
theorem x_Mo_asksSend_144 : DC b_Mo_asksSend 144 (.iload 6) 2 146 := ⟨by decide +kernel, rfl⟩
theorem x_Mo_asksSend_146 : DC b_Mo_asksSend 146 (.invokevirtual 658) 3 149 := ⟨by decide +kernel, rfl⟩
theorem x_Mo_asksSend_149 : DC b_Mo_asksSend 149 (.lconst 0) 1 150 := ⟨by decide +kernel, rfl⟩
theorem x_Mo_asksSend_150 : DC b_Mo_asksSend 150 (.ldc2_w 671) 3 153 := ⟨by decide +kernel, rfl⟩
theorem x_Mo_asksSend_153 : DC b_Mo_asksSend 153 (.invokestatic 265) 3 156 := ⟨by decide +kernel, rfl⟩
theorem x_Mo_asksSend_156 : DC b_Mo_asksSend 156 (.ifCond .ne 5) 3 159 := ⟨by decide +kernel, rfl⟩
theorem x_Mo_asksSend_159 : DC b_Mo_asksSend 159 (.iconst 5) 1 160 := ⟨by decide +kernel, rfl⟩
theorem x_Mo_asksSend_160 : DC b_Mo_asksSend 160 (.ireturn) 1 161 := ⟨by decide +kernel, rfl⟩
theorem x_Mo_asksSend_161 : DC b_Mo_asksSend 161 (.iinc 6 1) 3 164 := ⟨by decide +kernel, rfl⟩
theorem x_Mo_asksSend_164 : DC b_Mo_asksSend 164 (.goto (-28)) 3 167 := ⟨by decide +kernel, rfl⟩
theorem x_Mo_asksSend_167 : DC b_Mo_asksSend 167 (.iconst 0) 1 168 := ⟨by decide +kernel, rfl⟩
theorem x_Mo_asksSend_168 : DC b_Mo_asksSend 168 (.istore 6) 2 170 := ⟨by decide +kernel, rfl⟩
theorem x_Mo_asksSend_170 : DC b_Mo_asksSend 170 (.iload 6) 2 172 := ⟨by decide +kernel, rfl⟩
theorem x_Mo_asksSend_172 : DC b_Mo_asksSend 172 (.iload 4) 2 174 := ⟨by decide +kernel, rfl⟩
theorem x_Mo_asksSend_174 : DC b_Mo_asksSend 174 (.if_icmp .ge 28) 3 177 := ⟨by decide +kernel, rfl⟩
theorem x_Mo_asksSend_177 : DC b_Mo_asksSend 177 (.aload_n 0) 1 178 := ⟨by decide +kernel, rfl⟩
theorem x_Mo_asksSend_178 : DC b_Mo_asksSend 178 (.iload_n 3) 1 179 := ⟨by decide +kernel, rfl⟩
theorem x_Mo_asksSend_179 : DC b_Mo_asksSend 179 (.iload 6) 2 181 := ⟨by decide +kernel, rfl⟩
theorem x_Mo_asksSend_181 : DC b_Mo_asksSend 181 (.invokevirtual 658) 3 184 := ⟨by decide +kernel, rfl⟩
theorem x_Mo_asksSend_184 : DC b_Mo_asksSend 184 (.lconst 0) 1 185 := ⟨by decide +kernel, rfl⟩
theorem x_Mo_asksSend_185 : DC b_Mo_asksSend 185 (.ldc2_w 671) 3 188 := ⟨by decide +kernel, rfl⟩
theorem x_Mo_asksSend_188 : DC b_Mo_asksSend 188 (.invokestatic 265) 3 191 := ⟨by decide +kernel, rfl⟩
theorem x_Mo_asksSend_191 : DC b_Mo_asksSend 191 (.ifCond .ne 5) 3 194 := ⟨by decide +kernel, rfl⟩
theorem x_Mo_asksSend_194 : DC b_Mo_asksSend 194 (.iconst 5) 1 195 := ⟨by decide +kernel, rfl⟩
theorem x_Mo_asksSend_195 : DC b_Mo_asksSend 195 (.ireturn) 1 196 := ⟨by decide +kernel, rfl⟩
theorem x_Mo_asksSend_196 : DC b_Mo_asksSend 196 (.iinc 6 1) 3 199 := ⟨by decide +kernel, rfl⟩
theorem x_Mo_asksSend_199 : DC b_Mo_asksSend 199 (.goto (-29)) 3 202 := ⟨by decide +kernel, rfl⟩
theorem x_Mo_asksSend_202 : DC b_Mo_asksSend 202 (.iconst 0) 1 203 := ⟨by decide +kernel, rfl⟩
theorem x_Mo_asksSend_203 : DC b_Mo_asksSend 203 (.istore 6) 2 205 := ⟨by decide +kernel, rfl⟩
theorem x_Mo_asksSend_205 : DC b_Mo_asksSend 205 (.iload 6) 2 207 := ⟨by decide +kernel, rfl⟩
theorem x_Mo_asksSend_207 : DC b_Mo_asksSend 207 (.iload_n 2) 1 208 := ⟨by decide +kernel, rfl⟩
theorem x_Mo_asksSend_208 : DC b_Mo_asksSend 208 (.iload 4) 2 210 := ⟨by decide +kernel, rfl⟩
theorem x_Mo_asksSend_210 : DC b_Mo_asksSend 210 (.imul) 1 211 := ⟨by decide +kernel, rfl⟩
theorem x_Mo_asksSend_211 : DC b_Mo_asksSend 211 (.if_icmp .ge 29) 3 214 := ⟨by decide +kernel, rfl⟩
theorem x_Mo_asksSend_214 : DC b_Mo_asksSend 214 (.aload_n 0) 1 215 := ⟨by decide +kernel, rfl⟩
theorem x_Mo_asksSend_215 : DC b_Mo_asksSend 215 (.iload 5) 2 217 := ⟨by decide +kernel, rfl⟩
theorem x_Mo_asksSend_217 : DC b_Mo_asksSend 217 (.iload 6) 2 219 := ⟨by decide +kernel, rfl⟩
theorem x_Mo_asksSend_219 : DC b_Mo_asksSend 219 (.invokevirtual 658) 3 222 := ⟨by decide +kernel, rfl⟩
theorem x_Mo_asksSend_222 : DC b_Mo_asksSend 222 (.lconst 0) 1 223 := ⟨by decide +kernel, rfl⟩
theorem x_Mo_asksSend_223 : DC b_Mo_asksSend 223 (.ldc2_w 636) 3 226 := ⟨by decide +kernel, rfl⟩
theorem x_Mo_asksSend_226 : DC b_Mo_asksSend 226 (.invokestatic 265) 3 229 := ⟨by decide +kernel, rfl⟩
theorem x_Mo_asksSend_229 : DC b_Mo_asksSend 229 (.ifCond .ne 5) 3 232 := ⟨by decide +kernel, rfl⟩
theorem x_Mo_asksSend_232 : DC b_Mo_asksSend 232 (.iconst 5) 1 233 := ⟨by decide +kernel, rfl⟩
theorem x_Mo_asksSend_233 : DC b_Mo_asksSend 233 (.ireturn) 1 234 := ⟨by decide +kernel, rfl⟩
theorem x_Mo_asksSend_234 : DC b_Mo_asksSend 234 (.iinc 6 1) 3 237 := ⟨by decide +kernel, rfl⟩
theorem x_Mo_asksSend_237 : DC b_Mo_asksSend 237 (.goto (-32)) 3 240 := ⟨by decide +kernel, rfl⟩
theorem x_Mo_asksSend_240 : DC b_Mo_asksSend 240 (.lconst 0) 1 241 := ⟨by decide +kernel, rfl⟩
theorem x_Mo_asksSend_241 : DC b_Mo_asksSend 241 (.lstore 6) 2 243 := ⟨by decide +kernel, rfl⟩
theorem x_Mo_asksSend_243 : DC b_Mo_asksSend 243 (.iconst 0) 1 244 := ⟨by decide +kernel, rfl⟩
theorem x_Mo_asksSend_244 : DC b_Mo_asksSend 244 (.istore 8) 2 246 := ⟨by decide +kernel, rfl⟩
theorem x_Mo_asksSend_246 : DC b_Mo_asksSend 246 (.iload 8) 2 248 := ⟨by decide +kernel, rfl⟩
theorem x_Mo_asksSend_248 : DC b_Mo_asksSend 248 (.iload_n 2) 1 249 := ⟨by decide +kernel, rfl⟩
theorem x_Mo_asksSend_249 : DC b_Mo_asksSend 249 (.if_icmp .ge 21) 3 252 := ⟨by decide +kernel, rfl⟩
theorem x_Mo_asksSend_252 : DC b_Mo_asksSend 252 (.lload 6) 2 254 := ⟨by decide +kernel, rfl⟩
theorem x_Mo_asksSend_254 : DC b_Mo_asksSend 254 (.aload_n 0) 1 255 := ⟨by decide +kernel, rfl⟩
theorem x_Mo_asksSend_255 : DC b_Mo_asksSend 255 (.iload_n 1) 1 256 := ⟨by decide +kernel, rfl⟩
theorem x_Mo_asksSend_256 : DC b_Mo_asksSend 256 (.iload 8) 2 258 := ⟨by decide +kernel, rfl⟩
theorem x_Mo_asksSend_258 : DC b_Mo_asksSend 258 (.invokevirtual 658) 3 261 := ⟨by decide +kernel, rfl⟩
theorem x_Mo_asksSend_261 : DC b_Mo_asksSend 261 (.ladd) 1 262 := ⟨by decide +kernel, rfl⟩
theorem x_Mo_asksSend_262 : DC b_Mo_asksSend 262 (.lstore 6) 2 264 := ⟨by decide +kernel, rfl⟩
theorem x_Mo_asksSend_264 : DC b_Mo_asksSend 264 (.iinc 8 1) 3 267 := ⟨by decide +kernel, rfl⟩
theorem x_Mo_asksSend_267 : DC b_Mo_asksSend 267 (.goto (-21)) 3 270 := ⟨by decide +kernel, rfl⟩
theorem x_Mo_asksSend_270 : DC b_Mo_asksSend 270 (.iconst 0) 1 271 := ⟨by decide +kernel, rfl⟩
theorem x_Mo_asksSend_271 : DC b_Mo_asksSend 271 (.istore 8) 2 273 := ⟨by decide +kernel, rfl⟩
theorem x_Mo_asksSend_273 : DC b_Mo_asksSend 273 (.iload 8) 2 275 := ⟨by decide +kernel, rfl⟩
theorem x_Mo_asksSend_275 : DC b_Mo_asksSend 275 (.iload 4) 2 277 := ⟨by decide +kernel, rfl⟩
theorem x_Mo_asksSend_277 : DC b_Mo_asksSend 277 (.if_icmp .ge 21) 3 280 := ⟨by decide +kernel, rfl⟩
theorem x_Mo_asksSend_280 : DC b_Mo_asksSend 280 (.lload 6) 2 282 := ⟨by decide +kernel, rfl⟩
theorem x_Mo_asksSend_282 : DC b_Mo_asksSend 282 (.aload_n 0) 1 283 := ⟨by decide +kernel, rfl⟩
theorem x_Mo_asksSend_283 : DC b_Mo_asksSend 283 (.iload_n 3) 1 284 := ⟨by decide +kernel, rfl⟩
theorem x_Mo_asksSend_284 : DC b_Mo_asksSend 284 (.iload 8) 2 286 := ⟨by decide +kernel, rfl⟩
theorem x_Mo_asksSend_286 : DC b_Mo_asksSend 286 (.invokevirtual 658) 3 289 := ⟨by decide +kernel, rfl⟩
theorem x_Mo_asksSend_289 : DC b_Mo_asksSend 289 (.lsub) 1 290 := ⟨by decide +kernel, rfl⟩
theorem x_Mo_asksSend_290 : DC b_Mo_asksSend 290 (.lstore 6) 2 292 := ⟨by decide +kernel, rfl⟩
theorem x_Mo_asksSend_292 : DC b_Mo_asksSend 292 (.iinc 8 1) 3 295 := ⟨by decide +kernel, rfl⟩
theorem x_Mo_asksSend_295 : DC b_Mo_asksSend 295 (.goto (-22)) 3 298 := ⟨by decide +kernel, rfl⟩
theorem x_Mo_asksSend_298 : DC b_Mo_asksSend 298 (.lload 6) 2 300 := ⟨by decide +kernel, rfl⟩
theorem x_Mo_asksSend_300 : DC b_Mo_asksSend 300 (.lconst 0) 1 301 := ⟨by decide +kernel, rfl⟩
theorem x_Mo_asksSend_301 : DC b_Mo_asksSend 301 (.lcmp) 1 302 := ⟨by decide +kernel, rfl⟩
theorem x_Mo_asksSend_302 : DC b_Mo_asksSend 302 (.ifCond .ge 8) 3 305 := ⟨by decide +kernel, rfl⟩
theorem x_Mo_asksSend_305 : DC b_Mo_asksSend 305 (.bipush 9) 2 307 := ⟨by decide +kernel, rfl⟩
theorem x_Mo_asksSend_307 : DC b_Mo_asksSend 307 (.goto 4) 3 310 := ⟨by decide +kernel, rfl⟩
theorem x_Mo_asksSend_310 : DC b_Mo_asksSend 310 (.iconst 0) 1 311 := ⟨by decide +kernel, rfl⟩
theorem x_Mo_asksSend_311 : DC b_Mo_asksSend 311 (.ireturn) 1 312 := ⟨by decide +kernel, rfl⟩
def k_Mo_asksSend_273 (R273 : Int → Int → Int → Int → Mem → Res) (a3 a4 a6 a8 : Int) (M : Mem) : Res := if w32 a8 < w32 a4 then (bcall (d_Mo_numberOf a3 a8 M) fun v2 M3 => blet (a6 - v2) fun v4 => blet (a8 + 1) fun v5 => R273 a3 a4 v4 v5 M3) else (if w64 a6 < 0 then (some (9, M)) else (some (0, M)))
theorem z_Mo_asksSend_273 (C : Cx p s m args meth c G b_Mo_asksSend 9 "PrairiePoolModel" (some .int)) (hlev : 1 ≤ lev) {r : Int × Mem} {R273 : Int → Int → Int → Int → Mem → Res} (hR273 : ∀ (a3 a4 a6 a8 : Int) (M : Mem), R273 a3 a4 a6 a8 M = some r → Z p l e lev s m args below meth c G 9 (MQ below (Qm G 1 r) args s 0 0 (Ab G)) M 273 [(0, .ref (G.1 + 111)), (3, vi a3), (4, vi a4), (6, vl a6), (8, vi a8)] []) {a3 a4 a6 a8 : Int} {M : Mem} (h : k_Mo_asksSend_273 R273 a3 a4 a6 a8 M = some r) : Z p l e lev s m args below meth c G 9 (MQ below (Qm G 1 r) args s 0 0 (Ab G)) M 273 [(0, .ref (G.1 + 111)), (3, vi a3), (4, vi a4), (6, vl a6), (8, vi a8)] [] := by
  unfold k_Mo_asksSend_273 at h
  refine z_iload C 4 x_Mo_asksSend_273 rfl ?_
  refine z_iload C 2 x_Mo_asksSend_275 rfl ?_
  rcases ite_e h with ⟨c1, h⟩ | ⟨c1, h⟩
  · refine z_icmp_ge_f (tgt := 298) C x_Mo_asksSend_277 rfl c1 ?_
    refine z_lload C 3 x_Mo_asksSend_280 rfl ?_
    refine z_aload_n C 0 x_Mo_asksSend_282 rfl ?_
    refine z_iload_n C 1 x_Mo_asksSend_283 rfl ?_
    refine z_iload C 4 x_Mo_asksSend_284 rfl ?_
    obtain ⟨v2, M3, fv2, h⟩ := bcall_e h
    refine z_callVl (k := 111) C x_Mo_asksSend_286 cv_Mo_658 (t_Mo_numberOf (lev := lev - 1) l G (by omega) fv2) nk_111 ck_111 rfl (by omega) rfl (i_le rfl) rfl ?_
    refine z_lsub C x_Mo_asksSend_289 ?_
    obtain ⟨v4, ev4, h⟩ := blet_e h
    refine z_lstore (lv' := [(6, vl v4), (0, .ref (G.1 + 111)), (3, vi a3), (4, vi a4), (8, vi a8)]) C ev4 x_Mo_asksSend_290 (i_lt rfl) rfl ?_
    obtain ⟨v5, ev5, h⟩ := blet_e h
    refine z_iinc (lv' := [(8, vi v5), (6, vl v4), (0, .ref (G.1 + 111)), (3, vi a3), (4, vi a4)]) C 4 ev5 x_Mo_asksSend_292 rfl (i_lt rfl) rfl ?_
    refine z_goto (tgt := 273) C x_Mo_asksSend_295 rfl ?_
    exact z_sub [2, 3, 4, 1, 0] rfl (hR273 a3 a4 v4 v5 M3 h)
  · refine z_icmp_ge_t (tgt := 298) C x_Mo_asksSend_277 rfl c1 ?_
    refine z_lload C 3 x_Mo_asksSend_298 rfl ?_
    refine z_lconst0 C x_Mo_asksSend_300 ?_
    refine z_lcmp C x_Mo_asksSend_301 ?_
    rcases ite_e h with ⟨c6, h⟩ | ⟨c6, h⟩
    · refine z_if_ge_f (tgt := 310) C x_Mo_asksSend_302 rfl (cm_lt.mpr c6) ?_
      refine z_bipush C rfl x_Mo_asksSend_305 ?_
      refine z_goto (tgt := 311) C x_Mo_asksSend_307 rfl ?_
      exact z_iret C x_Mo_asksSend_311 h
    · refine z_if_ge_t (tgt := 310) C x_Mo_asksSend_302 rfl (fun q => c6 (cm_lt.mp q)) ?_
      refine z_iconst C x_Mo_asksSend_310 ?_
      exact z_iret C x_Mo_asksSend_311 h
theorem zl_Mo_asksSend_273 (C : Cx p s m args meth c G b_Mo_asksSend 9 "PrairiePoolModel" (some .int)) (hlev : 1 ≤ lev) {r : Int × Mem}  : ∀ (n : Nat) (a3 a4 a6 a8 : Int) (M : Mem), fix (fun _ _ _ _ _ => none) (k_Mo_asksSend_273) n a3 a4 a6 a8 M = some r → Z p l e lev s m args below meth c G 9 (MQ below (Qm G 1 r) args s 0 0 (Ab G)) M 273 [(0, .ref (G.1 + 111)), (3, vi a3), (4, vi a4), (6, vl a6), (8, vi a8)] [] := by
  intro n
  induction n with
  | zero => intro a3 a4 a6 a8 M h; exact nomatch (show (none : Res) = some r from h)
  | succ n ih => intro a3 a4 a6 a8 M h; exact z_Mo_asksSend_273 C hlev ih h
def k_Mo_asksSend_246 (R246 : Int → Int → Int → Int → Int → Int → Mem → Res) (a1 a2 a3 a4 a6 a8 : Int) (M : Mem) : Res := if w32 a8 < w32 a2 then (bcall (d_Mo_numberOf a1 a8 M) fun v2 M3 => blet (a6 + v2) fun v4 => blet (a8 + 1) fun v5 => R246 a1 a2 a3 a4 v4 v5 M3) else (fix (fun _ _ _ _ _ => none) (k_Mo_asksSend_273) FU a3 a4 a6 0 M)
theorem z_Mo_asksSend_246 (C : Cx p s m args meth c G b_Mo_asksSend 9 "PrairiePoolModel" (some .int)) (hlev : 1 ≤ lev) {r : Int × Mem} {R246 : Int → Int → Int → Int → Int → Int → Mem → Res} (hR246 : ∀ (a1 a2 a3 a4 a6 a8 : Int) (M : Mem), R246 a1 a2 a3 a4 a6 a8 M = some r → Z p l e lev s m args below meth c G 9 (MQ below (Qm G 1 r) args s 0 0 (Ab G)) M 246 [(0, .ref (G.1 + 111)), (1, vi a1), (2, vi a2), (3, vi a3), (4, vi a4), (6, vl a6), (8, vi a8)] []) {a1 a2 a3 a4 a6 a8 : Int} {M : Mem} (h : k_Mo_asksSend_246 R246 a1 a2 a3 a4 a6 a8 M = some r) : Z p l e lev s m args below meth c G 9 (MQ below (Qm G 1 r) args s 0 0 (Ab G)) M 246 [(0, .ref (G.1 + 111)), (1, vi a1), (2, vi a2), (3, vi a3), (4, vi a4), (6, vl a6), (8, vi a8)] [] := by
  unfold k_Mo_asksSend_246 at h
  refine z_iload C 6 x_Mo_asksSend_246 rfl ?_
  refine z_iload_n C 2 x_Mo_asksSend_248 rfl ?_
  rcases ite_e h with ⟨c1, h⟩ | ⟨c1, h⟩
  · refine z_icmp_ge_f (tgt := 270) C x_Mo_asksSend_249 rfl c1 ?_
    refine z_lload C 5 x_Mo_asksSend_252 rfl ?_
    refine z_aload_n C 0 x_Mo_asksSend_254 rfl ?_
    refine z_iload_n C 1 x_Mo_asksSend_255 rfl ?_
    refine z_iload C 6 x_Mo_asksSend_256 rfl ?_
    obtain ⟨v2, M3, fv2, h⟩ := bcall_e h
    refine z_callVl (k := 111) C x_Mo_asksSend_258 cv_Mo_658 (t_Mo_numberOf (lev := lev - 1) l G (by omega) fv2) nk_111 ck_111 rfl (by omega) rfl (i_le rfl) rfl ?_
    refine z_ladd C x_Mo_asksSend_261 ?_
    obtain ⟨v4, ev4, h⟩ := blet_e h
    refine z_lstore (lv' := [(6, vl v4), (0, .ref (G.1 + 111)), (1, vi a1), (2, vi a2), (3, vi a3), (4, vi a4), (8, vi a8)]) C ev4 x_Mo_asksSend_262 (i_lt rfl) rfl ?_
    obtain ⟨v5, ev5, h⟩ := blet_e h
    refine z_iinc (lv' := [(8, vi v5), (6, vl v4), (0, .ref (G.1 + 111)), (1, vi a1), (2, vi a2), (3, vi a3), (4, vi a4)]) C 6 ev5 x_Mo_asksSend_264 rfl (i_lt rfl) rfl ?_
    refine z_goto (tgt := 246) C x_Mo_asksSend_267 rfl ?_
    exact z_sub [2, 3, 4, 5, 6, 1, 0] rfl (hR246 a1 a2 a3 a4 v4 v5 M3 h)
  · refine z_icmp_ge_t (tgt := 270) C x_Mo_asksSend_249 rfl c1 ?_
    refine z_iconst C x_Mo_asksSend_270 ?_
    refine z_istore (lv' := [(8, vi 0), (0, .ref (G.1 + 111)), (1, vi a1), (2, vi a2), (3, vi a3), (4, vi a4), (6, vl a6)]) C rfl x_Mo_asksSend_271 (i_lt rfl) rfl ?_
    exact z_sub [1, 4, 5, 6, 0] rfl (zl_Mo_asksSend_273 C hlev FU a3 a4 a6 0 M h)
theorem zl_Mo_asksSend_246 (C : Cx p s m args meth c G b_Mo_asksSend 9 "PrairiePoolModel" (some .int)) (hlev : 1 ≤ lev) {r : Int × Mem}  : ∀ (n : Nat) (a1 a2 a3 a4 a6 a8 : Int) (M : Mem), fix (fun _ _ _ _ _ _ _ => none) (k_Mo_asksSend_246) n a1 a2 a3 a4 a6 a8 M = some r → Z p l e lev s m args below meth c G 9 (MQ below (Qm G 1 r) args s 0 0 (Ab G)) M 246 [(0, .ref (G.1 + 111)), (1, vi a1), (2, vi a2), (3, vi a3), (4, vi a4), (6, vl a6), (8, vi a8)] [] := by
  intro n
  induction n with
  | zero => intro a1 a2 a3 a4 a6 a8 M h; exact nomatch (show (none : Res) = some r from h)
  | succ n ih => intro a1 a2 a3 a4 a6 a8 M h; exact z_Mo_asksSend_246 C hlev ih h
def k_Mo_asksSend_205 (R205 : Int → Int → Int → Int → Int → Int → Mem → Res) (a1 a2 a3 a4 a5 a6 : Int) (M : Mem) : Res := if w32 a6 < w32 (a2 * a4) then (bcall (d_Mo_numberOf a5 a6 M) fun v2 M3 => bcall (d_Mo_isIn v2 0 100 M3) fun v4 M5 => if w32 v4 = 0 then (some (5, M5)) else (blet (a6 + 1) fun v7 => R205 a1 a2 a3 a4 a5 v7 M5)) else (fix (fun _ _ _ _ _ _ _ => none) (k_Mo_asksSend_246) FU a1 a2 a3 a4 0 0 M)
theorem z_Mo_asksSend_205 (C : Cx p s m args meth c G b_Mo_asksSend 9 "PrairiePoolModel" (some .int)) (hlev : 1 ≤ lev) {r : Int × Mem} {R205 : Int → Int → Int → Int → Int → Int → Mem → Res} (hR205 : ∀ (a1 a2 a3 a4 a5 a6 : Int) (M : Mem), R205 a1 a2 a3 a4 a5 a6 M = some r → Z p l e lev s m args below meth c G 9 (MQ below (Qm G 1 r) args s 0 0 (Ab G)) M 205 [(0, .ref (G.1 + 111)), (1, vi a1), (2, vi a2), (3, vi a3), (4, vi a4), (5, vi a5), (6, vi a6)] []) {a1 a2 a3 a4 a5 a6 : Int} {M : Mem} (h : k_Mo_asksSend_205 R205 a1 a2 a3 a4 a5 a6 M = some r) : Z p l e lev s m args below meth c G 9 (MQ below (Qm G 1 r) args s 0 0 (Ab G)) M 205 [(0, .ref (G.1 + 111)), (1, vi a1), (2, vi a2), (3, vi a3), (4, vi a4), (5, vi a5), (6, vi a6)] [] := by
  unfold k_Mo_asksSend_205 at h
  refine z_iload C 6 x_Mo_asksSend_205 rfl ?_
  refine z_iload_n C 2 x_Mo_asksSend_207 rfl ?_
  refine z_iload C 4 x_Mo_asksSend_208 rfl ?_
  refine z_imul C x_Mo_asksSend_210 ?_
  rcases ite_e h with ⟨c1, h⟩ | ⟨c1, h⟩
  · refine z_icmp_ge_f (tgt := 240) C x_Mo_asksSend_211 rfl c1 ?_
    refine z_aload_n C 0 x_Mo_asksSend_214 rfl ?_
    refine z_iload C 5 x_Mo_asksSend_215 rfl ?_
    refine z_iload C 6 x_Mo_asksSend_217 rfl ?_
    obtain ⟨v2, M3, fv2, h⟩ := bcall_e h
    refine z_callVl (k := 111) C x_Mo_asksSend_219 cv_Mo_658 (t_Mo_numberOf (lev := lev - 1) l G (by omega) fv2) nk_111 ck_111 rfl (by omega) rfl (i_le rfl) rfl ?_
    refine z_lconst0 C x_Mo_asksSend_222 ?_
    refine z_ldc2 C kl_Mo_636 x_Mo_asksSend_223 ?_
    obtain ⟨v4, M5, fv4, h⟩ := bcall_e h
    refine z_callSi C x_Mo_asksSend_226 cs_Mo_265 (t_Mo_isIn (lev := lev - 1) l G (by omega) fv4) (by omega) rfl (i_le rfl) rfl ?_
    rcases ite_e h with ⟨c6, h⟩ | ⟨c6, h⟩
    · refine z_if_ne_f (tgt := 234) C x_Mo_asksSend_229 rfl c6 ?_
      refine z_iconst C x_Mo_asksSend_232 ?_
      exact z_iret C x_Mo_asksSend_233 h
    · refine z_if_ne_t (tgt := 234) C x_Mo_asksSend_229 rfl c6 ?_
      obtain ⟨v7, ev7, h⟩ := blet_e h
      refine z_iinc (lv' := [(6, vi v7), (0, .ref (G.1 + 111)), (1, vi a1), (2, vi a2), (3, vi a3), (4, vi a4), (5, vi a5)]) C 6 ev7 x_Mo_asksSend_234 rfl (i_lt rfl) rfl ?_
      refine z_goto (tgt := 205) C x_Mo_asksSend_237 rfl ?_
      exact z_sub [1, 2, 3, 4, 5, 6, 0] rfl (hR205 a1 a2 a3 a4 a5 v7 M5 h)
  · refine z_icmp_ge_t (tgt := 240) C x_Mo_asksSend_211 rfl c1 ?_
    refine z_lconst0 C x_Mo_asksSend_240 ?_
    refine z_lstore (lv' := [(6, vl 0), (0, .ref (G.1 + 111)), (1, vi a1), (2, vi a2), (3, vi a3), (4, vi a4), (5, vi a5)]) C rfl x_Mo_asksSend_241 (i_lt rfl) rfl ?_
    refine z_iconst C x_Mo_asksSend_243 ?_
    refine z_istore (lv' := [(8, vi 0), (6, vl 0), (0, .ref (G.1 + 111)), (1, vi a1), (2, vi a2), (3, vi a3), (4, vi a4), (5, vi a5)]) C rfl x_Mo_asksSend_244 (i_lt rfl) rfl ?_
    exact z_sub [2, 3, 4, 5, 6, 1, 0] rfl (zl_Mo_asksSend_246 C hlev FU a1 a2 a3 a4 0 0 M h)
theorem zl_Mo_asksSend_205 (C : Cx p s m args meth c G b_Mo_asksSend 9 "PrairiePoolModel" (some .int)) (hlev : 1 ≤ lev) {r : Int × Mem}  : ∀ (n : Nat) (a1 a2 a3 a4 a5 a6 : Int) (M : Mem), fix (fun _ _ _ _ _ _ _ => none) (k_Mo_asksSend_205) n a1 a2 a3 a4 a5 a6 M = some r → Z p l e lev s m args below meth c G 9 (MQ below (Qm G 1 r) args s 0 0 (Ab G)) M 205 [(0, .ref (G.1 + 111)), (1, vi a1), (2, vi a2), (3, vi a3), (4, vi a4), (5, vi a5), (6, vi a6)] [] := by
  intro n
  induction n with
  | zero => intro a1 a2 a3 a4 a5 a6 M h; exact nomatch (show (none : Res) = some r from h)
  | succ n ih => intro a1 a2 a3 a4 a5 a6 M h; exact z_Mo_asksSend_205 C hlev ih h
def k_Mo_asksSend_170 (R170 : Int → Int → Int → Int → Int → Int → Mem → Res) (a1 a2 a3 a4 a5 a6 : Int) (M : Mem) : Res := if w32 a6 < w32 a4 then (bcall (d_Mo_numberOf a3 a6 M) fun v2 M3 => bcall (d_Mo_isIn v2 0 30 M3) fun v4 M5 => if w32 v4 = 0 then (some (5, M5)) else (blet (a6 + 1) fun v7 => R170 a1 a2 a3 a4 a5 v7 M5)) else (fix (fun _ _ _ _ _ _ _ => none) (k_Mo_asksSend_205) FU a1 a2 a3 a4 a5 0 M)
theorem z_Mo_asksSend_170 (C : Cx p s m args meth c G b_Mo_asksSend 9 "PrairiePoolModel" (some .int)) (hlev : 1 ≤ lev) {r : Int × Mem} {R170 : Int → Int → Int → Int → Int → Int → Mem → Res} (hR170 : ∀ (a1 a2 a3 a4 a5 a6 : Int) (M : Mem), R170 a1 a2 a3 a4 a5 a6 M = some r → Z p l e lev s m args below meth c G 9 (MQ below (Qm G 1 r) args s 0 0 (Ab G)) M 170 [(0, .ref (G.1 + 111)), (1, vi a1), (2, vi a2), (3, vi a3), (4, vi a4), (5, vi a5), (6, vi a6)] []) {a1 a2 a3 a4 a5 a6 : Int} {M : Mem} (h : k_Mo_asksSend_170 R170 a1 a2 a3 a4 a5 a6 M = some r) : Z p l e lev s m args below meth c G 9 (MQ below (Qm G 1 r) args s 0 0 (Ab G)) M 170 [(0, .ref (G.1 + 111)), (1, vi a1), (2, vi a2), (3, vi a3), (4, vi a4), (5, vi a5), (6, vi a6)] [] := by
  unfold k_Mo_asksSend_170 at h
  refine z_iload C 6 x_Mo_asksSend_170 rfl ?_
  refine z_iload C 4 x_Mo_asksSend_172 rfl ?_
  rcases ite_e h with ⟨c1, h⟩ | ⟨c1, h⟩
  · refine z_icmp_ge_f (tgt := 202) C x_Mo_asksSend_174 rfl c1 ?_
    refine z_aload_n C 0 x_Mo_asksSend_177 rfl ?_
    refine z_iload_n C 3 x_Mo_asksSend_178 rfl ?_
    refine z_iload C 6 x_Mo_asksSend_179 rfl ?_
    obtain ⟨v2, M3, fv2, h⟩ := bcall_e h
    refine z_callVl (k := 111) C x_Mo_asksSend_181 cv_Mo_658 (t_Mo_numberOf (lev := lev - 1) l G (by omega) fv2) nk_111 ck_111 rfl (by omega) rfl (i_le rfl) rfl ?_
    refine z_lconst0 C x_Mo_asksSend_184 ?_
    refine z_ldc2 C kl_Mo_671 x_Mo_asksSend_185 ?_
    obtain ⟨v4, M5, fv4, h⟩ := bcall_e h
    refine z_callSi C x_Mo_asksSend_188 cs_Mo_265 (t_Mo_isIn (lev := lev - 1) l G (by omega) fv4) (by omega) rfl (i_le rfl) rfl ?_
    rcases ite_e h with ⟨c6, h⟩ | ⟨c6, h⟩
    · refine z_if_ne_f (tgt := 196) C x_Mo_asksSend_191 rfl c6 ?_
      refine z_iconst C x_Mo_asksSend_194 ?_
      exact z_iret C x_Mo_asksSend_195 h
    · refine z_if_ne_t (tgt := 196) C x_Mo_asksSend_191 rfl c6 ?_
      obtain ⟨v7, ev7, h⟩ := blet_e h
      refine z_iinc (lv' := [(6, vi v7), (0, .ref (G.1 + 111)), (1, vi a1), (2, vi a2), (3, vi a3), (4, vi a4), (5, vi a5)]) C 6 ev7 x_Mo_asksSend_196 rfl (i_lt rfl) rfl ?_
      refine z_goto (tgt := 170) C x_Mo_asksSend_199 rfl ?_
      exact z_sub [1, 2, 3, 4, 5, 6, 0] rfl (hR170 a1 a2 a3 a4 a5 v7 M5 h)
  · refine z_icmp_ge_t (tgt := 202) C x_Mo_asksSend_174 rfl c1 ?_
    refine z_iconst C x_Mo_asksSend_202 ?_
    refine z_istore (lv' := [(6, vi 0), (0, .ref (G.1 + 111)), (1, vi a1), (2, vi a2), (3, vi a3), (4, vi a4), (5, vi a5)]) C rfl x_Mo_asksSend_203 (i_lt rfl) rfl ?_
    exact z_sub [1, 2, 3, 4, 5, 6, 0] rfl (zl_Mo_asksSend_205 C hlev FU a1 a2 a3 a4 a5 0 M h)
theorem zl_Mo_asksSend_170 (C : Cx p s m args meth c G b_Mo_asksSend 9 "PrairiePoolModel" (some .int)) (hlev : 1 ≤ lev) {r : Int × Mem}  : ∀ (n : Nat) (a1 a2 a3 a4 a5 a6 : Int) (M : Mem), fix (fun _ _ _ _ _ _ _ => none) (k_Mo_asksSend_170) n a1 a2 a3 a4 a5 a6 M = some r → Z p l e lev s m args below meth c G 9 (MQ below (Qm G 1 r) args s 0 0 (Ab G)) M 170 [(0, .ref (G.1 + 111)), (1, vi a1), (2, vi a2), (3, vi a3), (4, vi a4), (5, vi a5), (6, vi a6)] [] := by
  intro n
  induction n with
  | zero => intro a1 a2 a3 a4 a5 a6 M h; exact nomatch (show (none : Res) = some r from h)
  | succ n ih => intro a1 a2 a3 a4 a5 a6 M h; exact z_Mo_asksSend_170 C hlev ih h
def k_Mo_asksSend_136 (R136 : Int → Int → Int → Int → Int → Int → Mem → Res) (a1 a2 a3 a4 a5 a6 : Int) (M : Mem) : Res := if w32 a6 < w32 a2 then (bcall (d_Mo_numberOf a1 a6 M) fun v2 M3 => bcall (d_Mo_isIn v2 0 30 M3) fun v4 M5 => if w32 v4 = 0 then (some (5, M5)) else (blet (a6 + 1) fun v7 => R136 a1 a2 a3 a4 a5 v7 M5)) else (fix (fun _ _ _ _ _ _ _ => none) (k_Mo_asksSend_170) FU a1 a2 a3 a4 a5 0 M)
theorem z_Mo_asksSend_136 (C : Cx p s m args meth c G b_Mo_asksSend 9 "PrairiePoolModel" (some .int)) (hlev : 1 ≤ lev) {r : Int × Mem} {R136 : Int → Int → Int → Int → Int → Int → Mem → Res} (hR136 : ∀ (a1 a2 a3 a4 a5 a6 : Int) (M : Mem), R136 a1 a2 a3 a4 a5 a6 M = some r → Z p l e lev s m args below meth c G 9 (MQ below (Qm G 1 r) args s 0 0 (Ab G)) M 136 [(0, .ref (G.1 + 111)), (1, vi a1), (2, vi a2), (3, vi a3), (4, vi a4), (5, vi a5), (6, vi a6)] []) {a1 a2 a3 a4 a5 a6 : Int} {M : Mem} (h : k_Mo_asksSend_136 R136 a1 a2 a3 a4 a5 a6 M = some r) : Z p l e lev s m args below meth c G 9 (MQ below (Qm G 1 r) args s 0 0 (Ab G)) M 136 [(0, .ref (G.1 + 111)), (1, vi a1), (2, vi a2), (3, vi a3), (4, vi a4), (5, vi a5), (6, vi a6)] [] := by
  unfold k_Mo_asksSend_136 at h
  refine z_iload C 6 x_Mo_asksSend_136 rfl ?_
  refine z_iload_n C 2 x_Mo_asksSend_138 rfl ?_
  rcases ite_e h with ⟨c1, h⟩ | ⟨c1, h⟩
  · refine z_icmp_ge_f (tgt := 167) C x_Mo_asksSend_139 rfl c1 ?_
    refine z_aload_n C 0 x_Mo_asksSend_142 rfl ?_
    refine z_iload_n C 1 x_Mo_asksSend_143 rfl ?_
    refine z_iload C 6 x_Mo_asksSend_144 rfl ?_
    obtain ⟨v2, M3, fv2, h⟩ := bcall_e h
    refine z_callVl (k := 111) C x_Mo_asksSend_146 cv_Mo_658 (t_Mo_numberOf (lev := lev - 1) l G (by omega) fv2) nk_111 ck_111 rfl (by omega) rfl (i_le rfl) rfl ?_
    refine z_lconst0 C x_Mo_asksSend_149 ?_
    refine z_ldc2 C kl_Mo_671 x_Mo_asksSend_150 ?_
    obtain ⟨v4, M5, fv4, h⟩ := bcall_e h
    refine z_callSi C x_Mo_asksSend_153 cs_Mo_265 (t_Mo_isIn (lev := lev - 1) l G (by omega) fv4) (by omega) rfl (i_le rfl) rfl ?_
    rcases ite_e h with ⟨c6, h⟩ | ⟨c6, h⟩
    · refine z_if_ne_f (tgt := 161) C x_Mo_asksSend_156 rfl c6 ?_
      refine z_iconst C x_Mo_asksSend_159 ?_
      exact z_iret C x_Mo_asksSend_160 h
    · refine z_if_ne_t (tgt := 161) C x_Mo_asksSend_156 rfl c6 ?_
      obtain ⟨v7, ev7, h⟩ := blet_e h
      refine z_iinc (lv' := [(6, vi v7), (0, .ref (G.1 + 111)), (1, vi a1), (2, vi a2), (3, vi a3), (4, vi a4), (5, vi a5)]) C 6 ev7 x_Mo_asksSend_161 rfl (i_lt rfl) rfl ?_
      refine z_goto (tgt := 136) C x_Mo_asksSend_164 rfl ?_
      exact z_sub [1, 2, 3, 4, 5, 6, 0] rfl (hR136 a1 a2 a3 a4 a5 v7 M5 h)
  · refine z_icmp_ge_t (tgt := 167) C x_Mo_asksSend_139 rfl c1 ?_
    refine z_iconst C x_Mo_asksSend_167 ?_
    refine z_istore (lv' := [(6, vi 0), (0, .ref (G.1 + 111)), (1, vi a1), (2, vi a2), (3, vi a3), (4, vi a4), (5, vi a5)]) C rfl x_Mo_asksSend_168 (i_lt rfl) rfl ?_
    exact z_sub [1, 2, 3, 4, 5, 6, 0] rfl (zl_Mo_asksSend_170 C hlev FU a1 a2 a3 a4 a5 0 M h)
theorem zl_Mo_asksSend_136 (C : Cx p s m args meth c G b_Mo_asksSend 9 "PrairiePoolModel" (some .int)) (hlev : 1 ≤ lev) {r : Int × Mem}  : ∀ (n : Nat) (a1 a2 a3 a4 a5 a6 : Int) (M : Mem), fix (fun _ _ _ _ _ _ _ => none) (k_Mo_asksSend_136) n a1 a2 a3 a4 a5 a6 M = some r → Z p l e lev s m args below meth c G 9 (MQ below (Qm G 1 r) args s 0 0 (Ab G)) M 136 [(0, .ref (G.1 + 111)), (1, vi a1), (2, vi a2), (3, vi a3), (4, vi a4), (5, vi a5), (6, vi a6)] [] := by
  intro n
  induction n with
  | zero => intro a1 a2 a3 a4 a5 a6 M h; exact nomatch (show (none : Res) = some r from h)
  | succ n ih => intro a1 a2 a3 a4 a5 a6 M h; exact z_Mo_asksSend_136 C hlev ih h
def d_Mo_asksSend (a1 a2 a3 a4 a5 : Int) (M : Mem) : Res := bcall (d_Mo_isIn (w32 a1) 0 3 M) fun v1 M2 => if w32 v1 = 0 then (some (1, M2)) else (bcall (d_Mo_isIn (w32 a3) 0 3 M2) fun v4 M5 => if w32 v4 = 0 then (some (1, M5)) else (bcall (d_Mo_isIn (w32 a5) 0 3 M5) fun v7 M8 => if w32 v7 = 0 then (some (1, M8)) else (chk (0 ≤ w32 a1 ∧ w32 a1 < 4) <| blet (M8 113 (ix a1)) fun v11 => if w32 v11 < 0 then (some (3, M8)) else (chk (0 ≤ w32 a3 ∧ w32 a3 < 4) <| blet (M8 113 (ix a3)) fun v14 => if w32 v14 < 0 then (some (3, M8)) else (chk (0 ≤ w32 a5 ∧ w32 a5 < 4) <| blet (M8 113 (ix a5)) fun v17 => if w32 v17 < 0 then (some (3, M8)) else (bcall (d_Mo_isIn (w32 a2) 1 5 M8) fun v19 M20 => if w32 v19 = 0 then (some (5, M20)) else (bcall (d_Mo_isIn (w32 a4) 1 4 M20) fun v22 M23 => if w32 v22 = 0 then (some (5, M23)) else (chk (0 ≤ w32 a1 ∧ w32 a1 < 4) <| blet (M23 113 (ix a1)) fun v26 => if w32 v26 < w32 a2 then (some (4, M23)) else (chk (0 ≤ w32 a3 ∧ w32 a3 < 4) <| blet (M23 113 (ix a3)) fun v29 => if w32 v29 < w32 a4 then (some (4, M23)) else (chk (0 ≤ w32 a5 ∧ w32 a5 < 4) <| blet (M23 113 (ix a5)) fun v32 => if w32 v32 < w32 (a2 * a4) then (some (4, M23)) else (fix (fun _ _ _ _ _ _ _ => none) (k_Mo_asksSend_136) FU a1 a2 a3 a4 a5 0 M23)))))))))))
theorem t_Mo_asksSend (l : Launch) (G : GX) {lev : Nat} (hlev : 1 ≤ lev) {a1 a2 a3 a4 a5 : Int} {M : Mem} {r : Int × Mem} (h : d_Mo_asksSend a1 a2 a3 a4 a5 M = some r) : Mt l G y_Mo_asksSend b_Mo_asksSend 9 (some .int) lev 1 [.ref (G.1 + 111), vi a1, vi a2, vi a3, vi a4, vi a5] M r := by
  refine Mt.of (by decide) (i_le rfl) ?_
  intro p e s m args below meth c C
  have C : Cx p s m args meth c G b_Mo_asksSend 9 "PrairiePoolModel" (some .int) := C
  unfold d_Mo_asksSend at h
  refine z_sub (lv' := [(0, .ref (G.1 + 111)), (1, vi a1), (2, vi a2), (3, vi a3), (4, vi a4), (5, vi a5)]) [0, 1, 2, 3, 4, 5] rfl ?_
  refine z_iload_n C 1 x_Mo_asksSend_0 rfl ?_
  refine z_i2l C x_Mo_asksSend_1 ?_
  refine z_lconst0 C x_Mo_asksSend_2 ?_
  refine z_ldc2 C kl_Mo_408 x_Mo_asksSend_3 ?_
  obtain ⟨v1, M2, fv1, h⟩ := bcall_e h
  refine z_callSi C x_Mo_asksSend_6 cs_Mo_265 (t_Mo_isIn (lev := lev - 1) l G (by omega) fv1) (by omega) rfl (i_le rfl) rfl ?_
  rcases ite_e h with ⟨c3, h⟩ | ⟨c3, h⟩
  · refine z_if_eq_t (tgt := 37) C x_Mo_asksSend_9 rfl c3 ?_
    refine z_iconst C x_Mo_asksSend_37 ?_
    exact z_iret C x_Mo_asksSend_38 h
  · refine z_if_eq_f (tgt := 37) C x_Mo_asksSend_9 rfl c3 ?_
    refine z_iload_n C 3 x_Mo_asksSend_12 rfl ?_
    refine z_i2l C x_Mo_asksSend_13 ?_
    refine z_lconst0 C x_Mo_asksSend_14 ?_
    refine z_ldc2 C kl_Mo_408 x_Mo_asksSend_15 ?_
    obtain ⟨v4, M5, fv4, h⟩ := bcall_e h
    refine z_callSi C x_Mo_asksSend_18 cs_Mo_265 (t_Mo_isIn (lev := lev - 1) l G (by omega) fv4) (by omega) rfl (i_le rfl) rfl ?_
    rcases ite_e h with ⟨c6, h⟩ | ⟨c6, h⟩
    · refine z_if_eq_t (tgt := 37) C x_Mo_asksSend_21 rfl c6 ?_
      refine z_iconst C x_Mo_asksSend_37 ?_
      exact z_iret C x_Mo_asksSend_38 h
    · refine z_if_eq_f (tgt := 37) C x_Mo_asksSend_21 rfl c6 ?_
      refine z_iload C 5 x_Mo_asksSend_24 rfl ?_
      refine z_i2l C x_Mo_asksSend_26 ?_
      refine z_lconst0 C x_Mo_asksSend_27 ?_
      refine z_ldc2 C kl_Mo_408 x_Mo_asksSend_28 ?_
      obtain ⟨v7, M8, fv7, h⟩ := bcall_e h
      refine z_callSi C x_Mo_asksSend_31 cs_Mo_265 (t_Mo_isIn (lev := lev - 1) l G (by omega) fv7) (by omega) rfl (i_le rfl) rfl ?_
      rcases ite_e h with ⟨c9, h⟩ | ⟨c9, h⟩
      · refine z_if_ne_f (tgt := 39) C x_Mo_asksSend_34 rfl c9 ?_
        refine z_iconst C x_Mo_asksSend_37 ?_
        exact z_iret C x_Mo_asksSend_38 h
      · refine z_if_ne_t (tgt := 39) C x_Mo_asksSend_34 rfl c9 ?_
        refine z_aload_n C 0 x_Mo_asksSend_39 rfl ?_
        refine z_getR (j := 3) C x_Mo_asksSend_40 nk_111 ck_111 cw_12 (i_lt rfl) rfl rf_111_3 rfl fl_Mo_13 ?_
        refine z_iload_n C 1 x_Mo_asksSend_43 rfl ?_
        obtain ⟨c10, h⟩ := chk_e h
        obtain ⟨v11, ev11, h⟩ := blet_e h
        refine z_iald C x_Mo_asksSend_44 nk_113 ck_113 c10 ev11 ?_
        rcases ite_e h with ⟨c12, h⟩ | ⟨c12, h⟩
        · refine z_if_lt_t (tgt := 67) C x_Mo_asksSend_45 rfl c12 ?_
          refine z_iconst C x_Mo_asksSend_67 ?_
          exact z_iret C x_Mo_asksSend_68 h
        · refine z_if_lt_f (tgt := 67) C x_Mo_asksSend_45 rfl c12 ?_
          refine z_aload_n C 0 x_Mo_asksSend_48 rfl ?_
          refine z_getR (j := 3) C x_Mo_asksSend_49 nk_111 ck_111 cw_12 (i_lt rfl) rfl rf_111_3 rfl fl_Mo_13 ?_
          refine z_iload_n C 3 x_Mo_asksSend_52 rfl ?_
          obtain ⟨c13, h⟩ := chk_e h
          obtain ⟨v14, ev14, h⟩ := blet_e h
          refine z_iald C x_Mo_asksSend_53 nk_113 ck_113 c13 ev14 ?_
          rcases ite_e h with ⟨c15, h⟩ | ⟨c15, h⟩
          · refine z_if_lt_t (tgt := 67) C x_Mo_asksSend_54 rfl c15 ?_
            refine z_iconst C x_Mo_asksSend_67 ?_
            exact z_iret C x_Mo_asksSend_68 h
          · refine z_if_lt_f (tgt := 67) C x_Mo_asksSend_54 rfl c15 ?_
            refine z_aload_n C 0 x_Mo_asksSend_57 rfl ?_
            refine z_getR (j := 3) C x_Mo_asksSend_58 nk_111 ck_111 cw_12 (i_lt rfl) rfl rf_111_3 rfl fl_Mo_13 ?_
            refine z_iload C 5 x_Mo_asksSend_61 rfl ?_
            obtain ⟨c16, h⟩ := chk_e h
            obtain ⟨v17, ev17, h⟩ := blet_e h
            refine z_iald C x_Mo_asksSend_63 nk_113 ck_113 c16 ev17 ?_
            rcases ite_e h with ⟨c18, h⟩ | ⟨c18, h⟩
            · refine z_if_ge_f (tgt := 69) C x_Mo_asksSend_64 rfl c18 ?_
              refine z_iconst C x_Mo_asksSend_67 ?_
              exact z_iret C x_Mo_asksSend_68 h
            · refine z_if_ge_t (tgt := 69) C x_Mo_asksSend_64 rfl c18 ?_
              refine z_iload_n C 2 x_Mo_asksSend_69 rfl ?_
              refine z_i2l C x_Mo_asksSend_70 ?_
              refine z_lconst1 C x_Mo_asksSend_71 ?_
              refine z_ldc2 C kl_Mo_271 x_Mo_asksSend_72 ?_
              obtain ⟨v19, M20, fv19, h⟩ := bcall_e h
              refine z_callSi C x_Mo_asksSend_75 cs_Mo_265 (t_Mo_isIn (lev := lev - 1) l G (by omega) fv19) (by omega) rfl (i_le rfl) rfl ?_
              rcases ite_e h with ⟨c21, h⟩ | ⟨c21, h⟩
              · refine z_if_eq_t (tgt := 94) C x_Mo_asksSend_78 rfl c21 ?_
                refine z_iconst C x_Mo_asksSend_94 ?_
                exact z_iret C x_Mo_asksSend_95 h
              · refine z_if_eq_f (tgt := 94) C x_Mo_asksSend_78 rfl c21 ?_
                refine z_iload C 4 x_Mo_asksSend_81 rfl ?_
                refine z_i2l C x_Mo_asksSend_83 ?_
                refine z_lconst1 C x_Mo_asksSend_84 ?_
                refine z_ldc2 C kl_Mo_406 x_Mo_asksSend_85 ?_
                obtain ⟨v22, M23, fv22, h⟩ := bcall_e h
                refine z_callSi C x_Mo_asksSend_88 cs_Mo_265 (t_Mo_isIn (lev := lev - 1) l G (by omega) fv22) (by omega) rfl (i_le rfl) rfl ?_
                rcases ite_e h with ⟨c24, h⟩ | ⟨c24, h⟩
                · refine z_if_ne_f (tgt := 96) C x_Mo_asksSend_91 rfl c24 ?_
                  refine z_iconst C x_Mo_asksSend_94 ?_
                  exact z_iret C x_Mo_asksSend_95 h
                · refine z_if_ne_t (tgt := 96) C x_Mo_asksSend_91 rfl c24 ?_
                  refine z_aload_n C 0 x_Mo_asksSend_96 rfl ?_
                  refine z_getR (j := 3) C x_Mo_asksSend_97 nk_111 ck_111 cw_12 (i_lt rfl) rfl rf_111_3 rfl fl_Mo_13 ?_
                  refine z_iload_n C 1 x_Mo_asksSend_100 rfl ?_
                  obtain ⟨c25, h⟩ := chk_e h
                  obtain ⟨v26, ev26, h⟩ := blet_e h
                  refine z_iald C x_Mo_asksSend_101 nk_113 ck_113 c25 ev26 ?_
                  refine z_iload_n C 2 x_Mo_asksSend_102 rfl ?_
                  rcases ite_e h with ⟨c27, h⟩ | ⟨c27, h⟩
                  · refine z_icmp_lt_t (tgt := 131) C x_Mo_asksSend_103 rfl c27 ?_
                    refine z_iconst C x_Mo_asksSend_131 ?_
                    exact z_iret C x_Mo_asksSend_132 h
                  · refine z_icmp_lt_f (tgt := 131) C x_Mo_asksSend_103 rfl c27 ?_
                    refine z_aload_n C 0 x_Mo_asksSend_106 rfl ?_
                    refine z_getR (j := 3) C x_Mo_asksSend_107 nk_111 ck_111 cw_12 (i_lt rfl) rfl rf_111_3 rfl fl_Mo_13 ?_
                    refine z_iload_n C 3 x_Mo_asksSend_110 rfl ?_
                    obtain ⟨c28, h⟩ := chk_e h
                    obtain ⟨v29, ev29, h⟩ := blet_e h
                    refine z_iald C x_Mo_asksSend_111 nk_113 ck_113 c28 ev29 ?_
                    refine z_iload C 4 x_Mo_asksSend_112 rfl ?_
                    rcases ite_e h with ⟨c30, h⟩ | ⟨c30, h⟩
                    · refine z_icmp_lt_t (tgt := 131) C x_Mo_asksSend_114 rfl c30 ?_
                      refine z_iconst C x_Mo_asksSend_131 ?_
                      exact z_iret C x_Mo_asksSend_132 h
                    · refine z_icmp_lt_f (tgt := 131) C x_Mo_asksSend_114 rfl c30 ?_
                      refine z_aload_n C 0 x_Mo_asksSend_117 rfl ?_
                      refine z_getR (j := 3) C x_Mo_asksSend_118 nk_111 ck_111 cw_12 (i_lt rfl) rfl rf_111_3 rfl fl_Mo_13 ?_
                      refine z_iload C 5 x_Mo_asksSend_121 rfl ?_
                      obtain ⟨c31, h⟩ := chk_e h
                      obtain ⟨v32, ev32, h⟩ := blet_e h
                      refine z_iald C x_Mo_asksSend_123 nk_113 ck_113 c31 ev32 ?_
                      refine z_iload_n C 2 x_Mo_asksSend_124 rfl ?_
                      refine z_iload C 4 x_Mo_asksSend_125 rfl ?_
                      refine z_imul C x_Mo_asksSend_127 ?_
                      rcases ite_e h with ⟨c33, h⟩ | ⟨c33, h⟩
                      · refine z_icmp_ge_f (tgt := 133) C x_Mo_asksSend_128 rfl c33 ?_
                        refine z_iconst C x_Mo_asksSend_131 ?_
                        exact z_iret C x_Mo_asksSend_132 h
                      · refine z_icmp_ge_t (tgt := 133) C x_Mo_asksSend_128 rfl c33 ?_
                        refine z_iconst C x_Mo_asksSend_133 ?_
                        refine z_istore (lv' := [(6, vi 0), (0, .ref (G.1 + 111)), (1, vi a1), (2, vi a2), (3, vi a3), (4, vi a4), (5, vi a5)]) C rfl x_Mo_asksSend_134 (i_lt rfl) rfl ?_
                        exact z_sub [1, 2, 3, 4, 5, 6, 0] rfl (zl_Mo_asksSend_136 C hlev FU a1 a2 a3 a4 a5 0 M23 h)
theorem x_Mo_bushel_0 : DC b_Mo_bushel 0 (.iload_n 1) 1 1 := ⟨by decide +kernel, rfl⟩
theorem x_Mo_bushel_1 : DC b_Mo_bushel 1 (.iload_n 2) 1 2 := ⟨by decide +kernel, rfl⟩
theorem x_Mo_bushel_2 : DC b_Mo_bushel 2 (.iadd) 1 3 := ⟨by decide +kernel, rfl⟩
theorem x_Mo_bushel_3 : DC b_Mo_bushel 3 (.istore_n 3) 1 4 := ⟨by decide +kernel, rfl⟩
theorem x_Mo_bushel_4 : DC b_Mo_bushel 4 (.iconst 0) 1 5 := ⟨by decide +kernel, rfl⟩
theorem x_Mo_bushel_5 : DC b_Mo_bushel 5 (.istore 4) 2 7 := ⟨by decide +kernel, rfl⟩
theorem x_Mo_bushel_7 : DC b_Mo_bushel 7 (.iload 4) 2 9 := ⟨by decide +kernel, rfl⟩
theorem x_Mo_bushel_9 : DC b_Mo_bushel 9 (.iload_n 3) 1 10 := ⟨by decide +kernel, rfl⟩
theorem x_Mo_bushel_10 : DC b_Mo_bushel 10 (.if_icmp .ge 47) 3 13 := ⟨by decide +kernel, rfl⟩
theorem x_Mo_bushel_13 : DC b_Mo_bushel 13 (.aload_n 0) 1 14 := ⟨by decide +kernel, rfl⟩
theorem x_Mo_bushel_14 : DC b_Mo_bushel 14 (.getfield 248) 3 17 := ⟨by decide +kernel, rfl⟩
theorem x_Mo_bushel_17 : DC b_Mo_bushel 17 (.iload 4) 2 19 := ⟨by decide +kernel, rfl⟩
theorem x_Mo_bushel_19 : DC b_Mo_bushel 19 (.iload 4) 2 21 := ⟨by decide +kernel, rfl⟩
theorem x_Mo_bushel_21 : DC b_Mo_bushel 21 (.iload_n 1) 1 22 := ⟨by decide +kernel, rfl⟩
theorem x_Mo_bushel_22 : DC b_Mo_bushel 22 (.if_icmp .ge 17) 3 25 := ⟨by decide +kernel, rfl⟩
theorem x_Mo_bushel_25 : DC b_Mo_bushel 25 (.aload_n 0) 1 26 := ⟨by decide +kernel, rfl⟩
theorem x_Mo_bushel_26 : DC b_Mo_bushel 26 (.getfield 236) 3 29 := ⟨by decide +kernel, rfl⟩
theorem x_Mo_bushel_29 : DC b_Mo_bushel 29 (.iload 4) 2 31 := ⟨by decide +kernel, rfl⟩
theorem x_Mo_bushel_31 : DC b_Mo_bushel 31 (.iaload) 1 32 := ⟨by decide +kernel, rfl⟩
theorem x_Mo_bushel_32 : DC b_Mo_bushel 32 (.ifCond .le 7) 3 35 := ⟨by decide +kernel, rfl⟩
theorem x_Mo_bushel_35 : DC b_Mo_bushel 35 (.iconst 0) 1 36 := ⟨by decide +kernel, rfl⟩
theorem x_Mo_bushel_36 : DC b_Mo_bushel 36 (.goto 6) 3 39 := ⟨by decide +kernel, rfl⟩
theorem x_Mo_bushel_39 : DC b_Mo_bushel 39 (.ldc_w 680) 3 42 := ⟨by decide +kernel, rfl⟩
theorem x_Mo_bushel_42 : DC b_Mo_bushel 42 (.iastore) 1 43 := ⟨by decide +kernel, rfl⟩
theorem x_Mo_bushel_43 : DC b_Mo_bushel 43 (.aload_n 0) 1 44 := ⟨by decide +kernel, rfl⟩
theorem x_Mo_bushel_44 : DC b_Mo_bushel 44 (.getfield 251) 3 47 := ⟨by decide +kernel, rfl⟩
theorem x_Mo_bushel_47 : DC b_Mo_bushel 47 (.iload 4) 2 49 := ⟨by decide +kernel, rfl⟩
theorem x_Mo_bushel_49 : DC b_Mo_bushel 49 (.iconst (-1)) 1 50 := ⟨by decide +kernel, rfl⟩
theorem x_Mo_bushel_50 : DC b_Mo_bushel 50 (.iastore) 1 51 := ⟨by decide +kernel, rfl⟩
theorem x_Mo_bushel_51 : DC b_Mo_bushel 51 (.iinc 4 1) 3 54 := ⟨by decide +kernel, rfl⟩
theorem x_Mo_bushel_54 : DC b_Mo_bushel 54 (.goto (-47)) 3 57 := ⟨by decide +kernel, rfl⟩
theorem x_Mo_bushel_57 : DC b_Mo_bushel 57 (.iconst 0) 1 58 := ⟨by decide +kernel, rfl⟩
theorem x_Mo_bushel_58 : DC b_Mo_bushel 58 (.istore 4) 2 60 := ⟨by decide +kernel, rfl⟩
theorem x_Mo_bushel_60 : DC b_Mo_bushel 60 (.iload 4) 2 62 := ⟨by decide +kernel, rfl⟩
theorem x_Mo_bushel_62 : DC b_Mo_bushel 62 (.iload_n 3) 1 63 := ⟨by decide +kernel, rfl⟩
theorem x_Mo_bushel_63 : DC b_Mo_bushel 63 (.if_icmp .ge 188) 3 66 := ⟨by decide +kernel, rfl⟩
theorem x_Mo_bushel_66 : DC b_Mo_bushel 66 (.iconst 0) 1 67 := ⟨by decide +kernel, rfl⟩
theorem x_Mo_bushel_67 : DC b_Mo_bushel 67 (.istore 5) 2 69 := ⟨by decide +kernel, rfl⟩
theorem x_Mo_bushel_69 : DC b_Mo_bushel 69 (.iload 5) 2 71 := ⟨by decide +kernel, rfl⟩
theorem x_Mo_bushel_71 : DC b_Mo_bushel 71 (.iload_n 1) 1 72 := ⟨by decide +kernel, rfl⟩
theorem x_Mo_bushel_72 : DC b_Mo_bushel 72 (.iload_n 2) 1 73 := ⟨by decide +kernel, rfl⟩
theorem x_Mo_bushel_73 : DC b_Mo_bushel 73 (.imul) 1 74 := ⟨by decide +kernel, rfl⟩
theorem x_Mo_bushel_74 : DC b_Mo_bushel 74 (.if_icmp .ge 171) 3 77 := ⟨by decide +kernel, rfl⟩
theorem x_Mo_bushel_77 : DC b_Mo_bushel 77 (.iload 5) 2 79 := ⟨by decide +kernel, rfl⟩
theorem x_Mo_bushel_79 : DC b_Mo_bushel 79 (.iload_n 2) 1 80 := ⟨by decide +kernel, rfl⟩
theorem x_Mo_bushel_80 : DC b_Mo_bushel 80 (.idiv) 1 81 := ⟨by decide +kernel, rfl⟩
theorem x_Mo_bushel_81 : DC b_Mo_bushel 81 (.istore 6) 2 83 := ⟨by decide +kernel, rfl⟩
theorem x_Mo_bushel_83 : DC b_Mo_bushel 83 (.iload_n 1) 1 84 := ⟨by decide +kernel, rfl⟩
theorem x_Mo_bushel_84 : DC b_Mo_bushel 84 (.iload 5) 2 86 := ⟨by decide +kernel, rfl⟩
theorem x_Mo_bushel_86 : DC b_Mo_bushel 86 (.iload_n 2) 1 87 := ⟨by decide +kernel, rfl⟩
theorem x_Mo_bushel_87 : DC b_Mo_bushel 87 (.irem) 1 88 := ⟨by decide +kernel, rfl⟩
theorem x_Mo_bushel_88 : DC b_Mo_bushel 88 (.iadd) 1 89 := ⟨by decide +kernel, rfl⟩
theorem x_Mo_bushel_89 : DC b_Mo_bushel 89 (.istore 7) 2 91 := ⟨by decide +kernel, rfl⟩
theorem x_Mo_bushel_91 : DC b_Mo_bushel 91 (.aload_n 0) 1 92 := ⟨by decide +kernel, rfl⟩
theorem x_Mo_bushel_92 : DC b_Mo_bushel 92 (.getfield 248) 3 95 := ⟨by decide +kernel, rfl⟩
theorem x_Mo_bushel_95 : DC b_Mo_bushel 95 (.iload 6) 2 97 := ⟨by decide +kernel, rfl⟩
theorem x_Mo_bushel_97 : DC b_Mo_bushel 97 (.iaload) 1 98 := ⟨by decide +kernel, rfl⟩
theorem x_Mo_bushel_98 : DC b_Mo_bushel 98 (.ldc_w 680) 3 101 := ⟨by decide +kernel, rfl⟩
theorem x_Mo_bushel_101 : DC b_Mo_bushel 101 (.if_icmp .ge 59) 3 104 := ⟨by decide +kernel, rfl⟩
theorem x_Mo_bushel_104 : DC b_Mo_bushel 104 (.aload_n 0) 1 105 := ⟨by decide +kernel, rfl⟩
theorem x_Mo_bushel_105 : DC b_Mo_bushel 105 (.getfield 248) 3 108 := ⟨by decide +kernel, rfl⟩
theorem x_Mo_bushel_108 : DC b_Mo_bushel 108 (.iload 6) 2 110 := ⟨by decide +kernel, rfl⟩
theorem x_Mo_bushel_110 : DC b_Mo_bushel 110 (.iaload) 1 111 := ⟨by decide +kernel, rfl⟩
theorem x_Mo_bushel_111 : DC b_Mo_bushel 111 (.aload_n 0) 1 112 := ⟨by decide +kernel, rfl⟩
theorem x_Mo_bushel_112 : DC b_Mo_bushel 112 (.getfield 242) 3 115 := ⟨by decide +kernel, rfl⟩
theorem x_Mo_bushel_115 : DC b_Mo_bushel 115 (.iload 5) 2 117 := ⟨by decide +kernel, rfl⟩
theorem x_Mo_bushel_117 : DC b_Mo_bushel 117 (.iaload) 1 118 := ⟨by decide +kernel, rfl⟩
theorem x_Mo_bushel_118 : DC b_Mo_bushel 118 (.iadd) 1 119 := ⟨by decide +kernel, rfl⟩
theorem x_Mo_bushel_119 : DC b_Mo_bushel 119 (.aload_n 0) 1 120 := ⟨by decide +kernel, rfl⟩
theorem x_Mo_bushel_120 : DC b_Mo_bushel 120 (.getfield 248) 3 123 := ⟨by decide +kernel, rfl⟩
theorem x_Mo_bushel_123 : DC b_Mo_bushel 123 (.iload 7) 2 125 := ⟨by decide +kernel, rfl⟩
theorem x_Mo_bushel_125 : DC b_Mo_bushel 125 (.iaload) 1 126 := ⟨by decide +kernel, rfl⟩
theorem x_Mo_bushel_126 : DC b_Mo_bushel 126 (.if_icmp .ge 34) 3 129 := ⟨by decide +kernel, rfl⟩
theorem x_Mo_bushel_129 : DC b_Mo_bushel 129 (.aload_n 0) 1 130 := ⟨by decide +kernel, rfl⟩
theorem x_Mo_bushel_130 : DC b_Mo_bushel 130 (.getfield 248) 3 133 := ⟨by decide +kernel, rfl⟩
theorem x_Mo_bushel_133 : DC b_Mo_bushel 133 (.iload 7) 2 135 := ⟨by decide +kernel, rfl⟩
theorem x_Mo_bushel_135 : DC b_Mo_bushel 135 (.aload_n 0) 1 136 := ⟨by decide +kernel, rfl⟩
theorem x_Mo_bushel_136 : DC b_Mo_bushel 136 (.getfield 248) 3 139 := ⟨by decide +kernel, rfl⟩
theorem x_Mo_bushel_139 : DC b_Mo_bushel 139 (.iload 6) 2 141 := ⟨by decide +kernel, rfl⟩
theorem x_Mo_bushel_141 : DC b_Mo_bushel 141 (.iaload) 1 142 := ⟨by decide +kernel, rfl⟩
theorem x_Mo_bushel_142 : DC b_Mo_bushel 142 (.aload_n 0) 1 143 := ⟨by decide +kernel, rfl⟩
theorem x_Mo_bushel_143 : DC b_Mo_bushel 143 (.getfield 242) 3 146 := ⟨by decide +kernel, rfl⟩
theorem x_Mo_bushel_146 : DC b_Mo_bushel 146 (.iload 5) 2 148 := ⟨by decide +kernel, rfl⟩
theorem x_Mo_bushel_148 : DC b_Mo_bushel 148 (.iaload) 1 149 := ⟨by decide +kernel, rfl⟩
theorem x_Mo_bushel_149 : DC b_Mo_bushel 149 (.iadd) 1 150 := ⟨by decide +kernel, rfl⟩
theorem x_Mo_bushel_150 : DC b_Mo_bushel 150 (.iastore) 1 151 := ⟨by decide +kernel, rfl⟩
theorem x_Mo_bushel_151 : DC b_Mo_bushel 151 (.aload_n 0) 1 152 := ⟨by decide +kernel, rfl⟩
theorem x_Mo_bushel_152 : DC b_Mo_bushel 152 (.getfield 251) 3 155 := ⟨by decide +kernel, rfl⟩
theorem x_Mo_bushel_155 : DC b_Mo_bushel 155 (.iload 7) 2 157 := ⟨by decide +kernel, rfl⟩
theorem x_Mo_bushel_157 : DC b_Mo_bushel 157 (.iload 6) 2 159 := ⟨by decide +kernel, rfl⟩
theorem x_Mo_bushel_159 : DC b_Mo_bushel 159 (.iastore) 1 160 := ⟨by decide +kernel, rfl⟩
theorem x_Mo_bushel_160 : DC b_Mo_bushel 160 (.aload_n 0) 1 161 := ⟨by decide +kernel, rfl⟩
theorem x_Mo_bushel_161 : DC b_Mo_bushel 161 (.getfield 245) 3 164 := ⟨by decide +kernel, rfl⟩
theorem x_Mo_bushel_164 : DC b_Mo_bushel 164 (.iload 5) 2 166 := ⟨by decide +kernel, rfl⟩
theorem x_Mo_bushel_166 : DC b_Mo_bushel 166 (.iaload) 1 167 := ⟨by decide +kernel, rfl⟩
theorem x_Mo_bushel_167 : DC b_Mo_bushel 167 (.ifCond .le 72) 3 170 := ⟨by decide +kernel, rfl⟩
theorem x_Mo_bushel_170 : DC b_Mo_bushel 170 (.aload_n 0) 1 171 := ⟨by decide +kernel, rfl⟩
theorem x_Mo_bushel_171 : DC b_Mo_bushel 171 (.getfield 248) 3 174 := ⟨by decide +kernel, rfl⟩
theorem x_Mo_bushel_174 : DC b_Mo_bushel 174 (.iload 7) 2 176 := ⟨by decide +kernel, rfl⟩
theorem x_Mo_bushel_176 : DC b_Mo_bushel 176 (.iaload) 1 177 := ⟨by decide +kernel, rfl⟩
theorem x_Mo_bushel_177 : DC b_Mo_bushel 177 (.ldc_w 680) 3 180 := ⟨by decide +kernel, rfl⟩
theorem x_Mo_bushel_180 : DC b_Mo_bushel 180 (.if_icmp .ge 59) 3 183 := ⟨by decide +kernel, rfl⟩
theorem x_Mo_bushel_183 : DC b_Mo_bushel 183 (.aload_n 0) 1 184 := ⟨by decide +kernel, rfl⟩
theorem x_Mo_bushel_184 : DC b_Mo_bushel 184 (.getfield 248) 3 187 := ⟨by decide +kernel, rfl⟩
theorem x_Mo_bushel_187 : DC b_Mo_bushel 187 (.iload 7) 2 189 := ⟨by decide +kernel, rfl⟩
theorem x_Mo_bushel_189 : DC b_Mo_bushel 189 (.iaload) 1 190 := ⟨by decide +kernel, rfl⟩
theorem x_Mo_bushel_190 : DC b_Mo_bushel 190 (.aload_n 0) 1 191 := ⟨by decide +kernel, rfl⟩
theorem x_Mo_bushel_191 : DC b_Mo_bushel 191 (.getfield 242) 3 194 := ⟨by decide +kernel, rfl⟩
theorem x_Mo_bushel_194 : DC b_Mo_bushel 194 (.iload 5) 2 196 := ⟨by decide +kernel, rfl⟩
theorem x_Mo_bushel_196 : DC b_Mo_bushel 196 (.iaload) 1 197 := ⟨by decide +kernel, rfl⟩
theorem x_Mo_bushel_197 : DC b_Mo_bushel 197 (.isub) 1 198 := ⟨by decide +kernel, rfl⟩
theorem x_Mo_bushel_198 : DC b_Mo_bushel 198 (.aload_n 0) 1 199 := ⟨by decide +kernel, rfl⟩
theorem x_Mo_bushel_199 : DC b_Mo_bushel 199 (.getfield 248) 3 202 := ⟨by decide +kernel, rfl⟩
theorem x_Mo_bushel_202 : DC b_Mo_bushel 202 (.iload 6) 2 204 := ⟨by decide +kernel, rfl⟩
theorem x_Mo_bushel_204 : DC b_Mo_bushel 204 (.iaload) 1 205 := ⟨by decide +kernel, rfl⟩
theorem x_Mo_bushel_205 : DC b_Mo_bushel 205 (.if_icmp .ge 34) 3 208 := ⟨by decide +kernel, rfl⟩
theorem x_Mo_bushel_208 : DC b_Mo_bushel 208 (.aload_n 0) 1 209 := ⟨by decide +kernel, rfl⟩
theorem x_Mo_bushel_209 : DC b_Mo_bushel 209 (.getfield 248) 3 212 := ⟨by decide +kernel, rfl⟩
theorem x_Mo_bushel_212 : DC b_Mo_bushel 212 (.iload 6) 2 214 := ⟨by decide +kernel, rfl⟩
theorem x_Mo_bushel_214 : DC b_Mo_bushel 214 (.aload_n 0) 1 215 := ⟨by decide +kernel, rfl⟩
theorem x_Mo_bushel_215 : DC b_Mo_bushel 215 (.getfield 248) 3 218 := ⟨by decide +kernel, rfl⟩
theorem x_Mo_bushel_218 : DC b_Mo_bushel 218 (.iload 7) 2 220 := ⟨by decide +kernel, rfl⟩
theorem x_Mo_bushel_220 : DC b_Mo_bushel 220 (.iaload) 1 221 := ⟨by decide +kernel, rfl⟩
theorem x_Mo_bushel_221 : DC b_Mo_bushel 221 (.aload_n 0) 1 222 := ⟨by decide +kernel, rfl⟩
theorem x_Mo_bushel_222 : DC b_Mo_bushel 222 (.getfield 242) 3 225 := ⟨by decide +kernel, rfl⟩
theorem x_Mo_bushel_225 : DC b_Mo_bushel 225 (.iload 5) 2 227 := ⟨by decide +kernel, rfl⟩
theorem x_Mo_bushel_227 : DC b_Mo_bushel 227 (.iaload) 1 228 := ⟨by decide +kernel, rfl⟩
theorem x_Mo_bushel_228 : DC b_Mo_bushel 228 (.isub) 1 229 := ⟨by decide +kernel, rfl⟩
theorem x_Mo_bushel_229 : DC b_Mo_bushel 229 (.iastore) 1 230 := ⟨by decide +kernel, rfl⟩
theorem x_Mo_bushel_230 : DC b_Mo_bushel 230 (.aload_n 0) 1 231 := ⟨by decide +kernel, rfl⟩
theorem x_Mo_bushel_231 : DC b_Mo_bushel 231 (.getfield 251) 3 234 := ⟨by decide +kernel, rfl⟩
theorem x_Mo_bushel_234 : DC b_Mo_bushel 234 (.iload 6) 2 236 := ⟨by decide +kernel, rfl⟩
theorem x_Mo_bushel_236 : DC b_Mo_bushel 236 (.iload 7) 2 238 := ⟨by decide +kernel, rfl⟩
theorem x_Mo_bushel_238 : DC b_Mo_bushel 238 (.iastore) 1 239 := ⟨by decide +kernel, rfl⟩
theorem x_Mo_bushel_239 : DC b_Mo_bushel 239 (.iinc 5 1) 3 242 := ⟨by decide +kernel, rfl⟩
theorem x_Mo_bushel_242 : DC b_Mo_bushel 242 (.goto (-173)) 3 245 := ⟨by decide +kernel, rfl⟩
theorem x_Mo_bushel_245 : DC b_Mo_bushel 245 (.iinc 4 1) 3 248 := ⟨by decide +kernel, rfl⟩
theorem x_Mo_bushel_248 : DC b_Mo_bushel 248 (.goto (-188)) 3 251 := ⟨by decide +kernel, rfl⟩
theorem x_Mo_bushel_251 : DC b_Mo_bushel 251 (.iconst (-1)) 1 252 := ⟨by decide +kernel, rfl⟩
theorem x_Mo_bushel_252 : DC b_Mo_bushel 252 (.istore 4) 2 254 := ⟨by decide +kernel, rfl⟩
theorem x_Mo_bushel_254 : DC b_Mo_bushel 254 (.iconst 0) 1 255 := ⟨by decide +kernel, rfl⟩
theorem x_Mo_bushel_255 : DC b_Mo_bushel 255 (.istore 5) 2 257 := ⟨by decide +kernel, rfl⟩
theorem x_Mo_bushel_257 : DC b_Mo_bushel 257 (.iload 5) 2 259 := ⟨by decide +kernel, rfl⟩
theorem x_Mo_bushel_259 : DC b_Mo_bushel 259 (.iload_n 2) 1 260 := ⟨by decide +kernel, rfl⟩
theorem x_Mo_bushel_260 : DC b_Mo_bushel 260 (.if_icmp .ge 49) 3 263 := ⟨by decide +kernel, rfl⟩
theorem x_Mo_bushel_263 : DC b_Mo_bushel 263 (.aload_n 0) 1 264 := ⟨by decide +kernel, rfl⟩
theorem x_Mo_bushel_264 : DC b_Mo_bushel 264 (.getfield 239) 3 267 := ⟨by decide +kernel, rfl⟩
theorem x_Mo_bushel_267 : DC b_Mo_bushel 267 (.iload 5) 2 269 := ⟨by decide +kernel, rfl⟩
theorem x_Mo_bushel_269 : DC b_Mo_bushel 269 (.iaload) 1 270 := ⟨by decide +kernel, rfl⟩
theorem x_Mo_bushel_270 : DC b_Mo_bushel 270 (.ifCond .le 33) 3 273 := ⟨by decide +kernel, rfl⟩
theorem x_Mo_bushel_273 : DC b_Mo_bushel 273 (.iload 4) 2 275 := ⟨by decide +kernel, rfl⟩
theorem x_Mo_bushel_275 : DC b_Mo_bushel 275 (.ifCond .lt 24) 3 278 := ⟨by decide +kernel, rfl⟩
theorem x_Mo_bushel_278 : DC b_Mo_bushel 278 (.aload_n 0) 1 279 := ⟨by decide +kernel, rfl⟩
theorem x_Mo_bushel_279 : DC b_Mo_bushel 279 (.getfield 248) 3 282 := ⟨by decide +kernel, rfl⟩
theorem x_Mo_bushel_282 : DC b_Mo_bushel 282 (.iload_n 1) 1 283 := ⟨by decide +kernel, rfl⟩
theorem x_Mo_bushel_283 : DC b_Mo_bushel 283 (.iload 5) 2 285 := ⟨by decide +kernel, rfl⟩
theorem x_Mo_bushel_285 : DC b_Mo_bushel 285 (.iadd) 1 286 := ⟨by decide +kernel, rfl⟩
theorem x_Mo_bushel_286 : DC b_Mo_bushel 286 (.iaload) 1 287 := ⟨by decide +kernel, rfl⟩
theorem x_Mo_bushel_287 : DC b_Mo_bushel 287 (.aload_n 0) 1 288 := ⟨by decide +kernel, rfl⟩
theorem x_Mo_bushel_288 : DC b_Mo_bushel 288 (.getfield 248) 3 291 := ⟨by decide +kernel, rfl⟩
theorem x_Mo_bushel_291 : DC b_Mo_bushel 291 (.iload_n 1) 1 292 := ⟨by decide +kernel, rfl⟩
theorem x_Mo_bushel_292 : DC b_Mo_bushel 292 (.iload 4) 2 294 := ⟨by decide +kernel, rfl⟩
theorem x_Mo_bushel_294 : DC b_Mo_bushel 294 (.iadd) 1 295 := ⟨by decide +kernel, rfl⟩
theorem x_Mo_bushel_295 : DC b_Mo_bushel 295 (.iaload) 1 296 := ⟨by decide +kernel, rfl⟩
theorem x_Mo_bushel_296 : DC b_Mo_bushel 296 (.if_icmp .ge 7) 3 299 := ⟨by decide +kernel, rfl⟩
theorem x_Mo_bushel_299 : DC b_Mo_bushel 299 (.iload 5) 2 301 := ⟨by decide +kernel, rfl⟩
theorem x_Mo_bushel_301 : DC b_Mo_bushel 301 (.istore 4) 2 303 := ⟨by decide +kernel, rfl⟩
theorem x_Mo_bushel_303 : DC b_Mo_bushel 303 (.iinc 5 1) 3 306 := ⟨by decide +kernel, rfl⟩
theorem x_Mo_bushel_306 : DC b_Mo_bushel 306 (.goto (-49)) 3 309 := ⟨by decide +kernel, rfl⟩
theorem x_Mo_bushel_309 : DC b_Mo_bushel 309 (.aload_n 0) 1 310 := ⟨by decide +kernel, rfl⟩
theorem x_Mo_bushel_310 : DC b_Mo_bushel 310 (.getfield 239) 3 313 := ⟨by decide +kernel, rfl⟩
theorem x_Mo_bushel_313 : DC b_Mo_bushel 313 (.iload 4) 2 315 := ⟨by decide +kernel, rfl⟩
theorem x_Mo_bushel_315 : DC b_Mo_bushel 315 (.dup2) 1 316 := ⟨by decide +kernel, rfl⟩
theorem x_Mo_bushel_316 : DC b_Mo_bushel 316 (.iaload) 1 317 := ⟨by decide +kernel, rfl⟩
theorem x_Mo_bushel_317 : DC b_Mo_bushel 317 (.iconst 1) 1 318 := ⟨by decide +kernel, rfl⟩
theorem x_Mo_bushel_318 : DC b_Mo_bushel 318 (.isub) 1 319 := ⟨by decide +kernel, rfl⟩
theorem x_Mo_bushel_319 : DC b_Mo_bushel 319 (.iastore) 1 320 := ⟨by decide +kernel, rfl⟩
theorem x_Mo_bushel_320 : DC b_Mo_bushel 320 (.iload_n 1) 1 321 := ⟨by decide +kernel, rfl⟩
theorem x_Mo_bushel_321 : DC b_Mo_bushel 321 (.iload 4) 2 323 := ⟨by decide +kernel, rfl⟩
theorem x_Mo_bushel_323 : DC b_Mo_bushel 323 (.iadd) 1 324 := ⟨by decide +kernel, rfl⟩
theorem x_Mo_bushel_324 : DC b_Mo_bushel 324 (.istore 5) 2 326 := ⟨by decide +kernel, rfl⟩
theorem x_Mo_bushel_326 : DC b_Mo_bushel 326 (.aload_n 0) 1 327 := ⟨by decide +kernel, rfl⟩
theorem x_Mo_bushel_327 : DC b_Mo_bushel 327 (.getfield 251) 3 330 := ⟨by decide +kernel, rfl⟩
theorem x_Mo_bushel_330 : DC b_Mo_bushel 330 (.iload 5) 2 332 := ⟨by decide +kernel, rfl⟩
theorem x_Mo_bushel_332 : DC b_Mo_bushel 332 (.iaload) 1 333 := ⟨by decide +kernel, rfl⟩
theorem x_Mo_bushel_333 : DC b_Mo_bushel 333 (.iconst (-1)) 1 334 := ⟨by decide +kernel, rfl⟩
theorem x_Mo_bushel_334 : DC b_Mo_bushel 334 (.if_icmp .eq 64) 3 337 := ⟨by decide +kernel, rfl⟩
theorem x_Mo_bushel_337 : DC b_Mo_bushel 337 (.aload_n 0) 1 338 := ⟨by decide +kernel, rfl⟩
theorem x_Mo_bushel_338 : DC b_Mo_bushel 338 (.getfield 251) 3 341 := ⟨by decide +kernel, rfl⟩
theorem x_Mo_bushel_341 : DC b_Mo_bushel 341 (.iload 5) 2 343 := ⟨by decide +kernel, rfl⟩
theorem x_Mo_bushel_343 : DC b_Mo_bushel 343 (.iaload) 1 344 := ⟨by decide +kernel, rfl⟩
theorem x_Mo_bushel_344 : DC b_Mo_bushel 344 (.istore 6) 2 346 := ⟨by decide +kernel, rfl⟩
theorem x_Mo_bushel_346 : DC b_Mo_bushel 346 (.iload 5) 2 348 := ⟨by decide +kernel, rfl⟩
theorem x_Mo_bushel_348 : DC b_Mo_bushel 348 (.iload_n 1) 1 349 := ⟨by decide +kernel, rfl⟩
theorem x_Mo_bushel_349 : DC b_Mo_bushel 349 (.if_icmp .lt 24) 3 352 := ⟨by decide +kernel, rfl⟩
theorem x_Mo_bushel_352 : DC b_Mo_bushel 352 (.aload_n 0) 1 353 := ⟨by decide +kernel, rfl⟩
theorem x_Mo_bushel_353 : DC b_Mo_bushel 353 (.getfield 245) 3 356 := ⟨by decide +kernel, rfl⟩
theorem x_Mo_bushel_356 : DC b_Mo_bushel 356 (.iload_n 2) 1 357 := ⟨by decide +kernel, rfl⟩
theorem x_Mo_bushel_357 : DC b_Mo_bushel 357 (.iload 6) 2 359 := ⟨by decide +kernel, rfl⟩
theorem x_Mo_bushel_359 : DC b_Mo_bushel 359 (.imul) 1 360 := ⟨by decide +kernel, rfl⟩
theorem x_Mo_bushel_360 : DC b_Mo_bushel 360 (.iload 5) 2 362 := ⟨by decide +kernel, rfl⟩
theorem x_Mo_bushel_362 : DC b_Mo_bushel 362 (.iadd) 1 363 := ⟨by decide +kernel, rfl⟩
theorem x_Mo_bushel_363 : DC b_Mo_bushel 363 (.iload_n 1) 1 364 := ⟨by decide +kernel, rfl⟩
theorem x_Mo_bushel_364 : DC b_Mo_bushel 364 (.isub) 1 365 := ⟨by decide +kernel, rfl⟩
theorem x_Mo_bushel_365 : DC b_Mo_bushel 365 (.dup2) 1 366 := ⟨by decide +kernel, rfl⟩
theorem x_Mo_bushel_366 : DC b_Mo_bushel 366 (.iaload) 1 367 := ⟨by decide +kernel, rfl⟩
theorem x_Mo_bushel_367 : DC b_Mo_bushel 367 (.iconst 1) 1 368 := ⟨by decide +kernel, rfl⟩
theorem x_Mo_bushel_368 : DC b_Mo_bushel 368 (.iadd) 1 369 := ⟨by decide +kernel, rfl⟩
theorem x_Mo_bushel_369 : DC b_Mo_bushel 369 (.iastore) 1 370 := ⟨by decide +kernel, rfl⟩
theorem x_Mo_bushel_370 : DC b_Mo_bushel 370 (.goto 21) 3 373 := ⟨by decide +kernel, rfl⟩
theorem x_Mo_bushel_373 : DC b_Mo_bushel 373 (.aload_n 0) 1 374 := ⟨by decide +kernel, rfl⟩
theorem x_Mo_bushel_374 : DC b_Mo_bushel 374 (.getfield 245) 3 377 := ⟨by decide +kernel, rfl⟩
theorem x_Mo_bushel_377 : DC b_Mo_bushel 377 (.iload_n 2) 1 378 := ⟨by decide +kernel, rfl⟩
theorem x_Mo_bushel_378 : DC b_Mo_bushel 378 (.iload 5) 2 380 := ⟨by decide +kernel, rfl⟩
theorem x_Mo_bushel_380 : DC b_Mo_bushel 380 (.imul) 1 381 := ⟨by decide +kernel, rfl⟩
theorem x_Mo_bushel_381 : DC b_Mo_bushel 381 (.iload 6) 2 383 := ⟨by decide +kernel, rfl⟩
theorem x_Mo_bushel_383 : DC b_Mo_bushel 383 (.iadd) 1 384 := ⟨by decide +kernel, rfl⟩
theorem x_Mo_bushel_384 : DC b_Mo_bushel 384 (.iload_n 1) 1 385 := ⟨by decide +kernel, rfl⟩
theorem x_Mo_bushel_385 : DC b_Mo_bushel 385 (.isub) 1 386 := ⟨by decide +kernel, rfl⟩
theorem x_Mo_bushel_386 : DC b_Mo_bushel 386 (.dup2) 1 387 := ⟨by decide +kernel, rfl⟩
theorem x_Mo_bushel_387 : DC b_Mo_bushel 387 (.iaload) 1 388 := ⟨by decide +kernel, rfl⟩
theorem x_Mo_bushel_388 : DC b_Mo_bushel 388 (.iconst 1) 1 389 := ⟨by decide +kernel, rfl⟩
theorem x_Mo_bushel_389 : DC b_Mo_bushel 389 (.isub) 1 390 := ⟨by decide +kernel, rfl⟩
theorem x_Mo_bushel_390 : DC b_Mo_bushel 390 (.iastore) 1 391 := ⟨by decide +kernel, rfl⟩
theorem x_Mo_bushel_391 : DC b_Mo_bushel 391 (.iload 6) 2 393 := ⟨by decide +kernel, rfl⟩
theorem x_Mo_bushel_393 : DC b_Mo_bushel 393 (.istore 5) 2 395 := ⟨by decide +kernel, rfl⟩
theorem x_Mo_bushel_395 : DC b_Mo_bushel 395 (.goto (-69)) 3 398 := ⟨by decide +kernel, rfl⟩
theorem x_Mo_bushel_398 : DC b_Mo_bushel 398 (.aload_n 0) 1 399 := ⟨by decide +kernel, rfl⟩
theorem x_Mo_bushel_399 : DC b_Mo_bushel 399 (.getfield 236) 3 402 := ⟨by decide +kernel, rfl⟩
theorem x_Mo_bushel_402 : DC b_Mo_bushel 402 (.iload 5) 2 404 := ⟨by decide +kernel, rfl⟩
theorem x_Mo_bushel_404 : DC b_Mo_bushel 404 (.dup2) 1 405 := ⟨by decide +kernel, rfl⟩
theorem x_Mo_bushel_405 : DC b_Mo_bushel 405 (.iaload) 1 406 := ⟨by decide +kernel, rfl⟩
theorem x_Mo_bushel_406 : DC b_Mo_bushel 406 (.iconst 1) 1 407 := ⟨by decide +kernel, rfl⟩
theorem x_Mo_bushel_407 : DC b_Mo_bushel 407 (.isub) 1 408 := ⟨by decide +kernel, rfl⟩
theorem x_Mo_bushel_408 : DC b_Mo_bushel 408 (.iastore) 1 409 := ⟨by decide +kernel, rfl⟩
theorem x_Mo_bushel_409 : DC b_Mo_bushel 409 (.aload_n 0) 1 410 := ⟨by decide +kernel, rfl⟩
theorem x_Mo_bushel_410 : DC b_Mo_bushel 410 (.getfield 248) 3 413 := ⟨by decide +kernel, rfl⟩
theorem x_Mo_bushel_413 : DC b_Mo_bushel 413 (.iload_n 1) 1 414 := ⟨by decide +kernel, rfl⟩
theorem x_Mo_bushel_414 : DC b_Mo_bushel 414 (.iload 4) 2 416 := ⟨by decide +kernel, rfl⟩
theorem x_Mo_bushel_416 : DC b_Mo_bushel 416 (.iadd) 1 417 := ⟨by decide +kernel, rfl⟩
theorem x_Mo_bushel_417 : DC b_Mo_bushel 417 (.iaload) 1 418 := ⟨by decide +kernel, rfl⟩
theorem x_Mo_bushel_418 : DC b_Mo_bushel 418 (.ireturn) 1 419 := ⟨by decide +kernel, rfl⟩
def k_Mo_bushel_391 (R326 : Int → Int → Int → Int → Mem → Res) (a1 a2 a4 a6 : Int) (M : Mem) : Res := R326 a1 a2 a4 a6 M
theorem z_Mo_bushel_391 (C : Cx p s m args meth c G b_Mo_bushel 8 "PrairiePoolModel" (some .int)) (hlev : 0 ≤ lev) {r : Int × Mem} {R326 : Int → Int → Int → Int → Mem → Res} (hR326 : ∀ (a1 a2 a4 a5 : Int) (M : Mem), R326 a1 a2 a4 a5 M = some r → Z p l e lev s m args below meth c G 8 (MQ below (Qm G 1 r) args s 0 0 (Ab G)) M 326 [(0, .ref (G.1 + 111)), (1, vi a1), (2, vi a2), (4, vi a4), (5, vi a5)] []) {a1 a2 a4 a6 : Int} {M : Mem} (h : k_Mo_bushel_391 R326 a1 a2 a4 a6 M = some r) : Z p l e lev s m args below meth c G 8 (MQ below (Qm G 1 r) args s 0 0 (Ab G)) M 391 [(0, .ref (G.1 + 111)), (1, vi a1), (2, vi a2), (4, vi a4), (6, vi a6)] [] := by
  unfold k_Mo_bushel_391 at h
  refine z_iload C 4 x_Mo_bushel_391 rfl ?_
  refine z_istore (lv' := [(5, vi a6), (0, .ref (G.1 + 111)), (1, vi a1), (2, vi a2), (4, vi a4), (6, vi a6)]) C rfl x_Mo_bushel_393 (i_lt rfl) rfl ?_
  refine z_goto (tgt := 326) C x_Mo_bushel_395 rfl ?_
  exact z_sub [1, 2, 3, 4, 0] rfl (hR326 a1 a2 a4 a6 M h)
def k_Mo_bushel_326 (R326 : Int → Int → Int → Int → Mem → Res) (a1 a2 a4 a5 : Int) (M : Mem) : Res := chk (0 ≤ w32 a5 ∧ w32 a5 < 11) <| blet (M 187 (ix a5)) fun v2 => if w32 v2 = (-1) then (chk (0 ≤ w32 a5 ∧ w32 a5 < 5) <| blet (M 182 (ix a5)) fun v5 => chk (0 ≤ w32 a5 ∧ w32 a5 < 5) <| blet (sto M 182 (ix a5) (v5 - 1)) fun M7 => chk (0 ≤ w32 (a1 + a4) ∧ w32 (a1 + a4) < 11) <| blet (M7 186 (ix (a1 + a4))) fun v9 => some (v9, M7)) else (chk (0 ≤ w32 a5 ∧ w32 a5 < 11) <| blet (M 187 (ix a5)) fun v11 => if w32 a5 < w32 a1 then (chk (0 ≤ w32 (((a2 * a5) + v11) - a1) ∧ w32 (((a2 * a5) + v11) - a1) < 20) <| blet (M 185 (ix (((a2 * a5) + v11) - a1))) fun v14 => chk (0 ≤ w32 (((a2 * a5) + v11) - a1) ∧ w32 (((a2 * a5) + v11) - a1) < 20) <| blet (sto M 185 (ix (((a2 * a5) + v11) - a1)) (v14 - 1)) fun M16 => k_Mo_bushel_391 R326 a1 a2 a4 v11 M16) else (chk (0 ≤ w32 (((a2 * v11) + a5) - a1) ∧ w32 (((a2 * v11) + a5) - a1) < 20) <| blet (M 185 (ix (((a2 * v11) + a5) - a1))) fun v18 => chk (0 ≤ w32 (((a2 * v11) + a5) - a1) ∧ w32 (((a2 * v11) + a5) - a1) < 20) <| blet (sto M 185 (ix (((a2 * v11) + a5) - a1)) (v18 + 1)) fun M20 => k_Mo_bushel_391 R326 a1 a2 a4 v11 M20))
theorem z_Mo_bushel_326 (C : Cx p s m args meth c G b_Mo_bushel 8 "PrairiePoolModel" (some .int)) (hlev : 0 ≤ lev) {r : Int × Mem} {R326 : Int → Int → Int → Int → Mem → Res} (hR326 : ∀ (a1 a2 a4 a5 : Int) (M : Mem), R326 a1 a2 a4 a5 M = some r → Z p l e lev s m args below meth c G 8 (MQ below (Qm G 1 r) args s 0 0 (Ab G)) M 326 [(0, .ref (G.1 + 111)), (1, vi a1), (2, vi a2), (4, vi a4), (5, vi a5)] []) {a1 a2 a4 a5 : Int} {M : Mem} (h : k_Mo_bushel_326 R326 a1 a2 a4 a5 M = some r) : Z p l e lev s m args below meth c G 8 (MQ below (Qm G 1 r) args s 0 0 (Ab G)) M 326 [(0, .ref (G.1 + 111)), (1, vi a1), (2, vi a2), (4, vi a4), (5, vi a5)] [] := by
  unfold k_Mo_bushel_326 at h
  refine z_aload_n C 0 x_Mo_bushel_326 rfl ?_
  refine z_getR (j := 105) C x_Mo_bushel_327 nk_111 ck_111 cw_12 (i_lt rfl) rfl rf_111_105 rfl fl_Mo_251 ?_
  refine z_iload C 4 x_Mo_bushel_330 rfl ?_
  obtain ⟨c1, h⟩ := chk_e h
  obtain ⟨v2, ev2, h⟩ := blet_e h
  refine z_iald C x_Mo_bushel_332 nk_187 ck_187 c1 ev2 ?_
  refine z_iconst C x_Mo_bushel_333 ?_
  rcases ite_e h with ⟨c3, h⟩ | ⟨c3, h⟩
  · refine z_icmp_eq_t (tgt := 398) C x_Mo_bushel_334 rfl c3 ?_
    refine z_aload_n C 0 x_Mo_bushel_398 rfl ?_
    refine z_getR (j := 100) C x_Mo_bushel_399 nk_111 ck_111 cw_12 (i_lt rfl) rfl rf_111_100 rfl fl_Mo_236 ?_
    refine z_iload C 4 x_Mo_bushel_402 rfl ?_
    refine z_dup2 C x_Mo_bushel_404 rfl rfl ?_
    obtain ⟨c4, h⟩ := chk_e h
    obtain ⟨v5, ev5, h⟩ := blet_e h
    refine z_iald C x_Mo_bushel_405 nk_182 ck_182 c4 ev5 ?_
    refine z_iconst C x_Mo_bushel_406 ?_
    refine z_isub C x_Mo_bushel_407 ?_
    obtain ⟨c6, h⟩ := chk_e h
    obtain ⟨M7, eM7, h⟩ := blet_e h
    refine z_iast C x_Mo_bushel_408 nk_182 ck_182 c6 eM7 ?_
    refine z_aload_n C 0 x_Mo_bushel_409 rfl ?_
    refine z_getR (j := 104) C x_Mo_bushel_410 nk_111 ck_111 cw_12 (i_lt rfl) rfl rf_111_104 rfl fl_Mo_248 ?_
    refine z_iload_n C 1 x_Mo_bushel_413 rfl ?_
    refine z_iload C 3 x_Mo_bushel_414 rfl ?_
    refine z_iadd C x_Mo_bushel_416 ?_
    obtain ⟨c8, h⟩ := chk_e h
    obtain ⟨v9, ev9, h⟩ := blet_e h
    refine z_iald C x_Mo_bushel_417 nk_186 ck_186 c8 ev9 ?_
    exact z_iret C x_Mo_bushel_418 h
  · refine z_icmp_eq_f (tgt := 398) C x_Mo_bushel_334 rfl c3 ?_
    refine z_aload_n C 0 x_Mo_bushel_337 rfl ?_
    refine z_getR (j := 105) C x_Mo_bushel_338 nk_111 ck_111 cw_12 (i_lt rfl) rfl rf_111_105 rfl fl_Mo_251 ?_
    refine z_iload C 4 x_Mo_bushel_341 rfl ?_
    obtain ⟨c10, h⟩ := chk_e h
    obtain ⟨v11, ev11, h⟩ := blet_e h
    refine z_iald C x_Mo_bushel_343 nk_187 ck_187 c10 ev11 ?_
    refine z_istore (lv' := [(6, vi v11), (0, .ref (G.1 + 111)), (1, vi a1), (2, vi a2), (4, vi a4), (5, vi a5)]) C rfl x_Mo_bushel_344 (i_lt rfl) rfl ?_
    refine z_iload C 5 x_Mo_bushel_346 rfl ?_
    refine z_iload_n C 2 x_Mo_bushel_348 rfl ?_
    rcases ite_e h with ⟨c12, h⟩ | ⟨c12, h⟩
    · refine z_icmp_lt_t (tgt := 373) C x_Mo_bushel_349 rfl c12 ?_
      refine z_aload_n C 1 x_Mo_bushel_373 rfl ?_
      refine z_getR (j := 103) C x_Mo_bushel_374 nk_111 ck_111 cw_12 (i_lt rfl) rfl rf_111_103 rfl fl_Mo_245 ?_
      refine z_iload_n C 3 x_Mo_bushel_377 rfl ?_
      refine z_iload C 5 x_Mo_bushel_378 rfl ?_
      refine z_imul C x_Mo_bushel_380 ?_
      refine z_iload C 0 x_Mo_bushel_381 rfl ?_
      refine z_iadd C x_Mo_bushel_383 ?_
      refine z_iload_n C 2 x_Mo_bushel_384 rfl ?_
      refine z_isub C x_Mo_bushel_385 ?_
      refine z_dup2 C x_Mo_bushel_386 rfl rfl ?_
      obtain ⟨c13, h⟩ := chk_e h
      obtain ⟨v14, ev14, h⟩ := blet_e h
      refine z_iald C x_Mo_bushel_387 nk_185 ck_185 c13 ev14 ?_
      refine z_iconst C x_Mo_bushel_388 ?_
      refine z_isub C x_Mo_bushel_389 ?_
      obtain ⟨c15, h⟩ := chk_e h
      obtain ⟨M16, eM16, h⟩ := blet_e h
      refine z_iast C x_Mo_bushel_390 nk_185 ck_185 c15 eM16 ?_
      exact z_sub [1, 2, 3, 4, 0] rfl (z_Mo_bushel_391 C hlev hR326 h)
    · refine z_icmp_lt_f (tgt := 373) C x_Mo_bushel_349 rfl c12 ?_
      refine z_aload_n C 1 x_Mo_bushel_352 rfl ?_
      refine z_getR (j := 103) C x_Mo_bushel_353 nk_111 ck_111 cw_12 (i_lt rfl) rfl rf_111_103 rfl fl_Mo_245 ?_
      refine z_iload_n C 3 x_Mo_bushel_356 rfl ?_
      refine z_iload C 0 x_Mo_bushel_357 rfl ?_
      refine z_imul C x_Mo_bushel_359 ?_
      refine z_iload C 5 x_Mo_bushel_360 rfl ?_
      refine z_iadd C x_Mo_bushel_362 ?_
      refine z_iload_n C 2 x_Mo_bushel_363 rfl ?_
      refine z_isub C x_Mo_bushel_364 ?_
      refine z_dup2 C x_Mo_bushel_365 rfl rfl ?_
      obtain ⟨c17, h⟩ := chk_e h
      obtain ⟨v18, ev18, h⟩ := blet_e h
      refine z_iald C x_Mo_bushel_366 nk_185 ck_185 c17 ev18 ?_
      refine z_iconst C x_Mo_bushel_367 ?_
      refine z_iadd C x_Mo_bushel_368 ?_
      obtain ⟨c19, h⟩ := chk_e h
      obtain ⟨M20, eM20, h⟩ := blet_e h
      refine z_iast C x_Mo_bushel_369 nk_185 ck_185 c19 eM20 ?_
      refine z_goto (tgt := 391) C x_Mo_bushel_370 rfl ?_
      exact z_sub [1, 2, 3, 4, 0] rfl (z_Mo_bushel_391 C hlev hR326 h)
theorem zl_Mo_bushel_326 (C : Cx p s m args meth c G b_Mo_bushel 8 "PrairiePoolModel" (some .int)) (hlev : 0 ≤ lev) {r : Int × Mem}  : ∀ (n : Nat) (a1 a2 a4 a5 : Int) (M : Mem), fix (fun _ _ _ _ _ => none) (k_Mo_bushel_326) n a1 a2 a4 a5 M = some r → Z p l e lev s m args below meth c G 8 (MQ below (Qm G 1 r) args s 0 0 (Ab G)) M 326 [(0, .ref (G.1 + 111)), (1, vi a1), (2, vi a2), (4, vi a4), (5, vi a5)] [] := by
  intro n
  induction n with
  | zero => intro a1 a2 a4 a5 M h; exact nomatch (show (none : Res) = some r from h)
  | succ n ih => intro a1 a2 a4 a5 M h; exact z_Mo_bushel_326 C hlev ih h
def k_Mo_bushel_303 (R257 : Int → Int → Int → Int → Mem → Res) (a1 a2 a4 a5 : Int) (M : Mem) : Res := blet (a5 + 1) fun v1 => R257 a1 a2 a4 v1 M
theorem z_Mo_bushel_303 (C : Cx p s m args meth c G b_Mo_bushel 8 "PrairiePoolModel" (some .int)) (hlev : 0 ≤ lev) {r : Int × Mem} {R257 : Int → Int → Int → Int → Mem → Res} (hR257 : ∀ (a1 a2 a4 a5 : Int) (M : Mem), R257 a1 a2 a4 a5 M = some r → Z p l e lev s m args below meth c G 8 (MQ below (Qm G 1 r) args s 0 0 (Ab G)) M 257 [(0, .ref (G.1 + 111)), (1, vi a1), (2, vi a2), (4, vi a4), (5, vi a5)] []) {a1 a2 a4 a5 : Int} {M : Mem} (h : k_Mo_bushel_303 R257 a1 a2 a4 a5 M = some r) : Z p l e lev s m args below meth c G 8 (MQ below (Qm G 1 r) args s 0 0 (Ab G)) M 303 [(0, .ref (G.1 + 111)), (1, vi a1), (2, vi a2), (4, vi a4), (5, vi a5)] [] := by
  unfold k_Mo_bushel_303 at h
  obtain ⟨v1, ev1, h⟩ := blet_e h
  refine z_iinc (lv' := [(5, vi v1), (0, .ref (G.1 + 111)), (1, vi a1), (2, vi a2), (4, vi a4)]) C 4 ev1 x_Mo_bushel_303 rfl (i_lt rfl) rfl ?_
  refine z_goto (tgt := 257) C x_Mo_bushel_306 rfl ?_
  exact z_sub [1, 2, 3, 4, 0] rfl (hR257 a1 a2 a4 v1 M h)
def k_Mo_bushel_299 (R257 : Int → Int → Int → Int → Mem → Res) (a1 a2 a5 : Int) (M : Mem) : Res := k_Mo_bushel_303 R257 a1 a2 a5 a5 M
theorem z_Mo_bushel_299 (C : Cx p s m args meth c G b_Mo_bushel 8 "PrairiePoolModel" (some .int)) (hlev : 0 ≤ lev) {r : Int × Mem} {R257 : Int → Int → Int → Int → Mem → Res} (hR257 : ∀ (a1 a2 a4 a5 : Int) (M : Mem), R257 a1 a2 a4 a5 M = some r → Z p l e lev s m args below meth c G 8 (MQ below (Qm G 1 r) args s 0 0 (Ab G)) M 257 [(0, .ref (G.1 + 111)), (1, vi a1), (2, vi a2), (4, vi a4), (5, vi a5)] []) {a1 a2 a5 : Int} {M : Mem} (h : k_Mo_bushel_299 R257 a1 a2 a5 M = some r) : Z p l e lev s m args below meth c G 8 (MQ below (Qm G 1 r) args s 0 0 (Ab G)) M 299 [(0, .ref (G.1 + 111)), (1, vi a1), (2, vi a2), (5, vi a5)] [] := by
  unfold k_Mo_bushel_299 at h
  refine z_iload C 3 x_Mo_bushel_299 rfl ?_
  refine z_istore (lv' := [(4, vi a5), (0, .ref (G.1 + 111)), (1, vi a1), (2, vi a2), (5, vi a5)]) C rfl x_Mo_bushel_301 (i_lt rfl) rfl ?_
  exact z_sub [1, 2, 3, 0, 4] rfl (z_Mo_bushel_303 C hlev hR257 h)
def k_Mo_bushel_257 (R257 : Int → Int → Int → Int → Mem → Res) (a1 a2 a4 a5 : Int) (M : Mem) : Res := if w32 a5 < w32 a2 then (chk (0 ≤ w32 a5 ∧ w32 a5 < 4) <| blet (M 183 (ix a5)) fun v3 => if 0 < w32 v3 then (if w32 a4 < 0 then (k_Mo_bushel_299 R257 a1 a2 a5 M) else (chk (0 ≤ w32 (a1 + a5) ∧ w32 (a1 + a5) < 11) <| blet (M 186 (ix (a1 + a5))) fun v7 => chk (0 ≤ w32 (a1 + a4) ∧ w32 (a1 + a4) < 11) <| blet (M 186 (ix (a1 + a4))) fun v9 => if w32 v7 < w32 v9 then (k_Mo_bushel_299 R257 a1 a2 a5 M) else (k_Mo_bushel_303 R257 a1 a2 a4 a5 M))) else (k_Mo_bushel_303 R257 a1 a2 a4 a5 M)) else (chk (0 ≤ w32 a4 ∧ w32 a4 < 4) <| blet (M 183 (ix a4)) fun v12 => chk (0 ≤ w32 a4 ∧ w32 a4 < 4) <| blet (sto M 183 (ix a4) (v12 - 1)) fun M14 => blet (a1 + a4) fun v15 => fix (fun _ _ _ _ _ => none) (k_Mo_bushel_326) FU a1 a2 a4 v15 M14)
theorem z_Mo_bushel_257 (C : Cx p s m args meth c G b_Mo_bushel 8 "PrairiePoolModel" (some .int)) (hlev : 0 ≤ lev) {r : Int × Mem} {R257 : Int → Int → Int → Int → Mem → Res} (hR257 : ∀ (a1 a2 a4 a5 : Int) (M : Mem), R257 a1 a2 a4 a5 M = some r → Z p l e lev s m args below meth c G 8 (MQ below (Qm G 1 r) args s 0 0 (Ab G)) M 257 [(0, .ref (G.1 + 111)), (1, vi a1), (2, vi a2), (4, vi a4), (5, vi a5)] []) {a1 a2 a4 a5 : Int} {M : Mem} (h : k_Mo_bushel_257 R257 a1 a2 a4 a5 M = some r) : Z p l e lev s m args below meth c G 8 (MQ below (Qm G 1 r) args s 0 0 (Ab G)) M 257 [(0, .ref (G.1 + 111)), (1, vi a1), (2, vi a2), (4, vi a4), (5, vi a5)] [] := by
  unfold k_Mo_bushel_257 at h
  refine z_iload C 4 x_Mo_bushel_257 rfl ?_
  refine z_iload_n C 2 x_Mo_bushel_259 rfl ?_
  rcases ite_e h with ⟨c1, h⟩ | ⟨c1, h⟩
  · refine z_icmp_ge_f (tgt := 309) C x_Mo_bushel_260 rfl c1 ?_
    refine z_aload_n C 0 x_Mo_bushel_263 rfl ?_
    refine z_getR (j := 101) C x_Mo_bushel_264 nk_111 ck_111 cw_12 (i_lt rfl) rfl rf_111_101 rfl fl_Mo_239 ?_
    refine z_iload C 4 x_Mo_bushel_267 rfl ?_
    obtain ⟨c2, h⟩ := chk_e h
    obtain ⟨v3, ev3, h⟩ := blet_e h
    refine z_iald C x_Mo_bushel_269 nk_183 ck_183 c2 ev3 ?_
    rcases ite_e h with ⟨c4, h⟩ | ⟨c4, h⟩
    · refine z_if_le_f (tgt := 303) C x_Mo_bushel_270 rfl c4 ?_
      refine z_iload C 3 x_Mo_bushel_273 rfl ?_
      rcases ite_e h with ⟨c5, h⟩ | ⟨c5, h⟩
      · refine z_if_lt_t (tgt := 299) C x_Mo_bushel_275 rfl c5 ?_
        exact z_sub [0, 1, 2, 4] rfl (z_Mo_bushel_299 C hlev hR257 h)
      · refine z_if_lt_f (tgt := 299) C x_Mo_bushel_275 rfl c5 ?_
        refine z_aload_n C 0 x_Mo_bushel_278 rfl ?_
        refine z_getR (j := 104) C x_Mo_bushel_279 nk_111 ck_111 cw_12 (i_lt rfl) rfl rf_111_104 rfl fl_Mo_248 ?_
        refine z_iload_n C 1 x_Mo_bushel_282 rfl ?_
        refine z_iload C 4 x_Mo_bushel_283 rfl ?_
        refine z_iadd C x_Mo_bushel_285 ?_
        obtain ⟨c6, h⟩ := chk_e h
        obtain ⟨v7, ev7, h⟩ := blet_e h
        refine z_iald C x_Mo_bushel_286 nk_186 ck_186 c6 ev7 ?_
        refine z_aload_n C 0 x_Mo_bushel_287 rfl ?_
        refine z_getR (j := 104) C x_Mo_bushel_288 nk_111 ck_111 cw_12 (i_lt rfl) rfl rf_111_104 rfl fl_Mo_248 ?_
        refine z_iload_n C 1 x_Mo_bushel_291 rfl ?_
        refine z_iload C 3 x_Mo_bushel_292 rfl ?_
        refine z_iadd C x_Mo_bushel_294 ?_
        obtain ⟨c8, h⟩ := chk_e h
        obtain ⟨v9, ev9, h⟩ := blet_e h
        refine z_iald C x_Mo_bushel_295 nk_186 ck_186 c8 ev9 ?_
        rcases ite_e h with ⟨c10, h⟩ | ⟨c10, h⟩
        · refine z_icmp_ge_f (tgt := 303) C x_Mo_bushel_296 rfl c10 ?_
          exact z_sub [0, 1, 2, 4] rfl (z_Mo_bushel_299 C hlev hR257 h)
        · refine z_icmp_ge_t (tgt := 303) C x_Mo_bushel_296 rfl c10 ?_
          exact z_sub [0, 1, 2, 3, 4] rfl (z_Mo_bushel_303 C hlev hR257 h)
    · refine z_if_le_t (tgt := 303) C x_Mo_bushel_270 rfl c4 ?_
      exact z_sub [0, 1, 2, 3, 4] rfl (z_Mo_bushel_303 C hlev hR257 h)
  · refine z_icmp_ge_t (tgt := 309) C x_Mo_bushel_260 rfl c1 ?_
    refine z_aload_n C 0 x_Mo_bushel_309 rfl ?_
    refine z_getR (j := 101) C x_Mo_bushel_310 nk_111 ck_111 cw_12 (i_lt rfl) rfl rf_111_101 rfl fl_Mo_239 ?_
    refine z_iload C 3 x_Mo_bushel_313 rfl ?_
    refine z_dup2 C x_Mo_bushel_315 rfl rfl ?_
    obtain ⟨c11, h⟩ := chk_e h
    obtain ⟨v12, ev12, h⟩ := blet_e h
    refine z_iald C x_Mo_bushel_316 nk_183 ck_183 c11 ev12 ?_
    refine z_iconst C x_Mo_bushel_317 ?_
    refine z_isub C x_Mo_bushel_318 ?_
    obtain ⟨c13, h⟩ := chk_e h
    obtain ⟨M14, eM14, h⟩ := blet_e h
    refine z_iast C x_Mo_bushel_319 nk_183 ck_183 c13 eM14 ?_
    refine z_iload_n C 1 x_Mo_bushel_320 rfl ?_
    refine z_iload C 3 x_Mo_bushel_321 rfl ?_
    refine z_iadd C x_Mo_bushel_323 ?_
    obtain ⟨v15, ev15, h⟩ := blet_e h
    refine z_istore (lv' := [(5, vi v15), (0, .ref (G.1 + 111)), (1, vi a1), (2, vi a2), (4, vi a4)]) C ev15 x_Mo_bushel_324 (i_lt rfl) rfl ?_
    exact z_sub [1, 2, 3, 4, 0] rfl (zl_Mo_bushel_326 C hlev FU a1 a2 a4 v15 M14 h)
theorem zl_Mo_bushel_257 (C : Cx p s m args meth c G b_Mo_bushel 8 "PrairiePoolModel" (some .int)) (hlev : 0 ≤ lev) {r : Int × Mem}  : ∀ (n : Nat) (a1 a2 a4 a5 : Int) (M : Mem), fix (fun _ _ _ _ _ => none) (k_Mo_bushel_257) n a1 a2 a4 a5 M = some r → Z p l e lev s m args below meth c G 8 (MQ below (Qm G 1 r) args s 0 0 (Ab G)) M 257 [(0, .ref (G.1 + 111)), (1, vi a1), (2, vi a2), (4, vi a4), (5, vi a5)] [] := by
  intro n
  induction n with
  | zero => intro a1 a2 a4 a5 M h; exact nomatch (show (none : Res) = some r from h)
  | succ n ih => intro a1 a2 a4 a5 M h; exact z_Mo_bushel_257 C hlev ih h
def k_Mo_bushel_239 (R60 : Int → Int → Int → Int → Mem → Res) (R69 : Int → Int → Int → Int → Int → Mem → Res) (a1 a2 a3 a4 a5 : Int) (M : Mem) : Res := blet (a5 + 1) fun v1 => R69 a1 a2 a3 a4 v1 M
theorem z_Mo_bushel_239 (C : Cx p s m args meth c G b_Mo_bushel 8 "PrairiePoolModel" (some .int)) (hlev : 0 ≤ lev) {r : Int × Mem} {R60 : Int → Int → Int → Int → Mem → Res} {R69 : Int → Int → Int → Int → Int → Mem → Res} (hR60 : ∀ (a1 a2 a3 a4 : Int) (M : Mem), R60 a1 a2 a3 a4 M = some r → Z p l e lev s m args below meth c G 8 (MQ below (Qm G 1 r) args s 0 0 (Ab G)) M 60 [(0, .ref (G.1 + 111)), (1, vi a1), (2, vi a2), (3, vi a3), (4, vi a4)] []) (hR69 : ∀ (a1 a2 a3 a4 a5 : Int) (M : Mem), R69 a1 a2 a3 a4 a5 M = some r → Z p l e lev s m args below meth c G 8 (MQ below (Qm G 1 r) args s 0 0 (Ab G)) M 69 [(0, .ref (G.1 + 111)), (1, vi a1), (2, vi a2), (3, vi a3), (4, vi a4), (5, vi a5)] []) {a1 a2 a3 a4 a5 : Int} {M : Mem} (h : k_Mo_bushel_239 R60 R69 a1 a2 a3 a4 a5 M = some r) : Z p l e lev s m args below meth c G 8 (MQ below (Qm G 1 r) args s 0 0 (Ab G)) M 239 [(0, .ref (G.1 + 111)), (1, vi a1), (2, vi a2), (3, vi a3), (4, vi a4), (5, vi a5)] [] := by
  unfold k_Mo_bushel_239 at h
  obtain ⟨v1, ev1, h⟩ := blet_e h
  refine z_iinc (lv' := [(5, vi v1), (0, .ref (G.1 + 111)), (1, vi a1), (2, vi a2), (3, vi a3), (4, vi a4)]) C 5 ev1 x_Mo_bushel_239 rfl (i_lt rfl) rfl ?_
  refine z_goto (tgt := 69) C x_Mo_bushel_242 rfl ?_
  exact z_sub [1, 2, 3, 4, 5, 0] rfl (hR69 a1 a2 a3 a4 v1 M h)
def k_Mo_bushel_160 (R60 : Int → Int → Int → Int → Mem → Res) (R69 : Int → Int → Int → Int → Int → Mem → Res) (a1 a2 a3 a4 a5 a6 a7 : Int) (M : Mem) : Res := chk (0 ≤ w32 a5 ∧ w32 a5 < 20) <| blet (M 185 (ix a5)) fun v2 => if 0 < w32 v2 then (chk (0 ≤ w32 a7 ∧ w32 a7 < 11) <| blet (M 186 (ix a7)) fun v5 => if w32 v5 < 100000 then (chk (0 ≤ w32 a7 ∧ w32 a7 < 11) <| blet (M 186 (ix a7)) fun v8 => chk (0 ≤ w32 a5 ∧ w32 a5 < 20) <| blet (M 184 (ix a5)) fun v10 => chk (0 ≤ w32 a6 ∧ w32 a6 < 11) <| blet (M 186 (ix a6)) fun v12 => if w32 (v8 - v10) < w32 v12 then (chk (0 ≤ w32 a7 ∧ w32 a7 < 11) <| blet (M 186 (ix a7)) fun v15 => chk (0 ≤ w32 a5 ∧ w32 a5 < 20) <| blet (M 184 (ix a5)) fun v17 => chk (0 ≤ w32 a6 ∧ w32 a6 < 11) <| blet (sto M 186 (ix a6) (v15 - v17)) fun M19 => chk (0 ≤ w32 a6 ∧ w32 a6 < 11) <| blet (sto M19 187 (ix a6) a7) fun M21 => k_Mo_bushel_239 R60 R69 a1 a2 a3 a4 a5 M21) else (k_Mo_bushel_239 R60 R69 a1 a2 a3 a4 a5 M)) else (k_Mo_bushel_239 R60 R69 a1 a2 a3 a4 a5 M)) else (k_Mo_bushel_239 R60 R69 a1 a2 a3 a4 a5 M)
theorem z_Mo_bushel_160 (C : Cx p s m args meth c G b_Mo_bushel 8 "PrairiePoolModel" (some .int)) (hlev : 0 ≤ lev) {r : Int × Mem} {R60 : Int → Int → Int → Int → Mem → Res} {R69 : Int → Int → Int → Int → Int → Mem → Res} (hR60 : ∀ (a1 a2 a3 a4 : Int) (M : Mem), R60 a1 a2 a3 a4 M = some r → Z p l e lev s m args below meth c G 8 (MQ below (Qm G 1 r) args s 0 0 (Ab G)) M 60 [(0, .ref (G.1 + 111)), (1, vi a1), (2, vi a2), (3, vi a3), (4, vi a4)] []) (hR69 : ∀ (a1 a2 a3 a4 a5 : Int) (M : Mem), R69 a1 a2 a3 a4 a5 M = some r → Z p l e lev s m args below meth c G 8 (MQ below (Qm G 1 r) args s 0 0 (Ab G)) M 69 [(0, .ref (G.1 + 111)), (1, vi a1), (2, vi a2), (3, vi a3), (4, vi a4), (5, vi a5)] []) {a1 a2 a3 a4 a5 a6 a7 : Int} {M : Mem} (h : k_Mo_bushel_160 R60 R69 a1 a2 a3 a4 a5 a6 a7 M = some r) : Z p l e lev s m args below meth c G 8 (MQ below (Qm G 1 r) args s 0 0 (Ab G)) M 160 [(0, .ref (G.1 + 111)), (1, vi a1), (2, vi a2), (3, vi a3), (4, vi a4), (5, vi a5), (6, vi a6), (7, vi a7)] [] := by
  unfold k_Mo_bushel_160 at h
  refine z_aload_n C 0 x_Mo_bushel_160 rfl ?_
  refine z_getR (j := 103) C x_Mo_bushel_161 nk_111 ck_111 cw_12 (i_lt rfl) rfl rf_111_103 rfl fl_Mo_245 ?_
  refine z_iload C 5 x_Mo_bushel_164 rfl ?_
  obtain ⟨c1, h⟩ := chk_e h
  obtain ⟨v2, ev2, h⟩ := blet_e h
  refine z_iald C x_Mo_bushel_166 nk_185 ck_185 c1 ev2 ?_
  rcases ite_e h with ⟨c3, h⟩ | ⟨c3, h⟩
  · refine z_if_le_f (tgt := 239) C x_Mo_bushel_167 rfl c3 ?_
    refine z_aload_n C 0 x_Mo_bushel_170 rfl ?_
    refine z_getR (j := 104) C x_Mo_bushel_171 nk_111 ck_111 cw_12 (i_lt rfl) rfl rf_111_104 rfl fl_Mo_248 ?_
    refine z_iload C 7 x_Mo_bushel_174 rfl ?_
    obtain ⟨c4, h⟩ := chk_e h
    obtain ⟨v5, ev5, h⟩ := blet_e h
    refine z_iald C x_Mo_bushel_176 nk_186 ck_186 c4 ev5 ?_
    refine z_ldcw C kc_Mo_680 x_Mo_bushel_177 ?_
    rcases ite_e h with ⟨c6, h⟩ | ⟨c6, h⟩
    · refine z_icmp_ge_f (tgt := 239) C x_Mo_bushel_180 rfl c6 ?_
      refine z_aload_n C 0 x_Mo_bushel_183 rfl ?_
      refine z_getR (j := 104) C x_Mo_bushel_184 nk_111 ck_111 cw_12 (i_lt rfl) rfl rf_111_104 rfl fl_Mo_248 ?_
      refine z_iload C 7 x_Mo_bushel_187 rfl ?_
      obtain ⟨c7, h⟩ := chk_e h
      obtain ⟨v8, ev8, h⟩ := blet_e h
      refine z_iald C x_Mo_bushel_189 nk_186 ck_186 c7 ev8 ?_
      refine z_aload_n C 0 x_Mo_bushel_190 rfl ?_
      refine z_getR (j := 102) C x_Mo_bushel_191 nk_111 ck_111 cw_12 (i_lt rfl) rfl rf_111_102 rfl fl_Mo_242 ?_
      refine z_iload C 5 x_Mo_bushel_194 rfl ?_
      obtain ⟨c9, h⟩ := chk_e h
      obtain ⟨v10, ev10, h⟩ := blet_e h
      refine z_iald C x_Mo_bushel_196 nk_184 ck_184 c9 ev10 ?_
      refine z_isub C x_Mo_bushel_197 ?_
      refine z_aload_n C 0 x_Mo_bushel_198 rfl ?_
      refine z_getR (j := 104) C x_Mo_bushel_199 nk_111 ck_111 cw_12 (i_lt rfl) rfl rf_111_104 rfl fl_Mo_248 ?_
      refine z_iload C 6 x_Mo_bushel_202 rfl ?_
      obtain ⟨c11, h⟩ := chk_e h
      obtain ⟨v12, ev12, h⟩ := blet_e h
      refine z_iald C x_Mo_bushel_204 nk_186 ck_186 c11 ev12 ?_
      rcases ite_e h with ⟨c13, h⟩ | ⟨c13, h⟩
      · refine z_icmp_ge_f (tgt := 239) C x_Mo_bushel_205 rfl c13 ?_
        refine z_aload_n C 0 x_Mo_bushel_208 rfl ?_
        refine z_getR (j := 104) C x_Mo_bushel_209 nk_111 ck_111 cw_12 (i_lt rfl) rfl rf_111_104 rfl fl_Mo_248 ?_
        refine z_iload C 6 x_Mo_bushel_212 rfl ?_
        refine z_aload_n C 0 x_Mo_bushel_214 rfl ?_
        refine z_getR (j := 104) C x_Mo_bushel_215 nk_111 ck_111 cw_12 (i_lt rfl) rfl rf_111_104 rfl fl_Mo_248 ?_
        refine z_iload C 7 x_Mo_bushel_218 rfl ?_
        obtain ⟨c14, h⟩ := chk_e h
        obtain ⟨v15, ev15, h⟩ := blet_e h
        refine z_iald C x_Mo_bushel_220 nk_186 ck_186 c14 ev15 ?_
        refine z_aload_n C 0 x_Mo_bushel_221 rfl ?_
        refine z_getR (j := 102) C x_Mo_bushel_222 nk_111 ck_111 cw_12 (i_lt rfl) rfl rf_111_102 rfl fl_Mo_242 ?_
        refine z_iload C 5 x_Mo_bushel_225 rfl ?_
        obtain ⟨c16, h⟩ := chk_e h
        obtain ⟨v17, ev17, h⟩ := blet_e h
        refine z_iald C x_Mo_bushel_227 nk_184 ck_184 c16 ev17 ?_
        refine z_isub C x_Mo_bushel_228 ?_
        obtain ⟨c18, h⟩ := chk_e h
        obtain ⟨M19, eM19, h⟩ := blet_e h
        refine z_iast C x_Mo_bushel_229 nk_186 ck_186 c18 eM19 ?_
        refine z_aload_n C 0 x_Mo_bushel_230 rfl ?_
        refine z_getR (j := 105) C x_Mo_bushel_231 nk_111 ck_111 cw_12 (i_lt rfl) rfl rf_111_105 rfl fl_Mo_251 ?_
        refine z_iload C 6 x_Mo_bushel_234 rfl ?_
        refine z_iload C 7 x_Mo_bushel_236 rfl ?_
        obtain ⟨c20, h⟩ := chk_e h
        obtain ⟨M21, eM21, h⟩ := blet_e h
        refine z_iast C x_Mo_bushel_238 nk_187 ck_187 c20 eM21 ?_
        exact z_sub [0, 1, 2, 3, 4, 5] rfl (z_Mo_bushel_239 C hlev hR60 hR69 h)
      · refine z_icmp_ge_t (tgt := 239) C x_Mo_bushel_205 rfl c13 ?_
        exact z_sub [0, 1, 2, 3, 4, 5] rfl (z_Mo_bushel_239 C hlev hR60 hR69 h)
    · refine z_icmp_ge_t (tgt := 239) C x_Mo_bushel_180 rfl c6 ?_
      exact z_sub [0, 1, 2, 3, 4, 5] rfl (z_Mo_bushel_239 C hlev hR60 hR69 h)
  · refine z_if_le_t (tgt := 239) C x_Mo_bushel_167 rfl c3 ?_
    exact z_sub [0, 1, 2, 3, 4, 5] rfl (z_Mo_bushel_239 C hlev hR60 hR69 h)
def k_Mo_bushel_69 (R60 : Int → Int → Int → Int → Mem → Res) (R69 : Int → Int → Int → Int → Int → Mem → Res) (a1 a2 a3 a4 a5 : Int) (M : Mem) : Res := if w32 a5 < w32 (a1 * a2) then (chk (¬ w32 a2 = 0) <| blet (dv32 a5 a2) fun v3 => chk (¬ w32 a2 = 0) <| blet (a1 + (rm32 a5 a2)) fun v5 => chk (0 ≤ w32 v3 ∧ w32 v3 < 11) <| blet (M 186 (ix v3)) fun v7 => if w32 v7 < 100000 then (chk (0 ≤ w32 v3 ∧ w32 v3 < 11) <| blet (M 186 (ix v3)) fun v10 => chk (0 ≤ w32 a5 ∧ w32 a5 < 20) <| blet (M 184 (ix a5)) fun v12 => chk (0 ≤ w32 v5 ∧ w32 v5 < 11) <| blet (M 186 (ix v5)) fun v14 => if w32 (v10 + v12) < w32 v14 then (chk (0 ≤ w32 v3 ∧ w32 v3 < 11) <| blet (M 186 (ix v3)) fun v17 => chk (0 ≤ w32 a5 ∧ w32 a5 < 20) <| blet (M 184 (ix a5)) fun v19 => chk (0 ≤ w32 v5 ∧ w32 v5 < 11) <| blet (sto M 186 (ix v5) (v17 + v19)) fun M21 => chk (0 ≤ w32 v5 ∧ w32 v5 < 11) <| blet (sto M21 187 (ix v5) v3) fun M23 => k_Mo_bushel_160 R60 R69 a1 a2 a3 a4 a5 v3 v5 M23) else (k_Mo_bushel_160 R60 R69 a1 a2 a3 a4 a5 v3 v5 M)) else (k_Mo_bushel_160 R60 R69 a1 a2 a3 a4 a5 v3 v5 M)) else (blet (a4 + 1) fun v24 => R60 a1 a2 a3 v24 M)
theorem z_Mo_bushel_69 (C : Cx p s m args meth c G b_Mo_bushel 8 "PrairiePoolModel" (some .int)) (hlev : 0 ≤ lev) {r : Int × Mem} {R60 : Int → Int → Int → Int → Mem → Res} {R69 : Int → Int → Int → Int → Int → Mem → Res} (hR60 : ∀ (a1 a2 a3 a4 : Int) (M : Mem), R60 a1 a2 a3 a4 M = some r → Z p l e lev s m args below meth c G 8 (MQ below (Qm G 1 r) args s 0 0 (Ab G)) M 60 [(0, .ref (G.1 + 111)), (1, vi a1), (2, vi a2), (3, vi a3), (4, vi a4)] []) (hR69 : ∀ (a1 a2 a3 a4 a5 : Int) (M : Mem), R69 a1 a2 a3 a4 a5 M = some r → Z p l e lev s m args below meth c G 8 (MQ below (Qm G 1 r) args s 0 0 (Ab G)) M 69 [(0, .ref (G.1 + 111)), (1, vi a1), (2, vi a2), (3, vi a3), (4, vi a4), (5, vi a5)] []) {a1 a2 a3 a4 a5 : Int} {M : Mem} (h : k_Mo_bushel_69 R60 R69 a1 a2 a3 a4 a5 M = some r) : Z p l e lev s m args below meth c G 8 (MQ below (Qm G 1 r) args s 0 0 (Ab G)) M 69 [(0, .ref (G.1 + 111)), (1, vi a1), (2, vi a2), (3, vi a3), (4, vi a4), (5, vi a5)] [] := by
  unfold k_Mo_bushel_69 at h
  refine z_iload C 5 x_Mo_bushel_69 rfl ?_
  refine z_iload_n C 1 x_Mo_bushel_71 rfl ?_
  refine z_iload_n C 2 x_Mo_bushel_72 rfl ?_
  refine z_imul C x_Mo_bushel_73 ?_
  rcases ite_e h with ⟨c1, h⟩ | ⟨c1, h⟩
  · refine z_icmp_ge_f (tgt := 245) C x_Mo_bushel_74 rfl c1 ?_
    refine z_iload C 5 x_Mo_bushel_77 rfl ?_
    refine z_iload_n C 2 x_Mo_bushel_79 rfl ?_
    obtain ⟨c2, h⟩ := chk_e h
    refine z_idiv C c2 x_Mo_bushel_80 ?_
    obtain ⟨v3, ev3, h⟩ := blet_e h
    refine z_istore (lv' := [(6, vi v3), (0, .ref (G.1 + 111)), (1, vi a1), (2, vi a2), (3, vi a3), (4, vi a4), (5, vi a5)]) C ev3 x_Mo_bushel_81 (i_lt rfl) rfl ?_
    refine z_iload_n C 2 x_Mo_bushel_83 rfl ?_
    refine z_iload C 6 x_Mo_bushel_84 rfl ?_
    refine z_iload_n C 3 x_Mo_bushel_86 rfl ?_
    obtain ⟨c4, h⟩ := chk_e h
    refine z_irem C c4 x_Mo_bushel_87 ?_
    refine z_iadd C x_Mo_bushel_88 ?_
    obtain ⟨v5, ev5, h⟩ := blet_e h
    refine z_istore (lv' := [(7, vi v5), (6, vi v3), (0, .ref (G.1 + 111)), (1, vi a1), (2, vi a2), (3, vi a3), (4, vi a4), (5, vi a5)]) C ev5 x_Mo_bushel_89 (i_lt rfl) rfl ?_
    refine z_aload_n C 2 x_Mo_bushel_91 rfl ?_
    refine z_getR (j := 104) C x_Mo_bushel_92 nk_111 ck_111 cw_12 (i_lt rfl) rfl rf_111_104 rfl fl_Mo_248 ?_
    refine z_iload C 1 x_Mo_bushel_95 rfl ?_
    obtain ⟨c6, h⟩ := chk_e h
    obtain ⟨v7, ev7, h⟩ := blet_e h
    refine z_iald C x_Mo_bushel_97 nk_186 ck_186 c6 ev7 ?_
    refine z_ldcw C kc_Mo_680 x_Mo_bushel_98 ?_
    rcases ite_e h with ⟨c8, h⟩ | ⟨c8, h⟩
    · refine z_icmp_ge_f (tgt := 160) C x_Mo_bushel_101 rfl c8 ?_
      refine z_aload_n C 2 x_Mo_bushel_104 rfl ?_
      refine z_getR (j := 104) C x_Mo_bushel_105 nk_111 ck_111 cw_12 (i_lt rfl) rfl rf_111_104 rfl fl_Mo_248 ?_
      refine z_iload C 1 x_Mo_bushel_108 rfl ?_
      obtain ⟨c9, h⟩ := chk_e h
      obtain ⟨v10, ev10, h⟩ := blet_e h
      refine z_iald C x_Mo_bushel_110 nk_186 ck_186 c9 ev10 ?_
      refine z_aload_n C 2 x_Mo_bushel_111 rfl ?_
      refine z_getR (j := 102) C x_Mo_bushel_112 nk_111 ck_111 cw_12 (i_lt rfl) rfl rf_111_102 rfl fl_Mo_242 ?_
      refine z_iload C 7 x_Mo_bushel_115 rfl ?_
      obtain ⟨c11, h⟩ := chk_e h
      obtain ⟨v12, ev12, h⟩ := blet_e h
      refine z_iald C x_Mo_bushel_117 nk_184 ck_184 c11 ev12 ?_
      refine z_iadd C x_Mo_bushel_118 ?_
      refine z_aload_n C 2 x_Mo_bushel_119 rfl ?_
      refine z_getR (j := 104) C x_Mo_bushel_120 nk_111 ck_111 cw_12 (i_lt rfl) rfl rf_111_104 rfl fl_Mo_248 ?_
      refine z_iload C 0 x_Mo_bushel_123 rfl ?_
      obtain ⟨c13, h⟩ := chk_e h
      obtain ⟨v14, ev14, h⟩ := blet_e h
      refine z_iald C x_Mo_bushel_125 nk_186 ck_186 c13 ev14 ?_
      rcases ite_e h with ⟨c15, h⟩ | ⟨c15, h⟩
      · refine z_icmp_ge_f (tgt := 160) C x_Mo_bushel_126 rfl c15 ?_
        refine z_aload_n C 2 x_Mo_bushel_129 rfl ?_
        refine z_getR (j := 104) C x_Mo_bushel_130 nk_111 ck_111 cw_12 (i_lt rfl) rfl rf_111_104 rfl fl_Mo_248 ?_
        refine z_iload C 0 x_Mo_bushel_133 rfl ?_
        refine z_aload_n C 2 x_Mo_bushel_135 rfl ?_
        refine z_getR (j := 104) C x_Mo_bushel_136 nk_111 ck_111 cw_12 (i_lt rfl) rfl rf_111_104 rfl fl_Mo_248 ?_
        refine z_iload C 1 x_Mo_bushel_139 rfl ?_
        obtain ⟨c16, h⟩ := chk_e h
        obtain ⟨v17, ev17, h⟩ := blet_e h
        refine z_iald C x_Mo_bushel_141 nk_186 ck_186 c16 ev17 ?_
        refine z_aload_n C 2 x_Mo_bushel_142 rfl ?_
        refine z_getR (j := 102) C x_Mo_bushel_143 nk_111 ck_111 cw_12 (i_lt rfl) rfl rf_111_102 rfl fl_Mo_242 ?_
        refine z_iload C 7 x_Mo_bushel_146 rfl ?_
        obtain ⟨c18, h⟩ := chk_e h
        obtain ⟨v19, ev19, h⟩ := blet_e h
        refine z_iald C x_Mo_bushel_148 nk_184 ck_184 c18 ev19 ?_
        refine z_iadd C x_Mo_bushel_149 ?_
        obtain ⟨c20, h⟩ := chk_e h
        obtain ⟨M21, eM21, h⟩ := blet_e h
        refine z_iast C x_Mo_bushel_150 nk_186 ck_186 c20 eM21 ?_
        refine z_aload_n C 2 x_Mo_bushel_151 rfl ?_
        refine z_getR (j := 105) C x_Mo_bushel_152 nk_111 ck_111 cw_12 (i_lt rfl) rfl rf_111_105 rfl fl_Mo_251 ?_
        refine z_iload C 0 x_Mo_bushel_155 rfl ?_
        refine z_iload C 1 x_Mo_bushel_157 rfl ?_
        obtain ⟨c22, h⟩ := chk_e h
        obtain ⟨M23, eM23, h⟩ := blet_e h
        refine z_iast C x_Mo_bushel_159 nk_187 ck_187 c22 eM23 ?_
        exact z_sub [2, 3, 4, 5, 6, 7, 1, 0] rfl (z_Mo_bushel_160 C hlev hR60 hR69 h)
      · refine z_icmp_ge_t (tgt := 160) C x_Mo_bushel_126 rfl c15 ?_
        exact z_sub [2, 3, 4, 5, 6, 7, 1, 0] rfl (z_Mo_bushel_160 C hlev hR60 hR69 h)
    · refine z_icmp_ge_t (tgt := 160) C x_Mo_bushel_101 rfl c8 ?_
      exact z_sub [2, 3, 4, 5, 6, 7, 1, 0] rfl (z_Mo_bushel_160 C hlev hR60 hR69 h)
  · refine z_icmp_ge_t (tgt := 245) C x_Mo_bushel_74 rfl c1 ?_
    obtain ⟨v24, ev24, h⟩ := blet_e h
    refine z_iinc (lv' := [(4, vi v24), (0, .ref (G.1 + 111)), (1, vi a1), (2, vi a2), (3, vi a3), (5, vi a5)]) C 4 ev24 x_Mo_bushel_245 rfl (i_lt rfl) rfl ?_
    refine z_goto (tgt := 60) C x_Mo_bushel_248 rfl ?_
    exact z_sub [1, 2, 3, 4, 0] rfl (hR60 a1 a2 a3 v24 M h)
theorem zl_Mo_bushel_69 (C : Cx p s m args meth c G b_Mo_bushel 8 "PrairiePoolModel" (some .int)) (hlev : 0 ≤ lev) {r : Int × Mem} {R60 : Int → Int → Int → Int → Mem → Res} (hR60 : ∀ (a1 a2 a3 a4 : Int) (M : Mem), R60 a1 a2 a3 a4 M = some r → Z p l e lev s m args below meth c G 8 (MQ below (Qm G 1 r) args s 0 0 (Ab G)) M 60 [(0, .ref (G.1 + 111)), (1, vi a1), (2, vi a2), (3, vi a3), (4, vi a4)] []) : ∀ (n : Nat) (a1 a2 a3 a4 a5 : Int) (M : Mem), fix (fun _ _ _ _ _ _ => none) (k_Mo_bushel_69 R60) n a1 a2 a3 a4 a5 M = some r → Z p l e lev s m args below meth c G 8 (MQ below (Qm G 1 r) args s 0 0 (Ab G)) M 69 [(0, .ref (G.1 + 111)), (1, vi a1), (2, vi a2), (3, vi a3), (4, vi a4), (5, vi a5)] [] := by
  intro n
  induction n with
  | zero => intro a1 a2 a3 a4 a5 M h; exact nomatch (show (none : Res) = some r from h)
  | succ n ih => intro a1 a2 a3 a4 a5 M h; exact z_Mo_bushel_69 C hlev hR60 ih h
def k_Mo_bushel_60 (R60 : Int → Int → Int → Int → Mem → Res) (a1 a2 a3 a4 : Int) (M : Mem) : Res := if w32 a4 < w32 a3 then (fix (fun _ _ _ _ _ _ => none) (k_Mo_bushel_69 R60) FU a1 a2 a3 a4 0 M) else (fix (fun _ _ _ _ _ => none) (k_Mo_bushel_257) FU a1 a2 (-1) 0 M)
theorem z_Mo_bushel_60 (C : Cx p s m args meth c G b_Mo_bushel 8 "PrairiePoolModel" (some .int)) (hlev : 0 ≤ lev) {r : Int × Mem} {R60 : Int → Int → Int → Int → Mem → Res} (hR60 : ∀ (a1 a2 a3 a4 : Int) (M : Mem), R60 a1 a2 a3 a4 M = some r → Z p l e lev s m args below meth c G 8 (MQ below (Qm G 1 r) args s 0 0 (Ab G)) M 60 [(0, .ref (G.1 + 111)), (1, vi a1), (2, vi a2), (3, vi a3), (4, vi a4)] []) {a1 a2 a3 a4 : Int} {M : Mem} (h : k_Mo_bushel_60 R60 a1 a2 a3 a4 M = some r) : Z p l e lev s m args below meth c G 8 (MQ below (Qm G 1 r) args s 0 0 (Ab G)) M 60 [(0, .ref (G.1 + 111)), (1, vi a1), (2, vi a2), (3, vi a3), (4, vi a4)] [] := by
  unfold k_Mo_bushel_60 at h
  refine z_iload C 4 x_Mo_bushel_60 rfl ?_
  refine z_iload_n C 3 x_Mo_bushel_62 rfl ?_
  rcases ite_e h with ⟨c1, h⟩ | ⟨c1, h⟩
  · refine z_icmp_ge_f (tgt := 251) C x_Mo_bushel_63 rfl c1 ?_
    refine z_iconst C x_Mo_bushel_66 ?_
    refine z_istore (lv' := [(5, vi 0), (0, .ref (G.1 + 111)), (1, vi a1), (2, vi a2), (3, vi a3), (4, vi a4)]) C rfl x_Mo_bushel_67 (i_lt rfl) rfl ?_
    exact z_sub [1, 2, 3, 4, 5, 0] rfl (zl_Mo_bushel_69 C hlev hR60 FU a1 a2 a3 a4 0 M h)
  · refine z_icmp_ge_t (tgt := 251) C x_Mo_bushel_63 rfl c1 ?_
    refine z_iconst C x_Mo_bushel_251 ?_
    refine z_istore (lv' := [(4, vi (-1)), (0, .ref (G.1 + 111)), (1, vi a1), (2, vi a2), (3, vi a3)]) C rfl x_Mo_bushel_252 (i_lt rfl) rfl ?_
    refine z_iconst C x_Mo_bushel_254 ?_
    refine z_istore (lv' := [(5, vi 0), (4, vi (-1)), (0, .ref (G.1 + 111)), (1, vi a1), (2, vi a2), (3, vi a3)]) C rfl x_Mo_bushel_255 (i_lt rfl) rfl ?_
    exact z_sub [2, 3, 4, 1, 0] rfl (zl_Mo_bushel_257 C hlev FU a1 a2 (-1) 0 M h)
theorem zl_Mo_bushel_60 (C : Cx p s m args meth c G b_Mo_bushel 8 "PrairiePoolModel" (some .int)) (hlev : 0 ≤ lev) {r : Int × Mem}  : ∀ (n : Nat) (a1 a2 a3 a4 : Int) (M : Mem), fix (fun _ _ _ _ _ => none) (k_Mo_bushel_60) n a1 a2 a3 a4 M = some r → Z p l e lev s m args below meth c G 8 (MQ below (Qm G 1 r) args s 0 0 (Ab G)) M 60 [(0, .ref (G.1 + 111)), (1, vi a1), (2, vi a2), (3, vi a3), (4, vi a4)] [] := by
  intro n
  induction n with
  | zero => intro a1 a2 a3 a4 M h; exact nomatch (show (none : Res) = some r from h)
  | succ n ih => intro a1 a2 a3 a4 M h; exact z_Mo_bushel_60 C hlev ih h
def k_Mo_bushel_42 (R7 : Int → Int → Int → Int → Mem → Res) (a1 a2 a3 a4 s1 s2 : Int) (M : Mem) : Res := chk (0 ≤ w32 s1 ∧ w32 s1 < 11) <| blet (sto M 186 (ix s1) s2) fun M2 => chk (0 ≤ w32 a4 ∧ w32 a4 < 11) <| blet (sto M2 187 (ix a4) (-1)) fun M4 => blet (a4 + 1) fun v5 => R7 a1 a2 a3 v5 M4
theorem z_Mo_bushel_42 (C : Cx p s m args meth c G b_Mo_bushel 8 "PrairiePoolModel" (some .int)) (hlev : 0 ≤ lev) {r : Int × Mem} {R7 : Int → Int → Int → Int → Mem → Res} (hR7 : ∀ (a1 a2 a3 a4 : Int) (M : Mem), R7 a1 a2 a3 a4 M = some r → Z p l e lev s m args below meth c G 8 (MQ below (Qm G 1 r) args s 0 0 (Ab G)) M 7 [(0, .ref (G.1 + 111)), (1, vi a1), (2, vi a2), (3, vi a3), (4, vi a4)] []) {a1 a2 a3 a4 s1 s2 : Int} {M : Mem} (h : k_Mo_bushel_42 R7 a1 a2 a3 a4 s1 s2 M = some r) : Z p l e lev s m args below meth c G 8 (MQ below (Qm G 1 r) args s 0 0 (Ab G)) M 42 [(0, .ref (G.1 + 111)), (1, vi a1), (2, vi a2), (3, vi a3), (4, vi a4)] [vi s2, vi s1, .ref (G.1 + 186)] := by
  unfold k_Mo_bushel_42 at h
  obtain ⟨c1, h⟩ := chk_e h
  obtain ⟨M2, eM2, h⟩ := blet_e h
  refine z_iast C x_Mo_bushel_42 nk_186 ck_186 c1 eM2 ?_
  refine z_aload_n C 0 x_Mo_bushel_43 rfl ?_
  refine z_getR (j := 105) C x_Mo_bushel_44 nk_111 ck_111 cw_12 (i_lt rfl) rfl rf_111_105 rfl fl_Mo_251 ?_
  refine z_iload C 4 x_Mo_bushel_47 rfl ?_
  refine z_iconst C x_Mo_bushel_49 ?_
  obtain ⟨c3, h⟩ := chk_e h
  obtain ⟨M4, eM4, h⟩ := blet_e h
  refine z_iast C x_Mo_bushel_50 nk_187 ck_187 c3 eM4 ?_
  obtain ⟨v5, ev5, h⟩ := blet_e h
  refine z_iinc (lv' := [(4, vi v5), (0, .ref (G.1 + 111)), (1, vi a1), (2, vi a2), (3, vi a3)]) C 4 ev5 x_Mo_bushel_51 rfl (i_lt rfl) rfl ?_
  refine z_goto (tgt := 7) C x_Mo_bushel_54 rfl ?_
  exact z_sub [1, 2, 3, 4, 0] rfl (hR7 a1 a2 a3 v5 M4 h)
def k_Mo_bushel_39 (R7 : Int → Int → Int → Int → Mem → Res) (a1 a2 a3 a4 s1 : Int) (M : Mem) : Res := k_Mo_bushel_42 R7 a1 a2 a3 a4 s1 100000 M
theorem z_Mo_bushel_39 (C : Cx p s m args meth c G b_Mo_bushel 8 "PrairiePoolModel" (some .int)) (hlev : 0 ≤ lev) {r : Int × Mem} {R7 : Int → Int → Int → Int → Mem → Res} (hR7 : ∀ (a1 a2 a3 a4 : Int) (M : Mem), R7 a1 a2 a3 a4 M = some r → Z p l e lev s m args below meth c G 8 (MQ below (Qm G 1 r) args s 0 0 (Ab G)) M 7 [(0, .ref (G.1 + 111)), (1, vi a1), (2, vi a2), (3, vi a3), (4, vi a4)] []) {a1 a2 a3 a4 s1 : Int} {M : Mem} (h : k_Mo_bushel_39 R7 a1 a2 a3 a4 s1 M = some r) : Z p l e lev s m args below meth c G 8 (MQ below (Qm G 1 r) args s 0 0 (Ab G)) M 39 [(0, .ref (G.1 + 111)), (1, vi a1), (2, vi a2), (3, vi a3), (4, vi a4)] [vi s1, .ref (G.1 + 186)] := by
  unfold k_Mo_bushel_39 at h
  refine z_ldcw C kc_Mo_680 x_Mo_bushel_39 ?_
  exact z_sub [0, 1, 2, 3, 4] rfl (z_Mo_bushel_42 C hlev hR7 h)
def k_Mo_bushel_7 (R7 : Int → Int → Int → Int → Mem → Res) (a1 a2 a3 a4 : Int) (M : Mem) : Res := if w32 a4 < w32 a3 then (if w32 a4 < w32 a1 then (chk (0 ≤ w32 a4 ∧ w32 a4 < 5) <| blet (M 182 (ix a4)) fun v4 => if 0 < w32 v4 then (k_Mo_bushel_42 R7 a1 a2 a3 a4 a4 0 M) else (k_Mo_bushel_39 R7 a1 a2 a3 a4 a4 M)) else (k_Mo_bushel_39 R7 a1 a2 a3 a4 a4 M)) else (fix (fun _ _ _ _ _ => none) (k_Mo_bushel_60) FU a1 a2 a3 0 M)
theorem z_Mo_bushel_7 (C : Cx p s m args meth c G b_Mo_bushel 8 "PrairiePoolModel" (some .int)) (hlev : 0 ≤ lev) {r : Int × Mem} {R7 : Int → Int → Int → Int → Mem → Res} (hR7 : ∀ (a1 a2 a3 a4 : Int) (M : Mem), R7 a1 a2 a3 a4 M = some r → Z p l e lev s m args below meth c G 8 (MQ below (Qm G 1 r) args s 0 0 (Ab G)) M 7 [(0, .ref (G.1 + 111)), (1, vi a1), (2, vi a2), (3, vi a3), (4, vi a4)] []) {a1 a2 a3 a4 : Int} {M : Mem} (h : k_Mo_bushel_7 R7 a1 a2 a3 a4 M = some r) : Z p l e lev s m args below meth c G 8 (MQ below (Qm G 1 r) args s 0 0 (Ab G)) M 7 [(0, .ref (G.1 + 111)), (1, vi a1), (2, vi a2), (3, vi a3), (4, vi a4)] [] := by
  unfold k_Mo_bushel_7 at h
  refine z_iload C 4 x_Mo_bushel_7 rfl ?_
  refine z_iload_n C 3 x_Mo_bushel_9 rfl ?_
  rcases ite_e h with ⟨c1, h⟩ | ⟨c1, h⟩
  · refine z_icmp_ge_f (tgt := 57) C x_Mo_bushel_10 rfl c1 ?_
    refine z_aload_n C 0 x_Mo_bushel_13 rfl ?_
    refine z_getR (j := 104) C x_Mo_bushel_14 nk_111 ck_111 cw_12 (i_lt rfl) rfl rf_111_104 rfl fl_Mo_248 ?_
    refine z_iload C 4 x_Mo_bushel_17 rfl ?_
    refine z_iload C 4 x_Mo_bushel_19 rfl ?_
    refine z_iload_n C 1 x_Mo_bushel_21 rfl ?_
    rcases ite_e h with ⟨c2, h⟩ | ⟨c2, h⟩
    · refine z_icmp_ge_f (tgt := 39) C x_Mo_bushel_22 rfl c2 ?_
      refine z_aload_n C 0 x_Mo_bushel_25 rfl ?_
      refine z_getR (j := 100) C x_Mo_bushel_26 nk_111 ck_111 cw_12 (i_lt rfl) rfl rf_111_100 rfl fl_Mo_236 ?_
      refine z_iload C 4 x_Mo_bushel_29 rfl ?_
      obtain ⟨c3, h⟩ := chk_e h
      obtain ⟨v4, ev4, h⟩ := blet_e h
      refine z_iald C x_Mo_bushel_31 nk_182 ck_182 c3 ev4 ?_
      rcases ite_e h with ⟨c5, h⟩ | ⟨c5, h⟩
      · refine z_if_le_f (tgt := 39) C x_Mo_bushel_32 rfl c5 ?_
        refine z_iconst C x_Mo_bushel_35 ?_
        refine z_goto (tgt := 42) C x_Mo_bushel_36 rfl ?_
        exact z_sub [0, 1, 2, 3, 4] rfl (z_Mo_bushel_42 C hlev hR7 h)
      · refine z_if_le_t (tgt := 39) C x_Mo_bushel_32 rfl c5 ?_
        exact z_sub [0, 1, 2, 3, 4] rfl (z_Mo_bushel_39 C hlev hR7 h)
    · refine z_icmp_ge_t (tgt := 39) C x_Mo_bushel_22 rfl c2 ?_
      exact z_sub [0, 1, 2, 3, 4] rfl (z_Mo_bushel_39 C hlev hR7 h)
  · refine z_icmp_ge_t (tgt := 57) C x_Mo_bushel_10 rfl c1 ?_
    refine z_iconst C x_Mo_bushel_57 ?_
    refine z_istore (lv' := [(4, vi 0), (0, .ref (G.1 + 111)), (1, vi a1), (2, vi a2), (3, vi a3)]) C rfl x_Mo_bushel_58 (i_lt rfl) rfl ?_
    exact z_sub [1, 2, 3, 4, 0] rfl (zl_Mo_bushel_60 C hlev FU a1 a2 a3 0 M h)
theorem zl_Mo_bushel_7 (C : Cx p s m args meth c G b_Mo_bushel 8 "PrairiePoolModel" (some .int)) (hlev : 0 ≤ lev) {r : Int × Mem}  : ∀ (n : Nat) (a1 a2 a3 a4 : Int) (M : Mem), fix (fun _ _ _ _ _ => none) (k_Mo_bushel_7) n a1 a2 a3 a4 M = some r → Z p l e lev s m args below meth c G 8 (MQ below (Qm G 1 r) args s 0 0 (Ab G)) M 7 [(0, .ref (G.1 + 111)), (1, vi a1), (2, vi a2), (3, vi a3), (4, vi a4)] [] := by
  intro n
  induction n with
  | zero => intro a1 a2 a3 a4 M h; exact nomatch (show (none : Res) = some r from h)
  | succ n ih => intro a1 a2 a3 a4 M h; exact z_Mo_bushel_7 C hlev ih h
def d_Mo_bushel (a1 a2 : Int) (M : Mem) : Res := blet (a1 + a2) fun v1 => fix (fun _ _ _ _ _ => none) (k_Mo_bushel_7) FU a1 a2 v1 0 M
theorem t_Mo_bushel (l : Launch) (G : GX) {lev : Nat} (hlev : 0 ≤ lev) {a1 a2 : Int} {M : Mem} {r : Int × Mem} (h : d_Mo_bushel a1 a2 M = some r) : Mt l G y_Mo_bushel b_Mo_bushel 8 (some .int) lev 1 [.ref (G.1 + 111), vi a1, vi a2] M r := by
  refine Mt.of (by decide) (i_le rfl) ?_
  intro p e s m args below meth c C
  have C : Cx p s m args meth c G b_Mo_bushel 8 "PrairiePoolModel" (some .int) := C
  unfold d_Mo_bushel at h
  refine z_sub (lv' := [(0, .ref (G.1 + 111)), (1, vi a1), (2, vi a2)]) [0, 1, 2] rfl ?_
  refine z_iload_n C 1 x_Mo_bushel_0 rfl ?_
  refine z_iload_n C 2 x_Mo_bushel_1 rfl ?_
  refine z_iadd C x_Mo_bushel_2 ?_
  obtain ⟨v1, ev1, h⟩ := blet_e h
  refine z_istore_n (lv' := [(3, vi v1), (0, .ref (G.1 + 111)), (1, vi a1), (2, vi a2)]) C ev1 x_Mo_bushel_3 (i_lt rfl) rfl ?_
  refine z_iconst C x_Mo_bushel_4 ?_
  refine z_istore (lv' := [(4, vi 0), (3, vi v1), (0, .ref (G.1 + 111)), (1, vi a1), (2, vi a2)]) C rfl x_Mo_bushel_5 (i_lt rfl) rfl ?_
  exact z_sub [2, 3, 4, 1, 0] rfl (zl_Mo_bushel_7 C hlev FU a1 a2 v1 0 M h)
end
