section
variable {p : Program} {l : Launch} {e : Env} {lev : Nat} {s : State} {m : MethodId} {args : Array Value} {below : List Frame} {meth : Method} {c : Code} {G : GX}
theorem x_Mo_status_0 : DC b_Mo_status 0 (.aload_n 0) 1 1 := ⟨by decide +kernel, rfl⟩
theorem x_Mo_status_1 : DC b_Mo_status 1 (.iconst 0) 1 2 := ⟨by decide +kernel, rfl⟩
theorem x_Mo_status_2 : DC b_Mo_status 2 (.putfield 257) 3 5 := ⟨by decide +kernel, rfl⟩
theorem x_Mo_status_5 : DC b_Mo_status 5 (.aload_n 0) 1 6 := ⟨by decide +kernel, rfl⟩
theorem x_Mo_status_6 : DC b_Mo_status 6 (.getfield 260) 3 9 := ⟨by decide +kernel, rfl⟩
theorem x_Mo_status_9 : DC b_Mo_status 9 (.ireturn) 1 10 := ⟨by decide +kernel, rfl⟩
def d_Mo_status (M : Mem) : Res := blet (sto M 111 1 0) fun M1 => blet (M1 111 0) fun v2 => some (v2, M1)
theorem t_Mo_status (l : Launch) (G : GX) {lev : Nat} (hlev : 0 ≤ lev) {M : Mem} {r : Int × Mem} (h : d_Mo_status M = some r) : Mt l G y_Mo_status b_Mo_status 1 (some .int) lev 1 [.ref (G.1 + 111)] M r := by
  refine Mt.of (by decide) (i_le rfl) ?_
  intro p e s m args below meth c C
  have C : Cx p s m args meth c G b_Mo_status 1 "PrairiePoolModel" (some .int) := C
  unfold d_Mo_status at h
  refine z_sub (lv' := [(0, .ref (G.1 + 111))]) [0] rfl ?_
  refine z_aload_n C 0 x_Mo_status_0 rfl ?_
  refine z_iconst C x_Mo_status_1 ?_
  obtain ⟨M1, eM1, h⟩ := blet_e h
  refine z_putI (j := 1) C x_Mo_status_2 nk_111 ck_111 cw_12 (i_lt rfl) rfl rfl rfl rfl fl_Mo_257 eM1 ?_
  refine z_aload_n C 0 x_Mo_status_5 rfl ?_
  obtain ⟨v2, ev2, h⟩ := blet_e h
  refine z_getI (j := 0) C x_Mo_status_6 nk_111 ck_111 cw_12 (i_lt rfl) rfl rfl fl_Mo_260 ev2 ?_
  exact z_iret C x_Mo_status_9 h
theorem x_Mo_no_0 : DC b_Mo_no 0 (.aload_n 0) 1 1 := ⟨by decide +kernel, rfl⟩
theorem x_Mo_no_1 : DC b_Mo_no 1 (.iload_n 1) 1 2 := ⟨by decide +kernel, rfl⟩
theorem x_Mo_no_2 : DC b_Mo_no 2 (.putfield 260) 3 5 := ⟨by decide +kernel, rfl⟩
theorem x_Mo_no_5 : DC b_Mo_no 5 (.iconst 0) 1 6 := ⟨by decide +kernel, rfl⟩
theorem x_Mo_no_6 : DC b_Mo_no 6 (.ireturn) 1 7 := ⟨by decide +kernel, rfl⟩
def d_Mo_no (a1 : Int) (M : Mem) : Res := blet (sto M 111 0 a1) fun M1 => some (0, M1)
theorem t_Mo_no (l : Launch) (G : GX) {lev : Nat} (hlev : 0 ≤ lev) {a1 : Int} {M : Mem} {r : Int × Mem} (h : d_Mo_no a1 M = some r) : Mt l G y_Mo_no b_Mo_no 2 (some .boolean) lev 1 [.ref (G.1 + 111), vi a1] M r := by
  refine Mt.of (by decide) (i_le rfl) ?_
  intro p e s m args below meth c C
  have C : Cx p s m args meth c G b_Mo_no 2 "PrairiePoolModel" (some .boolean) := C
  unfold d_Mo_no at h
  refine z_sub (lv' := [(0, .ref (G.1 + 111)), (1, vi a1)]) [0, 1] rfl ?_
  refine z_aload_n C 0 x_Mo_no_0 rfl ?_
  refine z_iload_n C 1 x_Mo_no_1 rfl ?_
  obtain ⟨M1, eM1, h⟩ := blet_e h
  refine z_putI (j := 0) C x_Mo_no_2 nk_111 ck_111 cw_12 (i_lt rfl) rfl rfl rfl rfl fl_Mo_260 eM1 ?_
  refine z_iconst C x_Mo_no_5 ?_
  exact z_zret C x_Mo_no_6 (by decide) h
theorem x_Mo_tray_0 : DC b_Mo_tray 0 (.aload_n 0) 1 1 := ⟨by decide +kernel, rfl⟩
theorem x_Mo_tray_1 : DC b_Mo_tray 1 (.iconst 0) 1 2 := ⟨by decide +kernel, rfl⟩
theorem x_Mo_tray_2 : DC b_Mo_tray 2 (.putfield 257) 3 5 := ⟨by decide +kernel, rfl⟩
theorem x_Mo_tray_5 : DC b_Mo_tray 5 (.aload_n 0) 1 6 := ⟨by decide +kernel, rfl⟩
theorem x_Mo_tray_6 : DC b_Mo_tray 6 (.iconst 0) 1 7 := ⟨by decide +kernel, rfl⟩
theorem x_Mo_tray_7 : DC b_Mo_tray 7 (.putfield 260) 3 10 := ⟨by decide +kernel, rfl⟩
theorem x_Mo_tray_10 : DC b_Mo_tray 10 (.iload_n 1) 1 11 := ⟨by decide +kernel, rfl⟩
theorem x_Mo_tray_11 : DC b_Mo_tray 11 (.ifCond .lt 17) 3 14 := ⟨by decide +kernel, rfl⟩
theorem x_Mo_tray_14 : DC b_Mo_tray 14 (.iload_n 1) 1 15 := ⟨by decide +kernel, rfl⟩
theorem x_Mo_tray_15 : DC b_Mo_tray 15 (.iconst 4) 1 16 := ⟨by decide +kernel, rfl⟩
theorem x_Mo_tray_16 : DC b_Mo_tray 16 (.if_icmp .ge 12) 3 19 := ⟨by decide +kernel, rfl⟩
theorem x_Mo_tray_19 : DC b_Mo_tray 19 (.iload_n 2) 1 20 := ⟨by decide +kernel, rfl⟩
theorem x_Mo_tray_20 : DC b_Mo_tray 20 (.ifCond .lt 8) 3 23 := ⟨by decide +kernel, rfl⟩
theorem x_Mo_tray_23 : DC b_Mo_tray 23 (.iload_n 2) 1 24 := ⟨by decide +kernel, rfl⟩
theorem x_Mo_tray_24 : DC b_Mo_tray 24 (.iconst 3) 1 25 := ⟨by decide +kernel, rfl⟩
theorem x_Mo_tray_25 : DC b_Mo_tray 25 (.if_icmp .le 9) 3 28 := ⟨by decide +kernel, rfl⟩
theorem x_Mo_tray_28 : DC b_Mo_tray 28 (.aload_n 0) 1 29 := ⟨by decide +kernel, rfl⟩
theorem x_Mo_tray_29 : DC b_Mo_tray 29 (.iconst 1) 1 30 := ⟨by decide +kernel, rfl⟩
theorem x_Mo_tray_30 : DC b_Mo_tray 30 (.invokevirtual 273) 3 33 := ⟨by decide +kernel, rfl⟩
theorem x_Mo_tray_33 : DC b_Mo_tray 33 (.ireturn) 1 34 := ⟨by decide +kernel, rfl⟩
theorem x_Mo_tray_34 : DC b_Mo_tray 34 (.iload_n 3) 1 35 := ⟨by decide +kernel, rfl⟩
theorem x_Mo_tray_35 : DC b_Mo_tray 35 (.bipush 40) 2 37 := ⟨by decide +kernel, rfl⟩
theorem x_Mo_tray_37 : DC b_Mo_tray 37 (.if_icmp .le 9) 3 40 := ⟨by decide +kernel, rfl⟩
theorem x_Mo_tray_40 : DC b_Mo_tray 40 (.aload_n 0) 1 41 := ⟨by decide +kernel, rfl⟩
theorem x_Mo_tray_41 : DC b_Mo_tray 41 (.iconst 5) 1 42 := ⟨by decide +kernel, rfl⟩
theorem x_Mo_tray_42 : DC b_Mo_tray 42 (.invokevirtual 273) 3 45 := ⟨by decide +kernel, rfl⟩
theorem x_Mo_tray_45 : DC b_Mo_tray 45 (.ireturn) 1 46 := ⟨by decide +kernel, rfl⟩
theorem x_Mo_tray_46 : DC b_Mo_tray 46 (.iload_n 3) 1 47 := ⟨by decide +kernel, rfl⟩
theorem x_Mo_tray_47 : DC b_Mo_tray 47 (.ifCond .ge 10) 3 50 := ⟨by decide +kernel, rfl⟩
theorem x_Mo_tray_50 : DC b_Mo_tray 50 (.aload_n 0) 1 51 := ⟨by decide +kernel, rfl⟩
theorem x_Mo_tray_51 : DC b_Mo_tray 51 (.bipush 6) 2 53 := ⟨by decide +kernel, rfl⟩
theorem x_Mo_tray_53 : DC b_Mo_tray 53 (.invokevirtual 273) 3 56 := ⟨by decide +kernel, rfl⟩
theorem x_Mo_tray_56 : DC b_Mo_tray 56 (.ireturn) 1 57 := ⟨by decide +kernel, rfl⟩
theorem x_Mo_tray_57 : DC b_Mo_tray 57 (.aload_n 0) 1 58 := ⟨by decide +kernel, rfl⟩
theorem x_Mo_tray_58 : DC b_Mo_tray 58 (.getfield 7) 3 61 := ⟨by decide +kernel, rfl⟩
theorem x_Mo_tray_61 : DC b_Mo_tray 61 (.iload_n 1) 1 62 := ⟨by decide +kernel, rfl⟩
theorem x_Mo_tray_62 : DC b_Mo_tray 62 (.iload_n 2) 1 63 := ⟨by decide +kernel, rfl⟩
theorem x_Mo_tray_63 : DC b_Mo_tray 63 (.iastore) 1 64 := ⟨by decide +kernel, rfl⟩
theorem x_Mo_tray_64 : DC b_Mo_tray 64 (.aload_n 0) 1 65 := ⟨by decide +kernel, rfl⟩
theorem x_Mo_tray_65 : DC b_Mo_tray 65 (.getfield 13) 3 68 := ⟨by decide +kernel, rfl⟩
theorem x_Mo_tray_68 : DC b_Mo_tray 68 (.iload_n 1) 1 69 := ⟨by decide +kernel, rfl⟩
theorem x_Mo_tray_69 : DC b_Mo_tray 69 (.iload_n 3) 1 70 := ⟨by decide +kernel, rfl⟩
theorem x_Mo_tray_70 : DC b_Mo_tray 70 (.iastore) 1 71 := ⟨by decide +kernel, rfl⟩
theorem x_Mo_tray_71 : DC b_Mo_tray 71 (.iconst 0) 1 72 := ⟨by decide +kernel, rfl⟩
theorem x_Mo_tray_72 : DC b_Mo_tray 72 (.istore 4) 2 74 := ⟨by decide +kernel, rfl⟩
theorem x_Mo_tray_74 : DC b_Mo_tray 74 (.iload 4) 2 76 := ⟨by decide +kernel, rfl⟩
theorem x_Mo_tray_76 : DC b_Mo_tray 76 (.iload_n 3) 1 77 := ⟨by decide +kernel, rfl⟩
theorem x_Mo_tray_77 : DC b_Mo_tray 77 (.if_icmp .ge 22) 3 80 := ⟨by decide +kernel, rfl⟩
theorem x_Mo_tray_80 : DC b_Mo_tray 80 (.aload_n 0) 1 81 := ⟨by decide +kernel, rfl⟩
theorem x_Mo_tray_81 : DC b_Mo_tray 81 (.getfield 16) 3 84 := ⟨by decide +kernel, rfl⟩
theorem x_Mo_tray_84 : DC b_Mo_tray 84 (.bipush 40) 2 86 := ⟨by decide +kernel, rfl⟩
theorem x_Mo_tray_86 : DC b_Mo_tray 86 (.iload_n 1) 1 87 := ⟨by decide +kernel, rfl⟩
theorem x_Mo_tray_87 : DC b_Mo_tray 87 (.imul) 1 88 := ⟨by decide +kernel, rfl⟩
theorem x_Mo_tray_88 : DC b_Mo_tray 88 (.iload 4) 2 90 := ⟨by decide +kernel, rfl⟩
theorem x_Mo_tray_90 : DC b_Mo_tray 90 (.iadd) 1 91 := ⟨by decide +kernel, rfl⟩
theorem x_Mo_tray_91 : DC b_Mo_tray 91 (.lconst 0) 1 92 := ⟨by decide +kernel, rfl⟩
theorem x_Mo_tray_92 : DC b_Mo_tray 92 (.lastore) 1 93 := ⟨by decide +kernel, rfl⟩
theorem x_Mo_tray_93 : DC b_Mo_tray 93 (.iinc 4 1) 3 96 := ⟨by decide +kernel, rfl⟩
theorem x_Mo_tray_96 : DC b_Mo_tray 96 (.goto (-22)) 3 99 := ⟨by decide +kernel, rfl⟩
theorem x_Mo_tray_99 : DC b_Mo_tray 99 (.iconst 1) 1 100 := ⟨by decide +kernel, rfl⟩
theorem x_Mo_tray_100 : DC b_Mo_tray 100 (.ireturn) 1 101 := ⟨by decide +kernel, rfl⟩
def k_Mo_tray_74 (R74 : Int → Int → Int → Mem → Res) (a1 a3 a4 : Int) (M : Mem) : Res := if w32 a4 < w32 a3 then (chk (0 ≤ w32 ((40 * a1) + a4) ∧ w32 ((40 * a1) + a4) < 160) <| blet (sto M 114 (ix ((40 * a1) + a4)) 0) fun M3 => blet (a4 + 1) fun v4 => R74 a1 a3 v4 M3) else (some (1, M))
theorem z_Mo_tray_74 (C : Cx p s m args meth c G b_Mo_tray 5 "PrairiePoolModel" (some .boolean)) (hlev : 1 ≤ lev) {r : Int × Mem} {R74 : Int → Int → Int → Mem → Res} (hR74 : ∀ (a1 a3 a4 : Int) (M : Mem), R74 a1 a3 a4 M = some r → Z p l e lev s m args below meth c G 5 (MQ below (Qm G 1 r) args s 0 0 (Ab G)) M 74 [(0, .ref (G.1 + 111)), (1, vi a1), (3, vi a3), (4, vi a4)] []) {a1 a3 a4 : Int} {M : Mem} (h : k_Mo_tray_74 R74 a1 a3 a4 M = some r) : Z p l e lev s m args below meth c G 5 (MQ below (Qm G 1 r) args s 0 0 (Ab G)) M 74 [(0, .ref (G.1 + 111)), (1, vi a1), (3, vi a3), (4, vi a4)] [] := by
  unfold k_Mo_tray_74 at h
  refine z_iload C 3 x_Mo_tray_74 rfl ?_
  refine z_iload_n C 2 x_Mo_tray_76 rfl ?_
  rcases ite_e h with ⟨c1, h⟩ | ⟨c1, h⟩
  · refine z_icmp_ge_f (tgt := 99) C x_Mo_tray_77 rfl c1 ?_
    refine z_aload_n C 0 x_Mo_tray_80 rfl ?_
    refine z_getR (j := 4) C x_Mo_tray_81 nk_111 ck_111 cw_12 (i_lt rfl) rfl rf_111_4 rfl fl_Mo_16 ?_
    refine z_bipush C rfl x_Mo_tray_84 ?_
    refine z_iload_n C 1 x_Mo_tray_86 rfl ?_
    refine z_imul C x_Mo_tray_87 ?_
    refine z_iload C 3 x_Mo_tray_88 rfl ?_
    refine z_iadd C x_Mo_tray_90 ?_
    refine z_lconst0 C x_Mo_tray_91 ?_
    obtain ⟨c2, h⟩ := chk_e h
    obtain ⟨M3, eM3, h⟩ := blet_e h
    refine z_last C x_Mo_tray_92 nk_114 ck_114 c2 eM3 ?_
    obtain ⟨v4, ev4, h⟩ := blet_e h
    refine z_iinc (lv' := [(4, vi v4), (0, .ref (G.1 + 111)), (1, vi a1), (3, vi a3)]) C 3 ev4 x_Mo_tray_93 rfl (i_lt rfl) rfl ?_
    refine z_goto (tgt := 74) C x_Mo_tray_96 rfl ?_
    exact z_sub [1, 2, 3, 0] rfl (hR74 a1 a3 v4 M3 h)
  · refine z_icmp_ge_t (tgt := 99) C x_Mo_tray_77 rfl c1 ?_
    refine z_iconst C x_Mo_tray_99 ?_
    exact z_zret C x_Mo_tray_100 (by decide) h
theorem zl_Mo_tray_74 (C : Cx p s m args meth c G b_Mo_tray 5 "PrairiePoolModel" (some .boolean)) (hlev : 1 ≤ lev) {r : Int × Mem}  : ∀ (n : Nat) (a1 a3 a4 : Int) (M : Mem), fix (fun _ _ _ _ => none) (k_Mo_tray_74) n a1 a3 a4 M = some r → Z p l e lev s m args below meth c G 5 (MQ below (Qm G 1 r) args s 0 0 (Ab G)) M 74 [(0, .ref (G.1 + 111)), (1, vi a1), (3, vi a3), (4, vi a4)] [] := by
  intro n
  induction n with
  | zero => intro a1 a3 a4 M h; exact nomatch (show (none : Res) = some r from h)
  | succ n ih => intro a1 a3 a4 M h; exact z_Mo_tray_74 C hlev ih h
def k_Mo_tray_28 (M : Mem) : Res := bcall (d_Mo_no 1 M) fun v1 M2 => chk (w32 v1 = 0 ∨ w32 v1 = 1) <| some (v1, M2)
theorem z_Mo_tray_28 (C : Cx p s m args meth c G b_Mo_tray 5 "PrairiePoolModel" (some .boolean)) (hlev : 1 ≤ lev) {r : Int × Mem}  {M : Mem} (h : k_Mo_tray_28 M = some r) : Z p l e lev s m args below meth c G 5 (MQ below (Qm G 1 r) args s 0 0 (Ab G)) M 28 [(0, .ref (G.1 + 111))] [] := by
  unfold k_Mo_tray_28 at h
  refine z_aload_n C 0 x_Mo_tray_28 rfl ?_
  refine z_iconst C x_Mo_tray_29 ?_
  obtain ⟨v1, M2, fv1, h⟩ := bcall_e h
  refine z_callVi (k := 111) C x_Mo_tray_30 cv_Mo_273 (t_Mo_no (lev := lev - 1) l G (by omega) fv1) nk_111 ck_111 rfl (by omega) rfl (i_le rfl) rfl ?_
  obtain ⟨c3, h⟩ := chk_e h
  exact z_zret C x_Mo_tray_33 c3 h
def d_Mo_tray (a1 a2 a3 : Int) (M : Mem) : Res := blet (sto M 111 1 0) fun M1 => blet (sto M1 111 0 0) fun M2 => if w32 a1 < 0 then (k_Mo_tray_28 M2) else (if w32 a1 < 4 then (if w32 a2 < 0 then (k_Mo_tray_28 M2) else (if 3 < w32 a2 then (k_Mo_tray_28 M2) else (if 40 < w32 a3 then (bcall (d_Mo_no 5 M2) fun v8 M9 => chk (w32 v8 = 0 ∨ w32 v8 = 1) <| some (v8, M9)) else (if w32 a3 < 0 then (bcall (d_Mo_no 6 M2) fun v12 M13 => chk (w32 v12 = 0 ∨ w32 v12 = 1) <| some (v12, M13)) else (chk (0 ≤ w32 a1 ∧ w32 a1 < 4) <| blet (sto M2 112 (ix a1) a2) fun M16 => chk (0 ≤ w32 a1 ∧ w32 a1 < 4) <| blet (sto M16 113 (ix a1) a3) fun M18 => fix (fun _ _ _ _ => none) (k_Mo_tray_74) FU a1 a3 0 M18))))) else (k_Mo_tray_28 M2))
theorem t_Mo_tray (l : Launch) (G : GX) {lev : Nat} (hlev : 1 ≤ lev) {a1 a2 a3 : Int} {M : Mem} {r : Int × Mem} (h : d_Mo_tray a1 a2 a3 M = some r) : Mt l G y_Mo_tray b_Mo_tray 5 (some .boolean) lev 1 [.ref (G.1 + 111), vi a1, vi a2, vi a3] M r := by
  refine Mt.of (by decide) (i_le rfl) ?_
  intro p e s m args below meth c C
  have C : Cx p s m args meth c G b_Mo_tray 5 "PrairiePoolModel" (some .boolean) := C
  unfold d_Mo_tray at h
  refine z_sub (lv' := [(0, .ref (G.1 + 111)), (1, vi a1), (2, vi a2), (3, vi a3)]) [0, 1, 2, 3] rfl ?_
  refine z_aload_n C 0 x_Mo_tray_0 rfl ?_
  refine z_iconst C x_Mo_tray_1 ?_
  obtain ⟨M1, eM1, h⟩ := blet_e h
  refine z_putI (j := 1) C x_Mo_tray_2 nk_111 ck_111 cw_12 (i_lt rfl) rfl rfl rfl rfl fl_Mo_257 eM1 ?_
  refine z_aload_n C 0 x_Mo_tray_5 rfl ?_
  refine z_iconst C x_Mo_tray_6 ?_
  obtain ⟨M2, eM2, h⟩ := blet_e h
  refine z_putI (j := 0) C x_Mo_tray_7 nk_111 ck_111 cw_12 (i_lt rfl) rfl rfl rfl rfl fl_Mo_260 eM2 ?_
  refine z_iload_n C 1 x_Mo_tray_10 rfl ?_
  rcases ite_e h with ⟨c3, h⟩ | ⟨c3, h⟩
  · refine z_if_lt_t (tgt := 28) C x_Mo_tray_11 rfl c3 ?_
    exact z_sub [0] rfl (z_Mo_tray_28 C hlev h)
  · refine z_if_lt_f (tgt := 28) C x_Mo_tray_11 rfl c3 ?_
    refine z_iload_n C 1 x_Mo_tray_14 rfl ?_
    refine z_iconst C x_Mo_tray_15 ?_
    rcases ite_e h with ⟨c4, h⟩ | ⟨c4, h⟩
    · refine z_icmp_ge_f (tgt := 28) C x_Mo_tray_16 rfl c4 ?_
      refine z_iload_n C 2 x_Mo_tray_19 rfl ?_
      rcases ite_e h with ⟨c5, h⟩ | ⟨c5, h⟩
      · refine z_if_lt_t (tgt := 28) C x_Mo_tray_20 rfl c5 ?_
        exact z_sub [0] rfl (z_Mo_tray_28 C hlev h)
      · refine z_if_lt_f (tgt := 28) C x_Mo_tray_20 rfl c5 ?_
        refine z_iload_n C 2 x_Mo_tray_23 rfl ?_
        refine z_iconst C x_Mo_tray_24 ?_
        rcases ite_e h with ⟨c6, h⟩ | ⟨c6, h⟩
        · refine z_icmp_le_f (tgt := 34) C x_Mo_tray_25 rfl c6 ?_
          exact z_sub [0] rfl (z_Mo_tray_28 C hlev h)
        · refine z_icmp_le_t (tgt := 34) C x_Mo_tray_25 rfl c6 ?_
          refine z_iload_n C 3 x_Mo_tray_34 rfl ?_
          refine z_bipush C rfl x_Mo_tray_35 ?_
          rcases ite_e h with ⟨c7, h⟩ | ⟨c7, h⟩
          · refine z_icmp_le_f (tgt := 46) C x_Mo_tray_37 rfl c7 ?_
            refine z_aload_n C 0 x_Mo_tray_40 rfl ?_
            refine z_iconst C x_Mo_tray_41 ?_
            obtain ⟨v8, M9, fv8, h⟩ := bcall_e h
            refine z_callVi (k := 111) C x_Mo_tray_42 cv_Mo_273 (t_Mo_no (lev := lev - 1) l G (by omega) fv8) nk_111 ck_111 rfl (by omega) rfl (i_le rfl) rfl ?_
            obtain ⟨c10, h⟩ := chk_e h
            exact z_zret C x_Mo_tray_45 c10 h
          · refine z_icmp_le_t (tgt := 46) C x_Mo_tray_37 rfl c7 ?_
            refine z_iload_n C 3 x_Mo_tray_46 rfl ?_
            rcases ite_e h with ⟨c11, h⟩ | ⟨c11, h⟩
            · refine z_if_ge_f (tgt := 57) C x_Mo_tray_47 rfl c11 ?_
              refine z_aload_n C 0 x_Mo_tray_50 rfl ?_
              refine z_bipush C rfl x_Mo_tray_51 ?_
              obtain ⟨v12, M13, fv12, h⟩ := bcall_e h
              refine z_callVi (k := 111) C x_Mo_tray_53 cv_Mo_273 (t_Mo_no (lev := lev - 1) l G (by omega) fv12) nk_111 ck_111 rfl (by omega) rfl (i_le rfl) rfl ?_
              obtain ⟨c14, h⟩ := chk_e h
              exact z_zret C x_Mo_tray_56 c14 h
            · refine z_if_ge_t (tgt := 57) C x_Mo_tray_47 rfl c11 ?_
              refine z_aload_n C 0 x_Mo_tray_57 rfl ?_
              refine z_getR (j := 2) C x_Mo_tray_58 nk_111 ck_111 cw_12 (i_lt rfl) rfl rf_111_2 rfl fl_Mo_7 ?_
              refine z_iload_n C 1 x_Mo_tray_61 rfl ?_
              refine z_iload_n C 2 x_Mo_tray_62 rfl ?_
              obtain ⟨c15, h⟩ := chk_e h
              obtain ⟨M16, eM16, h⟩ := blet_e h
              refine z_iast C x_Mo_tray_63 nk_112 ck_112 c15 eM16 ?_
              refine z_aload_n C 0 x_Mo_tray_64 rfl ?_
              refine z_getR (j := 3) C x_Mo_tray_65 nk_111 ck_111 cw_12 (i_lt rfl) rfl rf_111_3 rfl fl_Mo_13 ?_
              refine z_iload_n C 1 x_Mo_tray_68 rfl ?_
              refine z_iload_n C 3 x_Mo_tray_69 rfl ?_
              obtain ⟨c17, h⟩ := chk_e h
              obtain ⟨M18, eM18, h⟩ := blet_e h
              refine z_iast C x_Mo_tray_70 nk_113 ck_113 c17 eM18 ?_
              refine z_iconst C x_Mo_tray_71 ?_
              refine z_istore (lv' := [(4, vi 0), (0, .ref (G.1 + 111)), (1, vi a1), (2, vi a2), (3, vi a3)]) C rfl x_Mo_tray_72 (i_lt rfl) rfl ?_
              exact z_sub [1, 2, 4, 0] rfl (zl_Mo_tray_74 C hlev FU a1 a3 0 M18 h)
    · refine z_icmp_ge_t (tgt := 28) C x_Mo_tray_16 rfl c4 ?_
      exact z_sub [0] rfl (z_Mo_tray_28 C hlev h)
theorem x_Mo_trayed_0 : DC b_Mo_trayed 0 (.iload_n 1) 1 1 := ⟨by decide +kernel, rfl⟩
theorem x_Mo_trayed_1 : DC b_Mo_trayed 1 (.ifCond .lt 8) 3 4 := ⟨by decide +kernel, rfl⟩
theorem x_Mo_trayed_4 : DC b_Mo_trayed 4 (.iload_n 1) 1 5 := ⟨by decide +kernel, rfl⟩
theorem x_Mo_trayed_5 : DC b_Mo_trayed 5 (.iconst 4) 1 6 := ⟨by decide +kernel, rfl⟩
theorem x_Mo_trayed_6 : DC b_Mo_trayed 6 (.if_icmp .lt 7) 3 9 := ⟨by decide +kernel, rfl⟩
theorem x_Mo_trayed_9 : DC b_Mo_trayed 9 (.iconst 1) 1 10 := ⟨by decide +kernel, rfl⟩
theorem x_Mo_trayed_10 : DC b_Mo_trayed 10 (.goto 17) 3 13 := ⟨by decide +kernel, rfl⟩
theorem x_Mo_trayed_13 : DC b_Mo_trayed 13 (.aload_n 0) 1 14 := ⟨by decide +kernel, rfl⟩
theorem x_Mo_trayed_14 : DC b_Mo_trayed 14 (.getfield 13) 3 17 := ⟨by decide +kernel, rfl⟩
theorem x_Mo_trayed_17 : DC b_Mo_trayed 17 (.iload_n 1) 1 18 := ⟨by decide +kernel, rfl⟩
theorem x_Mo_trayed_18 : DC b_Mo_trayed 18 (.iaload) 1 19 := ⟨by decide +kernel, rfl⟩
theorem x_Mo_trayed_19 : DC b_Mo_trayed 19 (.ifCond .ge 7) 3 22 := ⟨by decide +kernel, rfl⟩
theorem x_Mo_trayed_22 : DC b_Mo_trayed 22 (.iconst 3) 1 23 := ⟨by decide +kernel, rfl⟩
theorem x_Mo_trayed_23 : DC b_Mo_trayed 23 (.goto 4) 3 26 := ⟨by decide +kernel, rfl⟩
theorem x_Mo_trayed_26 : DC b_Mo_trayed 26 (.iconst 0) 1 27 := ⟨by decide +kernel, rfl⟩
theorem x_Mo_trayed_27 : DC b_Mo_trayed 27 (.ireturn) 1 28 := ⟨by decide +kernel, rfl⟩
def k_Mo_trayed_9 (M : Mem) : Res := some (1, M)
theorem z_Mo_trayed_9 (C : Cx p s m args meth c G b_Mo_trayed 2 "PrairiePoolModel" (some .int)) (hlev : 0 ≤ lev) {r : Int × Mem}  {M : Mem} (h : k_Mo_trayed_9 M = some r) : Z p l e lev s m args below meth c G 2 (MQ below (Qm G 1 r) args s 0 0 (Ab G)) M 9 [] [] := by
  unfold k_Mo_trayed_9 at h
  refine z_iconst C x_Mo_trayed_9 ?_
  refine z_goto (tgt := 27) C x_Mo_trayed_10 rfl ?_
  exact z_iret C x_Mo_trayed_27 h
def d_Mo_trayed (a1 : Int) (M : Mem) : Res := if w32 a1 < 0 then (k_Mo_trayed_9 M) else (if w32 a1 < 4 then (chk (0 ≤ w32 a1 ∧ w32 a1 < 4) <| blet (M 113 (ix a1)) fun v4 => if w32 v4 < 0 then (some (3, M)) else (some (0, M))) else (k_Mo_trayed_9 M))
theorem t_Mo_trayed (l : Launch) (G : GX) {lev : Nat} (hlev : 0 ≤ lev) {a1 : Int} {M : Mem} {r : Int × Mem} (h : d_Mo_trayed a1 M = some r) : Mt l G y_Mo_trayed b_Mo_trayed 2 (some .int) lev 1 [.ref (G.1 + 111), vi a1] M r := by
  refine Mt.of (by decide) (i_le rfl) ?_
  intro p e s m args below meth c C
  have C : Cx p s m args meth c G b_Mo_trayed 2 "PrairiePoolModel" (some .int) := C
  unfold d_Mo_trayed at h
  refine z_sub (lv' := [(0, .ref (G.1 + 111)), (1, vi a1)]) [0, 1] rfl ?_
  refine z_iload_n C 1 x_Mo_trayed_0 rfl ?_
  rcases ite_e h with ⟨c1, h⟩ | ⟨c1, h⟩
  · refine z_if_lt_t (tgt := 9) C x_Mo_trayed_1 rfl c1 ?_
    exact z_sub [] rfl (z_Mo_trayed_9 C hlev h)
  · refine z_if_lt_f (tgt := 9) C x_Mo_trayed_1 rfl c1 ?_
    refine z_iload_n C 1 x_Mo_trayed_4 rfl ?_
    refine z_iconst C x_Mo_trayed_5 ?_
    rcases ite_e h with ⟨c2, h⟩ | ⟨c2, h⟩
    · refine z_icmp_lt_t (tgt := 13) C x_Mo_trayed_6 rfl c2 ?_
      refine z_aload_n C 0 x_Mo_trayed_13 rfl ?_
      refine z_getR (j := 3) C x_Mo_trayed_14 nk_111 ck_111 cw_12 (i_lt rfl) rfl rf_111_3 rfl fl_Mo_13 ?_
      refine z_iload_n C 1 x_Mo_trayed_17 rfl ?_
      obtain ⟨c3, h⟩ := chk_e h
      obtain ⟨v4, ev4, h⟩ := blet_e h
      refine z_iald C x_Mo_trayed_18 nk_113 ck_113 c3 ev4 ?_
      rcases ite_e h with ⟨c5, h⟩ | ⟨c5, h⟩
      · refine z_if_ge_f (tgt := 26) C x_Mo_trayed_19 rfl c5 ?_
        refine z_iconst C x_Mo_trayed_22 ?_
        refine z_goto (tgt := 27) C x_Mo_trayed_23 rfl ?_
        exact z_iret C x_Mo_trayed_27 h
      · refine z_if_ge_t (tgt := 26) C x_Mo_trayed_19 rfl c5 ?_
        refine z_iconst C x_Mo_trayed_26 ?_
        exact z_iret C x_Mo_trayed_27 h
    · refine z_icmp_lt_f (tgt := 13) C x_Mo_trayed_6 rfl c2 ?_
      exact z_sub [] rfl (z_Mo_trayed_9 C hlev h)
theorem x_Mo_placed_0 : DC b_Mo_placed 0 (.aload_n 0) 1 1 := ⟨by decide +kernel, rfl⟩
theorem x_Mo_placed_1 : DC b_Mo_placed 1 (.iload_n 1) 1 2 := ⟨by decide +kernel, rfl⟩
theorem x_Mo_placed_2 : DC b_Mo_placed 2 (.invokevirtual 277) 3 5 := ⟨by decide +kernel, rfl⟩
theorem x_Mo_placed_5 : DC b_Mo_placed 5 (.istore_n 3) 1 6 := ⟨by decide +kernel, rfl⟩
theorem x_Mo_placed_6 : DC b_Mo_placed 6 (.iload_n 3) 1 7 := ⟨by decide +kernel, rfl⟩
theorem x_Mo_placed_7 : DC b_Mo_placed 7 (.ifCond .le 7) 3 10 := ⟨by decide +kernel, rfl⟩
theorem x_Mo_placed_10 : DC b_Mo_placed 10 (.iload_n 3) 1 11 := ⟨by decide +kernel, rfl⟩
theorem x_Mo_placed_11 : DC b_Mo_placed 11 (.goto 22) 3 14 := ⟨by decide +kernel, rfl⟩
theorem x_Mo_placed_14 : DC b_Mo_placed 14 (.iload_n 2) 1 15 := ⟨by decide +kernel, rfl⟩
theorem x_Mo_placed_15 : DC b_Mo_placed 15 (.ifCond .lt 13) 3 18 := ⟨by decide +kernel, rfl⟩
theorem x_Mo_placed_18 : DC b_Mo_placed 18 (.iload_n 2) 1 19 := ⟨by decide +kernel, rfl⟩
theorem x_Mo_placed_19 : DC b_Mo_placed 19 (.aload_n 0) 1 20 := ⟨by decide +kernel, rfl⟩
theorem x_Mo_placed_20 : DC b_Mo_placed 20 (.getfield 13) 3 23 := ⟨by decide +kernel, rfl⟩
theorem x_Mo_placed_23 : DC b_Mo_placed 23 (.iload_n 1) 1 24 := ⟨by decide +kernel, rfl⟩
theorem x_Mo_placed_24 : DC b_Mo_placed 24 (.iaload) 1 25 := ⟨by decide +kernel, rfl⟩
theorem x_Mo_placed_25 : DC b_Mo_placed 25 (.if_icmp .lt 7) 3 28 := ⟨by decide +kernel, rfl⟩
theorem x_Mo_placed_28 : DC b_Mo_placed 28 (.iconst 4) 1 29 := ⟨by decide +kernel, rfl⟩
theorem x_Mo_placed_29 : DC b_Mo_placed 29 (.goto 4) 3 32 := ⟨by decide +kernel, rfl⟩
theorem x_Mo_placed_32 : DC b_Mo_placed 32 (.iconst 0) 1 33 := ⟨by decide +kernel, rfl⟩
theorem x_Mo_placed_33 : DC b_Mo_placed 33 (.ireturn) 1 34 := ⟨by decide +kernel, rfl⟩
def k_Mo_placed_28 (M : Mem) : Res := some (4, M)
theorem z_Mo_placed_28 (C : Cx p s m args meth c G b_Mo_placed 4 "PrairiePoolModel" (some .int)) (hlev : 1 ≤ lev) {r : Int × Mem}  {M : Mem} (h : k_Mo_placed_28 M = some r) : Z p l e lev s m args below meth c G 4 (MQ below (Qm G 1 r) args s 0 0 (Ab G)) M 28 [] [] := by
  unfold k_Mo_placed_28 at h
  refine z_iconst C x_Mo_placed_28 ?_
  refine z_goto (tgt := 33) C x_Mo_placed_29 rfl ?_
  exact z_iret C x_Mo_placed_33 h
def d_Mo_placed (a1 a2 : Int) (M : Mem) : Res := bcall (d_Mo_trayed a1 M) fun v1 M2 => if 0 < w32 v1 then (some (v1, M2)) else (if w32 a2 < 0 then (k_Mo_placed_28 M2) else (chk (0 ≤ w32 a1 ∧ w32 a1 < 4) <| blet (M2 113 (ix a1)) fun v6 => if w32 a2 < w32 v6 then (some (0, M2)) else (k_Mo_placed_28 M2)))
theorem t_Mo_placed (l : Launch) (G : GX) {lev : Nat} (hlev : 1 ≤ lev) {a1 a2 : Int} {M : Mem} {r : Int × Mem} (h : d_Mo_placed a1 a2 M = some r) : Mt l G y_Mo_placed b_Mo_placed 4 (some .int) lev 1 [.ref (G.1 + 111), vi a1, vi a2] M r := by
  refine Mt.of (by decide) (i_le rfl) ?_
  intro p e s m args below meth c C
  have C : Cx p s m args meth c G b_Mo_placed 4 "PrairiePoolModel" (some .int) := C
  unfold d_Mo_placed at h
  refine z_sub (lv' := [(0, .ref (G.1 + 111)), (1, vi a1), (2, vi a2)]) [0, 1, 2] rfl ?_
  refine z_aload_n C 0 x_Mo_placed_0 rfl ?_
  refine z_iload_n C 1 x_Mo_placed_1 rfl ?_
  obtain ⟨v1, M2, fv1, h⟩ := bcall_e h
  refine z_callVi (k := 111) C x_Mo_placed_2 cv_Mo_277 (t_Mo_trayed (lev := lev - 1) l G (by omega) fv1) nk_111 ck_111 rfl (by omega) rfl (i_le rfl) rfl ?_
  refine z_istore_n (lv' := [(3, vi v1), (0, .ref (G.1 + 111)), (1, vi a1), (2, vi a2)]) C rfl x_Mo_placed_5 (i_lt rfl) rfl ?_
  refine z_iload_n C 0 x_Mo_placed_6 rfl ?_
  rcases ite_e h with ⟨c3, h⟩ | ⟨c3, h⟩
  · refine z_if_le_f (tgt := 14) C x_Mo_placed_7 rfl c3 ?_
    refine z_iload_n C 0 x_Mo_placed_10 rfl ?_
    refine z_goto (tgt := 33) C x_Mo_placed_11 rfl ?_
    exact z_iret C x_Mo_placed_33 h
  · refine z_if_le_t (tgt := 14) C x_Mo_placed_7 rfl c3 ?_
    refine z_iload_n C 3 x_Mo_placed_14 rfl ?_
    rcases ite_e h with ⟨c4, h⟩ | ⟨c4, h⟩
    · refine z_if_lt_t (tgt := 28) C x_Mo_placed_15 rfl c4 ?_
      exact z_sub [] rfl (z_Mo_placed_28 C hlev h)
    · refine z_if_lt_f (tgt := 28) C x_Mo_placed_15 rfl c4 ?_
      refine z_iload_n C 3 x_Mo_placed_18 rfl ?_
      refine z_aload_n C 1 x_Mo_placed_19 rfl ?_
      refine z_getR (j := 3) C x_Mo_placed_20 nk_111 ck_111 cw_12 (i_lt rfl) rfl rf_111_3 rfl fl_Mo_13 ?_
      refine z_iload_n C 2 x_Mo_placed_23 rfl ?_
      obtain ⟨c5, h⟩ := chk_e h
      obtain ⟨v6, ev6, h⟩ := blet_e h
      refine z_iald C x_Mo_placed_24 nk_113 ck_113 c5 ev6 ?_
      rcases ite_e h with ⟨c7, h⟩ | ⟨c7, h⟩
      · refine z_icmp_lt_t (tgt := 32) C x_Mo_placed_25 rfl c7 ?_
        refine z_iconst C x_Mo_placed_32 ?_
        exact z_iret C x_Mo_placed_33 h
      · refine z_icmp_lt_f (tgt := 32) C x_Mo_placed_25 rfl c7 ?_
        exact z_sub [] rfl (z_Mo_placed_28 C hlev h)
theorem x_Mo_cut0_0 : DC b_Mo_cut0 0 (.iload_n 0) 1 1 := ⟨by decide +kernel, rfl⟩
theorem x_Mo_cut0_1 : DC b_Mo_cut0 1 (.ifCond .ne 10) 3 4 := ⟨by decide +kernel, rfl⟩
theorem x_Mo_cut0_4 : DC b_Mo_cut0 4 (.lload_n 1) 1 5 := ⟨by decide +kernel, rfl⟩
theorem x_Mo_cut0_5 : DC b_Mo_cut0 5 (.l2i) 1 6 := ⟨by decide +kernel, rfl⟩
theorem x_Mo_cut0_6 : DC b_Mo_cut0 6 (.i2b) 1 7 := ⟨by decide +kernel, rfl⟩
theorem x_Mo_cut0_7 : DC b_Mo_cut0 7 (.i2l) 1 8 := ⟨by decide +kernel, rfl⟩
theorem x_Mo_cut0_8 : DC b_Mo_cut0 8 (.goto 27) 3 11 := ⟨by decide +kernel, rfl⟩
theorem x_Mo_cut0_11 : DC b_Mo_cut0 11 (.iload_n 0) 1 12 := ⟨by decide +kernel, rfl⟩
theorem x_Mo_cut0_12 : DC b_Mo_cut0 12 (.iconst 1) 1 13 := ⟨by decide +kernel, rfl⟩
theorem x_Mo_cut0_13 : DC b_Mo_cut0 13 (.if_icmp .ne 10) 3 16 := ⟨by decide +kernel, rfl⟩
theorem x_Mo_cut0_16 : DC b_Mo_cut0 16 (.lload_n 1) 1 17 := ⟨by decide +kernel, rfl⟩
theorem x_Mo_cut0_17 : DC b_Mo_cut0 17 (.l2i) 1 18 := ⟨by decide +kernel, rfl⟩
theorem x_Mo_cut0_18 : DC b_Mo_cut0 18 (.i2s) 1 19 := ⟨by decide +kernel, rfl⟩
theorem x_Mo_cut0_19 : DC b_Mo_cut0 19 (.i2l) 1 20 := ⟨by decide +kernel, rfl⟩
theorem x_Mo_cut0_20 : DC b_Mo_cut0 20 (.goto 15) 3 23 := ⟨by decide +kernel, rfl⟩
theorem x_Mo_cut0_23 : DC b_Mo_cut0 23 (.iload_n 0) 1 24 := ⟨by decide +kernel, rfl⟩
theorem x_Mo_cut0_24 : DC b_Mo_cut0 24 (.iconst 2) 1 25 := ⟨by decide +kernel, rfl⟩
theorem x_Mo_cut0_25 : DC b_Mo_cut0 25 (.if_icmp .ne 9) 3 28 := ⟨by decide +kernel, rfl⟩
theorem x_Mo_cut0_28 : DC b_Mo_cut0 28 (.lload_n 1) 1 29 := ⟨by decide +kernel, rfl⟩
theorem x_Mo_cut0_29 : DC b_Mo_cut0 29 (.l2i) 1 30 := ⟨by decide +kernel, rfl⟩
theorem x_Mo_cut0_30 : DC b_Mo_cut0 30 (.i2l) 1 31 := ⟨by decide +kernel, rfl⟩
theorem x_Mo_cut0_31 : DC b_Mo_cut0 31 (.goto 4) 3 34 := ⟨by decide +kernel, rfl⟩
theorem x_Mo_cut0_34 : DC b_Mo_cut0 34 (.lload_n 1) 1 35 := ⟨by decide +kernel, rfl⟩
theorem x_Mo_cut0_35 : DC b_Mo_cut0 35 (.lreturn) 1 36 := ⟨by decide +kernel, rfl⟩
def d_Mo_cut0 (a0 a1 : Int) (M : Mem) : Res := if w32 a0 = 0 then (some (w32 (w8 a1), M)) else (if w32 a0 = 1 then (some (w32 (w16 a1), M)) else (if w32 a0 = 2 then (some (w32 a1, M)) else (some (a1, M))))
theorem t_Mo_cut0 (l : Launch) (G : GX) {lev : Nat} (hlev : 0 ≤ lev) {a0 a1 : Int} {M : Mem} {r : Int × Mem} (h : d_Mo_cut0 a0 a1 M = some r) : Mt l G y_Mo_cut0 b_Mo_cut0 3 (some .long) lev 2 [vi a0, vl a1] M r := by
  refine Mt.of (by decide) (i_le rfl) ?_
  intro p e s m args below meth c C
  have C : Cx p s m args meth c G b_Mo_cut0 3 "PrairiePoolModel" (some .long) := C
  unfold d_Mo_cut0 at h
  refine z_sub (lv' := [(0, vi a0), (1, vl a1)]) [0, 1] rfl ?_
  refine z_iload_n C 0 x_Mo_cut0_0 rfl ?_
  rcases ite_e h with ⟨c1, h⟩ | ⟨c1, h⟩
  · refine z_if_ne_f (tgt := 11) C x_Mo_cut0_1 rfl c1 ?_
    refine z_lload_n C 1 x_Mo_cut0_4 rfl ?_
    refine z_l2i C x_Mo_cut0_5 ?_
    refine z_i2b C x_Mo_cut0_6 ?_
    refine z_i2l C x_Mo_cut0_7 ?_
    refine z_goto (tgt := 35) C x_Mo_cut0_8 rfl ?_
    exact z_lret C x_Mo_cut0_35 h
  · refine z_if_ne_t (tgt := 11) C x_Mo_cut0_1 rfl c1 ?_
    refine z_iload_n C 0 x_Mo_cut0_11 rfl ?_
    refine z_iconst C x_Mo_cut0_12 ?_
    rcases ite_e h with ⟨c2, h⟩ | ⟨c2, h⟩
    · refine z_icmp_ne_f (tgt := 23) C x_Mo_cut0_13 rfl c2 ?_
      refine z_lload_n C 1 x_Mo_cut0_16 rfl ?_
      refine z_l2i C x_Mo_cut0_17 ?_
      refine z_i2s C x_Mo_cut0_18 ?_
      refine z_i2l C x_Mo_cut0_19 ?_
      refine z_goto (tgt := 35) C x_Mo_cut0_20 rfl ?_
      exact z_lret C x_Mo_cut0_35 h
    · refine z_icmp_ne_t (tgt := 23) C x_Mo_cut0_13 rfl c2 ?_
      refine z_iload_n C 0 x_Mo_cut0_23 rfl ?_
      refine z_iconst C x_Mo_cut0_24 ?_
      rcases ite_e h with ⟨c3, h⟩ | ⟨c3, h⟩
      · refine z_icmp_ne_f (tgt := 34) C x_Mo_cut0_25 rfl c3 ?_
        refine z_lload_n C 1 x_Mo_cut0_28 rfl ?_
        refine z_l2i C x_Mo_cut0_29 ?_
        refine z_i2l C x_Mo_cut0_30 ?_
        refine z_goto (tgt := 35) C x_Mo_cut0_31 rfl ?_
        exact z_lret C x_Mo_cut0_35 h
      · refine z_icmp_ne_t (tgt := 34) C x_Mo_cut0_25 rfl c3 ?_
        refine z_lload_n C 1 x_Mo_cut0_34 rfl ?_
        exact z_lret C x_Mo_cut0_35 h
theorem x_Mo_write_0 : DC b_Mo_write 0 (.aload_n 0) 1 1 := ⟨by decide +kernel, rfl⟩
theorem x_Mo_write_1 : DC b_Mo_write 1 (.iconst 0) 1 2 := ⟨by decide +kernel, rfl⟩
theorem x_Mo_write_2 : DC b_Mo_write 2 (.putfield 257) 3 5 := ⟨by decide +kernel, rfl⟩
theorem x_Mo_write_5 : DC b_Mo_write 5 (.aload_n 0) 1 6 := ⟨by decide +kernel, rfl⟩
theorem x_Mo_write_6 : DC b_Mo_write 6 (.aload_n 0) 1 7 := ⟨by decide +kernel, rfl⟩
theorem x_Mo_write_7 : DC b_Mo_write 7 (.iload_n 1) 1 8 := ⟨by decide +kernel, rfl⟩
theorem x_Mo_write_8 : DC b_Mo_write 8 (.iload_n 2) 1 9 := ⟨by decide +kernel, rfl⟩
theorem x_Mo_write_9 : DC b_Mo_write 9 (.invokevirtual 281) 3 12 := ⟨by decide +kernel, rfl⟩
theorem x_Mo_write_12 : DC b_Mo_write 12 (.putfield 260) 3 15 := ⟨by decide +kernel, rfl⟩
theorem x_Mo_write_15 : DC b_Mo_write 15 (.aload_n 0) 1 16 := ⟨by decide +kernel, rfl⟩
theorem x_Mo_write_16 : DC b_Mo_write 16 (.getfield 260) 3 19 := ⟨by decide +kernel, rfl⟩
theorem x_Mo_write_19 : DC b_Mo_write 19 (.ifCond .le 5) 3 22 := ⟨by decide +kernel, rfl⟩
theorem x_Mo_write_22 : DC b_Mo_write 22 (.iconst 0) 1 23 := ⟨by decide +kernel, rfl⟩
theorem x_Mo_write_23 : DC b_Mo_write 23 (.ireturn) 1 24 := ⟨by decide +kernel, rfl⟩
theorem x_Mo_write_24 : DC b_Mo_write 24 (.aload_n 0) 1 25 := ⟨by decide +kernel, rfl⟩
theorem x_Mo_write_25 : DC b_Mo_write 25 (.getfield 16) 3 28 := ⟨by decide +kernel, rfl⟩
theorem x_Mo_write_28 : DC b_Mo_write 28 (.bipush 40) 2 30 := ⟨by decide +kernel, rfl⟩
theorem x_Mo_write_30 : DC b_Mo_write 30 (.iload_n 1) 1 31 := ⟨by decide +kernel, rfl⟩
theorem x_Mo_write_31 : DC b_Mo_write 31 (.imul) 1 32 := ⟨by decide +kernel, rfl⟩
theorem x_Mo_write_32 : DC b_Mo_write 32 (.iload_n 2) 1 33 := ⟨by decide +kernel, rfl⟩
theorem x_Mo_write_33 : DC b_Mo_write 33 (.iadd) 1 34 := ⟨by decide +kernel, rfl⟩
theorem x_Mo_write_34 : DC b_Mo_write 34 (.aload_n 0) 1 35 := ⟨by decide +kernel, rfl⟩
theorem x_Mo_write_35 : DC b_Mo_write 35 (.getfield 7) 3 38 := ⟨by decide +kernel, rfl⟩
theorem x_Mo_write_38 : DC b_Mo_write 38 (.iload_n 1) 1 39 := ⟨by decide +kernel, rfl⟩
theorem x_Mo_write_39 : DC b_Mo_write 39 (.iaload) 1 40 := ⟨by decide +kernel, rfl⟩
theorem x_Mo_write_40 : DC b_Mo_write 40 (.lload_n 3) 1 41 := ⟨by decide +kernel, rfl⟩
theorem x_Mo_write_41 : DC b_Mo_write 41 (.invokestatic 285) 3 44 := ⟨by decide +kernel, rfl⟩
theorem x_Mo_write_44 : DC b_Mo_write 44 (.lastore) 1 45 := ⟨by decide +kernel, rfl⟩
theorem x_Mo_write_45 : DC b_Mo_write 45 (.iconst 1) 1 46 := ⟨by decide +kernel, rfl⟩
theorem x_Mo_write_46 : DC b_Mo_write 46 (.ireturn) 1 47 := ⟨by decide +kernel, rfl⟩
def d_Mo_write (a1 a2 a3 : Int) (M : Mem) : Res := blet (sto M 111 1 0) fun M1 => bcall (d_Mo_placed a1 a2 M1) fun v2 M3 => blet (sto M3 111 0 v2) fun M4 => blet (M4 111 0) fun v5 => if 0 < w32 v5 then (some (0, M4)) else (chk (0 ≤ w32 a1 ∧ w32 a1 < 4) <| blet (M4 112 (ix a1)) fun v8 => bcall (d_Mo_cut0 v8 a3 M4) fun v9 M10 => chk (0 ≤ w32 ((40 * a1) + a2) ∧ w32 ((40 * a1) + a2) < 160) <| blet (sto M10 114 (ix ((40 * a1) + a2)) v9) fun M12 => some (1, M12))
theorem t_Mo_write (l : Launch) (G : GX) {lev : Nat} (hlev : 2 ≤ lev) {a1 a2 a3 : Int} {M : Mem} {r : Int × Mem} (h : d_Mo_write a1 a2 a3 M = some r) : Mt l G y_Mo_write b_Mo_write 5 (some .boolean) lev 1 [.ref (G.1 + 111), vi a1, vi a2, vl a3] M r := by
  refine Mt.of (by decide) (i_le rfl) ?_
  intro p e s m args below meth c C
  have C : Cx p s m args meth c G b_Mo_write 5 "PrairiePoolModel" (some .boolean) := C
  unfold d_Mo_write at h
  refine z_sub (lv' := [(0, .ref (G.1 + 111)), (1, vi a1), (2, vi a2), (3, vl a3)]) [0, 1, 2, 3] rfl ?_
  refine z_aload_n C 0 x_Mo_write_0 rfl ?_
  refine z_iconst C x_Mo_write_1 ?_
  obtain ⟨M1, eM1, h⟩ := blet_e h
  refine z_putI (j := 1) C x_Mo_write_2 nk_111 ck_111 cw_12 (i_lt rfl) rfl rfl rfl rfl fl_Mo_257 eM1 ?_
  refine z_aload_n C 0 x_Mo_write_5 rfl ?_
  refine z_aload_n C 0 x_Mo_write_6 rfl ?_
  refine z_iload_n C 1 x_Mo_write_7 rfl ?_
  refine z_iload_n C 2 x_Mo_write_8 rfl ?_
  obtain ⟨v2, M3, fv2, h⟩ := bcall_e h
  refine z_callVi (k := 111) C x_Mo_write_9 cv_Mo_281 (t_Mo_placed (lev := lev - 1) l G (by omega) fv2) nk_111 ck_111 rfl (by omega) rfl (i_le rfl) rfl ?_
  obtain ⟨M4, eM4, h⟩ := blet_e h
  refine z_putI (j := 0) C x_Mo_write_12 nk_111 ck_111 cw_12 (i_lt rfl) rfl rfl rfl rfl fl_Mo_260 eM4 ?_
  refine z_aload_n C 0 x_Mo_write_15 rfl ?_
  obtain ⟨v5, ev5, h⟩ := blet_e h
  refine z_getI (j := 0) C x_Mo_write_16 nk_111 ck_111 cw_12 (i_lt rfl) rfl rfl fl_Mo_260 ev5 ?_
  rcases ite_e h with ⟨c6, h⟩ | ⟨c6, h⟩
  · refine z_if_le_f (tgt := 24) C x_Mo_write_19 rfl c6 ?_
    refine z_iconst C x_Mo_write_22 ?_
    exact z_zret C x_Mo_write_23 (by decide) h
  · refine z_if_le_t (tgt := 24) C x_Mo_write_19 rfl c6 ?_
    refine z_aload_n C 0 x_Mo_write_24 rfl ?_
    refine z_getR (j := 4) C x_Mo_write_25 nk_111 ck_111 cw_12 (i_lt rfl) rfl rf_111_4 rfl fl_Mo_16 ?_
    refine z_bipush C rfl x_Mo_write_28 ?_
    refine z_iload_n C 1 x_Mo_write_30 rfl ?_
    refine z_imul C x_Mo_write_31 ?_
    refine z_iload_n C 2 x_Mo_write_32 rfl ?_
    refine z_iadd C x_Mo_write_33 ?_
    refine z_aload_n C 0 x_Mo_write_34 rfl ?_
    refine z_getR (j := 2) C x_Mo_write_35 nk_111 ck_111 cw_12 (i_lt rfl) rfl rf_111_2 rfl fl_Mo_7 ?_
    refine z_iload_n C 1 x_Mo_write_38 rfl ?_
    obtain ⟨c7, h⟩ := chk_e h
    obtain ⟨v8, ev8, h⟩ := blet_e h
    refine z_iald C x_Mo_write_39 nk_112 ck_112 c7 ev8 ?_
    refine z_lload_n C 3 x_Mo_write_40 rfl ?_
    obtain ⟨v9, M10, fv9, h⟩ := bcall_e h
    refine z_callSl C x_Mo_write_41 cs_Mo_285 (t_Mo_cut0 (lev := lev - 1) l G (by omega) fv9) (by omega) rfl (i_le rfl) rfl ?_
    obtain ⟨c11, h⟩ := chk_e h
    obtain ⟨M12, eM12, h⟩ := blet_e h
    refine z_last C x_Mo_write_44 nk_114 ck_114 c11 eM12 ?_
    refine z_iconst C x_Mo_write_45 ?_
    exact z_zret C x_Mo_write_46 (by decide) h
theorem x_Mo_read_0 : DC b_Mo_read 0 (.aload_n 0) 1 1 := ⟨by decide +kernel, rfl⟩
theorem x_Mo_read_1 : DC b_Mo_read 1 (.iconst 0) 1 2 := ⟨by decide +kernel, rfl⟩
theorem x_Mo_read_2 : DC b_Mo_read 2 (.putfield 257) 3 5 := ⟨by decide +kernel, rfl⟩
theorem x_Mo_read_5 : DC b_Mo_read 5 (.aload_n 0) 1 6 := ⟨by decide +kernel, rfl⟩
theorem x_Mo_read_6 : DC b_Mo_read 6 (.aload_n 0) 1 7 := ⟨by decide +kernel, rfl⟩
theorem x_Mo_read_7 : DC b_Mo_read 7 (.iload_n 1) 1 8 := ⟨by decide +kernel, rfl⟩
theorem x_Mo_read_8 : DC b_Mo_read 8 (.iload_n 2) 1 9 := ⟨by decide +kernel, rfl⟩
theorem x_Mo_read_9 : DC b_Mo_read 9 (.invokevirtual 281) 3 12 := ⟨by decide +kernel, rfl⟩
theorem x_Mo_read_12 : DC b_Mo_read 12 (.putfield 260) 3 15 := ⟨by decide +kernel, rfl⟩
theorem x_Mo_read_15 : DC b_Mo_read 15 (.aload_n 0) 1 16 := ⟨by decide +kernel, rfl⟩
theorem x_Mo_read_16 : DC b_Mo_read 16 (.getfield 260) 3 19 := ⟨by decide +kernel, rfl⟩
theorem x_Mo_read_19 : DC b_Mo_read 19 (.ifCond .le 9) 3 22 := ⟨by decide +kernel, rfl⟩
theorem x_Mo_read_22 : DC b_Mo_read 22 (.ldc2_w 289) 3 25 := ⟨by decide +kernel, rfl⟩
theorem x_Mo_read_25 : DC b_Mo_read 25 (.goto 14) 3 28 := ⟨by decide +kernel, rfl⟩
theorem x_Mo_read_28 : DC b_Mo_read 28 (.aload_n 0) 1 29 := ⟨by decide +kernel, rfl⟩
theorem x_Mo_read_29 : DC b_Mo_read 29 (.getfield 16) 3 32 := ⟨by decide +kernel, rfl⟩
theorem x_Mo_read_32 : DC b_Mo_read 32 (.bipush 40) 2 34 := ⟨by decide +kernel, rfl⟩
theorem x_Mo_read_34 : DC b_Mo_read 34 (.iload_n 1) 1 35 := ⟨by decide +kernel, rfl⟩
theorem x_Mo_read_35 : DC b_Mo_read 35 (.imul) 1 36 := ⟨by decide +kernel, rfl⟩
theorem x_Mo_read_36 : DC b_Mo_read 36 (.iload_n 2) 1 37 := ⟨by decide +kernel, rfl⟩
theorem x_Mo_read_37 : DC b_Mo_read 37 (.iadd) 1 38 := ⟨by decide +kernel, rfl⟩
theorem x_Mo_read_38 : DC b_Mo_read 38 (.laload) 1 39 := ⟨by decide +kernel, rfl⟩
theorem x_Mo_read_39 : DC b_Mo_read 39 (.lreturn) 1 40 := ⟨by decide +kernel, rfl⟩
def d_Mo_read (a1 a2 : Int) (M : Mem) : Res := blet (sto M 111 1 0) fun M1 => bcall (d_Mo_placed a1 a2 M1) fun v2 M3 => blet (sto M3 111 0 v2) fun M4 => blet (M4 111 0) fun v5 => if 0 < w32 v5 then (some ((-1), M4)) else (chk (0 ≤ w32 ((40 * a1) + a2) ∧ w32 ((40 * a1) + a2) < 160) <| blet (M4 114 (ix ((40 * a1) + a2))) fun v8 => some (v8, M4))
theorem t_Mo_read (l : Launch) (G : GX) {lev : Nat} (hlev : 2 ≤ lev) {a1 a2 : Int} {M : Mem} {r : Int × Mem} (h : d_Mo_read a1 a2 M = some r) : Mt l G y_Mo_read b_Mo_read 3 (some .long) lev 2 [.ref (G.1 + 111), vi a1, vi a2] M r := by
  refine Mt.of (by decide) (i_le rfl) ?_
  intro p e s m args below meth c C
  have C : Cx p s m args meth c G b_Mo_read 3 "PrairiePoolModel" (some .long) := C
  unfold d_Mo_read at h
  refine z_sub (lv' := [(0, .ref (G.1 + 111)), (1, vi a1), (2, vi a2)]) [0, 1, 2] rfl ?_
  refine z_aload_n C 0 x_Mo_read_0 rfl ?_
  refine z_iconst C x_Mo_read_1 ?_
  obtain ⟨M1, eM1, h⟩ := blet_e h
  refine z_putI (j := 1) C x_Mo_read_2 nk_111 ck_111 cw_12 (i_lt rfl) rfl rfl rfl rfl fl_Mo_257 eM1 ?_
  refine z_aload_n C 0 x_Mo_read_5 rfl ?_
  refine z_aload_n C 0 x_Mo_read_6 rfl ?_
  refine z_iload_n C 1 x_Mo_read_7 rfl ?_
  refine z_iload_n C 2 x_Mo_read_8 rfl ?_
  obtain ⟨v2, M3, fv2, h⟩ := bcall_e h
  refine z_callVi (k := 111) C x_Mo_read_9 cv_Mo_281 (t_Mo_placed (lev := lev - 1) l G (by omega) fv2) nk_111 ck_111 rfl (by omega) rfl (i_le rfl) rfl ?_
  obtain ⟨M4, eM4, h⟩ := blet_e h
  refine z_putI (j := 0) C x_Mo_read_12 nk_111 ck_111 cw_12 (i_lt rfl) rfl rfl rfl rfl fl_Mo_260 eM4 ?_
  refine z_aload_n C 0 x_Mo_read_15 rfl ?_
  obtain ⟨v5, ev5, h⟩ := blet_e h
  refine z_getI (j := 0) C x_Mo_read_16 nk_111 ck_111 cw_12 (i_lt rfl) rfl rfl fl_Mo_260 ev5 ?_
  rcases ite_e h with ⟨c6, h⟩ | ⟨c6, h⟩
  · refine z_if_le_f (tgt := 28) C x_Mo_read_19 rfl c6 ?_
    refine z_ldc2 C kl_Mo_289 x_Mo_read_22 ?_
    refine z_goto (tgt := 39) C x_Mo_read_25 rfl ?_
    exact z_lret C x_Mo_read_39 h
  · refine z_if_le_t (tgt := 28) C x_Mo_read_19 rfl c6 ?_
    refine z_aload_n C 0 x_Mo_read_28 rfl ?_
    refine z_getR (j := 4) C x_Mo_read_29 nk_111 ck_111 cw_12 (i_lt rfl) rfl rf_111_4 rfl fl_Mo_16 ?_
    refine z_bipush C rfl x_Mo_read_32 ?_
    refine z_iload_n C 1 x_Mo_read_34 rfl ?_
    refine z_imul C x_Mo_read_35 ?_
    refine z_iload_n C 2 x_Mo_read_36 rfl ?_
    refine z_iadd C x_Mo_read_37 ?_
    obtain ⟨c7, h⟩ := chk_e h
    obtain ⟨v8, ev8, h⟩ := blet_e h
    refine z_lald C x_Mo_read_38 nk_114 ck_114 c7 ev8 ?_
    exact z_lret C x_Mo_read_39 h
theorem x_Mo_pour_0 : DC b_Mo_pour 0 (.aload_n 0) 1 1 := ⟨by decide +kernel, rfl⟩
theorem x_Mo_pour_1 : DC b_Mo_pour 1 (.iconst 0) 1 2 := ⟨by decide +kernel, rfl⟩
theorem x_Mo_pour_2 : DC b_Mo_pour 2 (.putfield 257) 3 5 := ⟨by decide +kernel, rfl⟩
theorem x_Mo_pour_5 : DC b_Mo_pour 5 (.aload_n 0) 1 6 := ⟨by decide +kernel, rfl⟩
theorem x_Mo_pour_6 : DC b_Mo_pour 6 (.iconst 0) 1 7 := ⟨by decide +kernel, rfl⟩
theorem x_Mo_pour_7 : DC b_Mo_pour 7 (.putfield 260) 3 10 := ⟨by decide +kernel, rfl⟩
theorem x_Mo_pour_10 : DC b_Mo_pour 10 (.iload_n 1) 1 11 := ⟨by decide +kernel, rfl⟩
theorem x_Mo_pour_11 : DC b_Mo_pour 11 (.ifCond .lt 17) 3 14 := ⟨by decide +kernel, rfl⟩
theorem x_Mo_pour_14 : DC b_Mo_pour 14 (.iload_n 1) 1 15 := ⟨by decide +kernel, rfl⟩
theorem x_Mo_pour_15 : DC b_Mo_pour 15 (.iconst 4) 1 16 := ⟨by decide +kernel, rfl⟩
theorem x_Mo_pour_16 : DC b_Mo_pour 16 (.if_icmp .ge 12) 3 19 := ⟨by decide +kernel, rfl⟩
theorem x_Mo_pour_19 : DC b_Mo_pour 19 (.iload_n 3) 1 20 := ⟨by decide +kernel, rfl⟩
theorem x_Mo_pour_20 : DC b_Mo_pour 20 (.ifCond .lt 8) 3 23 := ⟨by decide +kernel, rfl⟩
theorem x_Mo_pour_23 : DC b_Mo_pour 23 (.iload_n 3) 1 24 := ⟨by decide +kernel, rfl⟩
theorem x_Mo_pour_24 : DC b_Mo_pour 24 (.iconst 4) 1 25 := ⟨by decide +kernel, rfl⟩
theorem x_Mo_pour_25 : DC b_Mo_pour 25 (.if_icmp .lt 9) 3 28 := ⟨by decide +kernel, rfl⟩
theorem x_Mo_pour_28 : DC b_Mo_pour 28 (.aload_n 0) 1 29 := ⟨by decide +kernel, rfl⟩
theorem x_Mo_pour_29 : DC b_Mo_pour 29 (.iconst 1) 1 30 := ⟨by decide +kernel, rfl⟩
theorem x_Mo_pour_30 : DC b_Mo_pour 30 (.invokevirtual 273) 3 33 := ⟨by decide +kernel, rfl⟩
theorem x_Mo_pour_33 : DC b_Mo_pour 33 (.ireturn) 1 34 := ⟨by decide +kernel, rfl⟩
theorem x_Mo_pour_34 : DC b_Mo_pour 34 (.aload_n 0) 1 35 := ⟨by decide +kernel, rfl⟩
theorem x_Mo_pour_35 : DC b_Mo_pour 35 (.getfield 13) 3 38 := ⟨by decide +kernel, rfl⟩
theorem x_Mo_pour_38 : DC b_Mo_pour 38 (.iload_n 1) 1 39 := ⟨by decide +kernel, rfl⟩
theorem x_Mo_pour_39 : DC b_Mo_pour 39 (.iaload) 1 40 := ⟨by decide +kernel, rfl⟩
theorem x_Mo_pour_40 : DC b_Mo_pour 40 (.ifCond .lt 12) 3 43 := ⟨by decide +kernel, rfl⟩
theorem x_Mo_pour_43 : DC b_Mo_pour 43 (.aload_n 0) 1 44 := ⟨by decide +kernel, rfl⟩
theorem x_Mo_pour_44 : DC b_Mo_pour 44 (.getfield 13) 3 47 := ⟨by decide +kernel, rfl⟩
theorem x_Mo_pour_47 : DC b_Mo_pour 47 (.iload_n 3) 1 48 := ⟨by decide +kernel, rfl⟩
theorem x_Mo_pour_48 : DC b_Mo_pour 48 (.iaload) 1 49 := ⟨by decide +kernel, rfl⟩
theorem x_Mo_pour_49 : DC b_Mo_pour 49 (.ifCond .ge 9) 3 52 := ⟨by decide +kernel, rfl⟩
theorem x_Mo_pour_52 : DC b_Mo_pour 52 (.aload_n 0) 1 53 := ⟨by decide +kernel, rfl⟩
theorem x_Mo_pour_53 : DC b_Mo_pour 53 (.iconst 3) 1 54 := ⟨by decide +kernel, rfl⟩
theorem x_Mo_pour_54 : DC b_Mo_pour 54 (.invokevirtual 273) 3 57 := ⟨by decide +kernel, rfl⟩
theorem x_Mo_pour_57 : DC b_Mo_pour 57 (.ireturn) 1 58 := ⟨by decide +kernel, rfl⟩
theorem x_Mo_pour_58 : DC b_Mo_pour 58 (.aload_n 0) 1 59 := ⟨by decide +kernel, rfl⟩
theorem x_Mo_pour_59 : DC b_Mo_pour 59 (.getfield 7) 3 62 := ⟨by decide +kernel, rfl⟩
theorem x_Mo_pour_62 : DC b_Mo_pour 62 (.iload_n 1) 1 63 := ⟨by decide +kernel, rfl⟩
theorem x_Mo_pour_63 : DC b_Mo_pour 63 (.iaload) 1 64 := ⟨by decide +kernel, rfl⟩
theorem x_Mo_pour_64 : DC b_Mo_pour 64 (.aload_n 0) 1 65 := ⟨by decide +kernel, rfl⟩
theorem x_Mo_pour_65 : DC b_Mo_pour 65 (.getfield 7) 3 68 := ⟨by decide +kernel, rfl⟩
theorem x_Mo_pour_68 : DC b_Mo_pour 68 (.iload_n 3) 1 69 := ⟨by decide +kernel, rfl⟩
theorem x_Mo_pour_69 : DC b_Mo_pour 69 (.iaload) 1 70 := ⟨by decide +kernel, rfl⟩
theorem x_Mo_pour_70 : DC b_Mo_pour 70 (.if_icmp .eq 10) 3 73 := ⟨by decide +kernel, rfl⟩
theorem x_Mo_pour_73 : DC b_Mo_pour 73 (.aload_n 0) 1 74 := ⟨by decide +kernel, rfl⟩
theorem x_Mo_pour_74 : DC b_Mo_pour 74 (.bipush 11) 2 76 := ⟨by decide +kernel, rfl⟩
theorem x_Mo_pour_76 : DC b_Mo_pour 76 (.invokevirtual 273) 3 79 := ⟨by decide +kernel, rfl⟩
theorem x_Mo_pour_79 : DC b_Mo_pour 79 (.ireturn) 1 80 := ⟨by decide +kernel, rfl⟩
theorem x_Mo_pour_80 : DC b_Mo_pour 80 (.iload 5) 2 82 := ⟨by decide +kernel, rfl⟩
theorem x_Mo_pour_82 : DC b_Mo_pour 82 (.ifCond .ge 10) 3 85 := ⟨by decide +kernel, rfl⟩
theorem x_Mo_pour_85 : DC b_Mo_pour 85 (.aload_n 0) 1 86 := ⟨by decide +kernel, rfl⟩
theorem x_Mo_pour_86 : DC b_Mo_pour 86 (.bipush 6) 2 88 := ⟨by decide +kernel, rfl⟩
theorem x_Mo_pour_88 : DC b_Mo_pour 88 (.invokevirtual 273) 3 91 := ⟨by decide +kernel, rfl⟩
theorem x_Mo_pour_91 : DC b_Mo_pour 91 (.ireturn) 1 92 := ⟨by decide +kernel, rfl⟩
theorem x_Mo_pour_92 : DC b_Mo_pour 92 (.iload_n 2) 1 93 := ⟨by decide +kernel, rfl⟩
theorem x_Mo_pour_93 : DC b_Mo_pour 93 (.ifCond .lt 43) 3 96 := ⟨by decide +kernel, rfl⟩
theorem x_Mo_pour_96 : DC b_Mo_pour 96 (.iload 4) 2 98 := ⟨by decide +kernel, rfl⟩
theorem x_Mo_pour_98 : DC b_Mo_pour 98 (.ifCond .lt 38) 3 101 := ⟨by decide +kernel, rfl⟩
theorem x_Mo_pour_101 : DC b_Mo_pour 101 (.iload_n 2) 1 102 := ⟨by decide +kernel, rfl⟩
theorem x_Mo_pour_102 : DC b_Mo_pour 102 (.i2l) 1 103 := ⟨by decide +kernel, rfl⟩
theorem x_Mo_pour_103 : DC b_Mo_pour 103 (.iload 5) 2 105 := ⟨by decide +kernel, rfl⟩
theorem x_Mo_pour_105 : DC b_Mo_pour 105 (.i2l) 1 106 := ⟨by decide +kernel, rfl⟩
theorem x_Mo_pour_106 : DC b_Mo_pour 106 (.ladd) 1 107 := ⟨by decide +kernel, rfl⟩
theorem x_Mo_pour_107 : DC b_Mo_pour 107 (.aload_n 0) 1 108 := ⟨by decide +kernel, rfl⟩
theorem x_Mo_pour_108 : DC b_Mo_pour 108 (.getfield 13) 3 111 := ⟨by decide +kernel, rfl⟩
theorem x_Mo_pour_111 : DC b_Mo_pour 111 (.iload_n 1) 1 112 := ⟨by decide +kernel, rfl⟩
theorem x_Mo_pour_112 : DC b_Mo_pour 112 (.iaload) 1 113 := ⟨by decide +kernel, rfl⟩
theorem x_Mo_pour_113 : DC b_Mo_pour 113 (.i2l) 1 114 := ⟨by decide +kernel, rfl⟩
theorem x_Mo_pour_114 : DC b_Mo_pour 114 (.lcmp) 1 115 := ⟨by decide +kernel, rfl⟩
theorem x_Mo_pour_115 : DC b_Mo_pour 115 (.ifCond .gt 21) 3 118 := ⟨by decide +kernel, rfl⟩
theorem x_Mo_pour_118 : DC b_Mo_pour 118 (.iload 4) 2 120 := ⟨by decide +kernel, rfl⟩
theorem x_Mo_pour_120 : DC b_Mo_pour 120 (.i2l) 1 121 := ⟨by decide +kernel, rfl⟩
theorem x_Mo_pour_121 : DC b_Mo_pour 121 (.iload 5) 2 123 := ⟨by decide +kernel, rfl⟩
theorem x_Mo_pour_123 : DC b_Mo_pour 123 (.i2l) 1 124 := ⟨by decide +kernel, rfl⟩
theorem x_Mo_pour_124 : DC b_Mo_pour 124 (.ladd) 1 125 := ⟨by decide +kernel, rfl⟩
theorem x_Mo_pour_125 : DC b_Mo_pour 125 (.aload_n 0) 1 126 := ⟨by decide +kernel, rfl⟩
theorem x_Mo_pour_126 : DC b_Mo_pour 126 (.getfield 13) 3 129 := ⟨by decide +kernel, rfl⟩
theorem x_Mo_pour_129 : DC b_Mo_pour 129 (.iload_n 3) 1 130 := ⟨by decide +kernel, rfl⟩
theorem x_Mo_pour_130 : DC b_Mo_pour 130 (.iaload) 1 131 := ⟨by decide +kernel, rfl⟩
theorem x_Mo_pour_131 : DC b_Mo_pour 131 (.i2l) 1 132 := ⟨by decide +kernel, rfl⟩
theorem x_Mo_pour_132 : DC b_Mo_pour 132 (.lcmp) 1 133 := ⟨by decide +kernel, rfl⟩
theorem x_Mo_pour_133 : DC b_Mo_pour 133 (.ifCond .le 9) 3 136 := ⟨by decide +kernel, rfl⟩
theorem x_Mo_pour_136 : DC b_Mo_pour 136 (.aload_n 0) 1 137 := ⟨by decide +kernel, rfl⟩
theorem x_Mo_pour_137 : DC b_Mo_pour 137 (.iconst 4) 1 138 := ⟨by decide +kernel, rfl⟩
theorem x_Mo_pour_138 : DC b_Mo_pour 138 (.invokevirtual 273) 3 141 := ⟨by decide +kernel, rfl⟩
theorem x_Mo_pour_141 : DC b_Mo_pour 141 (.ireturn) 1 142 := ⟨by decide +kernel, rfl⟩
theorem x_Mo_pour_142 : DC b_Mo_pour 142 (.iload_n 2) 1 143 := ⟨by decide +kernel, rfl⟩
theorem x_Mo_pour_143 : DC b_Mo_pour 143 (.iload 4) 2 145 := ⟨by decide +kernel, rfl⟩
theorem x_Mo_pour_145 : DC b_Mo_pour 145 (.if_icmp .ge 7) 3 148 := ⟨by decide +kernel, rfl⟩
theorem x_Mo_pour_148 : DC b_Mo_pour 148 (.iconst 1) 1 149 := ⟨by decide +kernel, rfl⟩
theorem x_Mo_pour_149 : DC b_Mo_pour 149 (.goto 4) 3 152 := ⟨by decide +kernel, rfl⟩
theorem x_Mo_pour_152 : DC b_Mo_pour 152 (.iconst 0) 1 153 := ⟨by decide +kernel, rfl⟩
theorem x_Mo_pour_153 : DC b_Mo_pour 153 (.istore 6) 2 155 := ⟨by decide +kernel, rfl⟩
theorem x_Mo_pour_155 : DC b_Mo_pour 155 (.iconst 0) 1 156 := ⟨by decide +kernel, rfl⟩
theorem x_Mo_pour_156 : DC b_Mo_pour 156 (.istore 7) 2 158 := ⟨by decide +kernel, rfl⟩
theorem x_Mo_pour_158 : DC b_Mo_pour 158 (.iload 7) 2 160 := ⟨by decide +kernel, rfl⟩
theorem x_Mo_pour_160 : DC b_Mo_pour 160 (.iload 5) 2 162 := ⟨by decide +kernel, rfl⟩
theorem x_Mo_pour_162 : DC b_Mo_pour 162 (.if_icmp .ge 57) 3 165 := ⟨by decide +kernel, rfl⟩
theorem x_Mo_pour_165 : DC b_Mo_pour 165 (.iload 6) 2 167 := ⟨by decide +kernel, rfl⟩
theorem x_Mo_pour_167 : DC b_Mo_pour 167 (.ifCond .eq 13) 3 170 := ⟨by decide +kernel, rfl⟩
theorem x_Mo_pour_170 : DC b_Mo_pour 170 (.iload 5) 2 172 := ⟨by decide +kernel, rfl⟩
theorem x_Mo_pour_172 : DC b_Mo_pour 172 (.iconst 1) 1 173 := ⟨by decide +kernel, rfl⟩
theorem x_Mo_pour_173 : DC b_Mo_pour 173 (.isub) 1 174 := ⟨by decide +kernel, rfl⟩
theorem x_Mo_pour_174 : DC b_Mo_pour 174 (.iload 7) 2 176 := ⟨by decide +kernel, rfl⟩
theorem x_Mo_pour_176 : DC b_Mo_pour 176 (.isub) 1 177 := ⟨by decide +kernel, rfl⟩
theorem x_Mo_pour_177 : DC b_Mo_pour 177 (.goto 5) 3 180 := ⟨by decide +kernel, rfl⟩
theorem x_Mo_pour_180 : DC b_Mo_pour 180 (.iload 7) 2 182 := ⟨by decide +kernel, rfl⟩
theorem x_Mo_pour_182 : DC b_Mo_pour 182 (.istore 8) 2 184 := ⟨by decide +kernel, rfl⟩
theorem x_Mo_pour_184 : DC b_Mo_pour 184 (.aload_n 0) 1 185 := ⟨by decide +kernel, rfl⟩
theorem x_Mo_pour_185 : DC b_Mo_pour 185 (.getfield 16) 3 188 := ⟨by decide +kernel, rfl⟩
theorem x_Mo_pour_188 : DC b_Mo_pour 188 (.bipush 40) 2 190 := ⟨by decide +kernel, rfl⟩
theorem x_Mo_pour_190 : DC b_Mo_pour 190 (.iload_n 3) 1 191 := ⟨by decide +kernel, rfl⟩
theorem x_Mo_pour_191 : DC b_Mo_pour 191 (.imul) 1 192 := ⟨by decide +kernel, rfl⟩
theorem x_Mo_pour_192 : DC b_Mo_pour 192 (.iload 4) 2 194 := ⟨by decide +kernel, rfl⟩
theorem x_Mo_pour_194 : DC b_Mo_pour 194 (.iadd) 1 195 := ⟨by decide +kernel, rfl⟩
theorem x_Mo_pour_195 : DC b_Mo_pour 195 (.iload 8) 2 197 := ⟨by decide +kernel, rfl⟩
theorem x_Mo_pour_197 : DC b_Mo_pour 197 (.iadd) 1 198 := ⟨by decide +kernel, rfl⟩
theorem x_Mo_pour_198 : DC b_Mo_pour 198 (.aload_n 0) 1 199 := ⟨by decide +kernel, rfl⟩
theorem x_Mo_pour_199 : DC b_Mo_pour 199 (.getfield 16) 3 202 := ⟨by decide +kernel, rfl⟩
theorem x_Mo_pour_202 : DC b_Mo_pour 202 (.bipush 40) 2 204 := ⟨by decide +kernel, rfl⟩
theorem x_Mo_pour_204 : DC b_Mo_pour 204 (.iload_n 1) 1 205 := ⟨by decide +kernel, rfl⟩
theorem x_Mo_pour_205 : DC b_Mo_pour 205 (.imul) 1 206 := ⟨by decide +kernel, rfl⟩
theorem x_Mo_pour_206 : DC b_Mo_pour 206 (.iload_n 2) 1 207 := ⟨by decide +kernel, rfl⟩
theorem x_Mo_pour_207 : DC b_Mo_pour 207 (.iadd) 1 208 := ⟨by decide +kernel, rfl⟩
theorem x_Mo_pour_208 : DC b_Mo_pour 208 (.iload 8) 2 210 := ⟨by decide +kernel, rfl⟩
theorem x_Mo_pour_210 : DC b_Mo_pour 210 (.iadd) 1 211 := ⟨by decide +kernel, rfl⟩
theorem x_Mo_pour_211 : DC b_Mo_pour 211 (.laload) 1 212 := ⟨by decide +kernel, rfl⟩
theorem x_Mo_pour_212 : DC b_Mo_pour 212 (.lastore) 1 213 := ⟨by decide +kernel, rfl⟩
theorem x_Mo_pour_213 : DC b_Mo_pour 213 (.iinc 7 1) 3 216 := ⟨by decide +kernel, rfl⟩
theorem x_Mo_pour_216 : DC b_Mo_pour 216 (.goto (-58)) 3 219 := ⟨by decide +kernel, rfl⟩
theorem x_Mo_pour_219 : DC b_Mo_pour 219 (.iconst 1) 1 220 := ⟨by decide +kernel, rfl⟩
theorem x_Mo_pour_220 : DC b_Mo_pour 220 (.ireturn) 1 221 := ⟨by decide +kernel, rfl⟩
def k_Mo_pour_182 (R158 : Int → Int → Int → Int → Int → Int → Int → Mem → Res) (a1 a2 a3 a4 a5 a6 a7 s0 : Int) (M : Mem) : Res := chk (0 ≤ w32 (((40 * a1) + a2) + s0) ∧ w32 (((40 * a1) + a2) + s0) < 160) <| blet (M 114 (ix (((40 * a1) + a2) + s0))) fun v2 => chk (0 ≤ w32 (((40 * a3) + a4) + s0) ∧ w32 (((40 * a3) + a4) + s0) < 160) <| blet (sto M 114 (ix (((40 * a3) + a4) + s0)) v2) fun M4 => blet (a7 + 1) fun v5 => R158 a1 a2 a3 a4 a5 a6 v5 M4
theorem z_Mo_pour_182 (C : Cx p s m args meth c G b_Mo_pour 9 "PrairiePoolModel" (some .boolean)) (hlev : 1 ≤ lev) {r : Int × Mem} {R158 : Int → Int → Int → Int → Int → Int → Int → Mem → Res} (hR158 : ∀ (a1 a2 a3 a4 a5 a6 a7 : Int) (M : Mem), R158 a1 a2 a3 a4 a5 a6 a7 M = some r → Z p l e lev s m args below meth c G 9 (MQ below (Qm G 1 r) args s 0 0 (Ab G)) M 158 [(0, .ref (G.1 + 111)), (1, vi a1), (2, vi a2), (3, vi a3), (4, vi a4), (5, vi a5), (6, vi a6), (7, vi a7)] []) {a1 a2 a3 a4 a5 a6 a7 s0 : Int} {M : Mem} (h : k_Mo_pour_182 R158 a1 a2 a3 a4 a5 a6 a7 s0 M = some r) : Z p l e lev s m args below meth c G 9 (MQ below (Qm G 1 r) args s 0 0 (Ab G)) M 182 [(0, .ref (G.1 + 111)), (1, vi a1), (2, vi a2), (3, vi a3), (4, vi a4), (5, vi a5), (6, vi a6), (7, vi a7)] [vi s0] := by
  unfold k_Mo_pour_182 at h
  refine z_istore (lv' := [(8, vi s0), (0, .ref (G.1 + 111)), (1, vi a1), (2, vi a2), (3, vi a3), (4, vi a4), (5, vi a5), (6, vi a6), (7, vi a7)]) C rfl x_Mo_pour_182 (i_lt rfl) rfl ?_
  refine z_aload_n C 1 x_Mo_pour_184 rfl ?_
  refine z_getR (j := 4) C x_Mo_pour_185 nk_111 ck_111 cw_12 (i_lt rfl) rfl rf_111_4 rfl fl_Mo_16 ?_
  refine z_bipush C rfl x_Mo_pour_188 ?_
  refine z_iload_n C 4 x_Mo_pour_190 rfl ?_
  refine z_imul C x_Mo_pour_191 ?_
  refine z_iload C 5 x_Mo_pour_192 rfl ?_
  refine z_iadd C x_Mo_pour_194 ?_
  refine z_iload C 0 x_Mo_pour_195 rfl ?_
  refine z_iadd C x_Mo_pour_197 ?_
  refine z_aload_n C 1 x_Mo_pour_198 rfl ?_
  refine z_getR (j := 4) C x_Mo_pour_199 nk_111 ck_111 cw_12 (i_lt rfl) rfl rf_111_4 rfl fl_Mo_16 ?_
  refine z_bipush C rfl x_Mo_pour_202 ?_
  refine z_iload_n C 2 x_Mo_pour_204 rfl ?_
  refine z_imul C x_Mo_pour_205 ?_
  refine z_iload_n C 3 x_Mo_pour_206 rfl ?_
  refine z_iadd C x_Mo_pour_207 ?_
  refine z_iload C 0 x_Mo_pour_208 rfl ?_
  refine z_iadd C x_Mo_pour_210 ?_
  obtain ⟨c1, h⟩ := chk_e h
  obtain ⟨v2, ev2, h⟩ := blet_e h
  refine z_lald C x_Mo_pour_211 nk_114 ck_114 c1 ev2 ?_
  obtain ⟨c3, h⟩ := chk_e h
  obtain ⟨M4, eM4, h⟩ := blet_e h
  refine z_last C x_Mo_pour_212 nk_114 ck_114 c3 eM4 ?_
  obtain ⟨v5, ev5, h⟩ := blet_e h
  refine z_iinc (lv' := [(7, vi v5), (8, vi s0), (0, .ref (G.1 + 111)), (1, vi a1), (2, vi a2), (3, vi a3), (4, vi a4), (5, vi a5), (6, vi a6)]) C 8 ev5 x_Mo_pour_213 rfl (i_lt rfl) rfl ?_
  refine z_goto (tgt := 158) C x_Mo_pour_216 rfl ?_
  exact z_sub [2, 3, 4, 5, 6, 7, 8, 0] rfl (hR158 a1 a2 a3 a4 a5 a6 v5 M4 h)
def k_Mo_pour_158 (R158 : Int → Int → Int → Int → Int → Int → Int → Mem → Res) (a1 a2 a3 a4 a5 a6 a7 : Int) (M : Mem) : Res := if w32 a7 < w32 a5 then (if w32 a6 = 0 then (k_Mo_pour_182 R158 a1 a2 a3 a4 a5 a6 a7 a7 M) else (k_Mo_pour_182 R158 a1 a2 a3 a4 a5 a6 a7 ((a5 - 1) - a7) M)) else (some (1, M))
theorem z_Mo_pour_158 (C : Cx p s m args meth c G b_Mo_pour 9 "PrairiePoolModel" (some .boolean)) (hlev : 1 ≤ lev) {r : Int × Mem} {R158 : Int → Int → Int → Int → Int → Int → Int → Mem → Res} (hR158 : ∀ (a1 a2 a3 a4 a5 a6 a7 : Int) (M : Mem), R158 a1 a2 a3 a4 a5 a6 a7 M = some r → Z p l e lev s m args below meth c G 9 (MQ below (Qm G 1 r) args s 0 0 (Ab G)) M 158 [(0, .ref (G.1 + 111)), (1, vi a1), (2, vi a2), (3, vi a3), (4, vi a4), (5, vi a5), (6, vi a6), (7, vi a7)] []) {a1 a2 a3 a4 a5 a6 a7 : Int} {M : Mem} (h : k_Mo_pour_158 R158 a1 a2 a3 a4 a5 a6 a7 M = some r) : Z p l e lev s m args below meth c G 9 (MQ below (Qm G 1 r) args s 0 0 (Ab G)) M 158 [(0, .ref (G.1 + 111)), (1, vi a1), (2, vi a2), (3, vi a3), (4, vi a4), (5, vi a5), (6, vi a6), (7, vi a7)] [] := by
  unfold k_Mo_pour_158 at h
  refine z_iload C 7 x_Mo_pour_158 rfl ?_
  refine z_iload C 5 x_Mo_pour_160 rfl ?_
  rcases ite_e h with ⟨c1, h⟩ | ⟨c1, h⟩
  · refine z_icmp_ge_f (tgt := 219) C x_Mo_pour_162 rfl c1 ?_
    refine z_iload C 6 x_Mo_pour_165 rfl ?_
    rcases ite_e h with ⟨c2, h⟩ | ⟨c2, h⟩
    · refine z_if_eq_t (tgt := 180) C x_Mo_pour_167 rfl c2 ?_
      refine z_iload C 7 x_Mo_pour_180 rfl ?_
      exact z_sub [0, 1, 2, 3, 4, 5, 6, 7] rfl (z_Mo_pour_182 C hlev hR158 h)
    · refine z_if_eq_f (tgt := 180) C x_Mo_pour_167 rfl c2 ?_
      refine z_iload C 5 x_Mo_pour_170 rfl ?_
      refine z_iconst C x_Mo_pour_172 ?_
      refine z_isub C x_Mo_pour_173 ?_
      refine z_iload C 7 x_Mo_pour_174 rfl ?_
      refine z_isub C x_Mo_pour_176 ?_
      refine z_goto (tgt := 182) C x_Mo_pour_177 rfl ?_
      exact z_sub [0, 1, 2, 3, 4, 5, 6, 7] rfl (z_Mo_pour_182 C hlev hR158 h)
  · refine z_icmp_ge_t (tgt := 219) C x_Mo_pour_162 rfl c1 ?_
    refine z_iconst C x_Mo_pour_219 ?_
    exact z_zret C x_Mo_pour_220 (by decide) h
theorem zl_Mo_pour_158 (C : Cx p s m args meth c G b_Mo_pour 9 "PrairiePoolModel" (some .boolean)) (hlev : 1 ≤ lev) {r : Int × Mem}  : ∀ (n : Nat) (a1 a2 a3 a4 a5 a6 a7 : Int) (M : Mem), fix (fun _ _ _ _ _ _ _ _ => none) (k_Mo_pour_158) n a1 a2 a3 a4 a5 a6 a7 M = some r → Z p l e lev s m args below meth c G 9 (MQ below (Qm G 1 r) args s 0 0 (Ab G)) M 158 [(0, .ref (G.1 + 111)), (1, vi a1), (2, vi a2), (3, vi a3), (4, vi a4), (5, vi a5), (6, vi a6), (7, vi a7)] [] := by
  intro n
  induction n with
  | zero => intro a1 a2 a3 a4 a5 a6 a7 M h; exact nomatch (show (none : Res) = some r from h)
  | succ n ih => intro a1 a2 a3 a4 a5 a6 a7 M h; exact z_Mo_pour_158 C hlev ih h
def k_Mo_pour_153 (a1 a2 a3 a4 a5 s0 : Int) (M : Mem) : Res := fix (fun _ _ _ _ _ _ _ _ => none) (k_Mo_pour_158) FU a1 a2 a3 a4 a5 s0 0 M
theorem z_Mo_pour_153 (C : Cx p s m args meth c G b_Mo_pour 9 "PrairiePoolModel" (some .boolean)) (hlev : 1 ≤ lev) {r : Int × Mem}  {a1 a2 a3 a4 a5 s0 : Int} {M : Mem} (h : k_Mo_pour_153 a1 a2 a3 a4 a5 s0 M = some r) : Z p l e lev s m args below meth c G 9 (MQ below (Qm G 1 r) args s 0 0 (Ab G)) M 153 [(0, .ref (G.1 + 111)), (1, vi a1), (2, vi a2), (3, vi a3), (4, vi a4), (5, vi a5)] [vi s0] := by
  unfold k_Mo_pour_153 at h
  refine z_istore (lv' := [(6, vi s0), (0, .ref (G.1 + 111)), (1, vi a1), (2, vi a2), (3, vi a3), (4, vi a4), (5, vi a5)]) C rfl x_Mo_pour_153 (i_lt rfl) rfl ?_
  refine z_iconst C x_Mo_pour_155 ?_
  refine z_istore (lv' := [(7, vi 0), (6, vi s0), (0, .ref (G.1 + 111)), (1, vi a1), (2, vi a2), (3, vi a3), (4, vi a4), (5, vi a5)]) C rfl x_Mo_pour_156 (i_lt rfl) rfl ?_
  exact z_sub [2, 3, 4, 5, 6, 7, 1, 0] rfl (zl_Mo_pour_158 C hlev FU a1 a2 a3 a4 a5 s0 0 M h)
def k_Mo_pour_136 (M : Mem) : Res := bcall (d_Mo_no 4 M) fun v1 M2 => chk (w32 v1 = 0 ∨ w32 v1 = 1) <| some (v1, M2)
theorem z_Mo_pour_136 (C : Cx p s m args meth c G b_Mo_pour 9 "PrairiePoolModel" (some .boolean)) (hlev : 1 ≤ lev) {r : Int × Mem}  {M : Mem} (h : k_Mo_pour_136 M = some r) : Z p l e lev s m args below meth c G 9 (MQ below (Qm G 1 r) args s 0 0 (Ab G)) M 136 [(0, .ref (G.1 + 111))] [] := by
  unfold k_Mo_pour_136 at h
  refine z_aload_n C 0 x_Mo_pour_136 rfl ?_
  refine z_iconst C x_Mo_pour_137 ?_
  obtain ⟨v1, M2, fv1, h⟩ := bcall_e h
  refine z_callVi (k := 111) C x_Mo_pour_138 cv_Mo_273 (t_Mo_no (lev := lev - 1) l G (by omega) fv1) nk_111 ck_111 rfl (by omega) rfl (i_le rfl) rfl ?_
  obtain ⟨c3, h⟩ := chk_e h
  exact z_zret C x_Mo_pour_141 c3 h
def k_Mo_pour_52 (M : Mem) : Res := bcall (d_Mo_no 3 M) fun v1 M2 => chk (w32 v1 = 0 ∨ w32 v1 = 1) <| some (v1, M2)
theorem z_Mo_pour_52 (C : Cx p s m args meth c G b_Mo_pour 9 "PrairiePoolModel" (some .boolean)) (hlev : 1 ≤ lev) {r : Int × Mem}  {M : Mem} (h : k_Mo_pour_52 M = some r) : Z p l e lev s m args below meth c G 9 (MQ below (Qm G 1 r) args s 0 0 (Ab G)) M 52 [(0, .ref (G.1 + 111))] [] := by
  unfold k_Mo_pour_52 at h
  refine z_aload_n C 0 x_Mo_pour_52 rfl ?_
  refine z_iconst C x_Mo_pour_53 ?_
  obtain ⟨v1, M2, fv1, h⟩ := bcall_e h
  refine z_callVi (k := 111) C x_Mo_pour_54 cv_Mo_273 (t_Mo_no (lev := lev - 1) l G (by omega) fv1) nk_111 ck_111 rfl (by omega) rfl (i_le rfl) rfl ?_
  obtain ⟨c3, h⟩ := chk_e h
  exact z_zret C x_Mo_pour_57 c3 h
def k_Mo_pour_28 (M : Mem) : Res := bcall (d_Mo_no 1 M) fun v1 M2 => chk (w32 v1 = 0 ∨ w32 v1 = 1) <| some (v1, M2)
theorem z_Mo_pour_28 (C : Cx p s m args meth c G b_Mo_pour 9 "PrairiePoolModel" (some .boolean)) (hlev : 1 ≤ lev) {r : Int × Mem}  {M : Mem} (h : k_Mo_pour_28 M = some r) : Z p l e lev s m args below meth c G 9 (MQ below (Qm G 1 r) args s 0 0 (Ab G)) M 28 [(0, .ref (G.1 + 111))] [] := by
  unfold k_Mo_pour_28 at h
  refine z_aload_n C 0 x_Mo_pour_28 rfl ?_
  refine z_iconst C x_Mo_pour_29 ?_
  obtain ⟨v1, M2, fv1, h⟩ := bcall_e h
  refine z_callVi (k := 111) C x_Mo_pour_30 cv_Mo_273 (t_Mo_no (lev := lev - 1) l G (by omega) fv1) nk_111 ck_111 rfl (by omega) rfl (i_le rfl) rfl ?_
  obtain ⟨c3, h⟩ := chk_e h
  exact z_zret C x_Mo_pour_33 c3 h
def d_Mo_pour (a1 a2 a3 a4 a5 : Int) (M : Mem) : Res := blet (sto M 111 1 0) fun M1 => blet (sto M1 111 0 0) fun M2 => if w32 a1 < 0 then (k_Mo_pour_28 M2) else (if w32 a1 < 4 then (if w32 a3 < 0 then (k_Mo_pour_28 M2) else (if w32 a3 < 4 then (chk (0 ≤ w32 a1 ∧ w32 a1 < 4) <| blet (M2 113 (ix a1)) fun v8 => if w32 v8 < 0 then (k_Mo_pour_52 M2) else (chk (0 ≤ w32 a3 ∧ w32 a3 < 4) <| blet (M2 113 (ix a3)) fun v11 => if w32 v11 < 0 then (k_Mo_pour_52 M2) else (chk (0 ≤ w32 a1 ∧ w32 a1 < 4) <| blet (M2 112 (ix a1)) fun v14 => chk (0 ≤ w32 a3 ∧ w32 a3 < 4) <| blet (M2 112 (ix a3)) fun v16 => if w32 v14 = w32 v16 then (if w32 a5 < 0 then (bcall (d_Mo_no 6 M2) fun v19 M20 => chk (w32 v19 = 0 ∨ w32 v19 = 1) <| some (v19, M20)) else (if w32 a2 < 0 then (k_Mo_pour_136 M2) else (if w32 a4 < 0 then (k_Mo_pour_136 M2) else (chk (0 ≤ w32 a1 ∧ w32 a1 < 4) <| blet (M2 113 (ix a1)) fun v25 => if w64 (w32 v25) < w64 ((w32 a2) + (w32 a5)) then (k_Mo_pour_136 M2) else (chk (0 ≤ w32 a3 ∧ w32 a3 < 4) <| blet (M2 113 (ix a3)) fun v28 => if w64 (w32 v28) < w64 ((w32 a4) + (w32 a5)) then (k_Mo_pour_136 M2) else (if w32 a2 < w32 a4 then (k_Mo_pour_153 a1 a2 a3 a4 a5 1 M2) else (k_Mo_pour_153 a1 a2 a3 a4 a5 0 M2))))))) else (bcall (d_Mo_no 11 M2) fun v31 M32 => chk (w32 v31 = 0 ∨ w32 v31 = 1) <| some (v31, M32))))) else (k_Mo_pour_28 M2))) else (k_Mo_pour_28 M2))
theorem t_Mo_pour (l : Launch) (G : GX) {lev : Nat} (hlev : 1 ≤ lev) {a1 a2 a3 a4 a5 : Int} {M : Mem} {r : Int × Mem} (h : d_Mo_pour a1 a2 a3 a4 a5 M = some r) : Mt l G y_Mo_pour b_Mo_pour 9 (some .boolean) lev 1 [.ref (G.1 + 111), vi a1, vi a2, vi a3, vi a4, vi a5] M r := by
  refine Mt.of (by decide) (i_le rfl) ?_
  intro p e s m args below meth c C
  have C : Cx p s m args meth c G b_Mo_pour 9 "PrairiePoolModel" (some .boolean) := C
  unfold d_Mo_pour at h
  refine z_sub (lv' := [(0, .ref (G.1 + 111)), (1, vi a1), (2, vi a2), (3, vi a3), (4, vi a4), (5, vi a5)]) [0, 1, 2, 3, 4, 5] rfl ?_
  refine z_aload_n C 0 x_Mo_pour_0 rfl ?_
  refine z_iconst C x_Mo_pour_1 ?_
  obtain ⟨M1, eM1, h⟩ := blet_e h
  refine z_putI (j := 1) C x_Mo_pour_2 nk_111 ck_111 cw_12 (i_lt rfl) rfl rfl rfl rfl fl_Mo_257 eM1 ?_
  refine z_aload_n C 0 x_Mo_pour_5 rfl ?_
  refine z_iconst C x_Mo_pour_6 ?_
  obtain ⟨M2, eM2, h⟩ := blet_e h
  refine z_putI (j := 0) C x_Mo_pour_7 nk_111 ck_111 cw_12 (i_lt rfl) rfl rfl rfl rfl fl_Mo_260 eM2 ?_
  refine z_iload_n C 1 x_Mo_pour_10 rfl ?_
  rcases ite_e h with ⟨c3, h⟩ | ⟨c3, h⟩
  · refine z_if_lt_t (tgt := 28) C x_Mo_pour_11 rfl c3 ?_
    exact z_sub [0] rfl (z_Mo_pour_28 C hlev h)
  · refine z_if_lt_f (tgt := 28) C x_Mo_pour_11 rfl c3 ?_
    refine z_iload_n C 1 x_Mo_pour_14 rfl ?_
    refine z_iconst C x_Mo_pour_15 ?_
    rcases ite_e h with ⟨c4, h⟩ | ⟨c4, h⟩
    · refine z_icmp_ge_f (tgt := 28) C x_Mo_pour_16 rfl c4 ?_
      refine z_iload_n C 3 x_Mo_pour_19 rfl ?_
      rcases ite_e h with ⟨c5, h⟩ | ⟨c5, h⟩
      · refine z_if_lt_t (tgt := 28) C x_Mo_pour_20 rfl c5 ?_
        exact z_sub [0] rfl (z_Mo_pour_28 C hlev h)
      · refine z_if_lt_f (tgt := 28) C x_Mo_pour_20 rfl c5 ?_
        refine z_iload_n C 3 x_Mo_pour_23 rfl ?_
        refine z_iconst C x_Mo_pour_24 ?_
        rcases ite_e h with ⟨c6, h⟩ | ⟨c6, h⟩
        · refine z_icmp_lt_t (tgt := 34) C x_Mo_pour_25 rfl c6 ?_
          refine z_aload_n C 0 x_Mo_pour_34 rfl ?_
          refine z_getR (j := 3) C x_Mo_pour_35 nk_111 ck_111 cw_12 (i_lt rfl) rfl rf_111_3 rfl fl_Mo_13 ?_
          refine z_iload_n C 1 x_Mo_pour_38 rfl ?_
          obtain ⟨c7, h⟩ := chk_e h
          obtain ⟨v8, ev8, h⟩ := blet_e h
          refine z_iald C x_Mo_pour_39 nk_113 ck_113 c7 ev8 ?_
          rcases ite_e h with ⟨c9, h⟩ | ⟨c9, h⟩
          · refine z_if_lt_t (tgt := 52) C x_Mo_pour_40 rfl c9 ?_
            exact z_sub [0] rfl (z_Mo_pour_52 C hlev h)
          · refine z_if_lt_f (tgt := 52) C x_Mo_pour_40 rfl c9 ?_
            refine z_aload_n C 0 x_Mo_pour_43 rfl ?_
            refine z_getR (j := 3) C x_Mo_pour_44 nk_111 ck_111 cw_12 (i_lt rfl) rfl rf_111_3 rfl fl_Mo_13 ?_
            refine z_iload_n C 3 x_Mo_pour_47 rfl ?_
            obtain ⟨c10, h⟩ := chk_e h
            obtain ⟨v11, ev11, h⟩ := blet_e h
            refine z_iald C x_Mo_pour_48 nk_113 ck_113 c10 ev11 ?_
            rcases ite_e h with ⟨c12, h⟩ | ⟨c12, h⟩
            · refine z_if_ge_f (tgt := 58) C x_Mo_pour_49 rfl c12 ?_
              exact z_sub [0] rfl (z_Mo_pour_52 C hlev h)
            · refine z_if_ge_t (tgt := 58) C x_Mo_pour_49 rfl c12 ?_
              refine z_aload_n C 0 x_Mo_pour_58 rfl ?_
              refine z_getR (j := 2) C x_Mo_pour_59 nk_111 ck_111 cw_12 (i_lt rfl) rfl rf_111_2 rfl fl_Mo_7 ?_
              refine z_iload_n C 1 x_Mo_pour_62 rfl ?_
              obtain ⟨c13, h⟩ := chk_e h
              obtain ⟨v14, ev14, h⟩ := blet_e h
              refine z_iald C x_Mo_pour_63 nk_112 ck_112 c13 ev14 ?_
              refine z_aload_n C 0 x_Mo_pour_64 rfl ?_
              refine z_getR (j := 2) C x_Mo_pour_65 nk_111 ck_111 cw_12 (i_lt rfl) rfl rf_111_2 rfl fl_Mo_7 ?_
              refine z_iload_n C 3 x_Mo_pour_68 rfl ?_
              obtain ⟨c15, h⟩ := chk_e h
              obtain ⟨v16, ev16, h⟩ := blet_e h
              refine z_iald C x_Mo_pour_69 nk_112 ck_112 c15 ev16 ?_
              rcases ite_e h with ⟨c17, h⟩ | ⟨c17, h⟩
              · refine z_icmp_eq_t (tgt := 80) C x_Mo_pour_70 rfl c17 ?_
                refine z_iload C 5 x_Mo_pour_80 rfl ?_
                rcases ite_e h with ⟨c18, h⟩ | ⟨c18, h⟩
                · refine z_if_ge_f (tgt := 92) C x_Mo_pour_82 rfl c18 ?_
                  refine z_aload_n C 0 x_Mo_pour_85 rfl ?_
                  refine z_bipush C rfl x_Mo_pour_86 ?_
                  obtain ⟨v19, M20, fv19, h⟩ := bcall_e h
                  refine z_callVi (k := 111) C x_Mo_pour_88 cv_Mo_273 (t_Mo_no (lev := lev - 1) l G (by omega) fv19) nk_111 ck_111 rfl (by omega) rfl (i_le rfl) rfl ?_
                  obtain ⟨c21, h⟩ := chk_e h
                  exact z_zret C x_Mo_pour_91 c21 h
                · refine z_if_ge_t (tgt := 92) C x_Mo_pour_82 rfl c18 ?_
                  refine z_iload_n C 2 x_Mo_pour_92 rfl ?_
                  rcases ite_e h with ⟨c22, h⟩ | ⟨c22, h⟩
                  · refine z_if_lt_t (tgt := 136) C x_Mo_pour_93 rfl c22 ?_
                    exact z_sub [0] rfl (z_Mo_pour_136 C hlev h)
                  · refine z_if_lt_f (tgt := 136) C x_Mo_pour_93 rfl c22 ?_
                    refine z_iload C 4 x_Mo_pour_96 rfl ?_
                    rcases ite_e h with ⟨c23, h⟩ | ⟨c23, h⟩
                    · refine z_if_lt_t (tgt := 136) C x_Mo_pour_98 rfl c23 ?_
                      exact z_sub [0] rfl (z_Mo_pour_136 C hlev h)
                    · refine z_if_lt_f (tgt := 136) C x_Mo_pour_98 rfl c23 ?_
                      refine z_iload_n C 2 x_Mo_pour_101 rfl ?_
                      refine z_i2l C x_Mo_pour_102 ?_
                      refine z_iload C 5 x_Mo_pour_103 rfl ?_
                      refine z_i2l C x_Mo_pour_105 ?_
                      refine z_ladd C x_Mo_pour_106 ?_
                      refine z_aload_n C 0 x_Mo_pour_107 rfl ?_
                      refine z_getR (j := 3) C x_Mo_pour_108 nk_111 ck_111 cw_12 (i_lt rfl) rfl rf_111_3 rfl fl_Mo_13 ?_
                      refine z_iload_n C 1 x_Mo_pour_111 rfl ?_
                      obtain ⟨c24, h⟩ := chk_e h
                      obtain ⟨v25, ev25, h⟩ := blet_e h
                      refine z_iald C x_Mo_pour_112 nk_113 ck_113 c24 ev25 ?_
                      refine z_i2l C x_Mo_pour_113 ?_
                      refine z_lcmp C x_Mo_pour_114 ?_
                      rcases ite_e h with ⟨c26, h⟩ | ⟨c26, h⟩
                      · refine z_if_gt_t (tgt := 136) C x_Mo_pour_115 rfl (cm_gt.mpr c26) ?_
                        exact z_sub [0] rfl (z_Mo_pour_136 C hlev h)
                      · refine z_if_gt_f (tgt := 136) C x_Mo_pour_115 rfl (fun q => c26 (cm_gt.mp q)) ?_
                        refine z_iload C 4 x_Mo_pour_118 rfl ?_
                        refine z_i2l C x_Mo_pour_120 ?_
                        refine z_iload C 5 x_Mo_pour_121 rfl ?_
                        refine z_i2l C x_Mo_pour_123 ?_
                        refine z_ladd C x_Mo_pour_124 ?_
                        refine z_aload_n C 0 x_Mo_pour_125 rfl ?_
                        refine z_getR (j := 3) C x_Mo_pour_126 nk_111 ck_111 cw_12 (i_lt rfl) rfl rf_111_3 rfl fl_Mo_13 ?_
                        refine z_iload_n C 3 x_Mo_pour_129 rfl ?_
                        obtain ⟨c27, h⟩ := chk_e h
                        obtain ⟨v28, ev28, h⟩ := blet_e h
                        refine z_iald C x_Mo_pour_130 nk_113 ck_113 c27 ev28 ?_
                        refine z_i2l C x_Mo_pour_131 ?_
                        refine z_lcmp C x_Mo_pour_132 ?_
                        rcases ite_e h with ⟨c29, h⟩ | ⟨c29, h⟩
                        · refine z_if_le_f (tgt := 142) C x_Mo_pour_133 rfl (cm_gt.mpr c29) ?_
                          exact z_sub [0] rfl (z_Mo_pour_136 C hlev h)
                        · refine z_if_le_t (tgt := 142) C x_Mo_pour_133 rfl (fun q => c29 (cm_gt.mp q)) ?_
                          refine z_iload_n C 2 x_Mo_pour_142 rfl ?_
                          refine z_iload C 4 x_Mo_pour_143 rfl ?_
                          rcases ite_e h with ⟨c30, h⟩ | ⟨c30, h⟩
                          · refine z_icmp_ge_f (tgt := 152) C x_Mo_pour_145 rfl c30 ?_
                            refine z_iconst C x_Mo_pour_148 ?_
                            refine z_goto (tgt := 153) C x_Mo_pour_149 rfl ?_
                            exact z_sub [0, 1, 2, 3, 4, 5] rfl (z_Mo_pour_153 C hlev h)
                          · refine z_icmp_ge_t (tgt := 152) C x_Mo_pour_145 rfl c30 ?_
                            refine z_iconst C x_Mo_pour_152 ?_
                            exact z_sub [0, 1, 2, 3, 4, 5] rfl (z_Mo_pour_153 C hlev h)
              · refine z_icmp_eq_f (tgt := 80) C x_Mo_pour_70 rfl c17 ?_
                refine z_aload_n C 0 x_Mo_pour_73 rfl ?_
                refine z_bipush C rfl x_Mo_pour_74 ?_
                obtain ⟨v31, M32, fv31, h⟩ := bcall_e h
                refine z_callVi (k := 111) C x_Mo_pour_76 cv_Mo_273 (t_Mo_no (lev := lev - 1) l G (by omega) fv31) nk_111 ck_111 rfl (by omega) rfl (i_le rfl) rfl ?_
                obtain ⟨c33, h⟩ := chk_e h
                exact z_zret C x_Mo_pour_79 c33 h
        · refine z_icmp_lt_f (tgt := 34) C x_Mo_pour_25 rfl c6 ?_
          exact z_sub [0] rfl (z_Mo_pour_28 C hlev h)
    · refine z_icmp_ge_t (tgt := 28) C x_Mo_pour_16 rfl c4 ?_
      exact z_sub [0] rfl (z_Mo_pour_28 C hlev h)
theorem x_Mo_isIn_0 : DC b_Mo_isIn 0 (.lload_n 0) 1 1 := ⟨by decide +kernel, rfl⟩
theorem x_Mo_isIn_1 : DC b_Mo_isIn 1 (.lload_n 2) 1 2 := ⟨by decide +kernel, rfl⟩
theorem x_Mo_isIn_2 : DC b_Mo_isIn 2 (.lcmp) 1 3 := ⟨by decide +kernel, rfl⟩
theorem x_Mo_isIn_3 : DC b_Mo_isIn 3 (.ifCond .lt 14) 3 6 := ⟨by decide +kernel, rfl⟩
theorem x_Mo_isIn_6 : DC b_Mo_isIn 6 (.lload_n 0) 1 7 := ⟨by decide +kernel, rfl⟩
theorem x_Mo_isIn_7 : DC b_Mo_isIn 7 (.lload 4) 2 9 := ⟨by decide +kernel, rfl⟩
theorem x_Mo_isIn_9 : DC b_Mo_isIn 9 (.lcmp) 1 10 := ⟨by decide +kernel, rfl⟩
theorem x_Mo_isIn_10 : DC b_Mo_isIn 10 (.ifCond .gt 7) 3 13 := ⟨by decide +kernel, rfl⟩
theorem x_Mo_isIn_13 : DC b_Mo_isIn 13 (.iconst 1) 1 14 := ⟨by decide +kernel, rfl⟩
theorem x_Mo_isIn_14 : DC b_Mo_isIn 14 (.goto 4) 3 17 := ⟨by decide +kernel, rfl⟩
theorem x_Mo_isIn_17 : DC b_Mo_isIn 17 (.iconst 0) 1 18 := ⟨by decide +kernel, rfl⟩
theorem x_Mo_isIn_18 : DC b_Mo_isIn 18 (.ireturn) 1 19 := ⟨by decide +kernel, rfl⟩
def d_Mo_isIn (a0 a2 a4 : Int) (M : Mem) : Res := if w64 a0 < w64 a2 then (some (0, M)) else (if w64 a4 < w64 a0 then (some (0, M)) else (some (1, M)))
theorem t_Mo_isIn (l : Launch) (G : GX) {lev : Nat} (hlev : 0 ≤ lev) {a0 a2 a4 : Int} {M : Mem} {r : Int × Mem} (h : d_Mo_isIn a0 a2 a4 M = some r) : Mt l G y_Mo_isIn b_Mo_isIn 6 (some .boolean) lev 1 [vl a0, vl a2, vl a4] M r := by
  refine Mt.of (by decide) (i_le rfl) ?_
  intro p e s m args below meth c C
  have C : Cx p s m args meth c G b_Mo_isIn 6 "PrairiePoolModel" (some .boolean) := C
  unfold d_Mo_isIn at h
  refine z_sub (lv' := [(0, vl a0), (2, vl a2), (4, vl a4)]) [0, 1, 2] rfl ?_
  refine z_lload_n C 0 x_Mo_isIn_0 rfl ?_
  refine z_lload_n C 1 x_Mo_isIn_1 rfl ?_
  refine z_lcmp C x_Mo_isIn_2 ?_
  rcases ite_e h with ⟨c1, h⟩ | ⟨c1, h⟩
  · refine z_if_lt_t (tgt := 17) C x_Mo_isIn_3 rfl (cm_lt.mpr c1) ?_
    refine z_iconst C x_Mo_isIn_17 ?_
    exact z_zret C x_Mo_isIn_18 (by decide) h
  · refine z_if_lt_f (tgt := 17) C x_Mo_isIn_3 rfl (fun q => c1 (cm_lt.mp q)) ?_
    refine z_lload_n C 0 x_Mo_isIn_6 rfl ?_
    refine z_lload C 2 x_Mo_isIn_7 rfl ?_
    refine z_lcmp C x_Mo_isIn_9 ?_
    rcases ite_e h with ⟨c2, h⟩ | ⟨c2, h⟩
    · refine z_if_gt_t (tgt := 17) C x_Mo_isIn_10 rfl (cm_gt.mpr c2) ?_
      refine z_iconst C x_Mo_isIn_17 ?_
      exact z_zret C x_Mo_isIn_18 (by decide) h
    · refine z_if_gt_f (tgt := 17) C x_Mo_isIn_10 rfl (fun q => c2 (cm_gt.mp q)) ?_
      refine z_iconst C x_Mo_isIn_13 ?_
      refine z_goto (tgt := 18) C x_Mo_isIn_14 rfl ?_
      exact z_zret C x_Mo_isIn_18 (by decide) h
theorem x_Mo_refuse_0 : DC b_Mo_refuse 0 (.aload_n 0) 1 1 := ⟨by decide +kernel, rfl⟩
theorem x_Mo_refuse_1 : DC b_Mo_refuse 1 (.iload_n 1) 1 2 := ⟨by decide +kernel, rfl⟩
theorem x_Mo_refuse_2 : DC b_Mo_refuse 2 (.putfield 260) 3 5 := ⟨by decide +kernel, rfl⟩
theorem x_Mo_refuse_5 : DC b_Mo_refuse 5 (.iconst (-1)) 1 6 := ⟨by decide +kernel, rfl⟩
theorem x_Mo_refuse_6 : DC b_Mo_refuse 6 (.ireturn) 1 7 := ⟨by decide +kernel, rfl⟩
def d_Mo_refuse (a1 : Int) (M : Mem) : Res := blet (sto M 111 0 a1) fun M1 => some ((-1), M1)
theorem t_Mo_refuse (l : Launch) (G : GX) {lev : Nat} (hlev : 0 ≤ lev) {a1 : Int} {M : Mem} {r : Int × Mem} (h : d_Mo_refuse a1 M = some r) : Mt l G y_Mo_refuse b_Mo_refuse 2 (some .int) lev 1 [.ref (G.1 + 111), vi a1] M r := by
  refine Mt.of (by decide) (i_le rfl) ?_
  intro p e s m args below meth c C
  have C : Cx p s m args meth c G b_Mo_refuse 2 "PrairiePoolModel" (some .int) := C
  unfold d_Mo_refuse at h
  refine z_sub (lv' := [(0, .ref (G.1 + 111)), (1, vi a1)]) [0, 1] rfl ?_
  refine z_aload_n C 0 x_Mo_refuse_0 rfl ?_
  refine z_iload_n C 1 x_Mo_refuse_1 rfl ?_
  obtain ⟨M1, eM1, h⟩ := blet_e h
  refine z_putI (j := 0) C x_Mo_refuse_2 nk_111 ck_111 cw_12 (i_lt rfl) rfl rfl rfl rfl fl_Mo_260 eM1 ?_
  refine z_iconst C x_Mo_refuse_5 ?_
  exact z_iret C x_Mo_refuse_6 h
theorem x_Mo_farm_0 : DC b_Mo_farm 0 (.aload_n 0) 1 1 := ⟨by decide +kernel, rfl⟩
theorem x_Mo_farm_1 : DC b_Mo_farm 1 (.iconst 0) 1 2 := ⟨by decide +kernel, rfl⟩
theorem x_Mo_farm_2 : DC b_Mo_farm 2 (.putfield 257) 3 5 := ⟨by decide +kernel, rfl⟩
theorem x_Mo_farm_5 : DC b_Mo_farm 5 (.aload_n 0) 1 6 := ⟨by decide +kernel, rfl⟩
theorem x_Mo_farm_6 : DC b_Mo_farm 6 (.iconst 0) 1 7 := ⟨by decide +kernel, rfl⟩
theorem x_Mo_farm_7 : DC b_Mo_farm 7 (.putfield 260) 3 10 := ⟨by decide +kernel, rfl⟩
theorem x_Mo_farm_10 : DC b_Mo_farm 10 (.iload_n 1) 1 11 := ⟨by decide +kernel, rfl⟩
theorem x_Mo_farm_11 : DC b_Mo_farm 11 (.i2l) 1 12 := ⟨by decide +kernel, rfl⟩
theorem x_Mo_farm_12 : DC b_Mo_farm 12 (.lconst 0) 1 13 := ⟨by decide +kernel, rfl⟩
theorem x_Mo_farm_13 : DC b_Mo_farm 13 (.ldc2_w 271) 3 16 := ⟨by decide +kernel, rfl⟩
theorem x_Mo_farm_16 : DC b_Mo_farm 16 (.invokestatic 265) 3 19 := ⟨by decide +kernel, rfl⟩
theorem x_Mo_farm_19 : DC b_Mo_farm 19 (.ifCond .ne 9) 3 22 := ⟨by decide +kernel, rfl⟩
theorem x_Mo_farm_22 : DC b_Mo_farm 22 (.aload_n 0) 1 23 := ⟨by decide +kernel, rfl⟩
theorem x_Mo_farm_23 : DC b_Mo_farm 23 (.iconst 2) 1 24 := ⟨by decide +kernel, rfl⟩
theorem x_Mo_farm_24 : DC b_Mo_farm 24 (.invokevirtual 297) 3 27 := ⟨by decide +kernel, rfl⟩
theorem x_Mo_farm_27 : DC b_Mo_farm 27 (.ireturn) 1 28 := ⟨by decide +kernel, rfl⟩
theorem x_Mo_farm_28 : DC b_Mo_farm 28 (.iload_n 2) 1 29 := ⟨by decide +kernel, rfl⟩
theorem x_Mo_farm_29 : DC b_Mo_farm 29 (.i2l) 1 30 := ⟨by decide +kernel, rfl⟩
theorem x_Mo_farm_30 : DC b_Mo_farm 30 (.lconst 1) 1 31 := ⟨by decide +kernel, rfl⟩
theorem x_Mo_farm_31 : DC b_Mo_farm 31 (.ldc2_w 300) 3 34 := ⟨by decide +kernel, rfl⟩
theorem x_Mo_farm_34 : DC b_Mo_farm 34 (.invokestatic 265) 3 37 := ⟨by decide +kernel, rfl⟩
theorem x_Mo_farm_37 : DC b_Mo_farm 37 (.ifCond .eq 15) 3 40 := ⟨by decide +kernel, rfl⟩
theorem x_Mo_farm_40 : DC b_Mo_farm 40 (.iload_n 3) 1 41 := ⟨by decide +kernel, rfl⟩
theorem x_Mo_farm_41 : DC b_Mo_farm 41 (.i2l) 1 42 := ⟨by decide +kernel, rfl⟩
theorem x_Mo_farm_42 : DC b_Mo_farm 42 (.lconst 0) 1 43 := ⟨by decide +kernel, rfl⟩
theorem x_Mo_farm_43 : DC b_Mo_farm 43 (.ldc2_w 302) 3 46 := ⟨by decide +kernel, rfl⟩
theorem x_Mo_farm_46 : DC b_Mo_farm 46 (.invokestatic 265) 3 49 := ⟨by decide +kernel, rfl⟩
theorem x_Mo_farm_49 : DC b_Mo_farm 49 (.ifCond .ne 9) 3 52 := ⟨by decide +kernel, rfl⟩
theorem x_Mo_farm_52 : DC b_Mo_farm 52 (.aload_n 0) 1 53 := ⟨by decide +kernel, rfl⟩
theorem x_Mo_farm_53 : DC b_Mo_farm 53 (.iconst 5) 1 54 := ⟨by decide +kernel, rfl⟩
theorem x_Mo_farm_54 : DC b_Mo_farm 54 (.invokevirtual 297) 3 57 := ⟨by decide +kernel, rfl⟩
theorem x_Mo_farm_57 : DC b_Mo_farm 57 (.ireturn) 1 58 := ⟨by decide +kernel, rfl⟩
theorem x_Mo_farm_58 : DC b_Mo_farm 58 (.aload_n 0) 1 59 := ⟨by decide +kernel, rfl⟩
theorem x_Mo_farm_59 : DC b_Mo_farm 59 (.getfield 291) 3 62 := ⟨by decide +kernel, rfl⟩
theorem x_Mo_farm_62 : DC b_Mo_farm 62 (.bipush 20) 2 64 := ⟨by decide +kernel, rfl⟩
theorem x_Mo_farm_64 : DC b_Mo_farm 64 (.if_icmp .ne 10) 3 67 := ⟨by decide +kernel, rfl⟩
theorem x_Mo_farm_67 : DC b_Mo_farm 67 (.aload_n 0) 1 68 := ⟨by decide +kernel, rfl⟩
theorem x_Mo_farm_68 : DC b_Mo_farm 68 (.bipush 7) 2 70 := ⟨by decide +kernel, rfl⟩
theorem x_Mo_farm_70 : DC b_Mo_farm 70 (.invokevirtual 297) 3 73 := ⟨by decide +kernel, rfl⟩
theorem x_Mo_farm_73 : DC b_Mo_farm 73 (.ireturn) 1 74 := ⟨by decide +kernel, rfl⟩
theorem x_Mo_farm_74 : DC b_Mo_farm 74 (.aload_n 0) 1 75 := ⟨by decide +kernel, rfl⟩
theorem x_Mo_farm_75 : DC b_Mo_farm 75 (.getfield 20) 3 78 := ⟨by decide +kernel, rfl⟩
theorem x_Mo_farm_78 : DC b_Mo_farm 78 (.aload_n 0) 1 79 := ⟨by decide +kernel, rfl⟩
theorem x_Mo_farm_79 : DC b_Mo_farm 79 (.getfield 291) 3 82 := ⟨by decide +kernel, rfl⟩
theorem x_Mo_farm_82 : DC b_Mo_farm 82 (.iload_n 1) 1 83 := ⟨by decide +kernel, rfl⟩
theorem x_Mo_farm_83 : DC b_Mo_farm 83 (.iastore) 1 84 := ⟨by decide +kernel, rfl⟩
theorem x_Mo_farm_84 : DC b_Mo_farm 84 (.aload_n 0) 1 85 := ⟨by decide +kernel, rfl⟩
theorem x_Mo_farm_85 : DC b_Mo_farm 85 (.getfield 23) 3 88 := ⟨by decide +kernel, rfl⟩
theorem x_Mo_farm_88 : DC b_Mo_farm 88 (.aload_n 0) 1 89 := ⟨by decide +kernel, rfl⟩
theorem x_Mo_farm_89 : DC b_Mo_farm 89 (.getfield 291) 3 92 := ⟨by decide +kernel, rfl⟩
theorem x_Mo_farm_92 : DC b_Mo_farm 92 (.iload_n 2) 1 93 := ⟨by decide +kernel, rfl⟩
theorem x_Mo_farm_93 : DC b_Mo_farm 93 (.iastore) 1 94 := ⟨by decide +kernel, rfl⟩
theorem x_Mo_farm_94 : DC b_Mo_farm 94 (.aload_n 0) 1 95 := ⟨by decide +kernel, rfl⟩
theorem x_Mo_farm_95 : DC b_Mo_farm 95 (.getfield 26) 3 98 := ⟨by decide +kernel, rfl⟩
theorem x_Mo_farm_98 : DC b_Mo_farm 98 (.aload_n 0) 1 99 := ⟨by decide +kernel, rfl⟩
theorem x_Mo_farm_99 : DC b_Mo_farm 99 (.getfield 291) 3 102 := ⟨by decide +kernel, rfl⟩
theorem x_Mo_farm_102 : DC b_Mo_farm 102 (.iload_n 3) 1 103 := ⟨by decide +kernel, rfl⟩
theorem x_Mo_farm_103 : DC b_Mo_farm 103 (.iastore) 1 104 := ⟨by decide +kernel, rfl⟩
theorem x_Mo_farm_104 : DC b_Mo_farm 104 (.aload_n 0) 1 105 := ⟨by decide +kernel, rfl⟩
theorem x_Mo_farm_105 : DC b_Mo_farm 105 (.dup) 1 106 := ⟨by decide +kernel, rfl⟩
theorem x_Mo_farm_106 : DC b_Mo_farm 106 (.getfield 291) 3 109 := ⟨by decide +kernel, rfl⟩
theorem x_Mo_farm_109 : DC b_Mo_farm 109 (.iconst 1) 1 110 := ⟨by decide +kernel, rfl⟩
theorem x_Mo_farm_110 : DC b_Mo_farm 110 (.iadd) 1 111 := ⟨by decide +kernel, rfl⟩
theorem x_Mo_farm_111 : DC b_Mo_farm 111 (.putfield 291) 3 114 := ⟨by decide +kernel, rfl⟩
theorem x_Mo_farm_114 : DC b_Mo_farm 114 (.aload_n 0) 1 115 := ⟨by decide +kernel, rfl⟩
theorem x_Mo_farm_115 : DC b_Mo_farm 115 (.getfield 291) 3 118 := ⟨by decide +kernel, rfl⟩
theorem x_Mo_farm_118 : DC b_Mo_farm 118 (.iconst 1) 1 119 := ⟨by decide +kernel, rfl⟩
theorem x_Mo_farm_119 : DC b_Mo_farm 119 (.isub) 1 120 := ⟨by decide +kernel, rfl⟩
theorem x_Mo_farm_120 : DC b_Mo_farm 120 (.ireturn) 1 121 := ⟨by decide +kernel, rfl⟩
def k_Mo_farm_52 (M : Mem) : Res := bcall (d_Mo_refuse 5 M) fun v1 M2 => some (v1, M2)
theorem z_Mo_farm_52 (C : Cx p s m args meth c G b_Mo_farm 4 "PrairiePoolModel" (some .int)) (hlev : 1 ≤ lev) {r : Int × Mem}  {M : Mem} (h : k_Mo_farm_52 M = some r) : Z p l e lev s m args below meth c G 4 (MQ below (Qm G 1 r) args s 0 0 (Ab G)) M 52 [(0, .ref (G.1 + 111))] [] := by
  unfold k_Mo_farm_52 at h
  refine z_aload_n C 0 x_Mo_farm_52 rfl ?_
  refine z_iconst C x_Mo_farm_53 ?_
  obtain ⟨v1, M2, fv1, h⟩ := bcall_e h
  refine z_callVi (k := 111) C x_Mo_farm_54 cv_Mo_297 (t_Mo_refuse (lev := lev - 1) l G (by omega) fv1) nk_111 ck_111 rfl (by omega) rfl (i_le rfl) rfl ?_
  exact z_iret C x_Mo_farm_57 h
def d_Mo_farm (a1 a2 a3 : Int) (M : Mem) : Res := blet (sto M 111 1 0) fun M1 => blet (sto M1 111 0 0) fun M2 => bcall (d_Mo_isIn (w32 a1) 0 5 M2) fun v3 M4 => if w32 v3 = 0 then (bcall (d_Mo_refuse 2 M4) fun v6 M7 => some (v6, M7)) else (bcall (d_Mo_isIn (w32 a2) 1 5000 M4) fun v8 M9 => if w32 v8 = 0 then (k_Mo_farm_52 M9) else (bcall (d_Mo_isIn (w32 a3) 0 100000 M9) fun v11 M12 => if w32 v11 = 0 then (k_Mo_farm_52 M12) else (blet (M12 111 5) fun v14 => if w32 v14 = 20 then (bcall (d_Mo_refuse 7 M12) fun v16 M17 => some (v16, M17)) else (blet (M12 111 5) fun v18 => chk (0 ≤ w32 v18 ∧ w32 v18 < 20) <| blet (sto M12 115 (ix v18) a1) fun M20 => blet (M20 111 5) fun v21 => chk (0 ≤ w32 v21 ∧ w32 v21 < 20) <| blet (sto M20 116 (ix v21) a2) fun M23 => blet (M23 111 5) fun v24 => chk (0 ≤ w32 v24 ∧ w32 v24 < 20) <| blet (sto M23 117 (ix v24) a3) fun M26 => blet (M26 111 5) fun v27 => blet (sto M26 111 5 (v27 + 1)) fun M28 => blet (M28 111 5) fun v29 => some (v29 - 1, M28)))))
theorem t_Mo_farm (l : Launch) (G : GX) {lev : Nat} (hlev : 1 ≤ lev) {a1 a2 a3 : Int} {M : Mem} {r : Int × Mem} (h : d_Mo_farm a1 a2 a3 M = some r) : Mt l G y_Mo_farm b_Mo_farm 4 (some .int) lev 1 [.ref (G.1 + 111), vi a1, vi a2, vi a3] M r := by
  refine Mt.of (by decide) (i_le rfl) ?_
  intro p e s m args below meth c C
  have C : Cx p s m args meth c G b_Mo_farm 4 "PrairiePoolModel" (some .int) := C
  unfold d_Mo_farm at h
  refine z_sub (lv' := [(0, .ref (G.1 + 111)), (1, vi a1), (2, vi a2), (3, vi a3)]) [0, 1, 2, 3] rfl ?_
  refine z_aload_n C 0 x_Mo_farm_0 rfl ?_
  refine z_iconst C x_Mo_farm_1 ?_
  obtain ⟨M1, eM1, h⟩ := blet_e h
  refine z_putI (j := 1) C x_Mo_farm_2 nk_111 ck_111 cw_12 (i_lt rfl) rfl rfl rfl rfl fl_Mo_257 eM1 ?_
  refine z_aload_n C 0 x_Mo_farm_5 rfl ?_
  refine z_iconst C x_Mo_farm_6 ?_
  obtain ⟨M2, eM2, h⟩ := blet_e h
  refine z_putI (j := 0) C x_Mo_farm_7 nk_111 ck_111 cw_12 (i_lt rfl) rfl rfl rfl rfl fl_Mo_260 eM2 ?_
  refine z_iload_n C 1 x_Mo_farm_10 rfl ?_
  refine z_i2l C x_Mo_farm_11 ?_
  refine z_lconst0 C x_Mo_farm_12 ?_
  refine z_ldc2 C kl_Mo_271 x_Mo_farm_13 ?_
  obtain ⟨v3, M4, fv3, h⟩ := bcall_e h
  refine z_callSi C x_Mo_farm_16 cs_Mo_265 (t_Mo_isIn (lev := lev - 1) l G (by omega) fv3) (by omega) rfl (i_le rfl) rfl ?_
  rcases ite_e h with ⟨c5, h⟩ | ⟨c5, h⟩
  · refine z_if_ne_f (tgt := 28) C x_Mo_farm_19 rfl c5 ?_
    refine z_aload_n C 0 x_Mo_farm_22 rfl ?_
    refine z_iconst C x_Mo_farm_23 ?_
    obtain ⟨v6, M7, fv6, h⟩ := bcall_e h
    refine z_callVi (k := 111) C x_Mo_farm_24 cv_Mo_297 (t_Mo_refuse (lev := lev - 1) l G (by omega) fv6) nk_111 ck_111 rfl (by omega) rfl (i_le rfl) rfl ?_
    exact z_iret C x_Mo_farm_27 h
  · refine z_if_ne_t (tgt := 28) C x_Mo_farm_19 rfl c5 ?_
    refine z_iload_n C 2 x_Mo_farm_28 rfl ?_
    refine z_i2l C x_Mo_farm_29 ?_
    refine z_lconst1 C x_Mo_farm_30 ?_
    refine z_ldc2 C kl_Mo_300 x_Mo_farm_31 ?_
    obtain ⟨v8, M9, fv8, h⟩ := bcall_e h
    refine z_callSi C x_Mo_farm_34 cs_Mo_265 (t_Mo_isIn (lev := lev - 1) l G (by omega) fv8) (by omega) rfl (i_le rfl) rfl ?_
    rcases ite_e h with ⟨c10, h⟩ | ⟨c10, h⟩
    · refine z_if_eq_t (tgt := 52) C x_Mo_farm_37 rfl c10 ?_
      exact z_sub [0] rfl (z_Mo_farm_52 C hlev h)
    · refine z_if_eq_f (tgt := 52) C x_Mo_farm_37 rfl c10 ?_
      refine z_iload_n C 3 x_Mo_farm_40 rfl ?_
      refine z_i2l C x_Mo_farm_41 ?_
      refine z_lconst0 C x_Mo_farm_42 ?_
      refine z_ldc2 C kl_Mo_302 x_Mo_farm_43 ?_
      obtain ⟨v11, M12, fv11, h⟩ := bcall_e h
      refine z_callSi C x_Mo_farm_46 cs_Mo_265 (t_Mo_isIn (lev := lev - 1) l G (by omega) fv11) (by omega) rfl (i_le rfl) rfl ?_
      rcases ite_e h with ⟨c13, h⟩ | ⟨c13, h⟩
      · refine z_if_ne_f (tgt := 58) C x_Mo_farm_49 rfl c13 ?_
        exact z_sub [0] rfl (z_Mo_farm_52 C hlev h)
      · refine z_if_ne_t (tgt := 58) C x_Mo_farm_49 rfl c13 ?_
        refine z_aload_n C 0 x_Mo_farm_58 rfl ?_
        obtain ⟨v14, ev14, h⟩ := blet_e h
        refine z_getI (j := 5) C x_Mo_farm_59 nk_111 ck_111 cw_12 (i_lt rfl) rfl rfl fl_Mo_291 ev14 ?_
        refine z_bipush C rfl x_Mo_farm_62 ?_
        rcases ite_e h with ⟨c15, h⟩ | ⟨c15, h⟩
        · refine z_icmp_ne_f (tgt := 74) C x_Mo_farm_64 rfl c15 ?_
          refine z_aload_n C 0 x_Mo_farm_67 rfl ?_
          refine z_bipush C rfl x_Mo_farm_68 ?_
          obtain ⟨v16, M17, fv16, h⟩ := bcall_e h
          refine z_callVi (k := 111) C x_Mo_farm_70 cv_Mo_297 (t_Mo_refuse (lev := lev - 1) l G (by omega) fv16) nk_111 ck_111 rfl (by omega) rfl (i_le rfl) rfl ?_
          exact z_iret C x_Mo_farm_73 h
        · refine z_icmp_ne_t (tgt := 74) C x_Mo_farm_64 rfl c15 ?_
          refine z_aload_n C 0 x_Mo_farm_74 rfl ?_
          refine z_getR (j := 11) C x_Mo_farm_75 nk_111 ck_111 cw_12 (i_lt rfl) rfl rf_111_11 rfl fl_Mo_20 ?_
          refine z_aload_n C 0 x_Mo_farm_78 rfl ?_
          obtain ⟨v18, ev18, h⟩ := blet_e h
          refine z_getI (j := 5) C x_Mo_farm_79 nk_111 ck_111 cw_12 (i_lt rfl) rfl rfl fl_Mo_291 ev18 ?_
          refine z_iload_n C 1 x_Mo_farm_82 rfl ?_
          obtain ⟨c19, h⟩ := chk_e h
          obtain ⟨M20, eM20, h⟩ := blet_e h
          refine z_iast C x_Mo_farm_83 nk_115 ck_115 c19 eM20 ?_
          refine z_aload_n C 0 x_Mo_farm_84 rfl ?_
          refine z_getR (j := 12) C x_Mo_farm_85 nk_111 ck_111 cw_12 (i_lt rfl) rfl rf_111_12 rfl fl_Mo_23 ?_
          refine z_aload_n C 0 x_Mo_farm_88 rfl ?_
          obtain ⟨v21, ev21, h⟩ := blet_e h
          refine z_getI (j := 5) C x_Mo_farm_89 nk_111 ck_111 cw_12 (i_lt rfl) rfl rfl fl_Mo_291 ev21 ?_
          refine z_iload_n C 2 x_Mo_farm_92 rfl ?_
          obtain ⟨c22, h⟩ := chk_e h
          obtain ⟨M23, eM23, h⟩ := blet_e h
          refine z_iast C x_Mo_farm_93 nk_116 ck_116 c22 eM23 ?_
          refine z_aload_n C 0 x_Mo_farm_94 rfl ?_
          refine z_getR (j := 13) C x_Mo_farm_95 nk_111 ck_111 cw_12 (i_lt rfl) rfl rf_111_13 rfl fl_Mo_26 ?_
          refine z_aload_n C 0 x_Mo_farm_98 rfl ?_
          obtain ⟨v24, ev24, h⟩ := blet_e h
          refine z_getI (j := 5) C x_Mo_farm_99 nk_111 ck_111 cw_12 (i_lt rfl) rfl rfl fl_Mo_291 ev24 ?_
          refine z_iload_n C 3 x_Mo_farm_102 rfl ?_
          obtain ⟨c25, h⟩ := chk_e h
          obtain ⟨M26, eM26, h⟩ := blet_e h
          refine z_iast C x_Mo_farm_103 nk_117 ck_117 c25 eM26 ?_
          refine z_aload_n C 0 x_Mo_farm_104 rfl ?_
          refine z_dup C x_Mo_farm_105 rfl ?_
          obtain ⟨v27, ev27, h⟩ := blet_e h
          refine z_getI (j := 5) C x_Mo_farm_106 nk_111 ck_111 cw_12 (i_lt rfl) rfl rfl fl_Mo_291 ev27 ?_
          refine z_iconst C x_Mo_farm_109 ?_
          refine z_iadd C x_Mo_farm_110 ?_
          obtain ⟨M28, eM28, h⟩ := blet_e h
          refine z_putI (j := 5) C x_Mo_farm_111 nk_111 ck_111 cw_12 (i_lt rfl) rfl rfl rfl rfl fl_Mo_291 eM28 ?_
          refine z_aload_n C 0 x_Mo_farm_114 rfl ?_
          obtain ⟨v29, ev29, h⟩ := blet_e h
          refine z_getI (j := 5) C x_Mo_farm_115 nk_111 ck_111 cw_12 (i_lt rfl) rfl rfl fl_Mo_291 ev29 ?_
          refine z_iconst C x_Mo_farm_118 ?_
          refine z_isub C x_Mo_farm_119 ?_
          exact z_iret C x_Mo_farm_120 h
theorem x_Mo_elevator_0 : DC b_Mo_elevator 0 (.aload_n 0) 1 1 := ⟨by decide +kernel, rfl⟩
theorem x_Mo_elevator_1 : DC b_Mo_elevator 1 (.iconst 0) 1 2 := ⟨by decide +kernel, rfl⟩
theorem x_Mo_elevator_2 : DC b_Mo_elevator 2 (.putfield 257) 3 5 := ⟨by decide +kernel, rfl⟩
theorem x_Mo_elevator_5 : DC b_Mo_elevator 5 (.aload_n 0) 1 6 := ⟨by decide +kernel, rfl⟩
theorem x_Mo_elevator_6 : DC b_Mo_elevator 6 (.iconst 0) 1 7 := ⟨by decide +kernel, rfl⟩
theorem x_Mo_elevator_7 : DC b_Mo_elevator 7 (.putfield 260) 3 10 := ⟨by decide +kernel, rfl⟩
theorem x_Mo_elevator_10 : DC b_Mo_elevator 10 (.iload_n 1) 1 11 := ⟨by decide +kernel, rfl⟩
theorem x_Mo_elevator_11 : DC b_Mo_elevator 11 (.i2l) 1 12 := ⟨by decide +kernel, rfl⟩
theorem x_Mo_elevator_12 : DC b_Mo_elevator 12 (.lconst 0) 1 13 := ⟨by decide +kernel, rfl⟩
theorem x_Mo_elevator_13 : DC b_Mo_elevator 13 (.ldc2_w 271) 3 16 := ⟨by decide +kernel, rfl⟩
theorem x_Mo_elevator_16 : DC b_Mo_elevator 16 (.invokestatic 265) 3 19 := ⟨by decide +kernel, rfl⟩
theorem x_Mo_elevator_19 : DC b_Mo_elevator 19 (.ifCond .ne 9) 3 22 := ⟨by decide +kernel, rfl⟩
theorem x_Mo_elevator_22 : DC b_Mo_elevator 22 (.aload_n 0) 1 23 := ⟨by decide +kernel, rfl⟩
theorem x_Mo_elevator_23 : DC b_Mo_elevator 23 (.iconst 2) 1 24 := ⟨by decide +kernel, rfl⟩
theorem x_Mo_elevator_24 : DC b_Mo_elevator 24 (.invokevirtual 297) 3 27 := ⟨by decide +kernel, rfl⟩
theorem x_Mo_elevator_27 : DC b_Mo_elevator 27 (.ireturn) 1 28 := ⟨by decide +kernel, rfl⟩
theorem x_Mo_elevator_28 : DC b_Mo_elevator 28 (.iload_n 2) 1 29 := ⟨by decide +kernel, rfl⟩
theorem x_Mo_elevator_29 : DC b_Mo_elevator 29 (.i2l) 1 30 := ⟨by decide +kernel, rfl⟩
theorem x_Mo_elevator_30 : DC b_Mo_elevator 30 (.lconst 1) 1 31 := ⟨by decide +kernel, rfl⟩
theorem x_Mo_elevator_31 : DC b_Mo_elevator 31 (.ldc2_w 304) 3 34 := ⟨by decide +kernel, rfl⟩
theorem x_Mo_elevator_34 : DC b_Mo_elevator 34 (.invokestatic 265) 3 37 := ⟨by decide +kernel, rfl⟩
theorem x_Mo_elevator_37 : DC b_Mo_elevator 37 (.ifCond .ne 9) 3 40 := ⟨by decide +kernel, rfl⟩
theorem x_Mo_elevator_40 : DC b_Mo_elevator 40 (.aload_n 0) 1 41 := ⟨by decide +kernel, rfl⟩
theorem x_Mo_elevator_41 : DC b_Mo_elevator 41 (.iconst 5) 1 42 := ⟨by decide +kernel, rfl⟩
theorem x_Mo_elevator_42 : DC b_Mo_elevator 42 (.invokevirtual 297) 3 45 := ⟨by decide +kernel, rfl⟩
theorem x_Mo_elevator_45 : DC b_Mo_elevator 45 (.ireturn) 1 46 := ⟨by decide +kernel, rfl⟩
theorem x_Mo_elevator_46 : DC b_Mo_elevator 46 (.aload_n 0) 1 47 := ⟨by decide +kernel, rfl⟩
theorem x_Mo_elevator_47 : DC b_Mo_elevator 47 (.getfield 294) 3 50 := ⟨by decide +kernel, rfl⟩
theorem x_Mo_elevator_50 : DC b_Mo_elevator 50 (.bipush 8) 2 52 := ⟨by decide +kernel, rfl⟩
theorem x_Mo_elevator_52 : DC b_Mo_elevator 52 (.if_icmp .ne 10) 3 55 := ⟨by decide +kernel, rfl⟩
theorem x_Mo_elevator_55 : DC b_Mo_elevator 55 (.aload_n 0) 1 56 := ⟨by decide +kernel, rfl⟩
theorem x_Mo_elevator_56 : DC b_Mo_elevator 56 (.bipush 7) 2 58 := ⟨by decide +kernel, rfl⟩
theorem x_Mo_elevator_58 : DC b_Mo_elevator 58 (.invokevirtual 297) 3 61 := ⟨by decide +kernel, rfl⟩
theorem x_Mo_elevator_61 : DC b_Mo_elevator 61 (.ireturn) 1 62 := ⟨by decide +kernel, rfl⟩
theorem x_Mo_elevator_62 : DC b_Mo_elevator 62 (.aload_n 0) 1 63 := ⟨by decide +kernel, rfl⟩
theorem x_Mo_elevator_63 : DC b_Mo_elevator 63 (.getfield 29) 3 66 := ⟨by decide +kernel, rfl⟩
theorem x_Mo_elevator_66 : DC b_Mo_elevator 66 (.aload_n 0) 1 67 := ⟨by decide +kernel, rfl⟩
theorem x_Mo_elevator_67 : DC b_Mo_elevator 67 (.getfield 294) 3 70 := ⟨by decide +kernel, rfl⟩
theorem x_Mo_elevator_70 : DC b_Mo_elevator 70 (.iload_n 1) 1 71 := ⟨by decide +kernel, rfl⟩
theorem x_Mo_elevator_71 : DC b_Mo_elevator 71 (.iastore) 1 72 := ⟨by decide +kernel, rfl⟩
theorem x_Mo_elevator_72 : DC b_Mo_elevator 72 (.aload_n 0) 1 73 := ⟨by decide +kernel, rfl⟩
theorem x_Mo_elevator_73 : DC b_Mo_elevator 73 (.getfield 32) 3 76 := ⟨by decide +kernel, rfl⟩
theorem x_Mo_elevator_76 : DC b_Mo_elevator 76 (.aload_n 0) 1 77 := ⟨by decide +kernel, rfl⟩
theorem x_Mo_elevator_77 : DC b_Mo_elevator 77 (.getfield 294) 3 80 := ⟨by decide +kernel, rfl⟩
theorem x_Mo_elevator_80 : DC b_Mo_elevator 80 (.iload_n 2) 1 81 := ⟨by decide +kernel, rfl⟩
theorem x_Mo_elevator_81 : DC b_Mo_elevator 81 (.iastore) 1 82 := ⟨by decide +kernel, rfl⟩
theorem x_Mo_elevator_82 : DC b_Mo_elevator 82 (.aload_n 0) 1 83 := ⟨by decide +kernel, rfl⟩
theorem x_Mo_elevator_83 : DC b_Mo_elevator 83 (.dup) 1 84 := ⟨by decide +kernel, rfl⟩
theorem x_Mo_elevator_84 : DC b_Mo_elevator 84 (.getfield 294) 3 87 := ⟨by decide +kernel, rfl⟩
theorem x_Mo_elevator_87 : DC b_Mo_elevator 87 (.iconst 1) 1 88 := ⟨by decide +kernel, rfl⟩
theorem x_Mo_elevator_88 : DC b_Mo_elevator 88 (.iadd) 1 89 := ⟨by decide +kernel, rfl⟩
theorem x_Mo_elevator_89 : DC b_Mo_elevator 89 (.putfield 294) 3 92 := ⟨by decide +kernel, rfl⟩
theorem x_Mo_elevator_92 : DC b_Mo_elevator 92 (.aload_n 0) 1 93 := ⟨by decide +kernel, rfl⟩
theorem x_Mo_elevator_93 : DC b_Mo_elevator 93 (.getfield 294) 3 96 := ⟨by decide +kernel, rfl⟩
theorem x_Mo_elevator_96 : DC b_Mo_elevator 96 (.iconst 1) 1 97 := ⟨by decide +kernel, rfl⟩
theorem x_Mo_elevator_97 : DC b_Mo_elevator 97 (.isub) 1 98 := ⟨by decide +kernel, rfl⟩
theorem x_Mo_elevator_98 : DC b_Mo_elevator 98 (.ireturn) 1 99 := ⟨by decide +kernel, rfl⟩
def d_Mo_elevator (a1 a2 : Int) (M : Mem) : Res := blet (sto M 111 1 0) fun M1 => blet (sto M1 111 0 0) fun M2 => bcall (d_Mo_isIn (w32 a1) 0 5 M2) fun v3 M4 => if w32 v3 = 0 then (bcall (d_Mo_refuse 2 M4) fun v6 M7 => some (v6, M7)) else (bcall (d_Mo_isIn (w32 a2) 1 1000000 M4) fun v8 M9 => if w32 v8 = 0 then (bcall (d_Mo_refuse 5 M9) fun v11 M12 => some (v11, M12)) else (blet (M9 111 6) fun v13 => if w32 v13 = 8 then (bcall (d_Mo_refuse 7 M9) fun v15 M16 => some (v15, M16)) else (blet (M9 111 6) fun v17 => chk (0 ≤ w32 v17 ∧ w32 v17 < 8) <| blet (sto M9 118 (ix v17) a1) fun M19 => blet (M19 111 6) fun v20 => chk (0 ≤ w32 v20 ∧ w32 v20 < 8) <| blet (sto M19 119 (ix v20) a2) fun M22 => blet (M22 111 6) fun v23 => blet (sto M22 111 6 (v23 + 1)) fun M24 => blet (M24 111 6) fun v25 => some (v25 - 1, M24))))
theorem t_Mo_elevator (l : Launch) (G : GX) {lev : Nat} (hlev : 1 ≤ lev) {a1 a2 : Int} {M : Mem} {r : Int × Mem} (h : d_Mo_elevator a1 a2 M = some r) : Mt l G y_Mo_elevator b_Mo_elevator 3 (some .int) lev 1 [.ref (G.1 + 111), vi a1, vi a2] M r := by
  refine Mt.of (by decide) (i_le rfl) ?_
  intro p e s m args below meth c C
  have C : Cx p s m args meth c G b_Mo_elevator 3 "PrairiePoolModel" (some .int) := C
  unfold d_Mo_elevator at h
  refine z_sub (lv' := [(0, .ref (G.1 + 111)), (1, vi a1), (2, vi a2)]) [0, 1, 2] rfl ?_
  refine z_aload_n C 0 x_Mo_elevator_0 rfl ?_
  refine z_iconst C x_Mo_elevator_1 ?_
  obtain ⟨M1, eM1, h⟩ := blet_e h
  refine z_putI (j := 1) C x_Mo_elevator_2 nk_111 ck_111 cw_12 (i_lt rfl) rfl rfl rfl rfl fl_Mo_257 eM1 ?_
  refine z_aload_n C 0 x_Mo_elevator_5 rfl ?_
  refine z_iconst C x_Mo_elevator_6 ?_
  obtain ⟨M2, eM2, h⟩ := blet_e h
  refine z_putI (j := 0) C x_Mo_elevator_7 nk_111 ck_111 cw_12 (i_lt rfl) rfl rfl rfl rfl fl_Mo_260 eM2 ?_
  refine z_iload_n C 1 x_Mo_elevator_10 rfl ?_
  refine z_i2l C x_Mo_elevator_11 ?_
  refine z_lconst0 C x_Mo_elevator_12 ?_
  refine z_ldc2 C kl_Mo_271 x_Mo_elevator_13 ?_
  obtain ⟨v3, M4, fv3, h⟩ := bcall_e h
  refine z_callSi C x_Mo_elevator_16 cs_Mo_265 (t_Mo_isIn (lev := lev - 1) l G (by omega) fv3) (by omega) rfl (i_le rfl) rfl ?_
  rcases ite_e h with ⟨c5, h⟩ | ⟨c5, h⟩
  · refine z_if_ne_f (tgt := 28) C x_Mo_elevator_19 rfl c5 ?_
    refine z_aload_n C 0 x_Mo_elevator_22 rfl ?_
    refine z_iconst C x_Mo_elevator_23 ?_
    obtain ⟨v6, M7, fv6, h⟩ := bcall_e h
    refine z_callVi (k := 111) C x_Mo_elevator_24 cv_Mo_297 (t_Mo_refuse (lev := lev - 1) l G (by omega) fv6) nk_111 ck_111 rfl (by omega) rfl (i_le rfl) rfl ?_
    exact z_iret C x_Mo_elevator_27 h
  · refine z_if_ne_t (tgt := 28) C x_Mo_elevator_19 rfl c5 ?_
    refine z_iload_n C 2 x_Mo_elevator_28 rfl ?_
    refine z_i2l C x_Mo_elevator_29 ?_
    refine z_lconst1 C x_Mo_elevator_30 ?_
    refine z_ldc2 C kl_Mo_304 x_Mo_elevator_31 ?_
    obtain ⟨v8, M9, fv8, h⟩ := bcall_e h
    refine z_callSi C x_Mo_elevator_34 cs_Mo_265 (t_Mo_isIn (lev := lev - 1) l G (by omega) fv8) (by omega) rfl (i_le rfl) rfl ?_
    rcases ite_e h with ⟨c10, h⟩ | ⟨c10, h⟩
    · refine z_if_ne_f (tgt := 46) C x_Mo_elevator_37 rfl c10 ?_
      refine z_aload_n C 0 x_Mo_elevator_40 rfl ?_
      refine z_iconst C x_Mo_elevator_41 ?_
      obtain ⟨v11, M12, fv11, h⟩ := bcall_e h
      refine z_callVi (k := 111) C x_Mo_elevator_42 cv_Mo_297 (t_Mo_refuse (lev := lev - 1) l G (by omega) fv11) nk_111 ck_111 rfl (by omega) rfl (i_le rfl) rfl ?_
      exact z_iret C x_Mo_elevator_45 h
    · refine z_if_ne_t (tgt := 46) C x_Mo_elevator_37 rfl c10 ?_
      refine z_aload_n C 0 x_Mo_elevator_46 rfl ?_
      obtain ⟨v13, ev13, h⟩ := blet_e h
      refine z_getI (j := 6) C x_Mo_elevator_47 nk_111 ck_111 cw_12 (i_lt rfl) rfl rfl fl_Mo_294 ev13 ?_
      refine z_bipush C rfl x_Mo_elevator_50 ?_
      rcases ite_e h with ⟨c14, h⟩ | ⟨c14, h⟩
      · refine z_icmp_ne_f (tgt := 62) C x_Mo_elevator_52 rfl c14 ?_
        refine z_aload_n C 0 x_Mo_elevator_55 rfl ?_
        refine z_bipush C rfl x_Mo_elevator_56 ?_
        obtain ⟨v15, M16, fv15, h⟩ := bcall_e h
        refine z_callVi (k := 111) C x_Mo_elevator_58 cv_Mo_297 (t_Mo_refuse (lev := lev - 1) l G (by omega) fv15) nk_111 ck_111 rfl (by omega) rfl (i_le rfl) rfl ?_
        exact z_iret C x_Mo_elevator_61 h
      · refine z_icmp_ne_t (tgt := 62) C x_Mo_elevator_52 rfl c14 ?_
        refine z_aload_n C 0 x_Mo_elevator_62 rfl ?_
        refine z_getR (j := 14) C x_Mo_elevator_63 nk_111 ck_111 cw_12 (i_lt rfl) rfl rf_111_14 rfl fl_Mo_29 ?_
        refine z_aload_n C 0 x_Mo_elevator_66 rfl ?_
        obtain ⟨v17, ev17, h⟩ := blet_e h
        refine z_getI (j := 6) C x_Mo_elevator_67 nk_111 ck_111 cw_12 (i_lt rfl) rfl rfl fl_Mo_294 ev17 ?_
        refine z_iload_n C 1 x_Mo_elevator_70 rfl ?_
        obtain ⟨c18, h⟩ := chk_e h
        obtain ⟨M19, eM19, h⟩ := blet_e h
        refine z_iast C x_Mo_elevator_71 nk_118 ck_118 c18 eM19 ?_
        refine z_aload_n C 0 x_Mo_elevator_72 rfl ?_
        refine z_getR (j := 15) C x_Mo_elevator_73 nk_111 ck_111 cw_12 (i_lt rfl) rfl rf_111_15 rfl fl_Mo_32 ?_
        refine z_aload_n C 0 x_Mo_elevator_76 rfl ?_
        obtain ⟨v20, ev20, h⟩ := blet_e h
        refine z_getI (j := 6) C x_Mo_elevator_77 nk_111 ck_111 cw_12 (i_lt rfl) rfl rfl fl_Mo_294 ev20 ?_
        refine z_iload_n C 2 x_Mo_elevator_80 rfl ?_
        obtain ⟨c21, h⟩ := chk_e h
        obtain ⟨M22, eM22, h⟩ := blet_e h
        refine z_iast C x_Mo_elevator_81 nk_119 ck_119 c21 eM22 ?_
        refine z_aload_n C 0 x_Mo_elevator_82 rfl ?_
        refine z_dup C x_Mo_elevator_83 rfl ?_
        obtain ⟨v23, ev23, h⟩ := blet_e h
        refine z_getI (j := 6) C x_Mo_elevator_84 nk_111 ck_111 cw_12 (i_lt rfl) rfl rfl fl_Mo_294 ev23 ?_
        refine z_iconst C x_Mo_elevator_87 ?_
        refine z_iadd C x_Mo_elevator_88 ?_
        obtain ⟨M24, eM24, h⟩ := blet_e h
        refine z_putI (j := 6) C x_Mo_elevator_89 nk_111 ck_111 cw_12 (i_lt rfl) rfl rfl rfl rfl fl_Mo_294 eM24 ?_
        refine z_aload_n C 0 x_Mo_elevator_92 rfl ?_
        obtain ⟨v25, ev25, h⟩ := blet_e h
        refine z_getI (j := 6) C x_Mo_elevator_93 nk_111 ck_111 cw_12 (i_lt rfl) rfl rfl fl_Mo_294 ev25 ?_
        refine z_iconst C x_Mo_elevator_96 ?_
        refine z_isub C x_Mo_elevator_97 ?_
        exact z_iret C x_Mo_elevator_98 h
theorem x_Mo_isFarm_0 : DC b_Mo_isFarm 0 (.iload_n 1) 1 1 := ⟨by decide +kernel, rfl⟩
theorem x_Mo_isFarm_1 : DC b_Mo_isFarm 1 (.i2l) 1 2 := ⟨by decide +kernel, rfl⟩
theorem x_Mo_isFarm_2 : DC b_Mo_isFarm 2 (.lconst 0) 1 3 := ⟨by decide +kernel, rfl⟩
theorem x_Mo_isFarm_3 : DC b_Mo_isFarm 3 (.aload_n 0) 1 4 := ⟨by decide +kernel, rfl⟩
theorem x_Mo_isFarm_4 : DC b_Mo_isFarm 4 (.getfield 291) 3 7 := ⟨by decide +kernel, rfl⟩
theorem x_Mo_isFarm_7 : DC b_Mo_isFarm 7 (.iconst 1) 1 8 := ⟨by decide +kernel, rfl⟩
theorem x_Mo_isFarm_8 : DC b_Mo_isFarm 8 (.isub) 1 9 := ⟨by decide +kernel, rfl⟩
theorem x_Mo_isFarm_9 : DC b_Mo_isFarm 9 (.i2l) 1 10 := ⟨by decide +kernel, rfl⟩
theorem x_Mo_isFarm_10 : DC b_Mo_isFarm 10 (.invokestatic 265) 3 13 := ⟨by decide +kernel, rfl⟩
theorem x_Mo_isFarm_13 : DC b_Mo_isFarm 13 (.ireturn) 1 14 := ⟨by decide +kernel, rfl⟩
def d_Mo_isFarm (a1 : Int) (M : Mem) : Res := blet (M 111 5) fun v1 => bcall (d_Mo_isIn (w32 a1) 0 (w32 (v1 - 1)) M) fun v2 M3 => chk (w32 v2 = 0 ∨ w32 v2 = 1) <| some (v2, M3)
theorem t_Mo_isFarm (l : Launch) (G : GX) {lev : Nat} (hlev : 1 ≤ lev) {a1 : Int} {M : Mem} {r : Int × Mem} (h : d_Mo_isFarm a1 M = some r) : Mt l G y_Mo_isFarm b_Mo_isFarm 2 (some .boolean) lev 1 [.ref (G.1 + 111), vi a1] M r := by
  refine Mt.of (by decide) (i_le rfl) ?_
  intro p e s m args below meth c C
  have C : Cx p s m args meth c G b_Mo_isFarm 2 "PrairiePoolModel" (some .boolean) := C
  unfold d_Mo_isFarm at h
  refine z_sub (lv' := [(0, .ref (G.1 + 111)), (1, vi a1)]) [0, 1] rfl ?_
  refine z_iload_n C 1 x_Mo_isFarm_0 rfl ?_
  refine z_i2l C x_Mo_isFarm_1 ?_
  refine z_lconst0 C x_Mo_isFarm_2 ?_
  refine z_aload_n C 0 x_Mo_isFarm_3 rfl ?_
  obtain ⟨v1, ev1, h⟩ := blet_e h
  refine z_getI (j := 5) C x_Mo_isFarm_4 nk_111 ck_111 cw_12 (i_lt rfl) rfl rfl fl_Mo_291 ev1 ?_
  refine z_iconst C x_Mo_isFarm_7 ?_
  refine z_isub C x_Mo_isFarm_8 ?_
  refine z_i2l C x_Mo_isFarm_9 ?_
  obtain ⟨v2, M3, fv2, h⟩ := bcall_e h
  refine z_callSi C x_Mo_isFarm_10 cs_Mo_265 (t_Mo_isIn (lev := lev - 1) l G (by omega) fv2) (by omega) rfl (i_le rfl) rfl ?_
  obtain ⟨c4, h⟩ := chk_e h
  exact z_zret C x_Mo_isFarm_13 c4 h
theorem x_Mo_isElevator_0 : DC b_Mo_isElevator 0 (.iload_n 1) 1 1 := ⟨by decide +kernel, rfl⟩
theorem x_Mo_isElevator_1 : DC b_Mo_isElevator 1 (.i2l) 1 2 := ⟨by decide +kernel, rfl⟩
theorem x_Mo_isElevator_2 : DC b_Mo_isElevator 2 (.lconst 0) 1 3 := ⟨by decide +kernel, rfl⟩
theorem x_Mo_isElevator_3 : DC b_Mo_isElevator 3 (.aload_n 0) 1 4 := ⟨by decide +kernel, rfl⟩
theorem x_Mo_isElevator_4 : DC b_Mo_isElevator 4 (.getfield 294) 3 7 := ⟨by decide +kernel, rfl⟩
theorem x_Mo_isElevator_7 : DC b_Mo_isElevator 7 (.iconst 1) 1 8 := ⟨by decide +kernel, rfl⟩
theorem x_Mo_isElevator_8 : DC b_Mo_isElevator 8 (.isub) 1 9 := ⟨by decide +kernel, rfl⟩
theorem x_Mo_isElevator_9 : DC b_Mo_isElevator 9 (.i2l) 1 10 := ⟨by decide +kernel, rfl⟩
theorem x_Mo_isElevator_10 : DC b_Mo_isElevator 10 (.invokestatic 265) 3 13 := ⟨by decide +kernel, rfl⟩
theorem x_Mo_isElevator_13 : DC b_Mo_isElevator 13 (.ireturn) 1 14 := ⟨by decide +kernel, rfl⟩
def d_Mo_isElevator (a1 : Int) (M : Mem) : Res := blet (M 111 6) fun v1 => bcall (d_Mo_isIn (w32 a1) 0 (w32 (v1 - 1)) M) fun v2 M3 => chk (w32 v2 = 0 ∨ w32 v2 = 1) <| some (v2, M3)
theorem t_Mo_isElevator (l : Launch) (G : GX) {lev : Nat} (hlev : 1 ≤ lev) {a1 : Int} {M : Mem} {r : Int × Mem} (h : d_Mo_isElevator a1 M = some r) : Mt l G y_Mo_isElevator b_Mo_isElevator 2 (some .boolean) lev 1 [.ref (G.1 + 111), vi a1] M r := by
  refine Mt.of (by decide) (i_le rfl) ?_
  intro p e s m args below meth c C
  have C : Cx p s m args meth c G b_Mo_isElevator 2 "PrairiePoolModel" (some .boolean) := C
  unfold d_Mo_isElevator at h
  refine z_sub (lv' := [(0, .ref (G.1 + 111)), (1, vi a1)]) [0, 1] rfl ?_
  refine z_iload_n C 1 x_Mo_isElevator_0 rfl ?_
  refine z_i2l C x_Mo_isElevator_1 ?_
  refine z_lconst0 C x_Mo_isElevator_2 ?_
  refine z_aload_n C 0 x_Mo_isElevator_3 rfl ?_
  obtain ⟨v1, ev1, h⟩ := blet_e h
  refine z_getI (j := 6) C x_Mo_isElevator_4 nk_111 ck_111 cw_12 (i_lt rfl) rfl rfl fl_Mo_294 ev1 ?_
  refine z_iconst C x_Mo_isElevator_7 ?_
  refine z_isub C x_Mo_isElevator_8 ?_
  refine z_i2l C x_Mo_isElevator_9 ?_
  obtain ⟨v2, M3, fv2, h⟩ := bcall_e h
  refine z_callSi C x_Mo_isElevator_10 cs_Mo_265 (t_Mo_isIn (lev := lev - 1) l G (by omega) fv2) (by omega) rfl (i_le rfl) rfl ?_
  obtain ⟨c4, h⟩ := chk_e h
  exact z_zret C x_Mo_isElevator_13 c4 h
theorem x_Mo_isDay_0 : DC b_Mo_isDay 0 (.iload_n 0) 1 1 := ⟨by decide +kernel, rfl⟩
theorem x_Mo_isDay_1 : DC b_Mo_isDay 1 (.i2l) 1 2 := ⟨by decide +kernel, rfl⟩
theorem x_Mo_isDay_2 : DC b_Mo_isDay 2 (.lconst 0) 1 3 := ⟨by decide +kernel, rfl⟩
theorem x_Mo_isDay_3 : DC b_Mo_isDay 3 (.ldc2_w 263) 3 6 := ⟨by decide +kernel, rfl⟩
theorem x_Mo_isDay_6 : DC b_Mo_isDay 6 (.invokestatic 265) 3 9 := ⟨by decide +kernel, rfl⟩
theorem x_Mo_isDay_9 : DC b_Mo_isDay 9 (.ireturn) 1 10 := ⟨by decide +kernel, rfl⟩
def d_Mo_isDay (a0 : Int) (M : Mem) : Res := bcall (d_Mo_isIn (w32 a0) 0 519 M) fun v1 M2 => chk (w32 v1 = 0 ∨ w32 v1 = 1) <| some (v1, M2)
theorem t_Mo_isDay (l : Launch) (G : GX) {lev : Nat} (hlev : 1 ≤ lev) {a0 : Int} {M : Mem} {r : Int × Mem} (h : d_Mo_isDay a0 M = some r) : Mt l G y_Mo_isDay b_Mo_isDay 1 (some .boolean) lev 1 [vi a0] M r := by
  refine Mt.of (by decide) (i_le rfl) ?_
  intro p e s m args below meth c C
  have C : Cx p s m args meth c G b_Mo_isDay 1 "PrairiePoolModel" (some .boolean) := C
  unfold d_Mo_isDay at h
  refine z_sub (lv' := [(0, vi a0)]) [0] rfl ?_
  refine z_iload_n C 0 x_Mo_isDay_0 rfl ?_
  refine z_i2l C x_Mo_isDay_1 ?_
  refine z_lconst0 C x_Mo_isDay_2 ?_
  refine z_ldc2 C kl_Mo_263 x_Mo_isDay_3 ?_
  obtain ⟨v1, M2, fv1, h⟩ := bcall_e h
  refine z_callSi C x_Mo_isDay_6 cs_Mo_265 (t_Mo_isIn (lev := lev - 1) l G (by omega) fv1) (by omega) rfl (i_le rfl) rfl ?_
  obtain ⟨c3, h⟩ := chk_e h
  exact z_zret C x_Mo_isDay_9 c3 h
theorem x_Mo_event_0 : DC b_Mo_event 0 (.iload 9) 2 2 := ⟨by decide +kernel, rfl⟩
theorem x_Mo_event_2 : DC b_Mo_event 2 (.invokestatic 306) 3 5 := ⟨by decide +kernel, rfl⟩
theorem x_Mo_event_5 : DC b_Mo_event 5 (.ifCond .eq 18) 3 8 := ⟨by decide +kernel, rfl⟩
theorem x_Mo_event_8 : DC b_Mo_event 8 (.iload 10) 2 10 := ⟨by decide +kernel, rfl⟩
theorem x_Mo_event_10 : DC b_Mo_event 10 (.i2l) 1 11 := ⟨by decide +kernel, rfl⟩
theorem x_Mo_event_11 : DC b_Mo_event 11 (.iload 9) 2 13 := ⟨by decide +kernel, rfl⟩
theorem x_Mo_event_13 : DC b_Mo_event 13 (.i2l) 1 14 := ⟨by decide +kernel, rfl⟩
theorem x_Mo_event_14 : DC b_Mo_event 14 (.ldc2_w 263) 3 17 := ⟨by decide +kernel, rfl⟩
theorem x_Mo_event_17 : DC b_Mo_event 17 (.invokestatic 265) 3 20 := ⟨by decide +kernel, rfl⟩
theorem x_Mo_event_20 : DC b_Mo_event 20 (.ifCond .ne 9) 3 23 := ⟨by decide +kernel, rfl⟩
theorem x_Mo_event_23 : DC b_Mo_event 23 (.aload_n 0) 1 24 := ⟨by decide +kernel, rfl⟩
theorem x_Mo_event_24 : DC b_Mo_event 24 (.iconst 5) 1 25 := ⟨by decide +kernel, rfl⟩
theorem x_Mo_event_25 : DC b_Mo_event 25 (.invokevirtual 297) 3 28 := ⟨by decide +kernel, rfl⟩
theorem x_Mo_event_28 : DC b_Mo_event 28 (.ireturn) 1 29 := ⟨by decide +kernel, rfl⟩
theorem x_Mo_event_29 : DC b_Mo_event 29 (.aload_n 0) 1 30 := ⟨by decide +kernel, rfl⟩
theorem x_Mo_event_30 : DC b_Mo_event 30 (.getfield 309) 3 33 := ⟨by decide +kernel, rfl⟩
theorem x_Mo_event_33 : DC b_Mo_event 33 (.bipush 120) 2 35 := ⟨by decide +kernel, rfl⟩
theorem x_Mo_event_35 : DC b_Mo_event 35 (.if_icmp .ne 10) 3 38 := ⟨by decide +kernel, rfl⟩
theorem x_Mo_event_38 : DC b_Mo_event 38 (.aload_n 0) 1 39 := ⟨by decide +kernel, rfl⟩
theorem x_Mo_event_39 : DC b_Mo_event 39 (.bipush 7) 2 41 := ⟨by decide +kernel, rfl⟩
theorem x_Mo_event_41 : DC b_Mo_event 41 (.invokevirtual 297) 3 44 := ⟨by decide +kernel, rfl⟩
theorem x_Mo_event_44 : DC b_Mo_event 44 (.ireturn) 1 45 := ⟨by decide +kernel, rfl⟩
theorem x_Mo_event_45 : DC b_Mo_event 45 (.iload 9) 2 47 := ⟨by decide +kernel, rfl⟩
theorem x_Mo_event_47 : DC b_Mo_event 47 (.aload_n 0) 1 48 := ⟨by decide +kernel, rfl⟩
theorem x_Mo_event_48 : DC b_Mo_event 48 (.getfield 312) 3 51 := ⟨by decide +kernel, rfl⟩
theorem x_Mo_event_51 : DC b_Mo_event 51 (.if_icmp .lt 12) 3 54 := ⟨by decide +kernel, rfl⟩
theorem x_Mo_event_54 : DC b_Mo_event 54 (.iload 10) 2 56 := ⟨by decide +kernel, rfl⟩
theorem x_Mo_event_56 : DC b_Mo_event 56 (.aload_n 0) 1 57 := ⟨by decide +kernel, rfl⟩
theorem x_Mo_event_57 : DC b_Mo_event 57 (.getfield 315) 3 60 := ⟨by decide +kernel, rfl⟩
theorem x_Mo_event_60 : DC b_Mo_event 60 (.if_icmp .ge 10) 3 63 := ⟨by decide +kernel, rfl⟩
theorem x_Mo_event_63 : DC b_Mo_event 63 (.aload_n 0) 1 64 := ⟨by decide +kernel, rfl⟩
theorem x_Mo_event_64 : DC b_Mo_event 64 (.bipush 12) 2 66 := ⟨by decide +kernel, rfl⟩
theorem x_Mo_event_66 : DC b_Mo_event 66 (.invokevirtual 297) 3 69 := ⟨by decide +kernel, rfl⟩
theorem x_Mo_event_69 : DC b_Mo_event 69 (.ireturn) 1 70 := ⟨by decide +kernel, rfl⟩
theorem x_Mo_event_70 : DC b_Mo_event 70 (.aload_n 0) 1 71 := ⟨by decide +kernel, rfl⟩
theorem x_Mo_event_71 : DC b_Mo_event 71 (.getfield 35) 3 74 := ⟨by decide +kernel, rfl⟩
theorem x_Mo_event_74 : DC b_Mo_event 74 (.aload_n 0) 1 75 := ⟨by decide +kernel, rfl⟩
theorem x_Mo_event_75 : DC b_Mo_event 75 (.getfield 309) 3 78 := ⟨by decide +kernel, rfl⟩
theorem x_Mo_event_78 : DC b_Mo_event 78 (.iload_n 1) 1 79 := ⟨by decide +kernel, rfl⟩
theorem x_Mo_event_79 : DC b_Mo_event 79 (.iastore) 1 80 := ⟨by decide +kernel, rfl⟩
theorem x_Mo_event_80 : DC b_Mo_event 80 (.aload_n 0) 1 81 := ⟨by decide +kernel, rfl⟩
theorem x_Mo_event_81 : DC b_Mo_event 81 (.getfield 38) 3 84 := ⟨by decide +kernel, rfl⟩
theorem x_Mo_event_84 : DC b_Mo_event 84 (.aload_n 0) 1 85 := ⟨by decide +kernel, rfl⟩
theorem x_Mo_event_85 : DC b_Mo_event 85 (.getfield 309) 3 88 := ⟨by decide +kernel, rfl⟩
theorem x_Mo_event_88 : DC b_Mo_event 88 (.iload_n 2) 1 89 := ⟨by decide +kernel, rfl⟩
theorem x_Mo_event_89 : DC b_Mo_event 89 (.iastore) 1 90 := ⟨by decide +kernel, rfl⟩
theorem x_Mo_event_90 : DC b_Mo_event 90 (.aload_n 0) 1 91 := ⟨by decide +kernel, rfl⟩
theorem x_Mo_event_91 : DC b_Mo_event 91 (.getfield 41) 3 94 := ⟨by decide +kernel, rfl⟩
theorem x_Mo_event_94 : DC b_Mo_event 94 (.aload_n 0) 1 95 := ⟨by decide +kernel, rfl⟩
theorem x_Mo_event_95 : DC b_Mo_event 95 (.getfield 309) 3 98 := ⟨by decide +kernel, rfl⟩
theorem x_Mo_event_98 : DC b_Mo_event 98 (.iload_n 3) 1 99 := ⟨by decide +kernel, rfl⟩
theorem x_Mo_event_99 : DC b_Mo_event 99 (.iastore) 1 100 := ⟨by decide +kernel, rfl⟩
theorem x_Mo_event_100 : DC b_Mo_event 100 (.aload_n 0) 1 101 := ⟨by decide +kernel, rfl⟩
theorem x_Mo_event_101 : DC b_Mo_event 101 (.getfield 44) 3 104 := ⟨by decide +kernel, rfl⟩
theorem x_Mo_event_104 : DC b_Mo_event 104 (.aload_n 0) 1 105 := ⟨by decide +kernel, rfl⟩
theorem x_Mo_event_105 : DC b_Mo_event 105 (.getfield 309) 3 108 := ⟨by decide +kernel, rfl⟩
theorem x_Mo_event_108 : DC b_Mo_event 108 (.iload 4) 2 110 := ⟨by decide +kernel, rfl⟩
theorem x_Mo_event_110 : DC b_Mo_event 110 (.iastore) 1 111 := ⟨by decide +kernel, rfl⟩
theorem x_Mo_event_111 : DC b_Mo_event 111 (.aload_n 0) 1 112 := ⟨by decide +kernel, rfl⟩
theorem x_Mo_event_112 : DC b_Mo_event 112 (.getfield 47) 3 115 := ⟨by decide +kernel, rfl⟩
theorem x_Mo_event_115 : DC b_Mo_event 115 (.aload_n 0) 1 116 := ⟨by decide +kernel, rfl⟩
theorem x_Mo_event_116 : DC b_Mo_event 116 (.getfield 309) 3 119 := ⟨by decide +kernel, rfl⟩
theorem x_Mo_event_119 : DC b_Mo_event 119 (.iload 5) 2 121 := ⟨by decide +kernel, rfl⟩
theorem x_Mo_event_121 : DC b_Mo_event 121 (.iastore) 1 122 := ⟨by decide +kernel, rfl⟩
theorem x_Mo_event_122 : DC b_Mo_event 122 (.aload_n 0) 1 123 := ⟨by decide +kernel, rfl⟩
theorem x_Mo_event_123 : DC b_Mo_event 123 (.getfield 50) 3 126 := ⟨by decide +kernel, rfl⟩
theorem x_Mo_event_126 : DC b_Mo_event 126 (.aload_n 0) 1 127 := ⟨by decide +kernel, rfl⟩
theorem x_Mo_event_127 : DC b_Mo_event 127 (.getfield 309) 3 130 := ⟨by decide +kernel, rfl⟩
theorem x_Mo_event_130 : DC b_Mo_event 130 (.iload 6) 2 132 := ⟨by decide +kernel, rfl⟩
theorem x_Mo_event_132 : DC b_Mo_event 132 (.iastore) 1 133 := ⟨by decide +kernel, rfl⟩
theorem x_Mo_event_133 : DC b_Mo_event 133 (.aload_n 0) 1 134 := ⟨by decide +kernel, rfl⟩
theorem x_Mo_event_134 : DC b_Mo_event 134 (.getfield 53) 3 137 := ⟨by decide +kernel, rfl⟩
theorem x_Mo_event_137 : DC b_Mo_event 137 (.aload_n 0) 1 138 := ⟨by decide +kernel, rfl⟩
theorem x_Mo_event_138 : DC b_Mo_event 138 (.getfield 309) 3 141 := ⟨by decide +kernel, rfl⟩
theorem x_Mo_event_141 : DC b_Mo_event 141 (.iload 7) 2 143 := ⟨by decide +kernel, rfl⟩
theorem x_Mo_event_143 : DC b_Mo_event 143 (.iastore) 1 144 := ⟨by decide +kernel, rfl⟩
theorem x_Mo_event_144 : DC b_Mo_event 144 (.aload_n 0) 1 145 := ⟨by decide +kernel, rfl⟩
theorem x_Mo_event_145 : DC b_Mo_event 145 (.getfield 56) 3 148 := ⟨by decide +kernel, rfl⟩
theorem x_Mo_event_148 : DC b_Mo_event 148 (.aload_n 0) 1 149 := ⟨by decide +kernel, rfl⟩
theorem x_Mo_event_149 : DC b_Mo_event 149 (.getfield 309) 3 152 := ⟨by decide +kernel, rfl⟩
theorem x_Mo_event_152 : DC b_Mo_event 152 (.iload 8) 2 154 := ⟨by decide +kernel, rfl⟩
theorem x_Mo_event_154 : DC b_Mo_event 154 (.iastore) 1 155 := ⟨by decide +kernel, rfl⟩
theorem x_Mo_event_155 : DC b_Mo_event 155 (.aload_n 0) 1 156 := ⟨by decide +kernel, rfl⟩
theorem x_Mo_event_156 : DC b_Mo_event 156 (.getfield 59) 3 159 := ⟨by decide +kernel, rfl⟩
theorem x_Mo_event_159 : DC b_Mo_event 159 (.aload_n 0) 1 160 := ⟨by decide +kernel, rfl⟩
theorem x_Mo_event_160 : DC b_Mo_event 160 (.getfield 309) 3 163 := ⟨by decide +kernel, rfl⟩
theorem x_Mo_event_163 : DC b_Mo_event 163 (.iload 9) 2 165 := ⟨by decide +kernel, rfl⟩
theorem x_Mo_event_165 : DC b_Mo_event 165 (.iastore) 1 166 := ⟨by decide +kernel, rfl⟩
theorem x_Mo_event_166 : DC b_Mo_event 166 (.aload_n 0) 1 167 := ⟨by decide +kernel, rfl⟩
theorem x_Mo_event_167 : DC b_Mo_event 167 (.getfield 62) 3 170 := ⟨by decide +kernel, rfl⟩
theorem x_Mo_event_170 : DC b_Mo_event 170 (.aload_n 0) 1 171 := ⟨by decide +kernel, rfl⟩
theorem x_Mo_event_171 : DC b_Mo_event 171 (.getfield 309) 3 174 := ⟨by decide +kernel, rfl⟩
theorem x_Mo_event_174 : DC b_Mo_event 174 (.iload 10) 2 176 := ⟨by decide +kernel, rfl⟩
theorem x_Mo_event_176 : DC b_Mo_event 176 (.iastore) 1 177 := ⟨by decide +kernel, rfl⟩
theorem x_Mo_event_177 : DC b_Mo_event 177 (.aload_n 0) 1 178 := ⟨by decide +kernel, rfl⟩
theorem x_Mo_event_178 : DC b_Mo_event 178 (.dup) 1 179 := ⟨by decide +kernel, rfl⟩
theorem x_Mo_event_179 : DC b_Mo_event 179 (.getfield 309) 3 182 := ⟨by decide +kernel, rfl⟩
theorem x_Mo_event_182 : DC b_Mo_event 182 (.iconst 1) 1 183 := ⟨by decide +kernel, rfl⟩
theorem x_Mo_event_183 : DC b_Mo_event 183 (.iadd) 1 184 := ⟨by decide +kernel, rfl⟩
theorem x_Mo_event_184 : DC b_Mo_event 184 (.putfield 309) 3 187 := ⟨by decide +kernel, rfl⟩
theorem x_Mo_event_187 : DC b_Mo_event 187 (.aload_n 0) 1 188 := ⟨by decide +kernel, rfl⟩
theorem x_Mo_event_188 : DC b_Mo_event 188 (.iload 9) 2 190 := ⟨by decide +kernel, rfl⟩
theorem x_Mo_event_190 : DC b_Mo_event 190 (.putfield 312) 3 193 := ⟨by decide +kernel, rfl⟩
theorem x_Mo_event_193 : DC b_Mo_event 193 (.aload_n 0) 1 194 := ⟨by decide +kernel, rfl⟩
theorem x_Mo_event_194 : DC b_Mo_event 194 (.iload 10) 2 196 := ⟨by decide +kernel, rfl⟩
theorem x_Mo_event_196 : DC b_Mo_event 196 (.putfield 315) 3 199 := ⟨by decide +kernel, rfl⟩
theorem x_Mo_event_199 : DC b_Mo_event 199 (.aload_n 0) 1 200 := ⟨by decide +kernel, rfl⟩
theorem x_Mo_event_200 : DC b_Mo_event 200 (.getfield 309) 3 203 := ⟨by decide +kernel, rfl⟩
theorem x_Mo_event_203 : DC b_Mo_event 203 (.iconst 1) 1 204 := ⟨by decide +kernel, rfl⟩
theorem x_Mo_event_204 : DC b_Mo_event 204 (.isub) 1 205 := ⟨by decide +kernel, rfl⟩
theorem x_Mo_event_205 : DC b_Mo_event 205 (.ireturn) 1 206 := ⟨by decide +kernel, rfl⟩
def k_Mo_event_63 (M : Mem) : Res := bcall (d_Mo_refuse 12 M) fun v1 M2 => some (v1, M2)
theorem z_Mo_event_63 (C : Cx p s m args meth c G b_Mo_event 11 "PrairiePoolModel" (some .int)) (hlev : 2 ≤ lev) {r : Int × Mem}  {M : Mem} (h : k_Mo_event_63 M = some r) : Z p l e lev s m args below meth c G 11 (MQ below (Qm G 1 r) args s 0 0 (Ab G)) M 63 [(0, .ref (G.1 + 111))] [] := by
  unfold k_Mo_event_63 at h
  refine z_aload_n C 0 x_Mo_event_63 rfl ?_
  refine z_bipush C rfl x_Mo_event_64 ?_
  obtain ⟨v1, M2, fv1, h⟩ := bcall_e h
  refine z_callVi (k := 111) C x_Mo_event_66 cv_Mo_297 (t_Mo_refuse (lev := lev - 1) l G (by omega) fv1) nk_111 ck_111 rfl (by omega) rfl (i_le rfl) rfl ?_
  exact z_iret C x_Mo_event_69 h
def k_Mo_event_23 (M : Mem) : Res := bcall (d_Mo_refuse 5 M) fun v1 M2 => some (v1, M2)
theorem z_Mo_event_23 (C : Cx p s m args meth c G b_Mo_event 11 "PrairiePoolModel" (some .int)) (hlev : 2 ≤ lev) {r : Int × Mem}  {M : Mem} (h : k_Mo_event_23 M = some r) : Z p l e lev s m args below meth c G 11 (MQ below (Qm G 1 r) args s 0 0 (Ab G)) M 23 [(0, .ref (G.1 + 111))] [] := by
  unfold k_Mo_event_23 at h
  refine z_aload_n C 0 x_Mo_event_23 rfl ?_
  refine z_iconst C x_Mo_event_24 ?_
  obtain ⟨v1, M2, fv1, h⟩ := bcall_e h
  refine z_callVi (k := 111) C x_Mo_event_25 cv_Mo_297 (t_Mo_refuse (lev := lev - 1) l G (by omega) fv1) nk_111 ck_111 rfl (by omega) rfl (i_le rfl) rfl ?_
  exact z_iret C x_Mo_event_28 h
def d_Mo_event (a1 a2 a3 a4 a5 a6 a7 a8 a9 a10 : Int) (M : Mem) : Res := bcall (d_Mo_isDay a9 M) fun v1 M2 => if w32 v1 = 0 then (k_Mo_event_23 M2) else (bcall (d_Mo_isIn (w32 a10) (w32 a9) 519 M2) fun v4 M5 => if w32 v4 = 0 then (k_Mo_event_23 M5) else (blet (M5 111 7) fun v7 => if w32 v7 = 120 then (bcall (d_Mo_refuse 7 M5) fun v9 M10 => some (v9, M10)) else (blet (M5 111 10) fun v11 => if w32 a9 < w32 v11 then (k_Mo_event_63 M5) else (blet (M5 111 9) fun v13 => if w32 a10 < w32 v13 then (k_Mo_event_63 M5) else (blet (M5 111 7) fun v15 => chk (0 ≤ w32 v15 ∧ w32 v15 < 120) <| blet (sto M5 120 (ix v15) a1) fun M17 => blet (M17 111 7) fun v18 => chk (0 ≤ w32 v18 ∧ w32 v18 < 120) <| blet (sto M17 121 (ix v18) a2) fun M20 => blet (M20 111 7) fun v21 => chk (0 ≤ w32 v21 ∧ w32 v21 < 120) <| blet (sto M20 122 (ix v21) a3) fun M23 => blet (M23 111 7) fun v24 => chk (0 ≤ w32 v24 ∧ w32 v24 < 120) <| blet (sto M23 123 (ix v24) a4) fun M26 => blet (M26 111 7) fun v27 => chk (0 ≤ w32 v27 ∧ w32 v27 < 120) <| blet (sto M26 124 (ix v27) a5) fun M29 => blet (M29 111 7) fun v30 => chk (0 ≤ w32 v30 ∧ w32 v30 < 120) <| blet (sto M29 125 (ix v30) a6) fun M32 => blet (M32 111 7) fun v33 => chk (0 ≤ w32 v33 ∧ w32 v33 < 120) <| blet (sto M32 126 (ix v33) a7) fun M35 => blet (M35 111 7) fun v36 => chk (0 ≤ w32 v36 ∧ w32 v36 < 120) <| blet (sto M35 127 (ix v36) a8) fun M38 => blet (M38 111 7) fun v39 => chk (0 ≤ w32 v39 ∧ w32 v39 < 120) <| blet (sto M38 128 (ix v39) a9) fun M41 => blet (M41 111 7) fun v42 => chk (0 ≤ w32 v42 ∧ w32 v42 < 120) <| blet (sto M41 129 (ix v42) a10) fun M44 => blet (M44 111 7) fun v45 => blet (sto M44 111 7 (v45 + 1)) fun M46 => blet (sto M46 111 10 a9) fun M47 => blet (sto M47 111 9 a10) fun M48 => blet (M48 111 7) fun v49 => some (v49 - 1, M48))))))
theorem t_Mo_event (l : Launch) (G : GX) {lev : Nat} (hlev : 2 ≤ lev) {a1 a2 a3 a4 a5 a6 a7 a8 a9 a10 : Int} {M : Mem} {r : Int × Mem} (h : d_Mo_event a1 a2 a3 a4 a5 a6 a7 a8 a9 a10 M = some r) : Mt l G y_Mo_event b_Mo_event 11 (some .int) lev 1 [.ref (G.1 + 111), vi a1, vi a2, vi a3, vi a4, vi a5, vi a6, vi a7, vi a8, vi a9, vi a10] M r := by
  refine Mt.of (by decide) (i_le rfl) ?_
  intro p e s m args below meth c C
  have C : Cx p s m args meth c G b_Mo_event 11 "PrairiePoolModel" (some .int) := C
  unfold d_Mo_event at h
  refine z_sub (lv' := [(0, .ref (G.1 + 111)), (1, vi a1), (2, vi a2), (3, vi a3), (4, vi a4), (5, vi a5), (6, vi a6), (7, vi a7), (8, vi a8), (9, vi a9), (10, vi a10)]) [0, 1, 2, 3, 4, 5, 6, 7, 8, 9, 10] rfl ?_
  refine z_iload C 9 x_Mo_event_0 rfl ?_
  obtain ⟨v1, M2, fv1, h⟩ := bcall_e h
  refine z_callSi C x_Mo_event_2 cs_Mo_306 (t_Mo_isDay (lev := lev - 1) l G (by omega) fv1) (by omega) rfl (i_le rfl) rfl ?_
  rcases ite_e h with ⟨c3, h⟩ | ⟨c3, h⟩
  · refine z_if_eq_t (tgt := 23) C x_Mo_event_5 rfl c3 ?_
    exact z_sub [0] rfl (z_Mo_event_23 C hlev h)
  · refine z_if_eq_f (tgt := 23) C x_Mo_event_5 rfl c3 ?_
    refine z_iload C 10 x_Mo_event_8 rfl ?_
    refine z_i2l C x_Mo_event_10 ?_
    refine z_iload C 9 x_Mo_event_11 rfl ?_
    refine z_i2l C x_Mo_event_13 ?_
    refine z_ldc2 C kl_Mo_263 x_Mo_event_14 ?_
    obtain ⟨v4, M5, fv4, h⟩ := bcall_e h
    refine z_callSi C x_Mo_event_17 cs_Mo_265 (t_Mo_isIn (lev := lev - 1) l G (by omega) fv4) (by omega) rfl (i_le rfl) rfl ?_
    rcases ite_e h with ⟨c6, h⟩ | ⟨c6, h⟩
    · refine z_if_ne_f (tgt := 29) C x_Mo_event_20 rfl c6 ?_
      exact z_sub [0] rfl (z_Mo_event_23 C hlev h)
    · refine z_if_ne_t (tgt := 29) C x_Mo_event_20 rfl c6 ?_
      refine z_aload_n C 0 x_Mo_event_29 rfl ?_
      obtain ⟨v7, ev7, h⟩ := blet_e h
      refine z_getI (j := 7) C x_Mo_event_30 nk_111 ck_111 cw_12 (i_lt rfl) rfl rfl fl_Mo_309 ev7 ?_
      refine z_bipush C rfl x_Mo_event_33 ?_
      rcases ite_e h with ⟨c8, h⟩ | ⟨c8, h⟩
      · refine z_icmp_ne_f (tgt := 45) C x_Mo_event_35 rfl c8 ?_
        refine z_aload_n C 0 x_Mo_event_38 rfl ?_
        refine z_bipush C rfl x_Mo_event_39 ?_
        obtain ⟨v9, M10, fv9, h⟩ := bcall_e h
        refine z_callVi (k := 111) C x_Mo_event_41 cv_Mo_297 (t_Mo_refuse (lev := lev - 1) l G (by omega) fv9) nk_111 ck_111 rfl (by omega) rfl (i_le rfl) rfl ?_
        exact z_iret C x_Mo_event_44 h
      · refine z_icmp_ne_t (tgt := 45) C x_Mo_event_35 rfl c8 ?_
        refine z_iload C 9 x_Mo_event_45 rfl ?_
        refine z_aload_n C 0 x_Mo_event_47 rfl ?_
        obtain ⟨v11, ev11, h⟩ := blet_e h
        refine z_getI (j := 10) C x_Mo_event_48 nk_111 ck_111 cw_12 (i_lt rfl) rfl rfl fl_Mo_312 ev11 ?_
        rcases ite_e h with ⟨c12, h⟩ | ⟨c12, h⟩
        · refine z_icmp_lt_t (tgt := 63) C x_Mo_event_51 rfl c12 ?_
          exact z_sub [0] rfl (z_Mo_event_63 C hlev h)
        · refine z_icmp_lt_f (tgt := 63) C x_Mo_event_51 rfl c12 ?_
          refine z_iload C 10 x_Mo_event_54 rfl ?_
          refine z_aload_n C 0 x_Mo_event_56 rfl ?_
          obtain ⟨v13, ev13, h⟩ := blet_e h
          refine z_getI (j := 9) C x_Mo_event_57 nk_111 ck_111 cw_12 (i_lt rfl) rfl rfl fl_Mo_315 ev13 ?_
          rcases ite_e h with ⟨c14, h⟩ | ⟨c14, h⟩
          · refine z_icmp_ge_f (tgt := 70) C x_Mo_event_60 rfl c14 ?_
            exact z_sub [0] rfl (z_Mo_event_63 C hlev h)
          · refine z_icmp_ge_t (tgt := 70) C x_Mo_event_60 rfl c14 ?_
            refine z_aload_n C 0 x_Mo_event_70 rfl ?_
            refine z_getR (j := 16) C x_Mo_event_71 nk_111 ck_111 cw_12 (i_lt rfl) rfl rf_111_16 rfl fl_Mo_35 ?_
            refine z_aload_n C 0 x_Mo_event_74 rfl ?_
            obtain ⟨v15, ev15, h⟩ := blet_e h
            refine z_getI (j := 7) C x_Mo_event_75 nk_111 ck_111 cw_12 (i_lt rfl) rfl rfl fl_Mo_309 ev15 ?_
            refine z_iload_n C 1 x_Mo_event_78 rfl ?_
            obtain ⟨c16, h⟩ := chk_e h
            obtain ⟨M17, eM17, h⟩ := blet_e h
            refine z_iast C x_Mo_event_79 nk_120 ck_120 c16 eM17 ?_
            refine z_aload_n C 0 x_Mo_event_80 rfl ?_
            refine z_getR (j := 17) C x_Mo_event_81 nk_111 ck_111 cw_12 (i_lt rfl) rfl rf_111_17 rfl fl_Mo_38 ?_
            refine z_aload_n C 0 x_Mo_event_84 rfl ?_
            obtain ⟨v18, ev18, h⟩ := blet_e h
            refine z_getI (j := 7) C x_Mo_event_85 nk_111 ck_111 cw_12 (i_lt rfl) rfl rfl fl_Mo_309 ev18 ?_
            refine z_iload_n C 2 x_Mo_event_88 rfl ?_
            obtain ⟨c19, h⟩ := chk_e h
            obtain ⟨M20, eM20, h⟩ := blet_e h
            refine z_iast C x_Mo_event_89 nk_121 ck_121 c19 eM20 ?_
            refine z_aload_n C 0 x_Mo_event_90 rfl ?_
            refine z_getR (j := 18) C x_Mo_event_91 nk_111 ck_111 cw_12 (i_lt rfl) rfl rf_111_18 rfl fl_Mo_41 ?_
            refine z_aload_n C 0 x_Mo_event_94 rfl ?_
            obtain ⟨v21, ev21, h⟩ := blet_e h
            refine z_getI (j := 7) C x_Mo_event_95 nk_111 ck_111 cw_12 (i_lt rfl) rfl rfl fl_Mo_309 ev21 ?_
            refine z_iload_n C 3 x_Mo_event_98 rfl ?_
            obtain ⟨c22, h⟩ := chk_e h
            obtain ⟨M23, eM23, h⟩ := blet_e h
            refine z_iast C x_Mo_event_99 nk_122 ck_122 c22 eM23 ?_
            refine z_aload_n C 0 x_Mo_event_100 rfl ?_
            refine z_getR (j := 19) C x_Mo_event_101 nk_111 ck_111 cw_12 (i_lt rfl) rfl rf_111_19 rfl fl_Mo_44 ?_
            refine z_aload_n C 0 x_Mo_event_104 rfl ?_
            obtain ⟨v24, ev24, h⟩ := blet_e h
            refine z_getI (j := 7) C x_Mo_event_105 nk_111 ck_111 cw_12 (i_lt rfl) rfl rfl fl_Mo_309 ev24 ?_
            refine z_iload C 4 x_Mo_event_108 rfl ?_
            obtain ⟨c25, h⟩ := chk_e h
            obtain ⟨M26, eM26, h⟩ := blet_e h
            refine z_iast C x_Mo_event_110 nk_123 ck_123 c25 eM26 ?_
            refine z_aload_n C 0 x_Mo_event_111 rfl ?_
            refine z_getR (j := 20) C x_Mo_event_112 nk_111 ck_111 cw_12 (i_lt rfl) rfl rf_111_20 rfl fl_Mo_47 ?_
            refine z_aload_n C 0 x_Mo_event_115 rfl ?_
            obtain ⟨v27, ev27, h⟩ := blet_e h
            refine z_getI (j := 7) C x_Mo_event_116 nk_111 ck_111 cw_12 (i_lt rfl) rfl rfl fl_Mo_309 ev27 ?_
            refine z_iload C 5 x_Mo_event_119 rfl ?_
            obtain ⟨c28, h⟩ := chk_e h
            obtain ⟨M29, eM29, h⟩ := blet_e h
            refine z_iast C x_Mo_event_121 nk_124 ck_124 c28 eM29 ?_
            refine z_aload_n C 0 x_Mo_event_122 rfl ?_
            refine z_getR (j := 21) C x_Mo_event_123 nk_111 ck_111 cw_12 (i_lt rfl) rfl rf_111_21 rfl fl_Mo_50 ?_
            refine z_aload_n C 0 x_Mo_event_126 rfl ?_
            obtain ⟨v30, ev30, h⟩ := blet_e h
            refine z_getI (j := 7) C x_Mo_event_127 nk_111 ck_111 cw_12 (i_lt rfl) rfl rfl fl_Mo_309 ev30 ?_
            refine z_iload C 6 x_Mo_event_130 rfl ?_
            obtain ⟨c31, h⟩ := chk_e h
            obtain ⟨M32, eM32, h⟩ := blet_e h
            refine z_iast C x_Mo_event_132 nk_125 ck_125 c31 eM32 ?_
            refine z_aload_n C 0 x_Mo_event_133 rfl ?_
            refine z_getR (j := 22) C x_Mo_event_134 nk_111 ck_111 cw_12 (i_lt rfl) rfl rf_111_22 rfl fl_Mo_53 ?_
            refine z_aload_n C 0 x_Mo_event_137 rfl ?_
            obtain ⟨v33, ev33, h⟩ := blet_e h
            refine z_getI (j := 7) C x_Mo_event_138 nk_111 ck_111 cw_12 (i_lt rfl) rfl rfl fl_Mo_309 ev33 ?_
            refine z_iload C 7 x_Mo_event_141 rfl ?_
            obtain ⟨c34, h⟩ := chk_e h
            obtain ⟨M35, eM35, h⟩ := blet_e h
            refine z_iast C x_Mo_event_143 nk_126 ck_126 c34 eM35 ?_
            refine z_aload_n C 0 x_Mo_event_144 rfl ?_
            refine z_getR (j := 23) C x_Mo_event_145 nk_111 ck_111 cw_12 (i_lt rfl) rfl rf_111_23 rfl fl_Mo_56 ?_
            refine z_aload_n C 0 x_Mo_event_148 rfl ?_
            obtain ⟨v36, ev36, h⟩ := blet_e h
            refine z_getI (j := 7) C x_Mo_event_149 nk_111 ck_111 cw_12 (i_lt rfl) rfl rfl fl_Mo_309 ev36 ?_
            refine z_iload C 8 x_Mo_event_152 rfl ?_
            obtain ⟨c37, h⟩ := chk_e h
            obtain ⟨M38, eM38, h⟩ := blet_e h
            refine z_iast C x_Mo_event_154 nk_127 ck_127 c37 eM38 ?_
            refine z_aload_n C 0 x_Mo_event_155 rfl ?_
            refine z_getR (j := 24) C x_Mo_event_156 nk_111 ck_111 cw_12 (i_lt rfl) rfl rf_111_24 rfl fl_Mo_59 ?_
            refine z_aload_n C 0 x_Mo_event_159 rfl ?_
            obtain ⟨v39, ev39, h⟩ := blet_e h
            refine z_getI (j := 7) C x_Mo_event_160 nk_111 ck_111 cw_12 (i_lt rfl) rfl rfl fl_Mo_309 ev39 ?_
            refine z_iload C 9 x_Mo_event_163 rfl ?_
            obtain ⟨c40, h⟩ := chk_e h
            obtain ⟨M41, eM41, h⟩ := blet_e h
            refine z_iast C x_Mo_event_165 nk_128 ck_128 c40 eM41 ?_
            refine z_aload_n C 0 x_Mo_event_166 rfl ?_
            refine z_getR (j := 25) C x_Mo_event_167 nk_111 ck_111 cw_12 (i_lt rfl) rfl rf_111_25 rfl fl_Mo_62 ?_
            refine z_aload_n C 0 x_Mo_event_170 rfl ?_
            obtain ⟨v42, ev42, h⟩ := blet_e h
            refine z_getI (j := 7) C x_Mo_event_171 nk_111 ck_111 cw_12 (i_lt rfl) rfl rfl fl_Mo_309 ev42 ?_
            refine z_iload C 10 x_Mo_event_174 rfl ?_
            obtain ⟨c43, h⟩ := chk_e h
            obtain ⟨M44, eM44, h⟩ := blet_e h
            refine z_iast C x_Mo_event_176 nk_129 ck_129 c43 eM44 ?_
            refine z_aload_n C 0 x_Mo_event_177 rfl ?_
            refine z_dup C x_Mo_event_178 rfl ?_
            obtain ⟨v45, ev45, h⟩ := blet_e h
            refine z_getI (j := 7) C x_Mo_event_179 nk_111 ck_111 cw_12 (i_lt rfl) rfl rfl fl_Mo_309 ev45 ?_
            refine z_iconst C x_Mo_event_182 ?_
            refine z_iadd C x_Mo_event_183 ?_
            obtain ⟨M46, eM46, h⟩ := blet_e h
            refine z_putI (j := 7) C x_Mo_event_184 nk_111 ck_111 cw_12 (i_lt rfl) rfl rfl rfl rfl fl_Mo_309 eM46 ?_
            refine z_aload_n C 0 x_Mo_event_187 rfl ?_
            refine z_iload C 9 x_Mo_event_188 rfl ?_
            obtain ⟨M47, eM47, h⟩ := blet_e h
            refine z_putI (j := 10) C x_Mo_event_190 nk_111 ck_111 cw_12 (i_lt rfl) rfl rfl rfl rfl fl_Mo_312 eM47 ?_
            refine z_aload_n C 0 x_Mo_event_193 rfl ?_
            refine z_iload C 10 x_Mo_event_194 rfl ?_
            obtain ⟨M48, eM48, h⟩ := blet_e h
            refine z_putI (j := 9) C x_Mo_event_196 nk_111 ck_111 cw_12 (i_lt rfl) rfl rfl rfl rfl fl_Mo_315 eM48 ?_
            refine z_aload_n C 0 x_Mo_event_199 rfl ?_
            obtain ⟨v49, ev49, h⟩ := blet_e h
            refine z_getI (j := 7) C x_Mo_event_200 nk_111 ck_111 cw_12 (i_lt rfl) rfl rfl fl_Mo_309 ev49 ?_
            refine z_iconst C x_Mo_event_203 ?_
            refine z_isub C x_Mo_event_204 ?_
            exact z_iret C x_Mo_event_205 h
theorem x_Mo_load_0 : DC b_Mo_load 0 (.aload_n 0) 1 1 := ⟨by decide +kernel, rfl⟩
theorem x_Mo_load_1 : DC b_Mo_load 1 (.iconst 0) 1 2 := ⟨by decide +kernel, rfl⟩
theorem x_Mo_load_2 : DC b_Mo_load 2 (.putfield 257) 3 5 := ⟨by decide +kernel, rfl⟩
theorem x_Mo_load_5 : DC b_Mo_load 5 (.aload_n 0) 1 6 := ⟨by decide +kernel, rfl⟩
theorem x_Mo_load_6 : DC b_Mo_load 6 (.iconst 0) 1 7 := ⟨by decide +kernel, rfl⟩
theorem x_Mo_load_7 : DC b_Mo_load 7 (.putfield 260) 3 10 := ⟨by decide +kernel, rfl⟩
theorem x_Mo_load_10 : DC b_Mo_load 10 (.aload_n 0) 1 11 := ⟨by decide +kernel, rfl⟩
theorem x_Mo_load_11 : DC b_Mo_load 11 (.iload_n 1) 1 12 := ⟨by decide +kernel, rfl⟩
theorem x_Mo_load_12 : DC b_Mo_load 12 (.invokevirtual 318) 3 15 := ⟨by decide +kernel, rfl⟩
theorem x_Mo_load_15 : DC b_Mo_load 15 (.ifCond .eq 11) 3 18 := ⟨by decide +kernel, rfl⟩
theorem x_Mo_load_18 : DC b_Mo_load 18 (.aload_n 0) 1 19 := ⟨by decide +kernel, rfl⟩
theorem x_Mo_load_19 : DC b_Mo_load 19 (.iload_n 2) 1 20 := ⟨by decide +kernel, rfl⟩
theorem x_Mo_load_20 : DC b_Mo_load 20 (.invokevirtual 321) 3 23 := ⟨by decide +kernel, rfl⟩
theorem x_Mo_load_23 : DC b_Mo_load 23 (.ifCond .ne 9) 3 26 := ⟨by decide +kernel, rfl⟩
theorem x_Mo_load_26 : DC b_Mo_load 26 (.aload_n 0) 1 27 := ⟨by decide +kernel, rfl⟩
theorem x_Mo_load_27 : DC b_Mo_load 27 (.iconst 2) 1 28 := ⟨by decide +kernel, rfl⟩
theorem x_Mo_load_28 : DC b_Mo_load 28 (.invokevirtual 297) 3 31 := ⟨by decide +kernel, rfl⟩
theorem x_Mo_load_31 : DC b_Mo_load 31 (.ireturn) 1 32 := ⟨by decide +kernel, rfl⟩
theorem x_Mo_load_32 : DC b_Mo_load 32 (.iload_n 3) 1 33 := ⟨by decide +kernel, rfl⟩
theorem x_Mo_load_33 : DC b_Mo_load 33 (.i2l) 1 34 := ⟨by decide +kernel, rfl⟩
theorem x_Mo_load_34 : DC b_Mo_load 34 (.lconst 1) 1 35 := ⟨by decide +kernel, rfl⟩
theorem x_Mo_load_35 : DC b_Mo_load 35 (.ldc2_w 324) 3 38 := ⟨by decide +kernel, rfl⟩
theorem x_Mo_load_38 : DC b_Mo_load 38 (.invokestatic 265) 3 41 := ⟨by decide +kernel, rfl⟩
theorem x_Mo_load_41 : DC b_Mo_load 41 (.ifCond .eq 16) 3 44 := ⟨by decide +kernel, rfl⟩
theorem x_Mo_load_44 : DC b_Mo_load 44 (.iload 4) 2 46 := ⟨by decide +kernel, rfl⟩
theorem x_Mo_load_46 : DC b_Mo_load 46 (.i2l) 1 47 := ⟨by decide +kernel, rfl⟩
theorem x_Mo_load_47 : DC b_Mo_load 47 (.lconst 0) 1 48 := ⟨by decide +kernel, rfl⟩
theorem x_Mo_load_48 : DC b_Mo_load 48 (.ldc2_w 326) 3 51 := ⟨by decide +kernel, rfl⟩
theorem x_Mo_load_51 : DC b_Mo_load 51 (.invokestatic 265) 3 54 := ⟨by decide +kernel, rfl⟩
theorem x_Mo_load_54 : DC b_Mo_load 54 (.ifCond .ne 9) 3 57 := ⟨by decide +kernel, rfl⟩
theorem x_Mo_load_57 : DC b_Mo_load 57 (.aload_n 0) 1 58 := ⟨by decide +kernel, rfl⟩
theorem x_Mo_load_58 : DC b_Mo_load 58 (.iconst 5) 1 59 := ⟨by decide +kernel, rfl⟩
theorem x_Mo_load_59 : DC b_Mo_load 59 (.invokevirtual 297) 3 62 := ⟨by decide +kernel, rfl⟩
theorem x_Mo_load_62 : DC b_Mo_load 62 (.ireturn) 1 63 := ⟨by decide +kernel, rfl⟩
theorem x_Mo_load_63 : DC b_Mo_load 63 (.aload_n 0) 1 64 := ⟨by decide +kernel, rfl⟩
theorem x_Mo_load_64 : DC b_Mo_load 64 (.iconst 0) 1 65 := ⟨by decide +kernel, rfl⟩
theorem x_Mo_load_65 : DC b_Mo_load 65 (.iload_n 1) 1 66 := ⟨by decide +kernel, rfl⟩
theorem x_Mo_load_66 : DC b_Mo_load 66 (.iload_n 2) 1 67 := ⟨by decide +kernel, rfl⟩
theorem x_Mo_load_67 : DC b_Mo_load 67 (.iconst (-1)) 1 68 := ⟨by decide +kernel, rfl⟩
theorem x_Mo_load_68 : DC b_Mo_load 68 (.iconst (-1)) 1 69 := ⟨by decide +kernel, rfl⟩
theorem x_Mo_load_69 : DC b_Mo_load 69 (.iload 5) 2 71 := ⟨by decide +kernel, rfl⟩
theorem x_Mo_load_71 : DC b_Mo_load 71 (.bipush 52) 2 73 := ⟨by decide +kernel, rfl⟩
theorem x_Mo_load_73 : DC b_Mo_load 73 (.idiv) 1 74 := ⟨by decide +kernel, rfl⟩
theorem x_Mo_load_74 : DC b_Mo_load 74 (.iload_n 3) 1 75 := ⟨by decide +kernel, rfl⟩
theorem x_Mo_load_75 : DC b_Mo_load 75 (.iload 4) 2 77 := ⟨by decide +kernel, rfl⟩
theorem x_Mo_load_77 : DC b_Mo_load 77 (.iload 5) 2 79 := ⟨by decide +kernel, rfl⟩
theorem x_Mo_load_79 : DC b_Mo_load 79 (.iload 6) 2 81 := ⟨by decide +kernel, rfl⟩
theorem x_Mo_load_81 : DC b_Mo_load 81 (.invokevirtual 328) 3 84 := ⟨by decide +kernel, rfl⟩
theorem x_Mo_load_84 : DC b_Mo_load 84 (.ireturn) 1 85 := ⟨by decide +kernel, rfl⟩
def k_Mo_load_57 (M : Mem) : Res := bcall (d_Mo_refuse 5 M) fun v1 M2 => some (v1, M2)
theorem z_Mo_load_57 (C : Cx p s m args meth c G b_Mo_load 7 "PrairiePoolModel" (some .int)) (hlev : 3 ≤ lev) {r : Int × Mem}  {M : Mem} (h : k_Mo_load_57 M = some r) : Z p l e lev s m args below meth c G 7 (MQ below (Qm G 1 r) args s 0 0 (Ab G)) M 57 [(0, .ref (G.1 + 111))] [] := by
  unfold k_Mo_load_57 at h
  refine z_aload_n C 0 x_Mo_load_57 rfl ?_
  refine z_iconst C x_Mo_load_58 ?_
  obtain ⟨v1, M2, fv1, h⟩ := bcall_e h
  refine z_callVi (k := 111) C x_Mo_load_59 cv_Mo_297 (t_Mo_refuse (lev := lev - 1) l G (by omega) fv1) nk_111 ck_111 rfl (by omega) rfl (i_le rfl) rfl ?_
  exact z_iret C x_Mo_load_62 h
def k_Mo_load_26 (M : Mem) : Res := bcall (d_Mo_refuse 2 M) fun v1 M2 => some (v1, M2)
theorem z_Mo_load_26 (C : Cx p s m args meth c G b_Mo_load 7 "PrairiePoolModel" (some .int)) (hlev : 3 ≤ lev) {r : Int × Mem}  {M : Mem} (h : k_Mo_load_26 M = some r) : Z p l e lev s m args below meth c G 7 (MQ below (Qm G 1 r) args s 0 0 (Ab G)) M 26 [(0, .ref (G.1 + 111))] [] := by
  unfold k_Mo_load_26 at h
  refine z_aload_n C 0 x_Mo_load_26 rfl ?_
  refine z_iconst C x_Mo_load_27 ?_
  obtain ⟨v1, M2, fv1, h⟩ := bcall_e h
  refine z_callVi (k := 111) C x_Mo_load_28 cv_Mo_297 (t_Mo_refuse (lev := lev - 1) l G (by omega) fv1) nk_111 ck_111 rfl (by omega) rfl (i_le rfl) rfl ?_
  exact z_iret C x_Mo_load_31 h
def d_Mo_load (a1 a2 a3 a4 a5 a6 : Int) (M : Mem) : Res := blet (sto M 111 1 0) fun M1 => blet (sto M1 111 0 0) fun M2 => bcall (d_Mo_isFarm a1 M2) fun v3 M4 => if w32 v3 = 0 then (k_Mo_load_26 M4) else (bcall (d_Mo_isElevator a2 M4) fun v6 M7 => if w32 v6 = 0 then (k_Mo_load_26 M7) else (bcall (d_Mo_isIn (w32 a3) 1 10000 M7) fun v9 M10 => if w32 v9 = 0 then (k_Mo_load_57 M10) else (bcall (d_Mo_isIn (w32 a4) 0 1000 M10) fun v12 M13 => if w32 v12 = 0 then (k_Mo_load_57 M13) else (bcall (d_Mo_event 0 a1 a2 (-1) (-1) (dv32 a5 52) a3 a4 a5 a6 M13) fun v15 M16 => some (v15, M16)))))
theorem t_Mo_load (l : Launch) (G : GX) {lev : Nat} (hlev : 3 ≤ lev) {a1 a2 a3 a4 a5 a6 : Int} {M : Mem} {r : Int × Mem} (h : d_Mo_load a1 a2 a3 a4 a5 a6 M = some r) : Mt l G y_Mo_load b_Mo_load 7 (some .int) lev 1 [.ref (G.1 + 111), vi a1, vi a2, vi a3, vi a4, vi a5, vi a6] M r := by
  refine Mt.of (by decide) (i_le rfl) ?_
  intro p e s m args below meth c C
  have C : Cx p s m args meth c G b_Mo_load 7 "PrairiePoolModel" (some .int) := C
  unfold d_Mo_load at h
  refine z_sub (lv' := [(0, .ref (G.1 + 111)), (1, vi a1), (2, vi a2), (3, vi a3), (4, vi a4), (5, vi a5), (6, vi a6)]) [0, 1, 2, 3, 4, 5, 6] rfl ?_
  refine z_aload_n C 0 x_Mo_load_0 rfl ?_
  refine z_iconst C x_Mo_load_1 ?_
  obtain ⟨M1, eM1, h⟩ := blet_e h
  refine z_putI (j := 1) C x_Mo_load_2 nk_111 ck_111 cw_12 (i_lt rfl) rfl rfl rfl rfl fl_Mo_257 eM1 ?_
  refine z_aload_n C 0 x_Mo_load_5 rfl ?_
  refine z_iconst C x_Mo_load_6 ?_
  obtain ⟨M2, eM2, h⟩ := blet_e h
  refine z_putI (j := 0) C x_Mo_load_7 nk_111 ck_111 cw_12 (i_lt rfl) rfl rfl rfl rfl fl_Mo_260 eM2 ?_
  refine z_aload_n C 0 x_Mo_load_10 rfl ?_
  refine z_iload_n C 1 x_Mo_load_11 rfl ?_
  obtain ⟨v3, M4, fv3, h⟩ := bcall_e h
  refine z_callVi (k := 111) C x_Mo_load_12 cv_Mo_318 (t_Mo_isFarm (lev := lev - 1) l G (by omega) fv3) nk_111 ck_111 rfl (by omega) rfl (i_le rfl) rfl ?_
  rcases ite_e h with ⟨c5, h⟩ | ⟨c5, h⟩
  · refine z_if_eq_t (tgt := 26) C x_Mo_load_15 rfl c5 ?_
    exact z_sub [0] rfl (z_Mo_load_26 C hlev h)
  · refine z_if_eq_f (tgt := 26) C x_Mo_load_15 rfl c5 ?_
    refine z_aload_n C 0 x_Mo_load_18 rfl ?_
    refine z_iload_n C 2 x_Mo_load_19 rfl ?_
    obtain ⟨v6, M7, fv6, h⟩ := bcall_e h
    refine z_callVi (k := 111) C x_Mo_load_20 cv_Mo_321 (t_Mo_isElevator (lev := lev - 1) l G (by omega) fv6) nk_111 ck_111 rfl (by omega) rfl (i_le rfl) rfl ?_
    rcases ite_e h with ⟨c8, h⟩ | ⟨c8, h⟩
    · refine z_if_ne_f (tgt := 32) C x_Mo_load_23 rfl c8 ?_
      exact z_sub [0] rfl (z_Mo_load_26 C hlev h)
    · refine z_if_ne_t (tgt := 32) C x_Mo_load_23 rfl c8 ?_
      refine z_iload_n C 3 x_Mo_load_32 rfl ?_
      refine z_i2l C x_Mo_load_33 ?_
      refine z_lconst1 C x_Mo_load_34 ?_
      refine z_ldc2 C kl_Mo_324 x_Mo_load_35 ?_
      obtain ⟨v9, M10, fv9, h⟩ := bcall_e h
      refine z_callSi C x_Mo_load_38 cs_Mo_265 (t_Mo_isIn (lev := lev - 1) l G (by omega) fv9) (by omega) rfl (i_le rfl) rfl ?_
      rcases ite_e h with ⟨c11, h⟩ | ⟨c11, h⟩
      · refine z_if_eq_t (tgt := 57) C x_Mo_load_41 rfl c11 ?_
        exact z_sub [0] rfl (z_Mo_load_57 C hlev h)
      · refine z_if_eq_f (tgt := 57) C x_Mo_load_41 rfl c11 ?_
        refine z_iload C 4 x_Mo_load_44 rfl ?_
        refine z_i2l C x_Mo_load_46 ?_
        refine z_lconst0 C x_Mo_load_47 ?_
        refine z_ldc2 C kl_Mo_326 x_Mo_load_48 ?_
        obtain ⟨v12, M13, fv12, h⟩ := bcall_e h
        refine z_callSi C x_Mo_load_51 cs_Mo_265 (t_Mo_isIn (lev := lev - 1) l G (by omega) fv12) (by omega) rfl (i_le rfl) rfl ?_
        rcases ite_e h with ⟨c14, h⟩ | ⟨c14, h⟩
        · refine z_if_ne_f (tgt := 63) C x_Mo_load_54 rfl c14 ?_
          exact z_sub [0] rfl (z_Mo_load_57 C hlev h)
        · refine z_if_ne_t (tgt := 63) C x_Mo_load_54 rfl c14 ?_
          refine z_aload_n C 0 x_Mo_load_63 rfl ?_
          refine z_iconst C x_Mo_load_64 ?_
          refine z_iload_n C 1 x_Mo_load_65 rfl ?_
          refine z_iload_n C 2 x_Mo_load_66 rfl ?_
          refine z_iconst C x_Mo_load_67 ?_
          refine z_iconst C x_Mo_load_68 ?_
          refine z_iload C 5 x_Mo_load_69 rfl ?_
          refine z_bipush C rfl x_Mo_load_71 ?_
          refine z_idiv C (by decide) x_Mo_load_73 ?_
          refine z_iload_n C 3 x_Mo_load_74 rfl ?_
          refine z_iload C 4 x_Mo_load_75 rfl ?_
          refine z_iload C 5 x_Mo_load_77 rfl ?_
          refine z_iload C 6 x_Mo_load_79 rfl ?_
          obtain ⟨v15, M16, fv15, h⟩ := bcall_e h
          refine z_callVi (k := 111) C x_Mo_load_81 cv_Mo_328 (t_Mo_event (lev := lev - 1) l G (by omega) fv15) nk_111 ck_111 rfl (by omega) rfl (i_le rfl) rfl ?_
          exact z_iret C x_Mo_load_84 h
theorem x_Mo_isGrade_0 : DC b_Mo_isGrade 0 (.iload_n 0) 1 1 := ⟨by decide +kernel, rfl⟩
theorem x_Mo_isGrade_1 : DC b_Mo_isGrade 1 (.i2l) 1 2 := ⟨by decide +kernel, rfl⟩
theorem x_Mo_isGrade_2 : DC b_Mo_isGrade 2 (.lconst 0) 1 3 := ⟨by decide +kernel, rfl⟩
theorem x_Mo_isGrade_3 : DC b_Mo_isGrade 3 (.ldc2_w 271) 3 6 := ⟨by decide +kernel, rfl⟩
theorem x_Mo_isGrade_6 : DC b_Mo_isGrade 6 (.invokestatic 265) 3 9 := ⟨by decide +kernel, rfl⟩
theorem x_Mo_isGrade_9 : DC b_Mo_isGrade 9 (.ireturn) 1 10 := ⟨by decide +kernel, rfl⟩
def d_Mo_isGrade (a0 : Int) (M : Mem) : Res := bcall (d_Mo_isIn (w32 a0) 0 5 M) fun v1 M2 => chk (w32 v1 = 0 ∨ w32 v1 = 1) <| some (v1, M2)
theorem t_Mo_isGrade (l : Launch) (G : GX) {lev : Nat} (hlev : 1 ≤ lev) {a0 : Int} {M : Mem} {r : Int × Mem} (h : d_Mo_isGrade a0 M = some r) : Mt l G y_Mo_isGrade b_Mo_isGrade 1 (some .boolean) lev 1 [vi a0] M r := by
  refine Mt.of (by decide) (i_le rfl) ?_
  intro p e s m args below meth c C
  have C : Cx p s m args meth c G b_Mo_isGrade 1 "PrairiePoolModel" (some .boolean) := C
  unfold d_Mo_isGrade at h
  refine z_sub (lv' := [(0, vi a0)]) [0] rfl ?_
  refine z_iload_n C 0 x_Mo_isGrade_0 rfl ?_
  refine z_i2l C x_Mo_isGrade_1 ?_
  refine z_lconst0 C x_Mo_isGrade_2 ?_
  refine z_ldc2 C kl_Mo_271 x_Mo_isGrade_3 ?_
  obtain ⟨v1, M2, fv1, h⟩ := bcall_e h
  refine z_callSi C x_Mo_isGrade_6 cs_Mo_265 (t_Mo_isIn (lev := lev - 1) l G (by omega) fv1) (by omega) rfl (i_le rfl) rfl ?_
  obtain ⟨c3, h⟩ := chk_e h
  exact z_zret C x_Mo_isGrade_9 c3 h
theorem x_Mo_isYear_0 : DC b_Mo_isYear 0 (.iload_n 0) 1 1 := ⟨by decide +kernel, rfl⟩
theorem x_Mo_isYear_1 : DC b_Mo_isYear 1 (.i2l) 1 2 := ⟨by decide +kernel, rfl⟩
theorem x_Mo_isYear_2 : DC b_Mo_isYear 2 (.lconst 0) 1 3 := ⟨by decide +kernel, rfl⟩
theorem x_Mo_isYear_3 : DC b_Mo_isYear 3 (.ldc2_w 269) 3 6 := ⟨by decide +kernel, rfl⟩
theorem x_Mo_isYear_6 : DC b_Mo_isYear 6 (.invokestatic 265) 3 9 := ⟨by decide +kernel, rfl⟩
theorem x_Mo_isYear_9 : DC b_Mo_isYear 9 (.ireturn) 1 10 := ⟨by decide +kernel, rfl⟩
def d_Mo_isYear (a0 : Int) (M : Mem) : Res := bcall (d_Mo_isIn (w32 a0) 0 9 M) fun v1 M2 => chk (w32 v1 = 0 ∨ w32 v1 = 1) <| some (v1, M2)
theorem t_Mo_isYear (l : Launch) (G : GX) {lev : Nat} (hlev : 1 ≤ lev) {a0 : Int} {M : Mem} {r : Int × Mem} (h : d_Mo_isYear a0 M = some r) : Mt l G y_Mo_isYear b_Mo_isYear 1 (some .boolean) lev 1 [vi a0] M r := by
  refine Mt.of (by decide) (i_le rfl) ?_
  intro p e s m args below meth c C
  have C : Cx p s m args meth c G b_Mo_isYear 1 "PrairiePoolModel" (some .boolean) := C
  unfold d_Mo_isYear at h
  refine z_sub (lv' := [(0, vi a0)]) [0] rfl ?_
  refine z_iload_n C 0 x_Mo_isYear_0 rfl ?_
  refine z_i2l C x_Mo_isYear_1 ?_
  refine z_lconst0 C x_Mo_isYear_2 ?_
  refine z_ldc2 C kl_Mo_269 x_Mo_isYear_3 ?_
  obtain ⟨v1, M2, fv1, h⟩ := bcall_e h
  refine z_callSi C x_Mo_isYear_6 cs_Mo_265 (t_Mo_isIn (lev := lev - 1) l G (by omega) fv1) (by omega) rfl (i_le rfl) rfl ?_
  obtain ⟨c3, h⟩ := chk_e h
  exact z_zret C x_Mo_isYear_9 c3 h
theorem x_Mo_car_0 : DC b_Mo_car 0 (.aload_n 0) 1 1 := ⟨by decide +kernel, rfl⟩
theorem x_Mo_car_1 : DC b_Mo_car 1 (.iconst 0) 1 2 := ⟨by decide +kernel, rfl⟩
theorem x_Mo_car_2 : DC b_Mo_car 2 (.putfield 257) 3 5 := ⟨by decide +kernel, rfl⟩
theorem x_Mo_car_5 : DC b_Mo_car 5 (.aload_n 0) 1 6 := ⟨by decide +kernel, rfl⟩
theorem x_Mo_car_6 : DC b_Mo_car 6 (.iconst 0) 1 7 := ⟨by decide +kernel, rfl⟩
theorem x_Mo_car_7 : DC b_Mo_car 7 (.putfield 260) 3 10 := ⟨by decide +kernel, rfl⟩
theorem x_Mo_car_10 : DC b_Mo_car 10 (.aload_n 0) 1 11 := ⟨by decide +kernel, rfl⟩
theorem x_Mo_car_11 : DC b_Mo_car 11 (.iload_n 1) 1 12 := ⟨by decide +kernel, rfl⟩
theorem x_Mo_car_12 : DC b_Mo_car 12 (.invokevirtual 321) 3 15 := ⟨by decide +kernel, rfl⟩
theorem x_Mo_car_15 : DC b_Mo_car 15 (.ifCond .eq 20) 3 18 := ⟨by decide +kernel, rfl⟩
theorem x_Mo_car_18 : DC b_Mo_car 18 (.iload_n 2) 1 19 := ⟨by decide +kernel, rfl⟩
theorem x_Mo_car_19 : DC b_Mo_car 19 (.i2l) 1 20 := ⟨by decide +kernel, rfl⟩
theorem x_Mo_car_20 : DC b_Mo_car 20 (.lconst 0) 1 21 := ⟨by decide +kernel, rfl⟩
theorem x_Mo_car_21 : DC b_Mo_car 21 (.lconst 1) 1 22 := ⟨by decide +kernel, rfl⟩
theorem x_Mo_car_22 : DC b_Mo_car 22 (.invokestatic 265) 3 25 := ⟨by decide +kernel, rfl⟩
theorem x_Mo_car_25 : DC b_Mo_car 25 (.ifCond .eq 10) 3 28 := ⟨by decide +kernel, rfl⟩
theorem x_Mo_car_28 : DC b_Mo_car 28 (.iload_n 3) 1 29 := ⟨by decide +kernel, rfl⟩
theorem x_Mo_car_29 : DC b_Mo_car 29 (.invokestatic 332) 3 32 := ⟨by decide +kernel, rfl⟩
theorem x_Mo_car_32 : DC b_Mo_car 32 (.ifCond .ne 9) 3 35 := ⟨by decide +kernel, rfl⟩
theorem x_Mo_car_35 : DC b_Mo_car 35 (.aload_n 0) 1 36 := ⟨by decide +kernel, rfl⟩
theorem x_Mo_car_36 : DC b_Mo_car 36 (.iconst 2) 1 37 := ⟨by decide +kernel, rfl⟩
theorem x_Mo_car_37 : DC b_Mo_car 37 (.invokevirtual 297) 3 40 := ⟨by decide +kernel, rfl⟩
theorem x_Mo_car_40 : DC b_Mo_car 40 (.ireturn) 1 41 := ⟨by decide +kernel, rfl⟩
theorem x_Mo_car_41 : DC b_Mo_car 41 (.iload 4) 2 43 := ⟨by decide +kernel, rfl⟩
theorem x_Mo_car_43 : DC b_Mo_car 43 (.invokestatic 335) 3 46 := ⟨by decide +kernel, rfl⟩
theorem x_Mo_car_46 : DC b_Mo_car 46 (.ifCond .eq 16) 3 49 := ⟨by decide +kernel, rfl⟩
theorem x_Mo_car_49 : DC b_Mo_car 49 (.iload 5) 2 51 := ⟨by decide +kernel, rfl⟩
theorem x_Mo_car_51 : DC b_Mo_car 51 (.i2l) 1 52 := ⟨by decide +kernel, rfl⟩
theorem x_Mo_car_52 : DC b_Mo_car 52 (.lconst 1) 1 53 := ⟨by decide +kernel, rfl⟩
theorem x_Mo_car_53 : DC b_Mo_car 53 (.ldc2_w 302) 3 56 := ⟨by decide +kernel, rfl⟩
theorem x_Mo_car_56 : DC b_Mo_car 56 (.invokestatic 265) 3 59 := ⟨by decide +kernel, rfl⟩
theorem x_Mo_car_59 : DC b_Mo_car 59 (.ifCond .ne 9) 3 62 := ⟨by decide +kernel, rfl⟩
theorem x_Mo_car_62 : DC b_Mo_car 62 (.aload_n 0) 1 63 := ⟨by decide +kernel, rfl⟩
theorem x_Mo_car_63 : DC b_Mo_car 63 (.iconst 5) 1 64 := ⟨by decide +kernel, rfl⟩
theorem x_Mo_car_64 : DC b_Mo_car 64 (.invokevirtual 297) 3 67 := ⟨by decide +kernel, rfl⟩
theorem x_Mo_car_67 : DC b_Mo_car 67 (.ireturn) 1 68 := ⟨by decide +kernel, rfl⟩
theorem x_Mo_car_68 : DC b_Mo_car 68 (.aload_n 0) 1 69 := ⟨by decide +kernel, rfl⟩
theorem x_Mo_car_69 : DC b_Mo_car 69 (.iconst 1) 1 70 := ⟨by decide +kernel, rfl⟩
theorem x_Mo_car_70 : DC b_Mo_car 70 (.iconst (-1)) 1 71 := ⟨by decide +kernel, rfl⟩
theorem x_Mo_car_71 : DC b_Mo_car 71 (.iload_n 1) 1 72 := ⟨by decide +kernel, rfl⟩
theorem x_Mo_car_72 : DC b_Mo_car 72 (.iload_n 2) 1 73 := ⟨by decide +kernel, rfl⟩
theorem x_Mo_car_73 : DC b_Mo_car 73 (.iload_n 3) 1 74 := ⟨by decide +kernel, rfl⟩
theorem x_Mo_car_74 : DC b_Mo_car 74 (.iload 4) 2 76 := ⟨by decide +kernel, rfl⟩
theorem x_Mo_car_76 : DC b_Mo_car 76 (.iload 5) 2 78 := ⟨by decide +kernel, rfl⟩
theorem x_Mo_car_78 : DC b_Mo_car 78 (.iconst 0) 1 79 := ⟨by decide +kernel, rfl⟩
theorem x_Mo_car_79 : DC b_Mo_car 79 (.iload 6) 2 81 := ⟨by decide +kernel, rfl⟩
theorem x_Mo_car_81 : DC b_Mo_car 81 (.iload 7) 2 83 := ⟨by decide +kernel, rfl⟩
theorem x_Mo_car_83 : DC b_Mo_car 83 (.invokevirtual 328) 3 86 := ⟨by decide +kernel, rfl⟩
theorem x_Mo_car_86 : DC b_Mo_car 86 (.ireturn) 1 87 := ⟨by decide +kernel, rfl⟩
def k_Mo_car_62 (M : Mem) : Res := bcall (d_Mo_refuse 5 M) fun v1 M2 => some (v1, M2)
theorem z_Mo_car_62 (C : Cx p s m args meth c G b_Mo_car 8 "PrairiePoolModel" (some .int)) (hlev : 3 ≤ lev) {r : Int × Mem}  {M : Mem} (h : k_Mo_car_62 M = some r) : Z p l e lev s m args below meth c G 8 (MQ below (Qm G 1 r) args s 0 0 (Ab G)) M 62 [(0, .ref (G.1 + 111))] [] := by
  unfold k_Mo_car_62 at h
  refine z_aload_n C 0 x_Mo_car_62 rfl ?_
  refine z_iconst C x_Mo_car_63 ?_
  obtain ⟨v1, M2, fv1, h⟩ := bcall_e h
  refine z_callVi (k := 111) C x_Mo_car_64 cv_Mo_297 (t_Mo_refuse (lev := lev - 1) l G (by omega) fv1) nk_111 ck_111 rfl (by omega) rfl (i_le rfl) rfl ?_
  exact z_iret C x_Mo_car_67 h
def k_Mo_car_35 (M : Mem) : Res := bcall (d_Mo_refuse 2 M) fun v1 M2 => some (v1, M2)
theorem z_Mo_car_35 (C : Cx p s m args meth c G b_Mo_car 8 "PrairiePoolModel" (some .int)) (hlev : 3 ≤ lev) {r : Int × Mem}  {M : Mem} (h : k_Mo_car_35 M = some r) : Z p l e lev s m args below meth c G 8 (MQ below (Qm G 1 r) args s 0 0 (Ab G)) M 35 [(0, .ref (G.1 + 111))] [] := by
  unfold k_Mo_car_35 at h
  refine z_aload_n C 0 x_Mo_car_35 rfl ?_
  refine z_iconst C x_Mo_car_36 ?_
  obtain ⟨v1, M2, fv1, h⟩ := bcall_e h
  refine z_callVi (k := 111) C x_Mo_car_37 cv_Mo_297 (t_Mo_refuse (lev := lev - 1) l G (by omega) fv1) nk_111 ck_111 rfl (by omega) rfl (i_le rfl) rfl ?_
  exact z_iret C x_Mo_car_40 h
def d_Mo_car (a1 a2 a3 a4 a5 a6 a7 : Int) (M : Mem) : Res := blet (sto M 111 1 0) fun M1 => blet (sto M1 111 0 0) fun M2 => bcall (d_Mo_isElevator a1 M2) fun v3 M4 => if w32 v3 = 0 then (k_Mo_car_35 M4) else (bcall (d_Mo_isIn (w32 a2) 0 1 M4) fun v6 M7 => if w32 v6 = 0 then (k_Mo_car_35 M7) else (bcall (d_Mo_isGrade a3 M7) fun v9 M10 => if w32 v9 = 0 then (k_Mo_car_35 M10) else (bcall (d_Mo_isYear a4 M10) fun v12 M13 => if w32 v12 = 0 then (k_Mo_car_62 M13) else (bcall (d_Mo_isIn (w32 a5) 1 100000 M13) fun v15 M16 => if w32 v15 = 0 then (k_Mo_car_62 M16) else (bcall (d_Mo_event 1 (-1) a1 a2 a3 a4 a5 0 a6 a7 M16) fun v18 M19 => some (v18, M19))))))
theorem t_Mo_car (l : Launch) (G : GX) {lev : Nat} (hlev : 3 ≤ lev) {a1 a2 a3 a4 a5 a6 a7 : Int} {M : Mem} {r : Int × Mem} (h : d_Mo_car a1 a2 a3 a4 a5 a6 a7 M = some r) : Mt l G y_Mo_car b_Mo_car 8 (some .int) lev 1 [.ref (G.1 + 111), vi a1, vi a2, vi a3, vi a4, vi a5, vi a6, vi a7] M r := by
  refine Mt.of (by decide) (i_le rfl) ?_
  intro p e s m args below meth c C
  have C : Cx p s m args meth c G b_Mo_car 8 "PrairiePoolModel" (some .int) := C
  unfold d_Mo_car at h
  refine z_sub (lv' := [(0, .ref (G.1 + 111)), (1, vi a1), (2, vi a2), (3, vi a3), (4, vi a4), (5, vi a5), (6, vi a6), (7, vi a7)]) [0, 1, 2, 3, 4, 5, 6, 7] rfl ?_
  refine z_aload_n C 0 x_Mo_car_0 rfl ?_
  refine z_iconst C x_Mo_car_1 ?_
  obtain ⟨M1, eM1, h⟩ := blet_e h
  refine z_putI (j := 1) C x_Mo_car_2 nk_111 ck_111 cw_12 (i_lt rfl) rfl rfl rfl rfl fl_Mo_257 eM1 ?_
  refine z_aload_n C 0 x_Mo_car_5 rfl ?_
  refine z_iconst C x_Mo_car_6 ?_
  obtain ⟨M2, eM2, h⟩ := blet_e h
  refine z_putI (j := 0) C x_Mo_car_7 nk_111 ck_111 cw_12 (i_lt rfl) rfl rfl rfl rfl fl_Mo_260 eM2 ?_
  refine z_aload_n C 0 x_Mo_car_10 rfl ?_
  refine z_iload_n C 1 x_Mo_car_11 rfl ?_
  obtain ⟨v3, M4, fv3, h⟩ := bcall_e h
  refine z_callVi (k := 111) C x_Mo_car_12 cv_Mo_321 (t_Mo_isElevator (lev := lev - 1) l G (by omega) fv3) nk_111 ck_111 rfl (by omega) rfl (i_le rfl) rfl ?_
  rcases ite_e h with ⟨c5, h⟩ | ⟨c5, h⟩
  · refine z_if_eq_t (tgt := 35) C x_Mo_car_15 rfl c5 ?_
    exact z_sub [0] rfl (z_Mo_car_35 C hlev h)
  · refine z_if_eq_f (tgt := 35) C x_Mo_car_15 rfl c5 ?_
    refine z_iload_n C 2 x_Mo_car_18 rfl ?_
    refine z_i2l C x_Mo_car_19 ?_
    refine z_lconst0 C x_Mo_car_20 ?_
    refine z_lconst1 C x_Mo_car_21 ?_
    obtain ⟨v6, M7, fv6, h⟩ := bcall_e h
    refine z_callSi C x_Mo_car_22 cs_Mo_265 (t_Mo_isIn (lev := lev - 1) l G (by omega) fv6) (by omega) rfl (i_le rfl) rfl ?_
    rcases ite_e h with ⟨c8, h⟩ | ⟨c8, h⟩
    · refine z_if_eq_t (tgt := 35) C x_Mo_car_25 rfl c8 ?_
      exact z_sub [0] rfl (z_Mo_car_35 C hlev h)
    · refine z_if_eq_f (tgt := 35) C x_Mo_car_25 rfl c8 ?_
      refine z_iload_n C 3 x_Mo_car_28 rfl ?_
      obtain ⟨v9, M10, fv9, h⟩ := bcall_e h
      refine z_callSi C x_Mo_car_29 cs_Mo_332 (t_Mo_isGrade (lev := lev - 1) l G (by omega) fv9) (by omega) rfl (i_le rfl) rfl ?_
      rcases ite_e h with ⟨c11, h⟩ | ⟨c11, h⟩
      · refine z_if_ne_f (tgt := 41) C x_Mo_car_32 rfl c11 ?_
        exact z_sub [0] rfl (z_Mo_car_35 C hlev h)
      · refine z_if_ne_t (tgt := 41) C x_Mo_car_32 rfl c11 ?_
        refine z_iload C 4 x_Mo_car_41 rfl ?_
        obtain ⟨v12, M13, fv12, h⟩ := bcall_e h
        refine z_callSi C x_Mo_car_43 cs_Mo_335 (t_Mo_isYear (lev := lev - 1) l G (by omega) fv12) (by omega) rfl (i_le rfl) rfl ?_
        rcases ite_e h with ⟨c14, h⟩ | ⟨c14, h⟩
        · refine z_if_eq_t (tgt := 62) C x_Mo_car_46 rfl c14 ?_
          exact z_sub [0] rfl (z_Mo_car_62 C hlev h)
        · refine z_if_eq_f (tgt := 62) C x_Mo_car_46 rfl c14 ?_
          refine z_iload C 5 x_Mo_car_49 rfl ?_
          refine z_i2l C x_Mo_car_51 ?_
          refine z_lconst1 C x_Mo_car_52 ?_
          refine z_ldc2 C kl_Mo_302 x_Mo_car_53 ?_
          obtain ⟨v15, M16, fv15, h⟩ := bcall_e h
          refine z_callSi C x_Mo_car_56 cs_Mo_265 (t_Mo_isIn (lev := lev - 1) l G (by omega) fv15) (by omega) rfl (i_le rfl) rfl ?_
          rcases ite_e h with ⟨c17, h⟩ | ⟨c17, h⟩
          · refine z_if_ne_f (tgt := 68) C x_Mo_car_59 rfl c17 ?_
            exact z_sub [0] rfl (z_Mo_car_62 C hlev h)
          · refine z_if_ne_t (tgt := 68) C x_Mo_car_59 rfl c17 ?_
            refine z_aload_n C 0 x_Mo_car_68 rfl ?_
            refine z_iconst C x_Mo_car_69 ?_
            refine z_iconst C x_Mo_car_70 ?_
            refine z_iload_n C 1 x_Mo_car_71 rfl ?_
            refine z_iload_n C 2 x_Mo_car_72 rfl ?_
            refine z_iload_n C 3 x_Mo_car_73 rfl ?_
            refine z_iload C 4 x_Mo_car_74 rfl ?_
            refine z_iload C 5 x_Mo_car_76 rfl ?_
            refine z_iconst C x_Mo_car_78 ?_
            refine z_iload C 6 x_Mo_car_79 rfl ?_
            refine z_iload C 7 x_Mo_car_81 rfl ?_
            obtain ⟨v18, M19, fv18, h⟩ := bcall_e h
            refine z_callVi (k := 111) C x_Mo_car_83 cv_Mo_328 (t_Mo_event (lev := lev - 1) l G (by omega) fv18) nk_111 ck_111 rfl (by omega) rfl (i_le rfl) rfl ?_
            exact z_iret C x_Mo_car_86 h
theorem x_Mo_sale_0 : DC b_Mo_sale 0 (.aload_n 0) 1 1 := ⟨by decide +kernel, rfl⟩
theorem x_Mo_sale_1 : DC b_Mo_sale 1 (.iconst 0) 1 2 := ⟨by decide +kernel, rfl⟩
theorem x_Mo_sale_2 : DC b_Mo_sale 2 (.putfield 257) 3 5 := ⟨by decide +kernel, rfl⟩
theorem x_Mo_sale_5 : DC b_Mo_sale 5 (.aload_n 0) 1 6 := ⟨by decide +kernel, rfl⟩
theorem x_Mo_sale_6 : DC b_Mo_sale 6 (.iconst 0) 1 7 := ⟨by decide +kernel, rfl⟩
theorem x_Mo_sale_7 : DC b_Mo_sale 7 (.putfield 260) 3 10 := ⟨by decide +kernel, rfl⟩
theorem x_Mo_sale_10 : DC b_Mo_sale 10 (.iload_n 1) 1 11 := ⟨by decide +kernel, rfl⟩
theorem x_Mo_sale_11 : DC b_Mo_sale 11 (.i2l) 1 12 := ⟨by decide +kernel, rfl⟩
theorem x_Mo_sale_12 : DC b_Mo_sale 12 (.lconst 0) 1 13 := ⟨by decide +kernel, rfl⟩
theorem x_Mo_sale_13 : DC b_Mo_sale 13 (.lconst 1) 1 14 := ⟨by decide +kernel, rfl⟩
theorem x_Mo_sale_14 : DC b_Mo_sale 14 (.invokestatic 265) 3 17 := ⟨by decide +kernel, rfl⟩
theorem x_Mo_sale_17 : DC b_Mo_sale 17 (.ifCond .eq 10) 3 20 := ⟨by decide +kernel, rfl⟩
theorem x_Mo_sale_20 : DC b_Mo_sale 20 (.iload_n 2) 1 21 := ⟨by decide +kernel, rfl⟩
theorem x_Mo_sale_21 : DC b_Mo_sale 21 (.invokestatic 332) 3 24 := ⟨by decide +kernel, rfl⟩
theorem x_Mo_sale_24 : DC b_Mo_sale 24 (.ifCond .ne 9) 3 27 := ⟨by decide +kernel, rfl⟩
theorem x_Mo_sale_27 : DC b_Mo_sale 27 (.aload_n 0) 1 28 := ⟨by decide +kernel, rfl⟩
theorem x_Mo_sale_28 : DC b_Mo_sale 28 (.iconst 2) 1 29 := ⟨by decide +kernel, rfl⟩
theorem x_Mo_sale_29 : DC b_Mo_sale 29 (.invokevirtual 297) 3 32 := ⟨by decide +kernel, rfl⟩
theorem x_Mo_sale_32 : DC b_Mo_sale 32 (.ireturn) 1 33 := ⟨by decide +kernel, rfl⟩
theorem x_Mo_sale_33 : DC b_Mo_sale 33 (.iload_n 3) 1 34 := ⟨by decide +kernel, rfl⟩
theorem x_Mo_sale_34 : DC b_Mo_sale 34 (.invokestatic 335) 3 37 := ⟨by decide +kernel, rfl⟩
theorem x_Mo_sale_37 : DC b_Mo_sale 37 (.ifCond .eq 29) 3 40 := ⟨by decide +kernel, rfl⟩
theorem x_Mo_sale_40 : DC b_Mo_sale 40 (.iload 4) 2 42 := ⟨by decide +kernel, rfl⟩
theorem x_Mo_sale_42 : DC b_Mo_sale 42 (.i2l) 1 43 := ⟨by decide +kernel, rfl⟩
theorem x_Mo_sale_43 : DC b_Mo_sale 43 (.lconst 1) 1 44 := ⟨by decide +kernel, rfl⟩
theorem x_Mo_sale_44 : DC b_Mo_sale 44 (.ldc2_w 302) 3 47 := ⟨by decide +kernel, rfl⟩
theorem x_Mo_sale_47 : DC b_Mo_sale 47 (.invokestatic 265) 3 50 := ⟨by decide +kernel, rfl⟩
theorem x_Mo_sale_50 : DC b_Mo_sale 50 (.ifCond .eq 16) 3 53 := ⟨by decide +kernel, rfl⟩
theorem x_Mo_sale_53 : DC b_Mo_sale 53 (.iload 5) 2 55 := ⟨by decide +kernel, rfl⟩
theorem x_Mo_sale_55 : DC b_Mo_sale 55 (.i2l) 1 56 := ⟨by decide +kernel, rfl⟩
theorem x_Mo_sale_56 : DC b_Mo_sale 56 (.lconst 0) 1 57 := ⟨by decide +kernel, rfl⟩
theorem x_Mo_sale_57 : DC b_Mo_sale 57 (.ldc2_w 326) 3 60 := ⟨by decide +kernel, rfl⟩
theorem x_Mo_sale_60 : DC b_Mo_sale 60 (.invokestatic 265) 3 63 := ⟨by decide +kernel, rfl⟩
theorem x_Mo_sale_63 : DC b_Mo_sale 63 (.ifCond .ne 9) 3 66 := ⟨by decide +kernel, rfl⟩
theorem x_Mo_sale_66 : DC b_Mo_sale 66 (.aload_n 0) 1 67 := ⟨by decide +kernel, rfl⟩
theorem x_Mo_sale_67 : DC b_Mo_sale 67 (.iconst 5) 1 68 := ⟨by decide +kernel, rfl⟩
theorem x_Mo_sale_68 : DC b_Mo_sale 68 (.invokevirtual 297) 3 71 := ⟨by decide +kernel, rfl⟩
theorem x_Mo_sale_71 : DC b_Mo_sale 71 (.ireturn) 1 72 := ⟨by decide +kernel, rfl⟩
theorem x_Mo_sale_72 : DC b_Mo_sale 72 (.aload_n 0) 1 73 := ⟨by decide +kernel, rfl⟩
theorem x_Mo_sale_73 : DC b_Mo_sale 73 (.iconst 2) 1 74 := ⟨by decide +kernel, rfl⟩
theorem x_Mo_sale_74 : DC b_Mo_sale 74 (.iconst (-1)) 1 75 := ⟨by decide +kernel, rfl⟩
theorem x_Mo_sale_75 : DC b_Mo_sale 75 (.iload_n 1) 1 76 := ⟨by decide +kernel, rfl⟩
theorem x_Mo_sale_76 : DC b_Mo_sale 76 (.iconst (-1)) 1 77 := ⟨by decide +kernel, rfl⟩
theorem x_Mo_sale_77 : DC b_Mo_sale 77 (.iload_n 2) 1 78 := ⟨by decide +kernel, rfl⟩
theorem x_Mo_sale_78 : DC b_Mo_sale 78 (.iload_n 3) 1 79 := ⟨by decide +kernel, rfl⟩
theorem x_Mo_sale_79 : DC b_Mo_sale 79 (.iload 4) 2 81 := ⟨by decide +kernel, rfl⟩
theorem x_Mo_sale_81 : DC b_Mo_sale 81 (.iload 5) 2 83 := ⟨by decide +kernel, rfl⟩
theorem x_Mo_sale_83 : DC b_Mo_sale 83 (.iload 6) 2 85 := ⟨by decide +kernel, rfl⟩
theorem x_Mo_sale_85 : DC b_Mo_sale 85 (.iload 7) 2 87 := ⟨by decide +kernel, rfl⟩
theorem x_Mo_sale_87 : DC b_Mo_sale 87 (.invokevirtual 328) 3 90 := ⟨by decide +kernel, rfl⟩
theorem x_Mo_sale_90 : DC b_Mo_sale 90 (.ireturn) 1 91 := ⟨by decide +kernel, rfl⟩
def k_Mo_sale_66 (M : Mem) : Res := bcall (d_Mo_refuse 5 M) fun v1 M2 => some (v1, M2)
theorem z_Mo_sale_66 (C : Cx p s m args meth c G b_Mo_sale 8 "PrairiePoolModel" (some .int)) (hlev : 3 ≤ lev) {r : Int × Mem}  {M : Mem} (h : k_Mo_sale_66 M = some r) : Z p l e lev s m args below meth c G 8 (MQ below (Qm G 1 r) args s 0 0 (Ab G)) M 66 [(0, .ref (G.1 + 111))] [] := by
  unfold k_Mo_sale_66 at h
  refine z_aload_n C 0 x_Mo_sale_66 rfl ?_
  refine z_iconst C x_Mo_sale_67 ?_
  obtain ⟨v1, M2, fv1, h⟩ := bcall_e h
  refine z_callVi (k := 111) C x_Mo_sale_68 cv_Mo_297 (t_Mo_refuse (lev := lev - 1) l G (by omega) fv1) nk_111 ck_111 rfl (by omega) rfl (i_le rfl) rfl ?_
  exact z_iret C x_Mo_sale_71 h
def k_Mo_sale_27 (M : Mem) : Res := bcall (d_Mo_refuse 2 M) fun v1 M2 => some (v1, M2)
theorem z_Mo_sale_27 (C : Cx p s m args meth c G b_Mo_sale 8 "PrairiePoolModel" (some .int)) (hlev : 3 ≤ lev) {r : Int × Mem}  {M : Mem} (h : k_Mo_sale_27 M = some r) : Z p l e lev s m args below meth c G 8 (MQ below (Qm G 1 r) args s 0 0 (Ab G)) M 27 [(0, .ref (G.1 + 111))] [] := by
  unfold k_Mo_sale_27 at h
  refine z_aload_n C 0 x_Mo_sale_27 rfl ?_
  refine z_iconst C x_Mo_sale_28 ?_
  obtain ⟨v1, M2, fv1, h⟩ := bcall_e h
  refine z_callVi (k := 111) C x_Mo_sale_29 cv_Mo_297 (t_Mo_refuse (lev := lev - 1) l G (by omega) fv1) nk_111 ck_111 rfl (by omega) rfl (i_le rfl) rfl ?_
  exact z_iret C x_Mo_sale_32 h
def d_Mo_sale (a1 a2 a3 a4 a5 a6 a7 : Int) (M : Mem) : Res := blet (sto M 111 1 0) fun M1 => blet (sto M1 111 0 0) fun M2 => bcall (d_Mo_isIn (w32 a1) 0 1 M2) fun v3 M4 => if w32 v3 = 0 then (k_Mo_sale_27 M4) else (bcall (d_Mo_isGrade a2 M4) fun v6 M7 => if w32 v6 = 0 then (k_Mo_sale_27 M7) else (bcall (d_Mo_isYear a3 M7) fun v9 M10 => if w32 v9 = 0 then (k_Mo_sale_66 M10) else (bcall (d_Mo_isIn (w32 a4) 1 100000 M10) fun v12 M13 => if w32 v12 = 0 then (k_Mo_sale_66 M13) else (bcall (d_Mo_isIn (w32 a5) 0 1000 M13) fun v15 M16 => if w32 v15 = 0 then (k_Mo_sale_66 M16) else (bcall (d_Mo_event 2 (-1) a1 (-1) a2 a3 a4 a5 a6 a7 M16) fun v18 M19 => some (v18, M19))))))
theorem t_Mo_sale (l : Launch) (G : GX) {lev : Nat} (hlev : 3 ≤ lev) {a1 a2 a3 a4 a5 a6 a7 : Int} {M : Mem} {r : Int × Mem} (h : d_Mo_sale a1 a2 a3 a4 a5 a6 a7 M = some r) : Mt l G y_Mo_sale b_Mo_sale 8 (some .int) lev 1 [.ref (G.1 + 111), vi a1, vi a2, vi a3, vi a4, vi a5, vi a6, vi a7] M r := by
  refine Mt.of (by decide) (i_le rfl) ?_
  intro p e s m args below meth c C
  have C : Cx p s m args meth c G b_Mo_sale 8 "PrairiePoolModel" (some .int) := C
  unfold d_Mo_sale at h
  refine z_sub (lv' := [(0, .ref (G.1 + 111)), (1, vi a1), (2, vi a2), (3, vi a3), (4, vi a4), (5, vi a5), (6, vi a6), (7, vi a7)]) [0, 1, 2, 3, 4, 5, 6, 7] rfl ?_
  refine z_aload_n C 0 x_Mo_sale_0 rfl ?_
  refine z_iconst C x_Mo_sale_1 ?_
  obtain ⟨M1, eM1, h⟩ := blet_e h
  refine z_putI (j := 1) C x_Mo_sale_2 nk_111 ck_111 cw_12 (i_lt rfl) rfl rfl rfl rfl fl_Mo_257 eM1 ?_
  refine z_aload_n C 0 x_Mo_sale_5 rfl ?_
  refine z_iconst C x_Mo_sale_6 ?_
  obtain ⟨M2, eM2, h⟩ := blet_e h
  refine z_putI (j := 0) C x_Mo_sale_7 nk_111 ck_111 cw_12 (i_lt rfl) rfl rfl rfl rfl fl_Mo_260 eM2 ?_
  refine z_iload_n C 1 x_Mo_sale_10 rfl ?_
  refine z_i2l C x_Mo_sale_11 ?_
  refine z_lconst0 C x_Mo_sale_12 ?_
  refine z_lconst1 C x_Mo_sale_13 ?_
  obtain ⟨v3, M4, fv3, h⟩ := bcall_e h
  refine z_callSi C x_Mo_sale_14 cs_Mo_265 (t_Mo_isIn (lev := lev - 1) l G (by omega) fv3) (by omega) rfl (i_le rfl) rfl ?_
  rcases ite_e h with ⟨c5, h⟩ | ⟨c5, h⟩
  · refine z_if_eq_t (tgt := 27) C x_Mo_sale_17 rfl c5 ?_
    exact z_sub [0] rfl (z_Mo_sale_27 C hlev h)
  · refine z_if_eq_f (tgt := 27) C x_Mo_sale_17 rfl c5 ?_
    refine z_iload_n C 2 x_Mo_sale_20 rfl ?_
    obtain ⟨v6, M7, fv6, h⟩ := bcall_e h
    refine z_callSi C x_Mo_sale_21 cs_Mo_332 (t_Mo_isGrade (lev := lev - 1) l G (by omega) fv6) (by omega) rfl (i_le rfl) rfl ?_
    rcases ite_e h with ⟨c8, h⟩ | ⟨c8, h⟩
    · refine z_if_ne_f (tgt := 33) C x_Mo_sale_24 rfl c8 ?_
      exact z_sub [0] rfl (z_Mo_sale_27 C hlev h)
    · refine z_if_ne_t (tgt := 33) C x_Mo_sale_24 rfl c8 ?_
      refine z_iload_n C 3 x_Mo_sale_33 rfl ?_
      obtain ⟨v9, M10, fv9, h⟩ := bcall_e h
      refine z_callSi C x_Mo_sale_34 cs_Mo_335 (t_Mo_isYear (lev := lev - 1) l G (by omega) fv9) (by omega) rfl (i_le rfl) rfl ?_
      rcases ite_e h with ⟨c11, h⟩ | ⟨c11, h⟩
      · refine z_if_eq_t (tgt := 66) C x_Mo_sale_37 rfl c11 ?_
        exact z_sub [0] rfl (z_Mo_sale_66 C hlev h)
      · refine z_if_eq_f (tgt := 66) C x_Mo_sale_37 rfl c11 ?_
        refine z_iload C 4 x_Mo_sale_40 rfl ?_
        refine z_i2l C x_Mo_sale_42 ?_
        refine z_lconst1 C x_Mo_sale_43 ?_
        refine z_ldc2 C kl_Mo_302 x_Mo_sale_44 ?_
        obtain ⟨v12, M13, fv12, h⟩ := bcall_e h
        refine z_callSi C x_Mo_sale_47 cs_Mo_265 (t_Mo_isIn (lev := lev - 1) l G (by omega) fv12) (by omega) rfl (i_le rfl) rfl ?_
        rcases ite_e h with ⟨c14, h⟩ | ⟨c14, h⟩
        · refine z_if_eq_t (tgt := 66) C x_Mo_sale_50 rfl c14 ?_
          exact z_sub [0] rfl (z_Mo_sale_66 C hlev h)
        · refine z_if_eq_f (tgt := 66) C x_Mo_sale_50 rfl c14 ?_
          refine z_iload C 5 x_Mo_sale_53 rfl ?_
          refine z_i2l C x_Mo_sale_55 ?_
          refine z_lconst0 C x_Mo_sale_56 ?_
          refine z_ldc2 C kl_Mo_326 x_Mo_sale_57 ?_
          obtain ⟨v15, M16, fv15, h⟩ := bcall_e h
          refine z_callSi C x_Mo_sale_60 cs_Mo_265 (t_Mo_isIn (lev := lev - 1) l G (by omega) fv15) (by omega) rfl (i_le rfl) rfl ?_
          rcases ite_e h with ⟨c17, h⟩ | ⟨c17, h⟩
          · refine z_if_ne_f (tgt := 72) C x_Mo_sale_63 rfl c17 ?_
            exact z_sub [0] rfl (z_Mo_sale_66 C hlev h)
          · refine z_if_ne_t (tgt := 72) C x_Mo_sale_63 rfl c17 ?_
            refine z_aload_n C 0 x_Mo_sale_72 rfl ?_
            refine z_iconst C x_Mo_sale_73 ?_
            refine z_iconst C x_Mo_sale_74 ?_
            refine z_iload_n C 1 x_Mo_sale_75 rfl ?_
            refine z_iconst C x_Mo_sale_76 ?_
            refine z_iload_n C 2 x_Mo_sale_77 rfl ?_
            refine z_iload_n C 3 x_Mo_sale_78 rfl ?_
            refine z_iload C 4 x_Mo_sale_79 rfl ?_
            refine z_iload C 5 x_Mo_sale_81 rfl ?_
            refine z_iload C 6 x_Mo_sale_83 rfl ?_
            refine z_iload C 7 x_Mo_sale_85 rfl ?_
            obtain ⟨v18, M19, fv18, h⟩ := bcall_e h
            refine z_callVi (k := 111) C x_Mo_sale_87 cv_Mo_328 (t_Mo_event (lev := lev - 1) l G (by omega) fv18) nk_111 ck_111 rfl (by omega) rfl (i_le rfl) rfl ?_
            exact z_iret C x_Mo_sale_90 h
theorem x_Mo_spoil_0 : DC b_Mo_spoil 0 (.aload_n 0) 1 1 := ⟨by decide +kernel, rfl⟩
theorem x_Mo_spoil_1 : DC b_Mo_spoil 1 (.iconst 0) 1 2 := ⟨by decide +kernel, rfl⟩
theorem x_Mo_spoil_2 : DC b_Mo_spoil 2 (.putfield 257) 3 5 := ⟨by decide +kernel, rfl⟩
theorem x_Mo_spoil_5 : DC b_Mo_spoil 5 (.aload_n 0) 1 6 := ⟨by decide +kernel, rfl⟩
theorem x_Mo_spoil_6 : DC b_Mo_spoil 6 (.iconst 0) 1 7 := ⟨by decide +kernel, rfl⟩
theorem x_Mo_spoil_7 : DC b_Mo_spoil 7 (.putfield 260) 3 10 := ⟨by decide +kernel, rfl⟩
theorem x_Mo_spoil_10 : DC b_Mo_spoil 10 (.aload_n 0) 1 11 := ⟨by decide +kernel, rfl⟩
theorem x_Mo_spoil_11 : DC b_Mo_spoil 11 (.iload_n 1) 1 12 := ⟨by decide +kernel, rfl⟩
theorem x_Mo_spoil_12 : DC b_Mo_spoil 12 (.invokevirtual 321) 3 15 := ⟨by decide +kernel, rfl⟩
theorem x_Mo_spoil_15 : DC b_Mo_spoil 15 (.ifCond .eq 10) 3 18 := ⟨by decide +kernel, rfl⟩
theorem x_Mo_spoil_18 : DC b_Mo_spoil 18 (.iload_n 2) 1 19 := ⟨by decide +kernel, rfl⟩
theorem x_Mo_spoil_19 : DC b_Mo_spoil 19 (.invokestatic 332) 3 22 := ⟨by decide +kernel, rfl⟩
theorem x_Mo_spoil_22 : DC b_Mo_spoil 22 (.ifCond .ne 9) 3 25 := ⟨by decide +kernel, rfl⟩
theorem x_Mo_spoil_25 : DC b_Mo_spoil 25 (.aload_n 0) 1 26 := ⟨by decide +kernel, rfl⟩
theorem x_Mo_spoil_26 : DC b_Mo_spoil 26 (.iconst 2) 1 27 := ⟨by decide +kernel, rfl⟩
theorem x_Mo_spoil_27 : DC b_Mo_spoil 27 (.invokevirtual 297) 3 30 := ⟨by decide +kernel, rfl⟩
theorem x_Mo_spoil_30 : DC b_Mo_spoil 30 (.ireturn) 1 31 := ⟨by decide +kernel, rfl⟩
theorem x_Mo_spoil_31 : DC b_Mo_spoil 31 (.iload_n 3) 1 32 := ⟨by decide +kernel, rfl⟩
theorem x_Mo_spoil_32 : DC b_Mo_spoil 32 (.invokestatic 335) 3 35 := ⟨by decide +kernel, rfl⟩
theorem x_Mo_spoil_35 : DC b_Mo_spoil 35 (.ifCond .eq 16) 3 38 := ⟨by decide +kernel, rfl⟩
theorem x_Mo_spoil_38 : DC b_Mo_spoil 38 (.iload 4) 2 40 := ⟨by decide +kernel, rfl⟩
theorem x_Mo_spoil_40 : DC b_Mo_spoil 40 (.i2l) 1 41 := ⟨by decide +kernel, rfl⟩
theorem x_Mo_spoil_41 : DC b_Mo_spoil 41 (.lconst 1) 1 42 := ⟨by decide +kernel, rfl⟩
theorem x_Mo_spoil_42 : DC b_Mo_spoil 42 (.ldc2_w 302) 3 45 := ⟨by decide +kernel, rfl⟩
theorem x_Mo_spoil_45 : DC b_Mo_spoil 45 (.invokestatic 265) 3 48 := ⟨by decide +kernel, rfl⟩
theorem x_Mo_spoil_48 : DC b_Mo_spoil 48 (.ifCond .ne 9) 3 51 := ⟨by decide +kernel, rfl⟩
theorem x_Mo_spoil_51 : DC b_Mo_spoil 51 (.aload_n 0) 1 52 := ⟨by decide +kernel, rfl⟩
theorem x_Mo_spoil_52 : DC b_Mo_spoil 52 (.iconst 5) 1 53 := ⟨by decide +kernel, rfl⟩
theorem x_Mo_spoil_53 : DC b_Mo_spoil 53 (.invokevirtual 297) 3 56 := ⟨by decide +kernel, rfl⟩
theorem x_Mo_spoil_56 : DC b_Mo_spoil 56 (.ireturn) 1 57 := ⟨by decide +kernel, rfl⟩
theorem x_Mo_spoil_57 : DC b_Mo_spoil 57 (.aload_n 0) 1 58 := ⟨by decide +kernel, rfl⟩
theorem x_Mo_spoil_58 : DC b_Mo_spoil 58 (.iconst 3) 1 59 := ⟨by decide +kernel, rfl⟩
theorem x_Mo_spoil_59 : DC b_Mo_spoil 59 (.iconst (-1)) 1 60 := ⟨by decide +kernel, rfl⟩
theorem x_Mo_spoil_60 : DC b_Mo_spoil 60 (.iload_n 1) 1 61 := ⟨by decide +kernel, rfl⟩
theorem x_Mo_spoil_61 : DC b_Mo_spoil 61 (.iconst (-1)) 1 62 := ⟨by decide +kernel, rfl⟩
theorem x_Mo_spoil_62 : DC b_Mo_spoil 62 (.iload_n 2) 1 63 := ⟨by decide +kernel, rfl⟩
theorem x_Mo_spoil_63 : DC b_Mo_spoil 63 (.iload_n 3) 1 64 := ⟨by decide +kernel, rfl⟩
theorem x_Mo_spoil_64 : DC b_Mo_spoil 64 (.iload 4) 2 66 := ⟨by decide +kernel, rfl⟩
theorem x_Mo_spoil_66 : DC b_Mo_spoil 66 (.iconst 0) 1 67 := ⟨by decide +kernel, rfl⟩
theorem x_Mo_spoil_67 : DC b_Mo_spoil 67 (.iload 5) 2 69 := ⟨by decide +kernel, rfl⟩
theorem x_Mo_spoil_69 : DC b_Mo_spoil 69 (.iload 6) 2 71 := ⟨by decide +kernel, rfl⟩
theorem x_Mo_spoil_71 : DC b_Mo_spoil 71 (.invokevirtual 328) 3 74 := ⟨by decide +kernel, rfl⟩
theorem x_Mo_spoil_74 : DC b_Mo_spoil 74 (.ireturn) 1 75 := ⟨by decide +kernel, rfl⟩
def k_Mo_spoil_51 (M : Mem) : Res := bcall (d_Mo_refuse 5 M) fun v1 M2 => some (v1, M2)
theorem z_Mo_spoil_51 (C : Cx p s m args meth c G b_Mo_spoil 7 "PrairiePoolModel" (some .int)) (hlev : 3 ≤ lev) {r : Int × Mem}  {M : Mem} (h : k_Mo_spoil_51 M = some r) : Z p l e lev s m args below meth c G 7 (MQ below (Qm G 1 r) args s 0 0 (Ab G)) M 51 [(0, .ref (G.1 + 111))] [] := by
  unfold k_Mo_spoil_51 at h
  refine z_aload_n C 0 x_Mo_spoil_51 rfl ?_
  refine z_iconst C x_Mo_spoil_52 ?_
  obtain ⟨v1, M2, fv1, h⟩ := bcall_e h
  refine z_callVi (k := 111) C x_Mo_spoil_53 cv_Mo_297 (t_Mo_refuse (lev := lev - 1) l G (by omega) fv1) nk_111 ck_111 rfl (by omega) rfl (i_le rfl) rfl ?_
  exact z_iret C x_Mo_spoil_56 h
def k_Mo_spoil_25 (M : Mem) : Res := bcall (d_Mo_refuse 2 M) fun v1 M2 => some (v1, M2)
theorem z_Mo_spoil_25 (C : Cx p s m args meth c G b_Mo_spoil 7 "PrairiePoolModel" (some .int)) (hlev : 3 ≤ lev) {r : Int × Mem}  {M : Mem} (h : k_Mo_spoil_25 M = some r) : Z p l e lev s m args below meth c G 7 (MQ below (Qm G 1 r) args s 0 0 (Ab G)) M 25 [(0, .ref (G.1 + 111))] [] := by
  unfold k_Mo_spoil_25 at h
  refine z_aload_n C 0 x_Mo_spoil_25 rfl ?_
  refine z_iconst C x_Mo_spoil_26 ?_
  obtain ⟨v1, M2, fv1, h⟩ := bcall_e h
  refine z_callVi (k := 111) C x_Mo_spoil_27 cv_Mo_297 (t_Mo_refuse (lev := lev - 1) l G (by omega) fv1) nk_111 ck_111 rfl (by omega) rfl (i_le rfl) rfl ?_
  exact z_iret C x_Mo_spoil_30 h
def d_Mo_spoil (a1 a2 a3 a4 a5 a6 : Int) (M : Mem) : Res := blet (sto M 111 1 0) fun M1 => blet (sto M1 111 0 0) fun M2 => bcall (d_Mo_isElevator a1 M2) fun v3 M4 => if w32 v3 = 0 then (k_Mo_spoil_25 M4) else (bcall (d_Mo_isGrade a2 M4) fun v6 M7 => if w32 v6 = 0 then (k_Mo_spoil_25 M7) else (bcall (d_Mo_isYear a3 M7) fun v9 M10 => if w32 v9 = 0 then (k_Mo_spoil_51 M10) else (bcall (d_Mo_isIn (w32 a4) 1 100000 M10) fun v12 M13 => if w32 v12 = 0 then (k_Mo_spoil_51 M13) else (bcall (d_Mo_event 3 (-1) a1 (-1) a2 a3 a4 0 a5 a6 M13) fun v15 M16 => some (v15, M16)))))
theorem t_Mo_spoil (l : Launch) (G : GX) {lev : Nat} (hlev : 3 ≤ lev) {a1 a2 a3 a4 a5 a6 : Int} {M : Mem} {r : Int × Mem} (h : d_Mo_spoil a1 a2 a3 a4 a5 a6 M = some r) : Mt l G y_Mo_spoil b_Mo_spoil 7 (some .int) lev 1 [.ref (G.1 + 111), vi a1, vi a2, vi a3, vi a4, vi a5, vi a6] M r := by
  refine Mt.of (by decide) (i_le rfl) ?_
  intro p e s m args below meth c C
  have C : Cx p s m args meth c G b_Mo_spoil 7 "PrairiePoolModel" (some .int) := C
  unfold d_Mo_spoil at h
  refine z_sub (lv' := [(0, .ref (G.1 + 111)), (1, vi a1), (2, vi a2), (3, vi a3), (4, vi a4), (5, vi a5), (6, vi a6)]) [0, 1, 2, 3, 4, 5, 6] rfl ?_
  refine z_aload_n C 0 x_Mo_spoil_0 rfl ?_
  refine z_iconst C x_Mo_spoil_1 ?_
  obtain ⟨M1, eM1, h⟩ := blet_e h
  refine z_putI (j := 1) C x_Mo_spoil_2 nk_111 ck_111 cw_12 (i_lt rfl) rfl rfl rfl rfl fl_Mo_257 eM1 ?_
  refine z_aload_n C 0 x_Mo_spoil_5 rfl ?_
  refine z_iconst C x_Mo_spoil_6 ?_
  obtain ⟨M2, eM2, h⟩ := blet_e h
  refine z_putI (j := 0) C x_Mo_spoil_7 nk_111 ck_111 cw_12 (i_lt rfl) rfl rfl rfl rfl fl_Mo_260 eM2 ?_
  refine z_aload_n C 0 x_Mo_spoil_10 rfl ?_
  refine z_iload_n C 1 x_Mo_spoil_11 rfl ?_
  obtain ⟨v3, M4, fv3, h⟩ := bcall_e h
  refine z_callVi (k := 111) C x_Mo_spoil_12 cv_Mo_321 (t_Mo_isElevator (lev := lev - 1) l G (by omega) fv3) nk_111 ck_111 rfl (by omega) rfl (i_le rfl) rfl ?_
  rcases ite_e h with ⟨c5, h⟩ | ⟨c5, h⟩
  · refine z_if_eq_t (tgt := 25) C x_Mo_spoil_15 rfl c5 ?_
    exact z_sub [0] rfl (z_Mo_spoil_25 C hlev h)
  · refine z_if_eq_f (tgt := 25) C x_Mo_spoil_15 rfl c5 ?_
    refine z_iload_n C 2 x_Mo_spoil_18 rfl ?_
    obtain ⟨v6, M7, fv6, h⟩ := bcall_e h
    refine z_callSi C x_Mo_spoil_19 cs_Mo_332 (t_Mo_isGrade (lev := lev - 1) l G (by omega) fv6) (by omega) rfl (i_le rfl) rfl ?_
    rcases ite_e h with ⟨c8, h⟩ | ⟨c8, h⟩
    · refine z_if_ne_f (tgt := 31) C x_Mo_spoil_22 rfl c8 ?_
      exact z_sub [0] rfl (z_Mo_spoil_25 C hlev h)
    · refine z_if_ne_t (tgt := 31) C x_Mo_spoil_22 rfl c8 ?_
      refine z_iload_n C 3 x_Mo_spoil_31 rfl ?_
      obtain ⟨v9, M10, fv9, h⟩ := bcall_e h
      refine z_callSi C x_Mo_spoil_32 cs_Mo_335 (t_Mo_isYear (lev := lev - 1) l G (by omega) fv9) (by omega) rfl (i_le rfl) rfl ?_
      rcases ite_e h with ⟨c11, h⟩ | ⟨c11, h⟩
      · refine z_if_eq_t (tgt := 51) C x_Mo_spoil_35 rfl c11 ?_
        exact z_sub [0] rfl (z_Mo_spoil_51 C hlev h)
      · refine z_if_eq_f (tgt := 51) C x_Mo_spoil_35 rfl c11 ?_
        refine z_iload C 4 x_Mo_spoil_38 rfl ?_
        refine z_i2l C x_Mo_spoil_40 ?_
        refine z_lconst1 C x_Mo_spoil_41 ?_
        refine z_ldc2 C kl_Mo_302 x_Mo_spoil_42 ?_
        obtain ⟨v12, M13, fv12, h⟩ := bcall_e h
        refine z_callSi C x_Mo_spoil_45 cs_Mo_265 (t_Mo_isIn (lev := lev - 1) l G (by omega) fv12) (by omega) rfl (i_le rfl) rfl ?_
        rcases ite_e h with ⟨c14, h⟩ | ⟨c14, h⟩
        · refine z_if_ne_f (tgt := 57) C x_Mo_spoil_48 rfl c14 ?_
          exact z_sub [0] rfl (z_Mo_spoil_51 C hlev h)
        · refine z_if_ne_t (tgt := 57) C x_Mo_spoil_48 rfl c14 ?_
          refine z_aload_n C 0 x_Mo_spoil_57 rfl ?_
          refine z_iconst C x_Mo_spoil_58 ?_
          refine z_iconst C x_Mo_spoil_59 ?_
          refine z_iload_n C 1 x_Mo_spoil_60 rfl ?_
          refine z_iconst C x_Mo_spoil_61 ?_
          refine z_iload_n C 2 x_Mo_spoil_62 rfl ?_
          refine z_iload_n C 3 x_Mo_spoil_63 rfl ?_
          refine z_iload C 4 x_Mo_spoil_64 rfl ?_
          refine z_iconst C x_Mo_spoil_66 ?_
          refine z_iload C 5 x_Mo_spoil_67 rfl ?_
          refine z_iload C 6 x_Mo_spoil_69 rfl ?_
          obtain ⟨v15, M16, fv15, h⟩ := bcall_e h
          refine z_callVi (k := 111) C x_Mo_spoil_71 cv_Mo_328 (t_Mo_event (lev := lev - 1) l G (by omega) fv15) nk_111 ck_111 rfl (by omega) rfl (i_le rfl) rfl ?_
          exact z_iret C x_Mo_spoil_74 h
theorem x_Mo_isLoad_0 : DC b_Mo_isLoad 0 (.iload_n 1) 1 1 := ⟨by decide +kernel, rfl⟩
theorem x_Mo_isLoad_1 : DC b_Mo_isLoad 1 (.i2l) 1 2 := ⟨by decide +kernel, rfl⟩
theorem x_Mo_isLoad_2 : DC b_Mo_isLoad 2 (.lconst 0) 1 3 := ⟨by decide +kernel, rfl⟩
theorem x_Mo_isLoad_3 : DC b_Mo_isLoad 3 (.aload_n 0) 1 4 := ⟨by decide +kernel, rfl⟩
theorem x_Mo_isLoad_4 : DC b_Mo_isLoad 4 (.getfield 309) 3 7 := ⟨by decide +kernel, rfl⟩
theorem x_Mo_isLoad_7 : DC b_Mo_isLoad 7 (.iconst 1) 1 8 := ⟨by decide +kernel, rfl⟩
theorem x_Mo_isLoad_8 : DC b_Mo_isLoad 8 (.isub) 1 9 := ⟨by decide +kernel, rfl⟩
theorem x_Mo_isLoad_9 : DC b_Mo_isLoad 9 (.i2l) 1 10 := ⟨by decide +kernel, rfl⟩
theorem x_Mo_isLoad_10 : DC b_Mo_isLoad 10 (.invokestatic 265) 3 13 := ⟨by decide +kernel, rfl⟩
theorem x_Mo_isLoad_13 : DC b_Mo_isLoad 13 (.ifCond .eq 16) 3 16 := ⟨by decide +kernel, rfl⟩
theorem x_Mo_isLoad_16 : DC b_Mo_isLoad 16 (.aload_n 0) 1 17 := ⟨by decide +kernel, rfl⟩
theorem x_Mo_isLoad_17 : DC b_Mo_isLoad 17 (.getfield 35) 3 20 := ⟨by decide +kernel, rfl⟩
theorem x_Mo_isLoad_20 : DC b_Mo_isLoad 20 (.iload_n 1) 1 21 := ⟨by decide +kernel, rfl⟩
theorem x_Mo_isLoad_21 : DC b_Mo_isLoad 21 (.iaload) 1 22 := ⟨by decide +kernel, rfl⟩
theorem x_Mo_isLoad_22 : DC b_Mo_isLoad 22 (.ifCond .ne 7) 3 25 := ⟨by decide +kernel, rfl⟩
theorem x_Mo_isLoad_25 : DC b_Mo_isLoad 25 (.iconst 1) 1 26 := ⟨by decide +kernel, rfl⟩
theorem x_Mo_isLoad_26 : DC b_Mo_isLoad 26 (.goto 4) 3 29 := ⟨by decide +kernel, rfl⟩
theorem x_Mo_isLoad_29 : DC b_Mo_isLoad 29 (.iconst 0) 1 30 := ⟨by decide +kernel, rfl⟩
theorem x_Mo_isLoad_30 : DC b_Mo_isLoad 30 (.ireturn) 1 31 := ⟨by decide +kernel, rfl⟩
def d_Mo_isLoad (a1 : Int) (M : Mem) : Res := blet (M 111 7) fun v1 => bcall (d_Mo_isIn (w32 a1) 0 (w32 (v1 - 1)) M) fun v2 M3 => if w32 v2 = 0 then (some (0, M3)) else (chk (0 ≤ w32 a1 ∧ w32 a1 < 120) <| blet (M3 120 (ix a1)) fun v6 => if w32 v6 = 0 then (some (1, M3)) else (some (0, M3)))
theorem t_Mo_isLoad (l : Launch) (G : GX) {lev : Nat} (hlev : 1 ≤ lev) {a1 : Int} {M : Mem} {r : Int × Mem} (h : d_Mo_isLoad a1 M = some r) : Mt l G y_Mo_isLoad b_Mo_isLoad 2 (some .boolean) lev 1 [.ref (G.1 + 111), vi a1] M r := by
  refine Mt.of (by decide) (i_le rfl) ?_
  intro p e s m args below meth c C
  have C : Cx p s m args meth c G b_Mo_isLoad 2 "PrairiePoolModel" (some .boolean) := C
  unfold d_Mo_isLoad at h
  refine z_sub (lv' := [(0, .ref (G.1 + 111)), (1, vi a1)]) [0, 1] rfl ?_
  refine z_iload_n C 1 x_Mo_isLoad_0 rfl ?_
  refine z_i2l C x_Mo_isLoad_1 ?_
  refine z_lconst0 C x_Mo_isLoad_2 ?_
  refine z_aload_n C 0 x_Mo_isLoad_3 rfl ?_
  obtain ⟨v1, ev1, h⟩ := blet_e h
  refine z_getI (j := 7) C x_Mo_isLoad_4 nk_111 ck_111 cw_12 (i_lt rfl) rfl rfl fl_Mo_309 ev1 ?_
  refine z_iconst C x_Mo_isLoad_7 ?_
  refine z_isub C x_Mo_isLoad_8 ?_
  refine z_i2l C x_Mo_isLoad_9 ?_
  obtain ⟨v2, M3, fv2, h⟩ := bcall_e h
  refine z_callSi C x_Mo_isLoad_10 cs_Mo_265 (t_Mo_isIn (lev := lev - 1) l G (by omega) fv2) (by omega) rfl (i_le rfl) rfl ?_
  rcases ite_e h with ⟨c4, h⟩ | ⟨c4, h⟩
  · refine z_if_eq_t (tgt := 29) C x_Mo_isLoad_13 rfl c4 ?_
    refine z_iconst C x_Mo_isLoad_29 ?_
    exact z_zret C x_Mo_isLoad_30 (by decide) h
  · refine z_if_eq_f (tgt := 29) C x_Mo_isLoad_13 rfl c4 ?_
    refine z_aload_n C 0 x_Mo_isLoad_16 rfl ?_
    refine z_getR (j := 16) C x_Mo_isLoad_17 nk_111 ck_111 cw_12 (i_lt rfl) rfl rf_111_16 rfl fl_Mo_35 ?_
    refine z_iload_n C 1 x_Mo_isLoad_20 rfl ?_
    obtain ⟨c5, h⟩ := chk_e h
    obtain ⟨v6, ev6, h⟩ := blet_e h
    refine z_iald C x_Mo_isLoad_21 nk_120 ck_120 c5 ev6 ?_
    rcases ite_e h with ⟨c7, h⟩ | ⟨c7, h⟩
    · refine z_if_ne_f (tgt := 29) C x_Mo_isLoad_22 rfl c7 ?_
      refine z_iconst C x_Mo_isLoad_25 ?_
      refine z_goto (tgt := 30) C x_Mo_isLoad_26 rfl ?_
      exact z_zret C x_Mo_isLoad_30 (by decide) h
    · refine z_if_ne_t (tgt := 29) C x_Mo_isLoad_22 rfl c7 ?_
      refine z_iconst C x_Mo_isLoad_29 ?_
      exact z_zret C x_Mo_isLoad_30 (by decide) h
theorem x_Mo_grading_0 : DC b_Mo_grading 0 (.aload_n 0) 1 1 := ⟨by decide +kernel, rfl⟩
theorem x_Mo_grading_1 : DC b_Mo_grading 1 (.iconst 0) 1 2 := ⟨by decide +kernel, rfl⟩
theorem x_Mo_grading_2 : DC b_Mo_grading 2 (.putfield 257) 3 5 := ⟨by decide +kernel, rfl⟩
theorem x_Mo_grading_5 : DC b_Mo_grading 5 (.aload_n 0) 1 6 := ⟨by decide +kernel, rfl⟩
theorem x_Mo_grading_6 : DC b_Mo_grading 6 (.iconst 0) 1 7 := ⟨by decide +kernel, rfl⟩
theorem x_Mo_grading_7 : DC b_Mo_grading 7 (.putfield 260) 3 10 := ⟨by decide +kernel, rfl⟩
theorem x_Mo_grading_10 : DC b_Mo_grading 10 (.aload_n 0) 1 11 := ⟨by decide +kernel, rfl⟩
theorem x_Mo_grading_11 : DC b_Mo_grading 11 (.iload_n 1) 1 12 := ⟨by decide +kernel, rfl⟩
theorem x_Mo_grading_12 : DC b_Mo_grading 12 (.invokevirtual 338) 3 15 := ⟨by decide +kernel, rfl⟩
theorem x_Mo_grading_15 : DC b_Mo_grading 15 (.ifCond .eq 22) 3 18 := ⟨by decide +kernel, rfl⟩
theorem x_Mo_grading_18 : DC b_Mo_grading 18 (.iload_n 2) 1 19 := ⟨by decide +kernel, rfl⟩
theorem x_Mo_grading_19 : DC b_Mo_grading 19 (.i2l) 1 20 := ⟨by decide +kernel, rfl⟩
theorem x_Mo_grading_20 : DC b_Mo_grading 20 (.lconst 0) 1 21 := ⟨by decide +kernel, rfl⟩
theorem x_Mo_grading_21 : DC b_Mo_grading 21 (.ldc2_w 271) 3 24 := ⟨by decide +kernel, rfl⟩
theorem x_Mo_grading_24 : DC b_Mo_grading 24 (.invokestatic 265) 3 27 := ⟨by decide +kernel, rfl⟩
theorem x_Mo_grading_27 : DC b_Mo_grading 27 (.ifCond .eq 10) 3 30 := ⟨by decide +kernel, rfl⟩
theorem x_Mo_grading_30 : DC b_Mo_grading 30 (.iload_n 3) 1 31 := ⟨by decide +kernel, rfl⟩
theorem x_Mo_grading_31 : DC b_Mo_grading 31 (.invokestatic 332) 3 34 := ⟨by decide +kernel, rfl⟩
theorem x_Mo_grading_34 : DC b_Mo_grading 34 (.ifCond .ne 9) 3 37 := ⟨by decide +kernel, rfl⟩
theorem x_Mo_grading_37 : DC b_Mo_grading 37 (.aload_n 0) 1 38 := ⟨by decide +kernel, rfl⟩
theorem x_Mo_grading_38 : DC b_Mo_grading 38 (.iconst 2) 1 39 := ⟨by decide +kernel, rfl⟩
theorem x_Mo_grading_39 : DC b_Mo_grading 39 (.invokevirtual 273) 3 42 := ⟨by decide +kernel, rfl⟩
theorem x_Mo_grading_42 : DC b_Mo_grading 42 (.ireturn) 1 43 := ⟨by decide +kernel, rfl⟩
theorem x_Mo_grading_43 : DC b_Mo_grading 43 (.iload 4) 2 45 := ⟨by decide +kernel, rfl⟩
theorem x_Mo_grading_45 : DC b_Mo_grading 45 (.invokestatic 306) 3 48 := ⟨by decide +kernel, rfl⟩
theorem x_Mo_grading_48 : DC b_Mo_grading 48 (.ifCond .ne 9) 3 51 := ⟨by decide +kernel, rfl⟩
theorem x_Mo_grading_51 : DC b_Mo_grading 51 (.aload_n 0) 1 52 := ⟨by decide +kernel, rfl⟩
theorem x_Mo_grading_52 : DC b_Mo_grading 52 (.iconst 5) 1 53 := ⟨by decide +kernel, rfl⟩
theorem x_Mo_grading_53 : DC b_Mo_grading 53 (.invokevirtual 273) 3 56 := ⟨by decide +kernel, rfl⟩
theorem x_Mo_grading_56 : DC b_Mo_grading 56 (.ireturn) 1 57 := ⟨by decide +kernel, rfl⟩
theorem x_Mo_grading_57 : DC b_Mo_grading 57 (.aload_n 0) 1 58 := ⟨by decide +kernel, rfl⟩
theorem x_Mo_grading_58 : DC b_Mo_grading 58 (.getfield 341) 3 61 := ⟨by decide +kernel, rfl⟩
theorem x_Mo_grading_61 : DC b_Mo_grading 61 (.bipush 100) 2 63 := ⟨by decide +kernel, rfl⟩
theorem x_Mo_grading_63 : DC b_Mo_grading 63 (.if_icmp .ne 10) 3 66 := ⟨by decide +kernel, rfl⟩
theorem x_Mo_grading_66 : DC b_Mo_grading 66 (.aload_n 0) 1 67 := ⟨by decide +kernel, rfl⟩
theorem x_Mo_grading_67 : DC b_Mo_grading 67 (.bipush 7) 2 69 := ⟨by decide +kernel, rfl⟩
theorem x_Mo_grading_69 : DC b_Mo_grading 69 (.invokevirtual 273) 3 72 := ⟨by decide +kernel, rfl⟩
theorem x_Mo_grading_72 : DC b_Mo_grading 72 (.ireturn) 1 73 := ⟨by decide +kernel, rfl⟩
theorem x_Mo_grading_73 : DC b_Mo_grading 73 (.iload 4) 2 75 := ⟨by decide +kernel, rfl⟩
theorem x_Mo_grading_75 : DC b_Mo_grading 75 (.aload_n 0) 1 76 := ⟨by decide +kernel, rfl⟩
theorem x_Mo_grading_76 : DC b_Mo_grading 76 (.getfield 315) 3 79 := ⟨by decide +kernel, rfl⟩
theorem x_Mo_grading_79 : DC b_Mo_grading 79 (.if_icmp .ge 10) 3 82 := ⟨by decide +kernel, rfl⟩
theorem x_Mo_grading_82 : DC b_Mo_grading 82 (.aload_n 0) 1 83 := ⟨by decide +kernel, rfl⟩
theorem x_Mo_grading_83 : DC b_Mo_grading 83 (.bipush 12) 2 85 := ⟨by decide +kernel, rfl⟩
theorem x_Mo_grading_85 : DC b_Mo_grading 85 (.invokevirtual 273) 3 88 := ⟨by decide +kernel, rfl⟩
theorem x_Mo_grading_88 : DC b_Mo_grading 88 (.ireturn) 1 89 := ⟨by decide +kernel, rfl⟩
theorem x_Mo_grading_89 : DC b_Mo_grading 89 (.aload_n 0) 1 90 := ⟨by decide +kernel, rfl⟩
theorem x_Mo_grading_90 : DC b_Mo_grading 90 (.getfield 65) 3 93 := ⟨by decide +kernel, rfl⟩
theorem x_Mo_grading_93 : DC b_Mo_grading 93 (.aload_n 0) 1 94 := ⟨by decide +kernel, rfl⟩
theorem x_Mo_grading_94 : DC b_Mo_grading 94 (.getfield 341) 3 97 := ⟨by decide +kernel, rfl⟩
theorem x_Mo_grading_97 : DC b_Mo_grading 97 (.iload_n 1) 1 98 := ⟨by decide +kernel, rfl⟩
theorem x_Mo_grading_98 : DC b_Mo_grading 98 (.iastore) 1 99 := ⟨by decide +kernel, rfl⟩
theorem x_Mo_grading_99 : DC b_Mo_grading 99 (.aload_n 0) 1 100 := ⟨by decide +kernel, rfl⟩
theorem x_Mo_grading_100 : DC b_Mo_grading 100 (.getfield 68) 3 103 := ⟨by decide +kernel, rfl⟩
theorem x_Mo_grading_103 : DC b_Mo_grading 103 (.aload_n 0) 1 104 := ⟨by decide +kernel, rfl⟩
theorem x_Mo_grading_104 : DC b_Mo_grading 104 (.getfield 341) 3 107 := ⟨by decide +kernel, rfl⟩
theorem x_Mo_grading_107 : DC b_Mo_grading 107 (.iload_n 2) 1 108 := ⟨by decide +kernel, rfl⟩
theorem x_Mo_grading_108 : DC b_Mo_grading 108 (.iastore) 1 109 := ⟨by decide +kernel, rfl⟩
theorem x_Mo_grading_109 : DC b_Mo_grading 109 (.aload_n 0) 1 110 := ⟨by decide +kernel, rfl⟩
theorem x_Mo_grading_110 : DC b_Mo_grading 110 (.getfield 71) 3 113 := ⟨by decide +kernel, rfl⟩
theorem x_Mo_grading_113 : DC b_Mo_grading 113 (.aload_n 0) 1 114 := ⟨by decide +kernel, rfl⟩
theorem x_Mo_grading_114 : DC b_Mo_grading 114 (.getfield 341) 3 117 := ⟨by decide +kernel, rfl⟩
theorem x_Mo_grading_117 : DC b_Mo_grading 117 (.iload_n 3) 1 118 := ⟨by decide +kernel, rfl⟩
theorem x_Mo_grading_118 : DC b_Mo_grading 118 (.iastore) 1 119 := ⟨by decide +kernel, rfl⟩
theorem x_Mo_grading_119 : DC b_Mo_grading 119 (.aload_n 0) 1 120 := ⟨by decide +kernel, rfl⟩
theorem x_Mo_grading_120 : DC b_Mo_grading 120 (.getfield 74) 3 123 := ⟨by decide +kernel, rfl⟩
theorem x_Mo_grading_123 : DC b_Mo_grading 123 (.aload_n 0) 1 124 := ⟨by decide +kernel, rfl⟩
theorem x_Mo_grading_124 : DC b_Mo_grading 124 (.getfield 341) 3 127 := ⟨by decide +kernel, rfl⟩
theorem x_Mo_grading_127 : DC b_Mo_grading 127 (.iload 4) 2 129 := ⟨by decide +kernel, rfl⟩
theorem x_Mo_grading_129 : DC b_Mo_grading 129 (.iastore) 1 130 := ⟨by decide +kernel, rfl⟩
theorem x_Mo_grading_130 : DC b_Mo_grading 130 (.aload_n 0) 1 131 := ⟨by decide +kernel, rfl⟩
theorem x_Mo_grading_131 : DC b_Mo_grading 131 (.dup) 1 132 := ⟨by decide +kernel, rfl⟩
theorem x_Mo_grading_132 : DC b_Mo_grading 132 (.getfield 341) 3 135 := ⟨by decide +kernel, rfl⟩
theorem x_Mo_grading_135 : DC b_Mo_grading 135 (.iconst 1) 1 136 := ⟨by decide +kernel, rfl⟩
theorem x_Mo_grading_136 : DC b_Mo_grading 136 (.iadd) 1 137 := ⟨by decide +kernel, rfl⟩
theorem x_Mo_grading_137 : DC b_Mo_grading 137 (.putfield 341) 3 140 := ⟨by decide +kernel, rfl⟩
theorem x_Mo_grading_140 : DC b_Mo_grading 140 (.aload_n 0) 1 141 := ⟨by decide +kernel, rfl⟩
theorem x_Mo_grading_141 : DC b_Mo_grading 141 (.iload 4) 2 143 := ⟨by decide +kernel, rfl⟩
theorem x_Mo_grading_143 : DC b_Mo_grading 143 (.putfield 315) 3 146 := ⟨by decide +kernel, rfl⟩
theorem x_Mo_grading_146 : DC b_Mo_grading 146 (.iconst 1) 1 147 := ⟨by decide +kernel, rfl⟩
theorem x_Mo_grading_147 : DC b_Mo_grading 147 (.ireturn) 1 148 := ⟨by decide +kernel, rfl⟩
def k_Mo_grading_37 (M : Mem) : Res := bcall (d_Mo_no 2 M) fun v1 M2 => chk (w32 v1 = 0 ∨ w32 v1 = 1) <| some (v1, M2)
theorem z_Mo_grading_37 (C : Cx p s m args meth c G b_Mo_grading 5 "PrairiePoolModel" (some .boolean)) (hlev : 2 ≤ lev) {r : Int × Mem}  {M : Mem} (h : k_Mo_grading_37 M = some r) : Z p l e lev s m args below meth c G 5 (MQ below (Qm G 1 r) args s 0 0 (Ab G)) M 37 [(0, .ref (G.1 + 111))] [] := by
  unfold k_Mo_grading_37 at h
  refine z_aload_n C 0 x_Mo_grading_37 rfl ?_
  refine z_iconst C x_Mo_grading_38 ?_
  obtain ⟨v1, M2, fv1, h⟩ := bcall_e h
  refine z_callVi (k := 111) C x_Mo_grading_39 cv_Mo_273 (t_Mo_no (lev := lev - 1) l G (by omega) fv1) nk_111 ck_111 rfl (by omega) rfl (i_le rfl) rfl ?_
  obtain ⟨c3, h⟩ := chk_e h
  exact z_zret C x_Mo_grading_42 c3 h
def d_Mo_grading (a1 a2 a3 a4 : Int) (M : Mem) : Res := blet (sto M 111 1 0) fun M1 => blet (sto M1 111 0 0) fun M2 => bcall (d_Mo_isLoad a1 M2) fun v3 M4 => if w32 v3 = 0 then (k_Mo_grading_37 M4) else (bcall (d_Mo_isIn (w32 a2) 0 5 M4) fun v6 M7 => if w32 v6 = 0 then (k_Mo_grading_37 M7) else (bcall (d_Mo_isGrade a3 M7) fun v9 M10 => if w32 v9 = 0 then (k_Mo_grading_37 M10) else (bcall (d_Mo_isDay a4 M10) fun v12 M13 => if w32 v12 = 0 then (bcall (d_Mo_no 5 M13) fun v15 M16 => chk (w32 v15 = 0 ∨ w32 v15 = 1) <| some (v15, M16)) else (blet (M13 111 8) fun v18 => if w32 v18 = 100 then (bcall (d_Mo_no 7 M13) fun v20 M21 => chk (w32 v20 = 0 ∨ w32 v20 = 1) <| some (v20, M21)) else (blet (M13 111 9) fun v23 => if w32 a4 < w32 v23 then (bcall (d_Mo_no 12 M13) fun v25 M26 => chk (w32 v25 = 0 ∨ w32 v25 = 1) <| some (v25, M26)) else (blet (M13 111 8) fun v28 => chk (0 ≤ w32 v28 ∧ w32 v28 < 100) <| blet (sto M13 130 (ix v28) a1) fun M30 => blet (M30 111 8) fun v31 => chk (0 ≤ w32 v31 ∧ w32 v31 < 100) <| blet (sto M30 131 (ix v31) a2) fun M33 => blet (M33 111 8) fun v34 => chk (0 ≤ w32 v34 ∧ w32 v34 < 100) <| blet (sto M33 132 (ix v34) a3) fun M36 => blet (M36 111 8) fun v37 => chk (0 ≤ w32 v37 ∧ w32 v37 < 100) <| blet (sto M36 133 (ix v37) a4) fun M39 => blet (M39 111 8) fun v40 => blet (sto M39 111 8 (v40 + 1)) fun M41 => blet (sto M41 111 9 a4) fun M42 => some (1, M42)))))))
theorem t_Mo_grading (l : Launch) (G : GX) {lev : Nat} (hlev : 2 ≤ lev) {a1 a2 a3 a4 : Int} {M : Mem} {r : Int × Mem} (h : d_Mo_grading a1 a2 a3 a4 M = some r) : Mt l G y_Mo_grading b_Mo_grading 5 (some .boolean) lev 1 [.ref (G.1 + 111), vi a1, vi a2, vi a3, vi a4] M r := by
  refine Mt.of (by decide) (i_le rfl) ?_
  intro p e s m args below meth c C
  have C : Cx p s m args meth c G b_Mo_grading 5 "PrairiePoolModel" (some .boolean) := C
  unfold d_Mo_grading at h
  refine z_sub (lv' := [(0, .ref (G.1 + 111)), (1, vi a1), (2, vi a2), (3, vi a3), (4, vi a4)]) [0, 1, 2, 3, 4] rfl ?_
  refine z_aload_n C 0 x_Mo_grading_0 rfl ?_
  refine z_iconst C x_Mo_grading_1 ?_
  obtain ⟨M1, eM1, h⟩ := blet_e h
  refine z_putI (j := 1) C x_Mo_grading_2 nk_111 ck_111 cw_12 (i_lt rfl) rfl rfl rfl rfl fl_Mo_257 eM1 ?_
  refine z_aload_n C 0 x_Mo_grading_5 rfl ?_
  refine z_iconst C x_Mo_grading_6 ?_
  obtain ⟨M2, eM2, h⟩ := blet_e h
  refine z_putI (j := 0) C x_Mo_grading_7 nk_111 ck_111 cw_12 (i_lt rfl) rfl rfl rfl rfl fl_Mo_260 eM2 ?_
  refine z_aload_n C 0 x_Mo_grading_10 rfl ?_
  refine z_iload_n C 1 x_Mo_grading_11 rfl ?_
  obtain ⟨v3, M4, fv3, h⟩ := bcall_e h
  refine z_callVi (k := 111) C x_Mo_grading_12 cv_Mo_338 (t_Mo_isLoad (lev := lev - 1) l G (by omega) fv3) nk_111 ck_111 rfl (by omega) rfl (i_le rfl) rfl ?_
  rcases ite_e h with ⟨c5, h⟩ | ⟨c5, h⟩
  · refine z_if_eq_t (tgt := 37) C x_Mo_grading_15 rfl c5 ?_
    exact z_sub [0] rfl (z_Mo_grading_37 C hlev h)
  · refine z_if_eq_f (tgt := 37) C x_Mo_grading_15 rfl c5 ?_
    refine z_iload_n C 2 x_Mo_grading_18 rfl ?_
    refine z_i2l C x_Mo_grading_19 ?_
    refine z_lconst0 C x_Mo_grading_20 ?_
    refine z_ldc2 C kl_Mo_271 x_Mo_grading_21 ?_
    obtain ⟨v6, M7, fv6, h⟩ := bcall_e h
    refine z_callSi C x_Mo_grading_24 cs_Mo_265 (t_Mo_isIn (lev := lev - 1) l G (by omega) fv6) (by omega) rfl (i_le rfl) rfl ?_
    rcases ite_e h with ⟨c8, h⟩ | ⟨c8, h⟩
    · refine z_if_eq_t (tgt := 37) C x_Mo_grading_27 rfl c8 ?_
      exact z_sub [0] rfl (z_Mo_grading_37 C hlev h)
    · refine z_if_eq_f (tgt := 37) C x_Mo_grading_27 rfl c8 ?_
      refine z_iload_n C 3 x_Mo_grading_30 rfl ?_
      obtain ⟨v9, M10, fv9, h⟩ := bcall_e h
      refine z_callSi C x_Mo_grading_31 cs_Mo_332 (t_Mo_isGrade (lev := lev - 1) l G (by omega) fv9) (by omega) rfl (i_le rfl) rfl ?_
      rcases ite_e h with ⟨c11, h⟩ | ⟨c11, h⟩
      · refine z_if_ne_f (tgt := 43) C x_Mo_grading_34 rfl c11 ?_
        exact z_sub [0] rfl (z_Mo_grading_37 C hlev h)
      · refine z_if_ne_t (tgt := 43) C x_Mo_grading_34 rfl c11 ?_
        refine z_iload C 4 x_Mo_grading_43 rfl ?_
        obtain ⟨v12, M13, fv12, h⟩ := bcall_e h
        refine z_callSi C x_Mo_grading_45 cs_Mo_306 (t_Mo_isDay (lev := lev - 1) l G (by omega) fv12) (by omega) rfl (i_le rfl) rfl ?_
        rcases ite_e h with ⟨c14, h⟩ | ⟨c14, h⟩
        · refine z_if_ne_f (tgt := 57) C x_Mo_grading_48 rfl c14 ?_
          refine z_aload_n C 0 x_Mo_grading_51 rfl ?_
          refine z_iconst C x_Mo_grading_52 ?_
          obtain ⟨v15, M16, fv15, h⟩ := bcall_e h
          refine z_callVi (k := 111) C x_Mo_grading_53 cv_Mo_273 (t_Mo_no (lev := lev - 1) l G (by omega) fv15) nk_111 ck_111 rfl (by omega) rfl (i_le rfl) rfl ?_
          obtain ⟨c17, h⟩ := chk_e h
          exact z_zret C x_Mo_grading_56 c17 h
        · refine z_if_ne_t (tgt := 57) C x_Mo_grading_48 rfl c14 ?_
          refine z_aload_n C 0 x_Mo_grading_57 rfl ?_
          obtain ⟨v18, ev18, h⟩ := blet_e h
          refine z_getI (j := 8) C x_Mo_grading_58 nk_111 ck_111 cw_12 (i_lt rfl) rfl rfl fl_Mo_341 ev18 ?_
          refine z_bipush C rfl x_Mo_grading_61 ?_
          rcases ite_e h with ⟨c19, h⟩ | ⟨c19, h⟩
          · refine z_icmp_ne_f (tgt := 73) C x_Mo_grading_63 rfl c19 ?_
            refine z_aload_n C 0 x_Mo_grading_66 rfl ?_
            refine z_bipush C rfl x_Mo_grading_67 ?_
            obtain ⟨v20, M21, fv20, h⟩ := bcall_e h
            refine z_callVi (k := 111) C x_Mo_grading_69 cv_Mo_273 (t_Mo_no (lev := lev - 1) l G (by omega) fv20) nk_111 ck_111 rfl (by omega) rfl (i_le rfl) rfl ?_
            obtain ⟨c22, h⟩ := chk_e h
            exact z_zret C x_Mo_grading_72 c22 h
          · refine z_icmp_ne_t (tgt := 73) C x_Mo_grading_63 rfl c19 ?_
            refine z_iload C 4 x_Mo_grading_73 rfl ?_
            refine z_aload_n C 0 x_Mo_grading_75 rfl ?_
            obtain ⟨v23, ev23, h⟩ := blet_e h
            refine z_getI (j := 9) C x_Mo_grading_76 nk_111 ck_111 cw_12 (i_lt rfl) rfl rfl fl_Mo_315 ev23 ?_
            rcases ite_e h with ⟨c24, h⟩ | ⟨c24, h⟩
            · refine z_icmp_ge_f (tgt := 89) C x_Mo_grading_79 rfl c24 ?_
              refine z_aload_n C 0 x_Mo_grading_82 rfl ?_
              refine z_bipush C rfl x_Mo_grading_83 ?_
              obtain ⟨v25, M26, fv25, h⟩ := bcall_e h
              refine z_callVi (k := 111) C x_Mo_grading_85 cv_Mo_273 (t_Mo_no (lev := lev - 1) l G (by omega) fv25) nk_111 ck_111 rfl (by omega) rfl (i_le rfl) rfl ?_
              obtain ⟨c27, h⟩ := chk_e h
              exact z_zret C x_Mo_grading_88 c27 h
            · refine z_icmp_ge_t (tgt := 89) C x_Mo_grading_79 rfl c24 ?_
              refine z_aload_n C 0 x_Mo_grading_89 rfl ?_
              refine z_getR (j := 26) C x_Mo_grading_90 nk_111 ck_111 cw_12 (i_lt rfl) rfl rf_111_26 rfl fl_Mo_65 ?_
              refine z_aload_n C 0 x_Mo_grading_93 rfl ?_
              obtain ⟨v28, ev28, h⟩ := blet_e h
              refine z_getI (j := 8) C x_Mo_grading_94 nk_111 ck_111 cw_12 (i_lt rfl) rfl rfl fl_Mo_341 ev28 ?_
              refine z_iload_n C 1 x_Mo_grading_97 rfl ?_
              obtain ⟨c29, h⟩ := chk_e h
              obtain ⟨M30, eM30, h⟩ := blet_e h
              refine z_iast C x_Mo_grading_98 nk_130 ck_130 c29 eM30 ?_
              refine z_aload_n C 0 x_Mo_grading_99 rfl ?_
              refine z_getR (j := 27) C x_Mo_grading_100 nk_111 ck_111 cw_12 (i_lt rfl) rfl rf_111_27 rfl fl_Mo_68 ?_
              refine z_aload_n C 0 x_Mo_grading_103 rfl ?_
              obtain ⟨v31, ev31, h⟩ := blet_e h
              refine z_getI (j := 8) C x_Mo_grading_104 nk_111 ck_111 cw_12 (i_lt rfl) rfl rfl fl_Mo_341 ev31 ?_
              refine z_iload_n C 2 x_Mo_grading_107 rfl ?_
              obtain ⟨c32, h⟩ := chk_e h
              obtain ⟨M33, eM33, h⟩ := blet_e h
              refine z_iast C x_Mo_grading_108 nk_131 ck_131 c32 eM33 ?_
              refine z_aload_n C 0 x_Mo_grading_109 rfl ?_
              refine z_getR (j := 28) C x_Mo_grading_110 nk_111 ck_111 cw_12 (i_lt rfl) rfl rf_111_28 rfl fl_Mo_71 ?_
              refine z_aload_n C 0 x_Mo_grading_113 rfl ?_
              obtain ⟨v34, ev34, h⟩ := blet_e h
              refine z_getI (j := 8) C x_Mo_grading_114 nk_111 ck_111 cw_12 (i_lt rfl) rfl rfl fl_Mo_341 ev34 ?_
              refine z_iload_n C 3 x_Mo_grading_117 rfl ?_
              obtain ⟨c35, h⟩ := chk_e h
              obtain ⟨M36, eM36, h⟩ := blet_e h
              refine z_iast C x_Mo_grading_118 nk_132 ck_132 c35 eM36 ?_
              refine z_aload_n C 0 x_Mo_grading_119 rfl ?_
              refine z_getR (j := 29) C x_Mo_grading_120 nk_111 ck_111 cw_12 (i_lt rfl) rfl rf_111_29 rfl fl_Mo_74 ?_
              refine z_aload_n C 0 x_Mo_grading_123 rfl ?_
              obtain ⟨v37, ev37, h⟩ := blet_e h
              refine z_getI (j := 8) C x_Mo_grading_124 nk_111 ck_111 cw_12 (i_lt rfl) rfl rfl fl_Mo_341 ev37 ?_
              refine z_iload C 4 x_Mo_grading_127 rfl ?_
              obtain ⟨c38, h⟩ := chk_e h
              obtain ⟨M39, eM39, h⟩ := blet_e h
              refine z_iast C x_Mo_grading_129 nk_133 ck_133 c38 eM39 ?_
              refine z_aload_n C 0 x_Mo_grading_130 rfl ?_
              refine z_dup C x_Mo_grading_131 rfl ?_
              obtain ⟨v40, ev40, h⟩ := blet_e h
              refine z_getI (j := 8) C x_Mo_grading_132 nk_111 ck_111 cw_12 (i_lt rfl) rfl rfl fl_Mo_341 ev40 ?_
              refine z_iconst C x_Mo_grading_135 ?_
              refine z_iadd C x_Mo_grading_136 ?_
              obtain ⟨M41, eM41, h⟩ := blet_e h
              refine z_putI (j := 8) C x_Mo_grading_137 nk_111 ck_111 cw_12 (i_lt rfl) rfl rfl rfl rfl fl_Mo_341 eM41 ?_
              refine z_aload_n C 0 x_Mo_grading_140 rfl ?_
              refine z_iload C 4 x_Mo_grading_141 rfl ?_
              obtain ⟨M42, eM42, h⟩ := blet_e h
              refine z_putI (j := 9) C x_Mo_grading_143 nk_111 ck_111 cw_12 (i_lt rfl) rfl rfl rfl rfl fl_Mo_315 eM42 ?_
              refine z_iconst C x_Mo_grading_146 ?_
              exact z_zret C x_Mo_grading_147 (by decide) h
theorem x_Mo_letNothing_0 : DC b_Mo_letNothing 0 (.iconst 0) 1 1 := ⟨by decide +kernel, rfl⟩
theorem x_Mo_letNothing_1 : DC b_Mo_letNothing 1 (.istore_n 1) 1 2 := ⟨by decide +kernel, rfl⟩
theorem x_Mo_letNothing_2 : DC b_Mo_letNothing 2 (.iload_n 1) 1 3 := ⟨by decide +kernel, rfl⟩
theorem x_Mo_letNothing_3 : DC b_Mo_letNothing 3 (.bipush 11) 2 5 := ⟨by decide +kernel, rfl⟩
theorem x_Mo_letNothing_5 : DC b_Mo_letNothing 5 (.if_icmp .ge 16) 3 8 := ⟨by decide +kernel, rfl⟩
theorem x_Mo_letNothing_8 : DC b_Mo_letNothing 8 (.aload_n 0) 1 9 := ⟨by decide +kernel, rfl⟩
theorem x_Mo_letNothing_9 : DC b_Mo_letNothing 9 (.getfield 151) 3 12 := ⟨by decide +kernel, rfl⟩
theorem x_Mo_letNothing_12 : DC b_Mo_letNothing 12 (.iload_n 1) 1 13 := ⟨by decide +kernel, rfl⟩
theorem x_Mo_letNothing_13 : DC b_Mo_letNothing 13 (.lconst 0) 1 14 := ⟨by decide +kernel, rfl⟩
theorem x_Mo_letNothing_14 : DC b_Mo_letNothing 14 (.lastore) 1 15 := ⟨by decide +kernel, rfl⟩
theorem x_Mo_letNothing_15 : DC b_Mo_letNothing 15 (.iinc 1 1) 3 18 := ⟨by decide +kernel, rfl⟩
theorem x_Mo_letNothing_18 : DC b_Mo_letNothing 18 (.goto (-16)) 3 21 := ⟨by decide +kernel, rfl⟩
theorem x_Mo_letNothing_21 : DC b_Mo_letNothing 21 (.return_) 1 22 := ⟨by decide +kernel, rfl⟩
def k_Mo_letNothing_2 (R2 : Int → Mem → Res) (a1 : Int) (M : Mem) : Res := if w32 a1 < 11 then (chk (0 ≤ w32 a1 ∧ w32 a1 < 11) <| blet (sto M 156 (ix a1) 0) fun M3 => blet (a1 + 1) fun v4 => R2 v4 M3) else (some (0, M))
theorem z_Mo_letNothing_2 (C : Cx p s m args meth c G b_Mo_letNothing 2 "PrairiePoolModel" none) (hlev : 0 ≤ lev) {r : Int × Mem} {R2 : Int → Mem → Res} (hR2 : ∀ (a1 : Int) (M : Mem), R2 a1 M = some r → Z p l e lev s m args below meth c G 2 (MQ below (Qm G 0 r) args s 0 0 (Ab G)) M 2 [(0, .ref (G.1 + 111)), (1, vi a1)] []) {a1 : Int} {M : Mem} (h : k_Mo_letNothing_2 R2 a1 M = some r) : Z p l e lev s m args below meth c G 2 (MQ below (Qm G 0 r) args s 0 0 (Ab G)) M 2 [(0, .ref (G.1 + 111)), (1, vi a1)] [] := by
  unfold k_Mo_letNothing_2 at h
  refine z_iload_n C 1 x_Mo_letNothing_2 rfl ?_
  refine z_bipush C rfl x_Mo_letNothing_3 ?_
  rcases ite_e h with ⟨c1, h⟩ | ⟨c1, h⟩
  · refine z_icmp_ge_f (tgt := 21) C x_Mo_letNothing_5 rfl c1 ?_
    refine z_aload_n C 0 x_Mo_letNothing_8 rfl ?_
    refine z_getR (j := 68) C x_Mo_letNothing_9 nk_111 ck_111 cw_12 (i_lt rfl) rfl rf_111_68 rfl fl_Mo_151 ?_
    refine z_iload_n C 1 x_Mo_letNothing_12 rfl ?_
    refine z_lconst0 C x_Mo_letNothing_13 ?_
    obtain ⟨c2, h⟩ := chk_e h
    obtain ⟨M3, eM3, h⟩ := blet_e h
    refine z_last C x_Mo_letNothing_14 nk_156 ck_156 c2 eM3 ?_
    obtain ⟨v4, ev4, h⟩ := blet_e h
    refine z_iinc (lv' := [(1, vi v4), (0, .ref (G.1 + 111))]) C 1 ev4 x_Mo_letNothing_15 rfl (i_lt rfl) rfl ?_
    refine z_goto (tgt := 2) C x_Mo_letNothing_18 rfl ?_
    exact z_sub [1, 0] rfl (hR2 v4 M3 h)
  · refine z_icmp_ge_t (tgt := 21) C x_Mo_letNothing_5 rfl c1 ?_
    exact z_vret C x_Mo_letNothing_21 h
theorem zl_Mo_letNothing_2 (C : Cx p s m args meth c G b_Mo_letNothing 2 "PrairiePoolModel" none) (hlev : 0 ≤ lev) {r : Int × Mem}  : ∀ (n : Nat) (a1 : Int) (M : Mem), fix (fun _ _ => none) (k_Mo_letNothing_2) n a1 M = some r → Z p l e lev s m args below meth c G 2 (MQ below (Qm G 0 r) args s 0 0 (Ab G)) M 2 [(0, .ref (G.1 + 111)), (1, vi a1)] [] := by
  intro n
  induction n with
  | zero => intro a1 M h; exact nomatch (show (none : Res) = some r from h)
  | succ n ih => intro a1 M h; exact z_Mo_letNothing_2 C hlev ih h
def d_Mo_letNothing (M : Mem) : Res := fix (fun _ _ => none) (k_Mo_letNothing_2) FU 0 M
theorem t_Mo_letNothing (l : Launch) (G : GX) {lev : Nat} (hlev : 0 ≤ lev) {M : Mem} {r : Int × Mem} (h : d_Mo_letNothing M = some r) : Mt l G y_Mo_letNothing b_Mo_letNothing 2 none lev 0 [.ref (G.1 + 111)] M r := by
  refine Mt.of (by decide) (i_le rfl) ?_
  intro p e s m args below meth c C
  have C : Cx p s m args meth c G b_Mo_letNothing 2 "PrairiePoolModel" none := C
  unfold d_Mo_letNothing at h
  refine z_sub (lv' := [(0, .ref (G.1 + 111))]) [0] rfl ?_
  refine z_iconst C x_Mo_letNothing_0 ?_
  refine z_istore_n (lv' := [(1, vi 0), (0, .ref (G.1 + 111))]) C rfl x_Mo_letNothing_1 (i_lt rfl) rfl ?_
  exact z_sub [1, 0] rfl (zl_Mo_letNothing_2 C hlev FU 0 M h)
theorem x_Mo_net_0 : DC b_Mo_net 0 (.aload_n 0) 1 1 := ⟨by decide +kernel, rfl⟩
theorem x_Mo_net_1 : DC b_Mo_net 1 (.getfield 53) 3 4 := ⟨by decide +kernel, rfl⟩
theorem x_Mo_net_4 : DC b_Mo_net 4 (.iload_n 1) 1 5 := ⟨by decide +kernel, rfl⟩
theorem x_Mo_net_5 : DC b_Mo_net 5 (.iaload) 1 6 := ⟨by decide +kernel, rfl⟩
theorem x_Mo_net_6 : DC b_Mo_net 6 (.aload_n 0) 1 7 := ⟨by decide +kernel, rfl⟩
theorem x_Mo_net_7 : DC b_Mo_net 7 (.getfield 53) 3 10 := ⟨by decide +kernel, rfl⟩
theorem x_Mo_net_10 : DC b_Mo_net 10 (.iload_n 1) 1 11 := ⟨by decide +kernel, rfl⟩
theorem x_Mo_net_11 : DC b_Mo_net 11 (.iaload) 1 12 := ⟨by decide +kernel, rfl⟩
theorem x_Mo_net_12 : DC b_Mo_net 12 (.aload_n 0) 1 13 := ⟨by decide +kernel, rfl⟩
theorem x_Mo_net_13 : DC b_Mo_net 13 (.getfield 56) 3 16 := ⟨by decide +kernel, rfl⟩
theorem x_Mo_net_16 : DC b_Mo_net 16 (.iload_n 1) 1 17 := ⟨by decide +kernel, rfl⟩
theorem x_Mo_net_17 : DC b_Mo_net 17 (.iaload) 1 18 := ⟨by decide +kernel, rfl⟩
theorem x_Mo_net_18 : DC b_Mo_net 18 (.imul) 1 19 := ⟨by decide +kernel, rfl⟩
theorem x_Mo_net_19 : DC b_Mo_net 19 (.sipush 1000) 3 22 := ⟨by decide +kernel, rfl⟩
theorem x_Mo_net_22 : DC b_Mo_net 22 (.idiv) 1 23 := ⟨by decide +kernel, rfl⟩
theorem x_Mo_net_23 : DC b_Mo_net 23 (.isub) 1 24 := ⟨by decide +kernel, rfl⟩
theorem x_Mo_net_24 : DC b_Mo_net 24 (.ireturn) 1 25 := ⟨by decide +kernel, rfl⟩
def d_Mo_net (a1 : Int) (M : Mem) : Res := chk (0 ≤ w32 a1 ∧ w32 a1 < 120) <| blet (M 126 (ix a1)) fun v2 => chk (0 ≤ w32 a1 ∧ w32 a1 < 120) <| blet (M 126 (ix a1)) fun v4 => chk (0 ≤ w32 a1 ∧ w32 a1 < 120) <| blet (M 127 (ix a1)) fun v6 => some (v2 - (dv32 (v4 * v6) 1000), M)
theorem t_Mo_net (l : Launch) (G : GX) {lev : Nat} (hlev : 0 ≤ lev) {a1 : Int} {M : Mem} {r : Int × Mem} (h : d_Mo_net a1 M = some r) : Mt l G y_Mo_net b_Mo_net 2 (some .int) lev 1 [.ref (G.1 + 111), vi a1] M r := by
  refine Mt.of (by decide) (i_le rfl) ?_
  intro p e s m args below meth c C
  have C : Cx p s m args meth c G b_Mo_net 2 "PrairiePoolModel" (some .int) := C
  unfold d_Mo_net at h
  refine z_sub (lv' := [(0, .ref (G.1 + 111)), (1, vi a1)]) [0, 1] rfl ?_
  refine z_aload_n C 0 x_Mo_net_0 rfl ?_
  refine z_getR (j := 22) C x_Mo_net_1 nk_111 ck_111 cw_12 (i_lt rfl) rfl rf_111_22 rfl fl_Mo_53 ?_
  refine z_iload_n C 1 x_Mo_net_4 rfl ?_
  obtain ⟨c1, h⟩ := chk_e h
  obtain ⟨v2, ev2, h⟩ := blet_e h
  refine z_iald C x_Mo_net_5 nk_126 ck_126 c1 ev2 ?_
  refine z_aload_n C 0 x_Mo_net_6 rfl ?_
  refine z_getR (j := 22) C x_Mo_net_7 nk_111 ck_111 cw_12 (i_lt rfl) rfl rf_111_22 rfl fl_Mo_53 ?_
  refine z_iload_n C 1 x_Mo_net_10 rfl ?_
  obtain ⟨c3, h⟩ := chk_e h
  obtain ⟨v4, ev4, h⟩ := blet_e h
  refine z_iald C x_Mo_net_11 nk_126 ck_126 c3 ev4 ?_
  refine z_aload_n C 0 x_Mo_net_12 rfl ?_
  refine z_getR (j := 23) C x_Mo_net_13 nk_111 ck_111 cw_12 (i_lt rfl) rfl rf_111_23 rfl fl_Mo_56 ?_
  refine z_iload_n C 1 x_Mo_net_16 rfl ?_
  obtain ⟨c5, h⟩ := chk_e h
  obtain ⟨v6, ev6, h⟩ := blet_e h
  refine z_iald C x_Mo_net_17 nk_127 ck_127 c5 ev6 ?_
  refine z_imul C x_Mo_net_18 ?_
  refine z_sipush C rfl x_Mo_net_19 ?_
  refine z_idiv C (by decide) x_Mo_net_22 ?_
  refine z_isub C x_Mo_net_23 ?_
  exact z_iret C x_Mo_net_24 h
theorem x_Mo_spelled_0 : DC b_Mo_spelled 0 (.iload_n 0) 1 1 := ⟨by decide +kernel, rfl⟩
theorem x_Mo_spelled_1 : DC b_Mo_spelled 1 (.i2l) 1 2 := ⟨by decide +kernel, rfl⟩
theorem x_Mo_spelled_2 : DC b_Mo_spelled 2 (.ldc2_w 434) 3 5 := ⟨by decide +kernel, rfl⟩
theorem x_Mo_spelled_5 : DC b_Mo_spelled 5 (.lsub) 1 6 := ⟨by decide +kernel, rfl⟩
theorem x_Mo_spelled_6 : DC b_Mo_spelled 6 (.lstore 6) 2 8 := ⟨by decide +kernel, rfl⟩
theorem x_Mo_spelled_8 : DC b_Mo_spelled 8 (.lload 6) 2 10 := ⟨by decide +kernel, rfl⟩
theorem x_Mo_spelled_10 : DC b_Mo_spelled 10 (.ldc2_w 432) 3 13 := ⟨by decide +kernel, rfl⟩
theorem x_Mo_spelled_13 : DC b_Mo_spelled 13 (.lmul) 1 14 := ⟨by decide +kernel, rfl⟩
theorem x_Mo_spelled_14 : DC b_Mo_spelled 14 (.iload_n 1) 1 15 := ⟨by decide +kernel, rfl⟩
theorem x_Mo_spelled_15 : DC b_Mo_spelled 15 (.i2l) 1 16 := ⟨by decide +kernel, rfl⟩
theorem x_Mo_spelled_16 : DC b_Mo_spelled 16 (.ladd) 1 17 := ⟨by decide +kernel, rfl⟩
theorem x_Mo_spelled_17 : DC b_Mo_spelled 17 (.ldc2_w 434) 3 20 := ⟨by decide +kernel, rfl⟩
theorem x_Mo_spelled_20 : DC b_Mo_spelled 20 (.lsub) 1 21 := ⟨by decide +kernel, rfl⟩
theorem x_Mo_spelled_21 : DC b_Mo_spelled 21 (.lstore 6) 2 23 := ⟨by decide +kernel, rfl⟩
theorem x_Mo_spelled_23 : DC b_Mo_spelled 23 (.iload_n 2) 1 24 := ⟨by decide +kernel, rfl⟩
theorem x_Mo_spelled_24 : DC b_Mo_spelled 24 (.ifCond .le 19) 3 27 := ⟨by decide +kernel, rfl⟩
theorem x_Mo_spelled_27 : DC b_Mo_spelled 27 (.lload 6) 2 29 := ⟨by decide +kernel, rfl⟩
theorem x_Mo_spelled_29 : DC b_Mo_spelled 29 (.ldc2_w 432) 3 32 := ⟨by decide +kernel, rfl⟩
theorem x_Mo_spelled_32 : DC b_Mo_spelled 32 (.lmul) 1 33 := ⟨by decide +kernel, rfl⟩
theorem x_Mo_spelled_33 : DC b_Mo_spelled 33 (.iload_n 2) 1 34 := ⟨by decide +kernel, rfl⟩
theorem x_Mo_spelled_34 : DC b_Mo_spelled 34 (.i2l) 1 35 := ⟨by decide +kernel, rfl⟩
theorem x_Mo_spelled_35 : DC b_Mo_spelled 35 (.ladd) 1 36 := ⟨by decide +kernel, rfl⟩
theorem x_Mo_spelled_36 : DC b_Mo_spelled 36 (.ldc2_w 434) 3 39 := ⟨by decide +kernel, rfl⟩
theorem x_Mo_spelled_39 : DC b_Mo_spelled 39 (.lsub) 1 40 := ⟨by decide +kernel, rfl⟩
theorem x_Mo_spelled_40 : DC b_Mo_spelled 40 (.goto 5) 3 43 := ⟨by decide +kernel, rfl⟩
theorem x_Mo_spelled_43 : DC b_Mo_spelled 43 (.lload 6) 2 45 := ⟨by decide +kernel, rfl⟩
theorem x_Mo_spelled_45 : DC b_Mo_spelled 45 (.lstore 6) 2 47 := ⟨by decide +kernel, rfl⟩
theorem x_Mo_spelled_47 : DC b_Mo_spelled 47 (.iload_n 3) 1 48 := ⟨by decide +kernel, rfl⟩
theorem x_Mo_spelled_48 : DC b_Mo_spelled 48 (.ifCond .le 19) 3 51 := ⟨by decide +kernel, rfl⟩
theorem x_Mo_spelled_51 : DC b_Mo_spelled 51 (.lload 6) 2 53 := ⟨by decide +kernel, rfl⟩
theorem x_Mo_spelled_53 : DC b_Mo_spelled 53 (.ldc2_w 432) 3 56 := ⟨by decide +kernel, rfl⟩
theorem x_Mo_spelled_56 : DC b_Mo_spelled 56 (.lmul) 1 57 := ⟨by decide +kernel, rfl⟩
theorem x_Mo_spelled_57 : DC b_Mo_spelled 57 (.iload_n 3) 1 58 := ⟨by decide +kernel, rfl⟩
theorem x_Mo_spelled_58 : DC b_Mo_spelled 58 (.i2l) 1 59 := ⟨by decide +kernel, rfl⟩
theorem x_Mo_spelled_59 : DC b_Mo_spelled 59 (.ladd) 1 60 := ⟨by decide +kernel, rfl⟩
theorem x_Mo_spelled_60 : DC b_Mo_spelled 60 (.ldc2_w 434) 3 63 := ⟨by decide +kernel, rfl⟩
theorem x_Mo_spelled_63 : DC b_Mo_spelled 63 (.lsub) 1 64 := ⟨by decide +kernel, rfl⟩
theorem x_Mo_spelled_64 : DC b_Mo_spelled 64 (.goto 5) 3 67 := ⟨by decide +kernel, rfl⟩
theorem x_Mo_spelled_67 : DC b_Mo_spelled 67 (.lload 6) 2 69 := ⟨by decide +kernel, rfl⟩
theorem x_Mo_spelled_69 : DC b_Mo_spelled 69 (.lstore 6) 2 71 := ⟨by decide +kernel, rfl⟩
theorem x_Mo_spelled_71 : DC b_Mo_spelled 71 (.iload 4) 2 73 := ⟨by decide +kernel, rfl⟩
theorem x_Mo_spelled_73 : DC b_Mo_spelled 73 (.ifCond .le 20) 3 76 := ⟨by decide +kernel, rfl⟩
theorem x_Mo_spelled_76 : DC b_Mo_spelled 76 (.lload 6) 2 78 := ⟨by decide +kernel, rfl⟩
theorem x_Mo_spelled_78 : DC b_Mo_spelled 78 (.ldc2_w 432) 3 81 := ⟨by decide +kernel, rfl⟩
theorem x_Mo_spelled_81 : DC b_Mo_spelled 81 (.lmul) 1 82 := ⟨by decide +kernel, rfl⟩
theorem x_Mo_spelled_82 : DC b_Mo_spelled 82 (.iload 4) 2 84 := ⟨by decide +kernel, rfl⟩
theorem x_Mo_spelled_84 : DC b_Mo_spelled 84 (.i2l) 1 85 := ⟨by decide +kernel, rfl⟩
theorem x_Mo_spelled_85 : DC b_Mo_spelled 85 (.ladd) 1 86 := ⟨by decide +kernel, rfl⟩
theorem x_Mo_spelled_86 : DC b_Mo_spelled 86 (.ldc2_w 434) 3 89 := ⟨by decide +kernel, rfl⟩
theorem x_Mo_spelled_89 : DC b_Mo_spelled 89 (.lsub) 1 90 := ⟨by decide +kernel, rfl⟩
theorem x_Mo_spelled_90 : DC b_Mo_spelled 90 (.goto 5) 3 93 := ⟨by decide +kernel, rfl⟩
theorem x_Mo_spelled_93 : DC b_Mo_spelled 93 (.lload 6) 2 95 := ⟨by decide +kernel, rfl⟩
theorem x_Mo_spelled_95 : DC b_Mo_spelled 95 (.lstore 6) 2 97 := ⟨by decide +kernel, rfl⟩
theorem x_Mo_spelled_97 : DC b_Mo_spelled 97 (.iload 5) 2 99 := ⟨by decide +kernel, rfl⟩
theorem x_Mo_spelled_99 : DC b_Mo_spelled 99 (.ifCond .le 20) 3 102 := ⟨by decide +kernel, rfl⟩
theorem x_Mo_spelled_102 : DC b_Mo_spelled 102 (.lload 6) 2 104 := ⟨by decide +kernel, rfl⟩
theorem x_Mo_spelled_104 : DC b_Mo_spelled 104 (.ldc2_w 432) 3 107 := ⟨by decide +kernel, rfl⟩
theorem x_Mo_spelled_107 : DC b_Mo_spelled 107 (.lmul) 1 108 := ⟨by decide +kernel, rfl⟩
theorem x_Mo_spelled_108 : DC b_Mo_spelled 108 (.iload 5) 2 110 := ⟨by decide +kernel, rfl⟩
theorem x_Mo_spelled_110 : DC b_Mo_spelled 110 (.i2l) 1 111 := ⟨by decide +kernel, rfl⟩
theorem x_Mo_spelled_111 : DC b_Mo_spelled 111 (.ladd) 1 112 := ⟨by decide +kernel, rfl⟩
theorem x_Mo_spelled_112 : DC b_Mo_spelled 112 (.ldc2_w 434) 3 115 := ⟨by decide +kernel, rfl⟩
theorem x_Mo_spelled_115 : DC b_Mo_spelled 115 (.lsub) 1 116 := ⟨by decide +kernel, rfl⟩
theorem x_Mo_spelled_116 : DC b_Mo_spelled 116 (.goto 5) 3 119 := ⟨by decide +kernel, rfl⟩
theorem x_Mo_spelled_119 : DC b_Mo_spelled 119 (.lload 6) 2 121 := ⟨by decide +kernel, rfl⟩
theorem x_Mo_spelled_121 : DC b_Mo_spelled 121 (.lreturn) 1 122 := ⟨by decide +kernel, rfl⟩
def k_Mo_spelled_95 (a5 s0 : Int) (M : Mem) : Res := if 0 < w32 a5 then (some (((s0 * 32) + (w32 a5)) - 96, M)) else (some (s0, M))
theorem z_Mo_spelled_95 (C : Cx p s m args meth c G b_Mo_spelled 8 "PrairiePoolModel" (some .long)) (hlev : 0 ≤ lev) {r : Int × Mem}  {a5 s0 : Int} {M : Mem} (h : k_Mo_spelled_95 a5 s0 M = some r) : Z p l e lev s m args below meth c G 8 (MQ below (Qm G 2 r) args s 0 0 (Ab G)) M 95 [(5, vi a5)] [vl s0] := by
  unfold k_Mo_spelled_95 at h
  refine z_lstore (lv' := [(6, vl s0), (5, vi a5)]) C rfl x_Mo_spelled_95 (i_lt rfl) rfl ?_
  refine z_iload C 1 x_Mo_spelled_97 rfl ?_
  rcases ite_e h with ⟨c1, h⟩ | ⟨c1, h⟩
  · refine z_if_le_f (tgt := 119) C x_Mo_spelled_99 rfl c1 ?_
    refine z_lload C 0 x_Mo_spelled_102 rfl ?_
    refine z_ldc2 C kl_Mo_432 x_Mo_spelled_104 ?_
    refine z_lmul C x_Mo_spelled_107 ?_
    refine z_iload C 1 x_Mo_spelled_108 rfl ?_
    refine z_i2l C x_Mo_spelled_110 ?_
    refine z_ladd C x_Mo_spelled_111 ?_
    refine z_ldc2 C kl_Mo_434 x_Mo_spelled_112 ?_
    refine z_lsub C x_Mo_spelled_115 ?_
    refine z_goto (tgt := 121) C x_Mo_spelled_116 rfl ?_
    exact z_lret C x_Mo_spelled_121 h
  · refine z_if_le_t (tgt := 119) C x_Mo_spelled_99 rfl c1 ?_
    refine z_lload C 0 x_Mo_spelled_119 rfl ?_
    exact z_lret C x_Mo_spelled_121 h
def k_Mo_spelled_69 (a4 a5 s0 : Int) (M : Mem) : Res := if 0 < w32 a4 then (k_Mo_spelled_95 a5 (((s0 * 32) + (w32 a4)) - 96) M) else (k_Mo_spelled_95 a5 s0 M)
theorem z_Mo_spelled_69 (C : Cx p s m args meth c G b_Mo_spelled 8 "PrairiePoolModel" (some .long)) (hlev : 0 ≤ lev) {r : Int × Mem}  {a4 a5 s0 : Int} {M : Mem} (h : k_Mo_spelled_69 a4 a5 s0 M = some r) : Z p l e lev s m args below meth c G 8 (MQ below (Qm G 2 r) args s 0 0 (Ab G)) M 69 [(4, vi a4), (5, vi a5)] [vl s0] := by
  unfold k_Mo_spelled_69 at h
  refine z_lstore (lv' := [(6, vl s0), (4, vi a4), (5, vi a5)]) C rfl x_Mo_spelled_69 (i_lt rfl) rfl ?_
  refine z_iload C 1 x_Mo_spelled_71 rfl ?_
  rcases ite_e h with ⟨c1, h⟩ | ⟨c1, h⟩
  · refine z_if_le_f (tgt := 93) C x_Mo_spelled_73 rfl c1 ?_
    refine z_lload C 0 x_Mo_spelled_76 rfl ?_
    refine z_ldc2 C kl_Mo_432 x_Mo_spelled_78 ?_
    refine z_lmul C x_Mo_spelled_81 ?_
    refine z_iload C 1 x_Mo_spelled_82 rfl ?_
    refine z_i2l C x_Mo_spelled_84 ?_
    refine z_ladd C x_Mo_spelled_85 ?_
    refine z_ldc2 C kl_Mo_434 x_Mo_spelled_86 ?_
    refine z_lsub C x_Mo_spelled_89 ?_
    refine z_goto (tgt := 95) C x_Mo_spelled_90 rfl ?_
    exact z_sub [2] rfl (z_Mo_spelled_95 C hlev h)
  · refine z_if_le_t (tgt := 93) C x_Mo_spelled_73 rfl c1 ?_
    refine z_lload C 0 x_Mo_spelled_93 rfl ?_
    exact z_sub [2] rfl (z_Mo_spelled_95 C hlev h)
def k_Mo_spelled_45 (a3 a4 a5 s0 : Int) (M : Mem) : Res := if 0 < w32 a3 then (k_Mo_spelled_69 a4 a5 (((s0 * 32) + (w32 a3)) - 96) M) else (k_Mo_spelled_69 a4 a5 s0 M)
theorem z_Mo_spelled_45 (C : Cx p s m args meth c G b_Mo_spelled 8 "PrairiePoolModel" (some .long)) (hlev : 0 ≤ lev) {r : Int × Mem}  {a3 a4 a5 s0 : Int} {M : Mem} (h : k_Mo_spelled_45 a3 a4 a5 s0 M = some r) : Z p l e lev s m args below meth c G 8 (MQ below (Qm G 2 r) args s 0 0 (Ab G)) M 45 [(3, vi a3), (4, vi a4), (5, vi a5)] [vl s0] := by
  unfold k_Mo_spelled_45 at h
  refine z_lstore (lv' := [(6, vl s0), (3, vi a3), (4, vi a4), (5, vi a5)]) C rfl x_Mo_spelled_45 (i_lt rfl) rfl ?_
  refine z_iload_n C 1 x_Mo_spelled_47 rfl ?_
  rcases ite_e h with ⟨c1, h⟩ | ⟨c1, h⟩
  · refine z_if_le_f (tgt := 67) C x_Mo_spelled_48 rfl c1 ?_
    refine z_lload C 0 x_Mo_spelled_51 rfl ?_
    refine z_ldc2 C kl_Mo_432 x_Mo_spelled_53 ?_
    refine z_lmul C x_Mo_spelled_56 ?_
    refine z_iload_n C 1 x_Mo_spelled_57 rfl ?_
    refine z_i2l C x_Mo_spelled_58 ?_
    refine z_ladd C x_Mo_spelled_59 ?_
    refine z_ldc2 C kl_Mo_434 x_Mo_spelled_60 ?_
    refine z_lsub C x_Mo_spelled_63 ?_
    refine z_goto (tgt := 69) C x_Mo_spelled_64 rfl ?_
    exact z_sub [2, 3] rfl (z_Mo_spelled_69 C hlev h)
  · refine z_if_le_t (tgt := 67) C x_Mo_spelled_48 rfl c1 ?_
    refine z_lload C 0 x_Mo_spelled_67 rfl ?_
    exact z_sub [2, 3] rfl (z_Mo_spelled_69 C hlev h)
def d_Mo_spelled (a0 a1 a2 a3 a4 a5 : Int) (M : Mem) : Res := blet ((w32 a0) - 96) fun v1 => blet (((v1 * 32) + (w32 a1)) - 96) fun v2 => if 0 < w32 a2 then (k_Mo_spelled_45 a3 a4 a5 (((v2 * 32) + (w32 a2)) - 96) M) else (k_Mo_spelled_45 a3 a4 a5 v2 M)
theorem t_Mo_spelled (l : Launch) (G : GX) {lev : Nat} (hlev : 0 ≤ lev) {a0 a1 a2 a3 a4 a5 : Int} {M : Mem} {r : Int × Mem} (h : d_Mo_spelled a0 a1 a2 a3 a4 a5 M = some r) : Mt l G y_Mo_spelled b_Mo_spelled 8 (some .long) lev 2 [vi a0, vi a1, vi a2, vi a3, vi a4, vi a5] M r := by
  refine Mt.of (by decide) (i_le rfl) ?_
  intro p e s m args below meth c C
  have C : Cx p s m args meth c G b_Mo_spelled 8 "PrairiePoolModel" (some .long) := C
  unfold d_Mo_spelled at h
  refine z_sub (lv' := [(0, vi a0), (1, vi a1), (2, vi a2), (3, vi a3), (4, vi a4), (5, vi a5)]) [0, 1, 2, 3, 4, 5] rfl ?_
  refine z_iload_n C 0 x_Mo_spelled_0 rfl ?_
  refine z_i2l C x_Mo_spelled_1 ?_
  refine z_ldc2 C kl_Mo_434 x_Mo_spelled_2 ?_
  refine z_lsub C x_Mo_spelled_5 ?_
  obtain ⟨v1, ev1, h⟩ := blet_e h
  refine z_lstore (lv' := [(6, vl v1), (0, vi a0), (1, vi a1), (2, vi a2), (3, vi a3), (4, vi a4), (5, vi a5)]) C ev1 x_Mo_spelled_6 (i_lt rfl) rfl ?_
  refine z_lload C 0 x_Mo_spelled_8 rfl ?_
  refine z_ldc2 C kl_Mo_432 x_Mo_spelled_10 ?_
  refine z_lmul C x_Mo_spelled_13 ?_
  refine z_iload_n C 2 x_Mo_spelled_14 rfl ?_
  refine z_i2l C x_Mo_spelled_15 ?_
  refine z_ladd C x_Mo_spelled_16 ?_
  refine z_ldc2 C kl_Mo_434 x_Mo_spelled_17 ?_
  refine z_lsub C x_Mo_spelled_20 ?_
  obtain ⟨v2, ev2, h⟩ := blet_e h
  refine z_lstore (lv' := [(6, vl v2), (0, vi a0), (1, vi a1), (2, vi a2), (3, vi a3), (4, vi a4), (5, vi a5)]) C ev2 x_Mo_spelled_21 (i_lt rfl) rfl ?_
  refine z_iload_n C 3 x_Mo_spelled_23 rfl ?_
  rcases ite_e h with ⟨c3, h⟩ | ⟨c3, h⟩
  · refine z_if_le_f (tgt := 43) C x_Mo_spelled_24 rfl c3 ?_
    refine z_lload C 0 x_Mo_spelled_27 rfl ?_
    refine z_ldc2 C kl_Mo_432 x_Mo_spelled_29 ?_
    refine z_lmul C x_Mo_spelled_32 ?_
    refine z_iload_n C 3 x_Mo_spelled_33 rfl ?_
    refine z_i2l C x_Mo_spelled_34 ?_
    refine z_ladd C x_Mo_spelled_35 ?_
    refine z_ldc2 C kl_Mo_434 x_Mo_spelled_36 ?_
    refine z_lsub C x_Mo_spelled_39 ?_
    refine z_goto (tgt := 45) C x_Mo_spelled_40 rfl ?_
    exact z_sub [4, 5, 6] rfl (z_Mo_spelled_45 C hlev h)
  · refine z_if_le_t (tgt := 43) C x_Mo_spelled_24 rfl c3 ?_
    refine z_lload C 0 x_Mo_spelled_43 rfl ?_
    exact z_sub [4, 5, 6] rfl (z_Mo_spelled_45 C hlev h)
theorem x_Mo_force_0 : DC b_Mo_force 0 (.iconst (-1)) 1 1 := ⟨by decide +kernel, rfl⟩
theorem x_Mo_force_1 : DC b_Mo_force 1 (.istore_n 2) 1 2 := ⟨by decide +kernel, rfl⟩
theorem x_Mo_force_2 : DC b_Mo_force 2 (.iconst 0) 1 3 := ⟨by decide +kernel, rfl⟩
theorem x_Mo_force_3 : DC b_Mo_force 3 (.istore_n 3) 1 4 := ⟨by decide +kernel, rfl⟩
theorem x_Mo_force_4 : DC b_Mo_force 4 (.iload_n 3) 1 5 := ⟨by decide +kernel, rfl⟩
theorem x_Mo_force_5 : DC b_Mo_force 5 (.aload_n 0) 1 6 := ⟨by decide +kernel, rfl⟩
theorem x_Mo_force_6 : DC b_Mo_force 6 (.getfield 562) 3 9 := ⟨by decide +kernel, rfl⟩
theorem x_Mo_force_9 : DC b_Mo_force 9 (.if_icmp .ge 40) 3 12 := ⟨by decide +kernel, rfl⟩
theorem x_Mo_force_12 : DC b_Mo_force 12 (.aload_n 0) 1 13 := ⟨by decide +kernel, rfl⟩
theorem x_Mo_force_13 : DC b_Mo_force 13 (.getfield 124) 3 16 := ⟨by decide +kernel, rfl⟩
theorem x_Mo_force_16 : DC b_Mo_force 16 (.iload_n 3) 1 17 := ⟨by decide +kernel, rfl⟩
theorem x_Mo_force_17 : DC b_Mo_force 17 (.iaload) 1 18 := ⟨by decide +kernel, rfl⟩
theorem x_Mo_force_18 : DC b_Mo_force 18 (.iload_n 1) 1 19 := ⟨by decide +kernel, rfl⟩
theorem x_Mo_force_19 : DC b_Mo_force 19 (.if_icmp .gt 24) 3 22 := ⟨by decide +kernel, rfl⟩
theorem x_Mo_force_22 : DC b_Mo_force 22 (.iload_n 2) 1 23 := ⟨by decide +kernel, rfl⟩
theorem x_Mo_force_23 : DC b_Mo_force 23 (.ifCond .lt 18) 3 26 := ⟨by decide +kernel, rfl⟩
theorem x_Mo_force_26 : DC b_Mo_force 26 (.aload_n 0) 1 27 := ⟨by decide +kernel, rfl⟩
theorem x_Mo_force_27 : DC b_Mo_force 27 (.getfield 124) 3 30 := ⟨by decide +kernel, rfl⟩
theorem x_Mo_force_30 : DC b_Mo_force 30 (.iload_n 3) 1 31 := ⟨by decide +kernel, rfl⟩
theorem x_Mo_force_31 : DC b_Mo_force 31 (.iaload) 1 32 := ⟨by decide +kernel, rfl⟩
theorem x_Mo_force_32 : DC b_Mo_force 32 (.aload_n 0) 1 33 := ⟨by decide +kernel, rfl⟩
theorem x_Mo_force_33 : DC b_Mo_force 33 (.getfield 124) 3 36 := ⟨by decide +kernel, rfl⟩
theorem x_Mo_force_36 : DC b_Mo_force 36 (.iload_n 2) 1 37 := ⟨by decide +kernel, rfl⟩
theorem x_Mo_force_37 : DC b_Mo_force 37 (.iaload) 1 38 := ⟨by decide +kernel, rfl⟩
theorem x_Mo_force_38 : DC b_Mo_force 38 (.if_icmp .lt 5) 3 41 := ⟨by decide +kernel, rfl⟩
theorem x_Mo_force_41 : DC b_Mo_force 41 (.iload_n 3) 1 42 := ⟨by decide +kernel, rfl⟩
theorem x_Mo_force_42 : DC b_Mo_force 42 (.istore_n 2) 1 43 := ⟨by decide +kernel, rfl⟩
theorem x_Mo_force_43 : DC b_Mo_force 43 (.iinc 3 1) 3 46 := ⟨by decide +kernel, rfl⟩
theorem x_Mo_force_46 : DC b_Mo_force 46 (.goto (-42)) 3 49 := ⟨by decide +kernel, rfl⟩
theorem x_Mo_force_49 : DC b_Mo_force 49 (.iload_n 2) 1 50 := ⟨by decide +kernel, rfl⟩
theorem x_Mo_force_50 : DC b_Mo_force 50 (.ireturn) 1 51 := ⟨by decide +kernel, rfl⟩
def k_Mo_force_43 (R4 : Int → Int → Int → Mem → Res) (a1 a2 a3 : Int) (M : Mem) : Res := blet (a3 + 1) fun v1 => R4 a1 a2 v1 M
theorem z_Mo_force_43 (C : Cx p s m args meth c G b_Mo_force 4 "PrairiePoolModel" (some .int)) (hlev : 0 ≤ lev) {r : Int × Mem} {R4 : Int → Int → Int → Mem → Res} (hR4 : ∀ (a1 a2 a3 : Int) (M : Mem), R4 a1 a2 a3 M = some r → Z p l e lev s m args below meth c G 4 (MQ below (Qm G 1 r) args s 0 0 (Ab G)) M 4 [(0, .ref (G.1 + 111)), (1, vi a1), (2, vi a2), (3, vi a3)] []) {a1 a2 a3 : Int} {M : Mem} (h : k_Mo_force_43 R4 a1 a2 a3 M = some r) : Z p l e lev s m args below meth c G 4 (MQ below (Qm G 1 r) args s 0 0 (Ab G)) M 43 [(0, .ref (G.1 + 111)), (1, vi a1), (2, vi a2), (3, vi a3)] [] := by
  unfold k_Mo_force_43 at h
  obtain ⟨v1, ev1, h⟩ := blet_e h
  refine z_iinc (lv' := [(3, vi v1), (0, .ref (G.1 + 111)), (1, vi a1), (2, vi a2)]) C 3 ev1 x_Mo_force_43 rfl (i_lt rfl) rfl ?_
  refine z_goto (tgt := 4) C x_Mo_force_46 rfl ?_
  exact z_sub [1, 2, 3, 0] rfl (hR4 a1 a2 v1 M h)
def k_Mo_force_41 (R4 : Int → Int → Int → Mem → Res) (a1 a3 : Int) (M : Mem) : Res := k_Mo_force_43 R4 a1 a3 a3 M
theorem z_Mo_force_41 (C : Cx p s m args meth c G b_Mo_force 4 "PrairiePoolModel" (some .int)) (hlev : 0 ≤ lev) {r : Int × Mem} {R4 : Int → Int → Int → Mem → Res} (hR4 : ∀ (a1 a2 a3 : Int) (M : Mem), R4 a1 a2 a3 M = some r → Z p l e lev s m args below meth c G 4 (MQ below (Qm G 1 r) args s 0 0 (Ab G)) M 4 [(0, .ref (G.1 + 111)), (1, vi a1), (2, vi a2), (3, vi a3)] []) {a1 a3 : Int} {M : Mem} (h : k_Mo_force_41 R4 a1 a3 M = some r) : Z p l e lev s m args below meth c G 4 (MQ below (Qm G 1 r) args s 0 0 (Ab G)) M 41 [(0, .ref (G.1 + 111)), (1, vi a1), (3, vi a3)] [] := by
  unfold k_Mo_force_41 at h
  refine z_iload_n C 2 x_Mo_force_41 rfl ?_
  refine z_istore_n (lv' := [(2, vi a3), (0, .ref (G.1 + 111)), (1, vi a1), (3, vi a3)]) C rfl x_Mo_force_42 (i_lt rfl) rfl ?_
  exact z_sub [1, 2, 0, 3] rfl (z_Mo_force_43 C hlev hR4 h)
def k_Mo_force_4 (R4 : Int → Int → Int → Mem → Res) (a1 a2 a3 : Int) (M : Mem) : Res := blet (M 111 56) fun v1 => if w32 a3 < w32 v1 then (chk (0 ≤ w32 a3 ∧ w32 a3 < 4) <| blet (M 147 (ix a3)) fun v4 => if w32 a1 < w32 v4 then (k_Mo_force_43 R4 a1 a2 a3 M) else (if w32 a2 < 0 then (k_Mo_force_41 R4 a1 a3 M) else (chk (0 ≤ w32 a3 ∧ w32 a3 < 4) <| blet (M 147 (ix a3)) fun v8 => chk (0 ≤ w32 a2 ∧ w32 a2 < 4) <| blet (M 147 (ix a2)) fun v10 => if w32 v8 < w32 v10 then (k_Mo_force_43 R4 a1 a2 a3 M) else (k_Mo_force_41 R4 a1 a3 M)))) else (some (a2, M))
theorem z_Mo_force_4 (C : Cx p s m args meth c G b_Mo_force 4 "PrairiePoolModel" (some .int)) (hlev : 0 ≤ lev) {r : Int × Mem} {R4 : Int → Int → Int → Mem → Res} (hR4 : ∀ (a1 a2 a3 : Int) (M : Mem), R4 a1 a2 a3 M = some r → Z p l e lev s m args below meth c G 4 (MQ below (Qm G 1 r) args s 0 0 (Ab G)) M 4 [(0, .ref (G.1 + 111)), (1, vi a1), (2, vi a2), (3, vi a3)] []) {a1 a2 a3 : Int} {M : Mem} (h : k_Mo_force_4 R4 a1 a2 a3 M = some r) : Z p l e lev s m args below meth c G 4 (MQ below (Qm G 1 r) args s 0 0 (Ab G)) M 4 [(0, .ref (G.1 + 111)), (1, vi a1), (2, vi a2), (3, vi a3)] [] := by
  unfold k_Mo_force_4 at h
  refine z_iload_n C 3 x_Mo_force_4 rfl ?_
  refine z_aload_n C 0 x_Mo_force_5 rfl ?_
  obtain ⟨v1, ev1, h⟩ := blet_e h
  refine z_getI (j := 56) C x_Mo_force_6 nk_111 ck_111 cw_12 (i_lt rfl) rfl rfl fl_Mo_562 ev1 ?_
  rcases ite_e h with ⟨c2, h⟩ | ⟨c2, h⟩
  · refine z_icmp_ge_f (tgt := 49) C x_Mo_force_9 rfl c2 ?_
    refine z_aload_n C 0 x_Mo_force_12 rfl ?_
    refine z_getR (j := 59) C x_Mo_force_13 nk_111 ck_111 cw_12 (i_lt rfl) rfl rf_111_59 rfl fl_Mo_124 ?_
    refine z_iload_n C 3 x_Mo_force_16 rfl ?_
    obtain ⟨c3, h⟩ := chk_e h
    obtain ⟨v4, ev4, h⟩ := blet_e h
    refine z_iald C x_Mo_force_17 nk_147 ck_147 c3 ev4 ?_
    refine z_iload_n C 1 x_Mo_force_18 rfl ?_
    rcases ite_e h with ⟨c5, h⟩ | ⟨c5, h⟩
    · refine z_icmp_gt_t (tgt := 43) C x_Mo_force_19 rfl c5 ?_
      exact z_sub [0, 1, 2, 3] rfl (z_Mo_force_43 C hlev hR4 h)
    · refine z_icmp_gt_f (tgt := 43) C x_Mo_force_19 rfl c5 ?_
      refine z_iload_n C 2 x_Mo_force_22 rfl ?_
      rcases ite_e h with ⟨c6, h⟩ | ⟨c6, h⟩
      · refine z_if_lt_t (tgt := 41) C x_Mo_force_23 rfl c6 ?_
        exact z_sub [0, 1, 3] rfl (z_Mo_force_41 C hlev hR4 h)
      · refine z_if_lt_f (tgt := 41) C x_Mo_force_23 rfl c6 ?_
        refine z_aload_n C 0 x_Mo_force_26 rfl ?_
        refine z_getR (j := 59) C x_Mo_force_27 nk_111 ck_111 cw_12 (i_lt rfl) rfl rf_111_59 rfl fl_Mo_124 ?_
        refine z_iload_n C 3 x_Mo_force_30 rfl ?_
        obtain ⟨c7, h⟩ := chk_e h
        obtain ⟨v8, ev8, h⟩ := blet_e h
        refine z_iald C x_Mo_force_31 nk_147 ck_147 c7 ev8 ?_
        refine z_aload_n C 0 x_Mo_force_32 rfl ?_
        refine z_getR (j := 59) C x_Mo_force_33 nk_111 ck_111 cw_12 (i_lt rfl) rfl rf_111_59 rfl fl_Mo_124 ?_
        refine z_iload_n C 2 x_Mo_force_36 rfl ?_
        obtain ⟨c9, h⟩ := chk_e h
        obtain ⟨v10, ev10, h⟩ := blet_e h
        refine z_iald C x_Mo_force_37 nk_147 ck_147 c9 ev10 ?_
        rcases ite_e h with ⟨c11, h⟩ | ⟨c11, h⟩
        · refine z_icmp_lt_t (tgt := 43) C x_Mo_force_38 rfl c11 ?_
          exact z_sub [0, 1, 2, 3] rfl (z_Mo_force_43 C hlev hR4 h)
        · refine z_icmp_lt_f (tgt := 43) C x_Mo_force_38 rfl c11 ?_
          exact z_sub [0, 1, 3] rfl (z_Mo_force_41 C hlev hR4 h)
  · refine z_icmp_ge_t (tgt := 49) C x_Mo_force_9 rfl c2 ?_
    refine z_iload_n C 2 x_Mo_force_49 rfl ?_
    exact z_iret C x_Mo_force_50 h
theorem zl_Mo_force_4 (C : Cx p s m args meth c G b_Mo_force 4 "PrairiePoolModel" (some .int)) (hlev : 0 ≤ lev) {r : Int × Mem}  : ∀ (n : Nat) (a1 a2 a3 : Int) (M : Mem), fix (fun _ _ _ _ => none) (k_Mo_force_4) n a1 a2 a3 M = some r → Z p l e lev s m args below meth c G 4 (MQ below (Qm G 1 r) args s 0 0 (Ab G)) M 4 [(0, .ref (G.1 + 111)), (1, vi a1), (2, vi a2), (3, vi a3)] [] := by
  intro n
  induction n with
  | zero => intro a1 a2 a3 M h; exact nomatch (show (none : Res) = some r from h)
  | succ n ih => intro a1 a2 a3 M h; exact z_Mo_force_4 C hlev ih h
def d_Mo_force (a1 : Int) (M : Mem) : Res := fix (fun _ _ _ _ => none) (k_Mo_force_4) FU a1 (-1) 0 M
theorem t_Mo_force (l : Launch) (G : GX) {lev : Nat} (hlev : 0 ≤ lev) {a1 : Int} {M : Mem} {r : Int × Mem} (h : d_Mo_force a1 M = some r) : Mt l G y_Mo_force b_Mo_force 4 (some .int) lev 1 [.ref (G.1 + 111), vi a1] M r := by
  refine Mt.of (by decide) (i_le rfl) ?_
  intro p e s m args below meth c C
  have C : Cx p s m args meth c G b_Mo_force 4 "PrairiePoolModel" (some .int) := C
  unfold d_Mo_force at h
  refine z_sub (lv' := [(0, .ref (G.1 + 111)), (1, vi a1)]) [0, 1] rfl ?_
  refine z_iconst C x_Mo_force_0 ?_
  refine z_istore_n (lv' := [(2, vi (-1)), (0, .ref (G.1 + 111)), (1, vi a1)]) C rfl x_Mo_force_1 (i_lt rfl) rfl ?_
  refine z_iconst C x_Mo_force_2 ?_
  refine z_istore_n (lv' := [(3, vi 0), (2, vi (-1)), (0, .ref (G.1 + 111)), (1, vi a1)]) C rfl x_Mo_force_3 (i_lt rfl) rfl ?_
  exact z_sub [2, 3, 1, 0] rfl (zl_Mo_force_4 C hlev FU a1 (-1) 0 M h)
theorem x_Mo_push_0 : DC b_Mo_push 0 (.aload_n 0) 1 1 := ⟨by decide +kernel, rfl⟩
theorem x_Mo_push_1 : DC b_Mo_push 1 (.getfield 148) 3 4 := ⟨by decide +kernel, rfl⟩
theorem x_Mo_push_4 : DC b_Mo_push 4 (.aload_n 0) 1 5 := ⟨by decide +kernel, rfl⟩
theorem x_Mo_push_5 : DC b_Mo_push 5 (.getfield 578) 3 8 := ⟨by decide +kernel, rfl⟩
theorem x_Mo_push_8 : DC b_Mo_push 8 (.lload_n 1) 1 9 := ⟨by decide +kernel, rfl⟩
theorem x_Mo_push_9 : DC b_Mo_push 9 (.lastore) 1 10 := ⟨by decide +kernel, rfl⟩
theorem x_Mo_push_10 : DC b_Mo_push 10 (.aload_n 0) 1 11 := ⟨by decide +kernel, rfl⟩
theorem x_Mo_push_11 : DC b_Mo_push 11 (.getfield 157) 3 14 := ⟨by decide +kernel, rfl⟩
theorem x_Mo_push_14 : DC b_Mo_push 14 (.aload_n 0) 1 15 := ⟨by decide +kernel, rfl⟩
theorem x_Mo_push_15 : DC b_Mo_push 15 (.getfield 578) 3 18 := ⟨by decide +kernel, rfl⟩
theorem x_Mo_push_18 : DC b_Mo_push 18 (.iload_n 3) 1 19 := ⟨by decide +kernel, rfl⟩
theorem x_Mo_push_19 : DC b_Mo_push 19 (.bastore) 1 20 := ⟨by decide +kernel, rfl⟩
theorem x_Mo_push_20 : DC b_Mo_push 20 (.aload_n 0) 1 21 := ⟨by decide +kernel, rfl⟩
theorem x_Mo_push_21 : DC b_Mo_push 21 (.dup) 1 22 := ⟨by decide +kernel, rfl⟩
theorem x_Mo_push_22 : DC b_Mo_push 22 (.getfield 578) 3 25 := ⟨by decide +kernel, rfl⟩
theorem x_Mo_push_25 : DC b_Mo_push 25 (.iconst 1) 1 26 := ⟨by decide +kernel, rfl⟩
theorem x_Mo_push_26 : DC b_Mo_push 26 (.iadd) 1 27 := ⟨by decide +kernel, rfl⟩
theorem x_Mo_push_27 : DC b_Mo_push 27 (.putfield 578) 3 30 := ⟨by decide +kernel, rfl⟩
theorem x_Mo_push_30 : DC b_Mo_push 30 (.return_) 1 31 := ⟨by decide +kernel, rfl⟩
def d_Mo_push (a1 a3 : Int) (M : Mem) : Res := blet (M 111 72) fun v1 => chk (0 ≤ w32 v1 ∧ w32 v1 < 600) <| blet (sto M 155 (ix v1) a1) fun M3 => blet (M3 111 72) fun v4 => chk (0 ≤ w32 v4 ∧ w32 v4 < 600) <| blet (sto M3 158 (ix v4) a3) fun M6 => blet (M6 111 72) fun v7 => blet (sto M6 111 72 (v7 + 1)) fun M8 => some (0, M8)
theorem t_Mo_push (l : Launch) (G : GX) {lev : Nat} (hlev : 0 ≤ lev) {a1 a3 : Int} {M : Mem} {r : Int × Mem} (h : d_Mo_push a1 a3 M = some r) : Mt l G y_Mo_push b_Mo_push 4 none lev 0 [.ref (G.1 + 111), vl a1, vi a3] M r := by
  refine Mt.of (by decide) (i_le rfl) ?_
  intro p e s m args below meth c C
  have C : Cx p s m args meth c G b_Mo_push 4 "PrairiePoolModel" none := C
  unfold d_Mo_push at h
  refine z_sub (lv' := [(0, .ref (G.1 + 111)), (1, vl a1), (3, vi a3)]) [0, 1, 2] rfl ?_
  refine z_aload_n C 0 x_Mo_push_0 rfl ?_
  refine z_getR (j := 67) C x_Mo_push_1 nk_111 ck_111 cw_12 (i_lt rfl) rfl rf_111_67 rfl fl_Mo_148 ?_
  refine z_aload_n C 0 x_Mo_push_4 rfl ?_
  obtain ⟨v1, ev1, h⟩ := blet_e h
  refine z_getI (j := 72) C x_Mo_push_5 nk_111 ck_111 cw_12 (i_lt rfl) rfl rfl fl_Mo_578 ev1 ?_
  refine z_lload_n C 1 x_Mo_push_8 rfl ?_
  obtain ⟨c2, h⟩ := chk_e h
  obtain ⟨M3, eM3, h⟩ := blet_e h
  refine z_last C x_Mo_push_9 nk_155 ck_155 c2 eM3 ?_
  refine z_aload_n C 0 x_Mo_push_10 rfl ?_
  refine z_getR (j := 70) C x_Mo_push_11 nk_111 ck_111 cw_12 (i_lt rfl) rfl rf_111_70 rfl fl_Mo_157 ?_
  refine z_aload_n C 0 x_Mo_push_14 rfl ?_
  obtain ⟨v4, ev4, h⟩ := blet_e h
  refine z_getI (j := 72) C x_Mo_push_15 nk_111 ck_111 cw_12 (i_lt rfl) rfl rfl fl_Mo_578 ev4 ?_
  refine z_iload_n C 2 x_Mo_push_18 rfl ?_
  obtain ⟨c5, h⟩ := chk_e h
  obtain ⟨M6, eM6, h⟩ := blet_e h
  refine z_zast C x_Mo_push_19 nk_158 ck_158 c5 eM6 ?_
  refine z_aload_n C 0 x_Mo_push_20 rfl ?_
  refine z_dup C x_Mo_push_21 rfl ?_
  obtain ⟨v7, ev7, h⟩ := blet_e h
  refine z_getI (j := 72) C x_Mo_push_22 nk_111 ck_111 cw_12 (i_lt rfl) rfl rfl fl_Mo_578 ev7 ?_
  refine z_iconst C x_Mo_push_25 ?_
  refine z_iadd C x_Mo_push_26 ?_
  obtain ⟨M8, eM8, h⟩ := blet_e h
  refine z_putI (j := 72) C x_Mo_push_27 nk_111 ck_111 cw_12 (i_lt rfl) rfl rfl rfl rfl fl_Mo_578 eM8 ?_
  exact z_vret C x_Mo_push_30 h
theorem x_Mo_both_0 : DC b_Mo_both 0 (.aload_n 0) 1 1 := ⟨by decide +kernel, rfl⟩
theorem x_Mo_both_1 : DC b_Mo_both 1 (.dup) 1 2 := ⟨by decide +kernel, rfl⟩
theorem x_Mo_both_2 : DC b_Mo_both 2 (.getfield 578) 3 5 := ⟨by decide +kernel, rfl⟩
theorem x_Mo_both_5 : DC b_Mo_both 5 (.iconst 2) 1 6 := ⟨by decide +kernel, rfl⟩
theorem x_Mo_both_6 : DC b_Mo_both 6 (.isub) 1 7 := ⟨by decide +kernel, rfl⟩
theorem x_Mo_both_7 : DC b_Mo_both 7 (.putfield 578) 3 10 := ⟨by decide +kernel, rfl⟩
theorem x_Mo_both_10 : DC b_Mo_both 10 (.aload_n 0) 1 11 := ⟨by decide +kernel, rfl⟩
theorem x_Mo_both_11 : DC b_Mo_both 11 (.getfield 148) 3 14 := ⟨by decide +kernel, rfl⟩
theorem x_Mo_both_14 : DC b_Mo_both 14 (.aload_n 0) 1 15 := ⟨by decide +kernel, rfl⟩
theorem x_Mo_both_15 : DC b_Mo_both 15 (.getfield 578) 3 18 := ⟨by decide +kernel, rfl⟩
theorem x_Mo_both_18 : DC b_Mo_both 18 (.laload) 1 19 := ⟨by decide +kernel, rfl⟩
theorem x_Mo_both_19 : DC b_Mo_both 19 (.lstore_n 3) 1 20 := ⟨by decide +kernel, rfl⟩
theorem x_Mo_both_20 : DC b_Mo_both 20 (.aload_n 0) 1 21 := ⟨by decide +kernel, rfl⟩
theorem x_Mo_both_21 : DC b_Mo_both 21 (.getfield 148) 3 24 := ⟨by decide +kernel, rfl⟩
theorem x_Mo_both_24 : DC b_Mo_both 24 (.aload_n 0) 1 25 := ⟨by decide +kernel, rfl⟩
theorem x_Mo_both_25 : DC b_Mo_both 25 (.getfield 578) 3 28 := ⟨by decide +kernel, rfl⟩
theorem x_Mo_both_28 : DC b_Mo_both 28 (.iconst 1) 1 29 := ⟨by decide +kernel, rfl⟩
theorem x_Mo_both_29 : DC b_Mo_both 29 (.iadd) 1 30 := ⟨by decide +kernel, rfl⟩
theorem x_Mo_both_30 : DC b_Mo_both 30 (.laload) 1 31 := ⟨by decide +kernel, rfl⟩
theorem x_Mo_both_31 : DC b_Mo_both 31 (.lstore 5) 2 33 := ⟨by decide +kernel, rfl⟩
theorem x_Mo_both_33 : DC b_Mo_both 33 (.aload_n 0) 1 34 := ⟨by decide +kernel, rfl⟩
theorem x_Mo_both_34 : DC b_Mo_both 34 (.getfield 157) 3 37 := ⟨by decide +kernel, rfl⟩
theorem x_Mo_both_37 : DC b_Mo_both 37 (.aload_n 0) 1 38 := ⟨by decide +kernel, rfl⟩
theorem x_Mo_both_38 : DC b_Mo_both 38 (.getfield 578) 3 41 := ⟨by decide +kernel, rfl⟩
theorem x_Mo_both_41 : DC b_Mo_both 41 (.baload) 1 42 := ⟨by decide +kernel, rfl⟩
theorem x_Mo_both_42 : DC b_Mo_both 42 (.ifCond .ne 17) 3 45 := ⟨by decide +kernel, rfl⟩
theorem x_Mo_both_45 : DC b_Mo_both 45 (.aload_n 0) 1 46 := ⟨by decide +kernel, rfl⟩
theorem x_Mo_both_46 : DC b_Mo_both 46 (.getfield 157) 3 49 := ⟨by decide +kernel, rfl⟩
theorem x_Mo_both_49 : DC b_Mo_both 49 (.aload_n 0) 1 50 := ⟨by decide +kernel, rfl⟩
theorem x_Mo_both_50 : DC b_Mo_both 50 (.getfield 578) 3 53 := ⟨by decide +kernel, rfl⟩
theorem x_Mo_both_53 : DC b_Mo_both 53 (.iconst 1) 1 54 := ⟨by decide +kernel, rfl⟩
theorem x_Mo_both_54 : DC b_Mo_both 54 (.iadd) 1 55 := ⟨by decide +kernel, rfl⟩
theorem x_Mo_both_55 : DC b_Mo_both 55 (.baload) 1 56 := ⟨by decide +kernel, rfl⟩
theorem x_Mo_both_56 : DC b_Mo_both 56 (.ifCond .eq 7) 3 59 := ⟨by decide +kernel, rfl⟩
theorem x_Mo_both_59 : DC b_Mo_both 59 (.iconst 1) 1 60 := ⟨by decide +kernel, rfl⟩
theorem x_Mo_both_60 : DC b_Mo_both 60 (.goto 4) 3 63 := ⟨by decide +kernel, rfl⟩
theorem x_Mo_both_63 : DC b_Mo_both 63 (.iconst 0) 1 64 := ⟨by decide +kernel, rfl⟩
theorem x_Mo_both_64 : DC b_Mo_both 64 (.istore 7) 2 66 := ⟨by decide +kernel, rfl⟩
theorem x_Mo_both_66 : DC b_Mo_both 66 (.iload_n 1) 1 67 := ⟨by decide +kernel, rfl⟩
theorem x_Mo_both_67 : DC b_Mo_both 67 (.bipush 13) 2 69 := ⟨by decide +kernel, rfl⟩
theorem x_Mo_both_69 : DC b_Mo_both 69 (.if_icmp .eq 9) 3 72 := ⟨by decide +kernel, rfl⟩
theorem x_Mo_both_72 : DC b_Mo_both 72 (.iload_n 1) 1 73 := ⟨by decide +kernel, rfl⟩
theorem x_Mo_both_73 : DC b_Mo_both 73 (.bipush 14) 2 75 := ⟨by decide +kernel, rfl⟩
theorem x_Mo_both_75 : DC b_Mo_both 75 (.if_icmp .ne 26) 3 78 := ⟨by decide +kernel, rfl⟩
theorem x_Mo_both_78 : DC b_Mo_both 78 (.aload_n 0) 1 79 := ⟨by decide +kernel, rfl⟩
theorem x_Mo_both_79 : DC b_Mo_both 79 (.iload_n 1) 1 80 := ⟨by decide +kernel, rfl⟩
theorem x_Mo_both_80 : DC b_Mo_both 80 (.bipush 13) 2 82 := ⟨by decide +kernel, rfl⟩
theorem x_Mo_both_82 : DC b_Mo_both 82 (.if_icmp .ne 10) 3 85 := ⟨by decide +kernel, rfl⟩
theorem x_Mo_both_85 : DC b_Mo_both 85 (.lload_n 3) 1 86 := ⟨by decide +kernel, rfl⟩
theorem x_Mo_both_86 : DC b_Mo_both 86 (.lload 5) 2 88 := ⟨by decide +kernel, rfl⟩
theorem x_Mo_both_88 : DC b_Mo_both 88 (.land) 1 89 := ⟨by decide +kernel, rfl⟩
theorem x_Mo_both_89 : DC b_Mo_both 89 (.goto 7) 3 92 := ⟨by decide +kernel, rfl⟩
theorem x_Mo_both_92 : DC b_Mo_both 92 (.lload_n 3) 1 93 := ⟨by decide +kernel, rfl⟩
theorem x_Mo_both_93 : DC b_Mo_both 93 (.lload 5) 2 95 := ⟨by decide +kernel, rfl⟩
theorem x_Mo_both_95 : DC b_Mo_both 95 (.lor) 1 96 := ⟨by decide +kernel, rfl⟩
theorem x_Mo_both_96 : DC b_Mo_both 96 (.iconst 0) 1 97 := ⟨by decide +kernel, rfl⟩
theorem x_Mo_both_97 : DC b_Mo_both 97 (.invokevirtual 584) 3 100 := ⟨by decide +kernel, rfl⟩
theorem x_Mo_both_100 : DC b_Mo_both 100 (.return_) 1 101 := ⟨by decide +kernel, rfl⟩
theorem x_Mo_both_101 : DC b_Mo_both 101 (.iload_n 1) 1 102 := ⟨by decide +kernel, rfl⟩
theorem x_Mo_both_102 : DC b_Mo_both 102 (.bipush 10) 2 104 := ⟨by decide +kernel, rfl⟩
theorem x_Mo_both_104 : DC b_Mo_both 104 (.if_icmp .lt 90) 3 107 := ⟨by decide +kernel, rfl⟩
theorem x_Mo_both_107 : DC b_Mo_both 107 (.iload_n 1) 1 108 := ⟨by decide +kernel, rfl⟩
theorem x_Mo_both_108 : DC b_Mo_both 108 (.bipush 10) 2 110 := ⟨by decide +kernel, rfl⟩
theorem x_Mo_both_110 : DC b_Mo_both 110 (.if_icmp .ne 18) 3 113 := ⟨by decide +kernel, rfl⟩
theorem x_Mo_both_113 : DC b_Mo_both 113 (.lload_n 3) 1 114 := ⟨by decide +kernel, rfl⟩
theorem x_Mo_both_114 : DC b_Mo_both 114 (.lload 5) 2 116 := ⟨by decide +kernel, rfl⟩
theorem x_Mo_both_116 : DC b_Mo_both 116 (.lcmp) 1 117 := ⟨by decide +kernel, rfl⟩
theorem x_Mo_both_117 : DC b_Mo_both 117 (.ifCond .ge 7) 3 120 := ⟨by decide +kernel, rfl⟩
theorem x_Mo_both_120 : DC b_Mo_both 120 (.iconst 1) 1 121 := ⟨by decide +kernel, rfl⟩
theorem x_Mo_both_121 : DC b_Mo_both 121 (.goto 40) 3 124 := ⟨by decide +kernel, rfl⟩
theorem x_Mo_both_124 : DC b_Mo_both 124 (.iconst 0) 1 125 := ⟨by decide +kernel, rfl⟩
theorem x_Mo_both_125 : DC b_Mo_both 125 (.goto 36) 3 128 := ⟨by decide +kernel, rfl⟩
theorem x_Mo_both_128 : DC b_Mo_both 128 (.iload_n 1) 1 129 := ⟨by decide +kernel, rfl⟩
theorem x_Mo_both_129 : DC b_Mo_both 129 (.bipush 11) 2 131 := ⟨by decide +kernel, rfl⟩
theorem x_Mo_both_131 : DC b_Mo_both 131 (.if_icmp .ne 18) 3 134 := ⟨by decide +kernel, rfl⟩
theorem x_Mo_both_134 : DC b_Mo_both 134 (.lload_n 3) 1 135 := ⟨by decide +kernel, rfl⟩
theorem x_Mo_both_135 : DC b_Mo_both 135 (.lload 5) 2 137 := ⟨by decide +kernel, rfl⟩
theorem x_Mo_both_137 : DC b_Mo_both 137 (.lcmp) 1 138 := ⟨by decide +kernel, rfl⟩
theorem x_Mo_both_138 : DC b_Mo_both 138 (.ifCond .le 7) 3 141 := ⟨by decide +kernel, rfl⟩
theorem x_Mo_both_141 : DC b_Mo_both 141 (.iconst 1) 1 142 := ⟨by decide +kernel, rfl⟩
theorem x_Mo_both_142 : DC b_Mo_both 142 (.goto 19) 3 145 := ⟨by decide +kernel, rfl⟩
theorem x_Mo_both_145 : DC b_Mo_both 145 (.iconst 0) 1 146 := ⟨by decide +kernel, rfl⟩
theorem x_Mo_both_146 : DC b_Mo_both 146 (.goto 15) 3 149 := ⟨by decide +kernel, rfl⟩
theorem x_Mo_both_149 : DC b_Mo_both 149 (.lload_n 3) 1 150 := ⟨by decide +kernel, rfl⟩
theorem x_Mo_both_150 : DC b_Mo_both 150 (.lload 5) 2 152 := ⟨by decide +kernel, rfl⟩
theorem x_Mo_both_152 : DC b_Mo_both 152 (.lcmp) 1 153 := ⟨by decide +kernel, rfl⟩
theorem x_Mo_both_153 : DC b_Mo_both 153 (.ifCond .ne 7) 3 156 := ⟨by decide +kernel, rfl⟩
theorem x_Mo_both_156 : DC b_Mo_both 156 (.iconst 1) 1 157 := ⟨by decide +kernel, rfl⟩
theorem x_Mo_both_157 : DC b_Mo_both 157 (.goto 4) 3 160 := ⟨by decide +kernel, rfl⟩
theorem x_Mo_both_160 : DC b_Mo_both 160 (.iconst 0) 1 161 := ⟨by decide +kernel, rfl⟩
theorem x_Mo_both_161 : DC b_Mo_both 161 (.istore 8) 2 163 := ⟨by decide +kernel, rfl⟩
theorem x_Mo_both_163 : DC b_Mo_both 163 (.aload_n 0) 1 164 := ⟨by decide +kernel, rfl⟩
theorem x_Mo_both_164 : DC b_Mo_both 164 (.iload 7) 2 166 := ⟨by decide +kernel, rfl⟩
theorem x_Mo_both_166 : DC b_Mo_both 166 (.ifCond .ne 22) 3 169 := ⟨by decide +kernel, rfl⟩
theorem x_Mo_both_169 : DC b_Mo_both 169 (.iload 8) 2 171 := ⟨by decide +kernel, rfl⟩
theorem x_Mo_both_171 : DC b_Mo_both 171 (.iload_n 2) 1 172 := ⟨by decide +kernel, rfl⟩
theorem x_Mo_both_172 : DC b_Mo_both 172 (.iconst 1) 1 173 := ⟨by decide +kernel, rfl⟩
theorem x_Mo_both_173 : DC b_Mo_both 173 (.if_icmp .ne 7) 3 176 := ⟨by decide +kernel, rfl⟩
theorem x_Mo_both_176 : DC b_Mo_both 176 (.iconst 1) 1 177 := ⟨by decide +kernel, rfl⟩
theorem x_Mo_both_177 : DC b_Mo_both 177 (.goto 4) 3 180 := ⟨by decide +kernel, rfl⟩
theorem x_Mo_both_180 : DC b_Mo_both 180 (.iconst 0) 1 181 := ⟨by decide +kernel, rfl⟩
theorem x_Mo_both_181 : DC b_Mo_both 181 (.if_icmp .eq 7) 3 184 := ⟨by decide +kernel, rfl⟩
theorem x_Mo_both_184 : DC b_Mo_both 184 (.lconst 1) 1 185 := ⟨by decide +kernel, rfl⟩
theorem x_Mo_both_185 : DC b_Mo_both 185 (.goto 4) 3 188 := ⟨by decide +kernel, rfl⟩
theorem x_Mo_both_188 : DC b_Mo_both 188 (.lconst 0) 1 189 := ⟨by decide +kernel, rfl⟩
theorem x_Mo_both_189 : DC b_Mo_both 189 (.iconst 0) 1 190 := ⟨by decide +kernel, rfl⟩
theorem x_Mo_both_190 : DC b_Mo_both 190 (.invokevirtual 584) 3 193 := ⟨by decide +kernel, rfl⟩
theorem x_Mo_both_193 : DC b_Mo_both 193 (.return_) 1 194 := ⟨by decide +kernel, rfl⟩
theorem x_Mo_both_194 : DC b_Mo_both 194 (.iload 7) 2 196 := ⟨by decide +kernel, rfl⟩
theorem x_Mo_both_196 : DC b_Mo_both 196 (.ifCond .ne 22) 3 199 := ⟨by decide +kernel, rfl⟩
theorem x_Mo_both_199 : DC b_Mo_both 199 (.iload_n 1) 1 200 := ⟨by decide +kernel, rfl⟩
theorem x_Mo_both_200 : DC b_Mo_both 200 (.bipush 6) 2 202 := ⟨by decide +kernel, rfl⟩
theorem x_Mo_both_202 : DC b_Mo_both 202 (.if_icmp .eq 9) 3 205 := ⟨by decide +kernel, rfl⟩
theorem x_Mo_both_205 : DC b_Mo_both 205 (.iload_n 1) 1 206 := ⟨by decide +kernel, rfl⟩
theorem x_Mo_both_206 : DC b_Mo_both 206 (.bipush 7) 2 208 := ⟨by decide +kernel, rfl⟩
theorem x_Mo_both_208 : DC b_Mo_both 208 (.if_icmp .ne 14) 3 211 := ⟨by decide +kernel, rfl⟩
theorem x_Mo_both_211 : DC b_Mo_both 211 (.lload 5) 2 213 := ⟨by decide +kernel, rfl⟩
theorem x_Mo_both_213 : DC b_Mo_both 213 (.lconst 0) 1 214 := ⟨by decide +kernel, rfl⟩
theorem x_Mo_both_214 : DC b_Mo_both 214 (.lcmp) 1 215 := ⟨by decide +kernel, rfl⟩
theorem x_Mo_both_215 : DC b_Mo_both 215 (.ifCond .ne 7) 3 218 := ⟨by decide +kernel, rfl⟩
theorem x_Mo_both_218 : DC b_Mo_both 218 (.iconst 1) 1 219 := ⟨by decide +kernel, rfl⟩
theorem x_Mo_both_219 : DC b_Mo_both 219 (.goto 4) 3 222 := ⟨by decide +kernel, rfl⟩
theorem x_Mo_both_222 : DC b_Mo_both 222 (.iconst 0) 1 223 := ⟨by decide +kernel, rfl⟩
theorem x_Mo_both_223 : DC b_Mo_both 223 (.istore 8) 2 225 := ⟨by decide +kernel, rfl⟩
theorem x_Mo_both_225 : DC b_Mo_both 225 (.aload_n 0) 1 226 := ⟨by decide +kernel, rfl⟩
theorem x_Mo_both_226 : DC b_Mo_both 226 (.iload 8) 2 228 := ⟨by decide +kernel, rfl⟩
theorem x_Mo_both_228 : DC b_Mo_both 228 (.ifCond .eq 7) 3 231 := ⟨by decide +kernel, rfl⟩
theorem x_Mo_both_231 : DC b_Mo_both 231 (.lconst 0) 1 232 := ⟨by decide +kernel, rfl⟩
theorem x_Mo_both_232 : DC b_Mo_both 232 (.goto 86) 3 235 := ⟨by decide +kernel, rfl⟩
theorem x_Mo_both_235 : DC b_Mo_both 235 (.iload_n 1) 1 236 := ⟨by decide +kernel, rfl⟩
theorem x_Mo_both_236 : DC b_Mo_both 236 (.iconst 3) 1 237 := ⟨by decide +kernel, rfl⟩
theorem x_Mo_both_237 : DC b_Mo_both 237 (.if_icmp .ne 10) 3 240 := ⟨by decide +kernel, rfl⟩
theorem x_Mo_both_240 : DC b_Mo_both 240 (.lload_n 3) 1 241 := ⟨by decide +kernel, rfl⟩
theorem x_Mo_both_241 : DC b_Mo_both 241 (.lload 5) 2 243 := ⟨by decide +kernel, rfl⟩
theorem x_Mo_both_243 : DC b_Mo_both 243 (.ladd) 1 244 := ⟨by decide +kernel, rfl⟩
theorem x_Mo_both_244 : DC b_Mo_both 244 (.goto 74) 3 247 := ⟨by decide +kernel, rfl⟩
theorem x_Mo_both_247 : DC b_Mo_both 247 (.iload_n 1) 1 248 := ⟨by decide +kernel, rfl⟩
theorem x_Mo_both_248 : DC b_Mo_both 248 (.iconst 4) 1 249 := ⟨by decide +kernel, rfl⟩
theorem x_Mo_both_249 : DC b_Mo_both 249 (.if_icmp .ne 10) 3 252 := ⟨by decide +kernel, rfl⟩
theorem x_Mo_both_252 : DC b_Mo_both 252 (.lload_n 3) 1 253 := ⟨by decide +kernel, rfl⟩
theorem x_Mo_both_253 : DC b_Mo_both 253 (.lload 5) 2 255 := ⟨by decide +kernel, rfl⟩
theorem x_Mo_both_255 : DC b_Mo_both 255 (.lsub) 1 256 := ⟨by decide +kernel, rfl⟩
theorem x_Mo_both_256 : DC b_Mo_both 256 (.goto 62) 3 259 := ⟨by decide +kernel, rfl⟩
theorem x_Mo_both_259 : DC b_Mo_both 259 (.iload_n 1) 1 260 := ⟨by decide +kernel, rfl⟩
theorem x_Mo_both_260 : DC b_Mo_both 260 (.iconst 5) 1 261 := ⟨by decide +kernel, rfl⟩
theorem x_Mo_both_261 : DC b_Mo_both 261 (.if_icmp .ne 10) 3 264 := ⟨by decide +kernel, rfl⟩
theorem x_Mo_both_264 : DC b_Mo_both 264 (.lload_n 3) 1 265 := ⟨by decide +kernel, rfl⟩
theorem x_Mo_both_265 : DC b_Mo_both 265 (.lload 5) 2 267 := ⟨by decide +kernel, rfl⟩
theorem x_Mo_both_267 : DC b_Mo_both 267 (.lmul) 1 268 := ⟨by decide +kernel, rfl⟩
theorem x_Mo_both_268 : DC b_Mo_both 268 (.goto 50) 3 271 := ⟨by decide +kernel, rfl⟩
theorem x_Mo_both_271 : DC b_Mo_both 271 (.iload_n 1) 1 272 := ⟨by decide +kernel, rfl⟩
theorem x_Mo_both_272 : DC b_Mo_both 272 (.bipush 6) 2 274 := ⟨by decide +kernel, rfl⟩
theorem x_Mo_both_274 : DC b_Mo_both 274 (.if_icmp .ne 10) 3 277 := ⟨by decide +kernel, rfl⟩
theorem x_Mo_both_277 : DC b_Mo_both 277 (.lload_n 3) 1 278 := ⟨by decide +kernel, rfl⟩
theorem x_Mo_both_278 : DC b_Mo_both 278 (.lload 5) 2 280 := ⟨by decide +kernel, rfl⟩
theorem x_Mo_both_280 : DC b_Mo_both 280 (.ldiv) 1 281 := ⟨by decide +kernel, rfl⟩
theorem x_Mo_both_281 : DC b_Mo_both 281 (.goto 37) 3 284 := ⟨by decide +kernel, rfl⟩
theorem x_Mo_both_284 : DC b_Mo_both 284 (.iload_n 1) 1 285 := ⟨by decide +kernel, rfl⟩
theorem x_Mo_both_285 : DC b_Mo_both 285 (.bipush 7) 2 287 := ⟨by decide +kernel, rfl⟩
theorem x_Mo_both_287 : DC b_Mo_both 287 (.if_icmp .ne 10) 3 290 := ⟨by decide +kernel, rfl⟩
theorem x_Mo_both_290 : DC b_Mo_both 290 (.lload_n 3) 1 291 := ⟨by decide +kernel, rfl⟩
theorem x_Mo_both_291 : DC b_Mo_both 291 (.lload 5) 2 293 := ⟨by decide +kernel, rfl⟩
theorem x_Mo_both_293 : DC b_Mo_both 293 (.lrem) 1 294 := ⟨by decide +kernel, rfl⟩
theorem x_Mo_both_294 : DC b_Mo_both 294 (.goto 24) 3 297 := ⟨by decide +kernel, rfl⟩
theorem x_Mo_both_297 : DC b_Mo_both 297 (.iload_n 1) 1 298 := ⟨by decide +kernel, rfl⟩
theorem x_Mo_both_298 : DC b_Mo_both 298 (.bipush 8) 2 300 := ⟨by decide +kernel, rfl⟩
theorem x_Mo_both_300 : DC b_Mo_both 300 (.if_icmp .ne 12) 3 303 := ⟨by decide +kernel, rfl⟩
theorem x_Mo_both_303 : DC b_Mo_both 303 (.lload_n 3) 1 304 := ⟨by decide +kernel, rfl⟩
theorem x_Mo_both_304 : DC b_Mo_both 304 (.lload 5) 2 306 := ⟨by decide +kernel, rfl⟩
theorem x_Mo_both_306 : DC b_Mo_both 306 (.invokestatic 591) 3 309 := ⟨by decide +kernel, rfl⟩
theorem x_Mo_both_309 : DC b_Mo_both 309 (.goto 9) 3 312 := ⟨by decide +kernel, rfl⟩
theorem x_Mo_both_312 : DC b_Mo_both 312 (.lload_n 3) 1 313 := ⟨by decide +kernel, rfl⟩
theorem x_Mo_both_313 : DC b_Mo_both 313 (.lload 5) 2 315 := ⟨by decide +kernel, rfl⟩
theorem x_Mo_both_315 : DC b_Mo_both 315 (.invokestatic 594) 3 318 := ⟨by decide +kernel, rfl⟩
theorem x_Mo_both_318 : DC b_Mo_both 318 (.iload 8) 2 320 := ⟨by decide +kernel, rfl⟩
theorem x_Mo_both_320 : DC b_Mo_both 320 (.invokevirtual 584) 3 323 := ⟨by decide +kernel, rfl⟩
theorem x_Mo_both_323 : DC b_Mo_both 323 (.return_) 1 324 := ⟨by decide +kernel, rfl⟩
def k_Mo_both_318 (a8 s1 : Int) (M : Mem) : Res := bcall (d_Mo_push s1 a8 M) fun v1 M2 => some (0, M2)
theorem z_Mo_both_318 (C : Cx p s m args meth c G b_Mo_both 9 "PrairiePoolModel" none) (hlev : 1 ≤ lev) {r : Int × Mem}  {a8 s1 : Int} {M : Mem} (h : k_Mo_both_318 a8 s1 M = some r) : Z p l e lev s m args below meth c G 9 (MQ below (Qm G 0 r) args s 0 0 (Ab G)) M 318 [(8, vi a8)] [vl s1, .ref (G.1 + 111)] := by
  unfold k_Mo_both_318 at h
  refine z_iload C 0 x_Mo_both_318 rfl ?_
  obtain ⟨v1, M2, fv1, h⟩ := bcall_e h
  refine z_callVv (k := 111) C x_Mo_both_320 cv_Mo_584 (t_Mo_push (lev := lev - 1) l G (by omega) fv1) nk_111 ck_111 rfl (by omega) rfl (i_le rfl) rfl ?_
  exact z_vret C x_Mo_both_323 h
def k_Mo_both_223 (a1 a3 a5 s0 : Int) (M : Mem) : Res := if w32 s0 = 0 then (if w32 a1 = 3 then (k_Mo_both_318 s0 (a3 + a5) M) else (if w32 a1 = 4 then (k_Mo_both_318 s0 (a3 - a5) M) else (if w32 a1 = 5 then (k_Mo_both_318 s0 (a3 * a5) M) else (if w32 a1 = 6 then (chk (¬ w64 a5 = 0) <| k_Mo_both_318 s0 (dv64 a3 a5) M) else (if w32 a1 = 7 then (chk (¬ w64 a5 = 0) <| k_Mo_both_318 s0 (rm64 a3 a5) M) else (if w32 a1 = 8 then (k_Mo_both_318 s0 (mn64 a3 a5) M) else (k_Mo_both_318 s0 (mx64 a3 a5) M))))))) else (k_Mo_both_318 s0 0 M)
theorem z_Mo_both_223 (C : Cx p s m args meth c G b_Mo_both 9 "PrairiePoolModel" none) (hlev : 1 ≤ lev) {r : Int × Mem}  {a1 a3 a5 s0 : Int} {M : Mem} (h : k_Mo_both_223 a1 a3 a5 s0 M = some r) : Z p l e lev s m args below meth c G 9 (MQ below (Qm G 0 r) args s 0 0 (Ab G)) M 223 [(0, .ref (G.1 + 111)), (1, vi a1), (3, vl a3), (5, vl a5)] [vi s0] := by
  unfold k_Mo_both_223 at h
  refine z_istore (lv' := [(8, vi s0), (0, .ref (G.1 + 111)), (1, vi a1), (3, vl a3), (5, vl a5)]) C rfl x_Mo_both_223 (i_lt rfl) rfl ?_
  refine z_aload_n C 1 x_Mo_both_225 rfl ?_
  refine z_iload C 0 x_Mo_both_226 rfl ?_
  rcases ite_e h with ⟨c1, h⟩ | ⟨c1, h⟩
  · refine z_if_eq_t (tgt := 235) C x_Mo_both_228 rfl c1 ?_
    refine z_iload_n C 2 x_Mo_both_235 rfl ?_
    refine z_iconst C x_Mo_both_236 ?_
    rcases ite_e h with ⟨c2, h⟩ | ⟨c2, h⟩
    · refine z_icmp_ne_f (tgt := 247) C x_Mo_both_237 rfl c2 ?_
      refine z_lload_n C 3 x_Mo_both_240 rfl ?_
      refine z_lload C 4 x_Mo_both_241 rfl ?_
      refine z_ladd C x_Mo_both_243 ?_
      refine z_goto (tgt := 318) C x_Mo_both_244 rfl ?_
      exact z_sub [0] rfl (z_Mo_both_318 C hlev h)
    · refine z_icmp_ne_t (tgt := 247) C x_Mo_both_237 rfl c2 ?_
      refine z_iload_n C 2 x_Mo_both_247 rfl ?_
      refine z_iconst C x_Mo_both_248 ?_
      rcases ite_e h with ⟨c3, h⟩ | ⟨c3, h⟩
      · refine z_icmp_ne_f (tgt := 259) C x_Mo_both_249 rfl c3 ?_
        refine z_lload_n C 3 x_Mo_both_252 rfl ?_
        refine z_lload C 4 x_Mo_both_253 rfl ?_
        refine z_lsub C x_Mo_both_255 ?_
        refine z_goto (tgt := 318) C x_Mo_both_256 rfl ?_
        exact z_sub [0] rfl (z_Mo_both_318 C hlev h)
      · refine z_icmp_ne_t (tgt := 259) C x_Mo_both_249 rfl c3 ?_
        refine z_iload_n C 2 x_Mo_both_259 rfl ?_
        refine z_iconst C x_Mo_both_260 ?_
        rcases ite_e h with ⟨c4, h⟩ | ⟨c4, h⟩
        · refine z_icmp_ne_f (tgt := 271) C x_Mo_both_261 rfl c4 ?_
          refine z_lload_n C 3 x_Mo_both_264 rfl ?_
          refine z_lload C 4 x_Mo_both_265 rfl ?_
          refine z_lmul C x_Mo_both_267 ?_
          refine z_goto (tgt := 318) C x_Mo_both_268 rfl ?_
          exact z_sub [0] rfl (z_Mo_both_318 C hlev h)
        · refine z_icmp_ne_t (tgt := 271) C x_Mo_both_261 rfl c4 ?_
          refine z_iload_n C 2 x_Mo_both_271 rfl ?_
          refine z_bipush C rfl x_Mo_both_272 ?_
          rcases ite_e h with ⟨c5, h⟩ | ⟨c5, h⟩
          · refine z_icmp_ne_f (tgt := 284) C x_Mo_both_274 rfl c5 ?_
            refine z_lload_n C 3 x_Mo_both_277 rfl ?_
            refine z_lload C 4 x_Mo_both_278 rfl ?_
            obtain ⟨c6, h⟩ := chk_e h
            refine z_ldiv C c6 x_Mo_both_280 ?_
            refine z_goto (tgt := 318) C x_Mo_both_281 rfl ?_
            exact z_sub [0] rfl (z_Mo_both_318 C hlev h)
          · refine z_icmp_ne_t (tgt := 284) C x_Mo_both_274 rfl c5 ?_
            refine z_iload_n C 2 x_Mo_both_284 rfl ?_
            refine z_bipush C rfl x_Mo_both_285 ?_
            rcases ite_e h with ⟨c7, h⟩ | ⟨c7, h⟩
            · refine z_icmp_ne_f (tgt := 297) C x_Mo_both_287 rfl c7 ?_
              refine z_lload_n C 3 x_Mo_both_290 rfl ?_
              refine z_lload C 4 x_Mo_both_291 rfl ?_
              obtain ⟨c8, h⟩ := chk_e h
              refine z_lrem C c8 x_Mo_both_293 ?_
              refine z_goto (tgt := 318) C x_Mo_both_294 rfl ?_
              exact z_sub [0] rfl (z_Mo_both_318 C hlev h)
            · refine z_icmp_ne_t (tgt := 297) C x_Mo_both_287 rfl c7 ?_
              refine z_iload_n C 2 x_Mo_both_297 rfl ?_
              refine z_bipush C rfl x_Mo_both_298 ?_
              rcases ite_e h with ⟨c9, h⟩ | ⟨c9, h⟩
              · refine z_icmp_ne_f (tgt := 312) C x_Mo_both_300 rfl c9 ?_
                refine z_lload_n C 3 x_Mo_both_303 rfl ?_
                refine z_lload C 4 x_Mo_both_304 rfl ?_
                refine z_mn64 C x_Mo_both_306 cs_Mo_591 (by omega) (i_le rfl) ?_
                refine z_goto (tgt := 318) C x_Mo_both_309 rfl ?_
                exact z_sub [0] rfl (z_Mo_both_318 C hlev h)
              · refine z_icmp_ne_t (tgt := 312) C x_Mo_both_300 rfl c9 ?_
                refine z_lload_n C 3 x_Mo_both_312 rfl ?_
                refine z_lload C 4 x_Mo_both_313 rfl ?_
                refine z_mx64 C x_Mo_both_315 cs_Mo_594 (by omega) (i_le rfl) ?_
                exact z_sub [0] rfl (z_Mo_both_318 C hlev h)
  · refine z_if_eq_f (tgt := 235) C x_Mo_both_228 rfl c1 ?_
    refine z_lconst0 C x_Mo_both_231 ?_
    refine z_goto (tgt := 318) C x_Mo_both_232 rfl ?_
    exact z_sub [0] rfl (z_Mo_both_318 C hlev h)
def k_Mo_both_222 (a1 a3 a5 : Int) (M : Mem) : Res := k_Mo_both_223 a1 a3 a5 0 M
theorem z_Mo_both_222 (C : Cx p s m args meth c G b_Mo_both 9 "PrairiePoolModel" none) (hlev : 1 ≤ lev) {r : Int × Mem}  {a1 a3 a5 : Int} {M : Mem} (h : k_Mo_both_222 a1 a3 a5 M = some r) : Z p l e lev s m args below meth c G 9 (MQ below (Qm G 0 r) args s 0 0 (Ab G)) M 222 [(0, .ref (G.1 + 111)), (1, vi a1), (3, vl a3), (5, vl a5)] [] := by
  unfold k_Mo_both_222 at h
  refine z_iconst C x_Mo_both_222 ?_
  exact z_sub [0, 1, 2, 3] rfl (z_Mo_both_223 C hlev h)
def k_Mo_both_218 (a1 a3 a5 : Int) (M : Mem) : Res := k_Mo_both_223 a1 a3 a5 1 M
theorem z_Mo_both_218 (C : Cx p s m args meth c G b_Mo_both 9 "PrairiePoolModel" none) (hlev : 1 ≤ lev) {r : Int × Mem}  {a1 a3 a5 : Int} {M : Mem} (h : k_Mo_both_218 a1 a3 a5 M = some r) : Z p l e lev s m args below meth c G 9 (MQ below (Qm G 0 r) args s 0 0 (Ab G)) M 218 [(0, .ref (G.1 + 111)), (1, vi a1), (3, vl a3), (5, vl a5)] [] := by
  unfold k_Mo_both_218 at h
  refine z_iconst C x_Mo_both_218 ?_
  refine z_goto (tgt := 223) C x_Mo_both_219 rfl ?_
  exact z_sub [0, 1, 2, 3] rfl (z_Mo_both_223 C hlev h)
def k_Mo_both_211 (a1 a3 a5 : Int) (M : Mem) : Res := if w64 a5 = 0 then (k_Mo_both_218 a1 a3 a5 M) else (k_Mo_both_222 a1 a3 a5 M)
theorem z_Mo_both_211 (C : Cx p s m args meth c G b_Mo_both 9 "PrairiePoolModel" none) (hlev : 1 ≤ lev) {r : Int × Mem}  {a1 a3 a5 : Int} {M : Mem} (h : k_Mo_both_211 a1 a3 a5 M = some r) : Z p l e lev s m args below meth c G 9 (MQ below (Qm G 0 r) args s 0 0 (Ab G)) M 211 [(0, .ref (G.1 + 111)), (1, vi a1), (3, vl a3), (5, vl a5)] [] := by
  unfold k_Mo_both_211 at h
  refine z_lload C 3 x_Mo_both_211 rfl ?_
  refine z_lconst0 C x_Mo_both_213 ?_
  refine z_lcmp C x_Mo_both_214 ?_
  rcases ite_e h with ⟨c1, h⟩ | ⟨c1, h⟩
  · refine z_if_ne_f (tgt := 222) C x_Mo_both_215 rfl (cm_eqz.mpr c1) ?_
    exact z_sub [0, 1, 2, 3] rfl (z_Mo_both_218 C hlev h)
  · refine z_if_ne_t (tgt := 222) C x_Mo_both_215 rfl (fun q => c1 (cm_eqz.mp q)) ?_
    exact z_sub [0, 1, 2, 3] rfl (z_Mo_both_222 C hlev h)
def k_Mo_both_189 (s1 : Int) (M : Mem) : Res := bcall (d_Mo_push s1 0 M) fun v1 M2 => some (0, M2)
theorem z_Mo_both_189 (C : Cx p s m args meth c G b_Mo_both 9 "PrairiePoolModel" none) (hlev : 1 ≤ lev) {r : Int × Mem}  {s1 : Int} {M : Mem} (h : k_Mo_both_189 s1 M = some r) : Z p l e lev s m args below meth c G 9 (MQ below (Qm G 0 r) args s 0 0 (Ab G)) M 189 [] [vl s1, .ref (G.1 + 111)] := by
  unfold k_Mo_both_189 at h
  refine z_iconst C x_Mo_both_189 ?_
  obtain ⟨v1, M2, fv1, h⟩ := bcall_e h
  refine z_callVv (k := 111) C x_Mo_both_190 cv_Mo_584 (t_Mo_push (lev := lev - 1) l G (by omega) fv1) nk_111 ck_111 rfl (by omega) rfl (i_le rfl) rfl ?_
  exact z_vret C x_Mo_both_193 h
def k_Mo_both_188 (M : Mem) : Res := k_Mo_both_189 0 M
theorem z_Mo_both_188 (C : Cx p s m args meth c G b_Mo_both 9 "PrairiePoolModel" none) (hlev : 1 ≤ lev) {r : Int × Mem}  {M : Mem} (h : k_Mo_both_188 M = some r) : Z p l e lev s m args below meth c G 9 (MQ below (Qm G 0 r) args s 0 0 (Ab G)) M 188 [] [.ref (G.1 + 111)] := by
  unfold k_Mo_both_188 at h
  refine z_lconst0 C x_Mo_both_188 ?_
  exact z_sub [] rfl (z_Mo_both_189 C hlev h)
def k_Mo_both_181 (s1 s2 : Int) (M : Mem) : Res := if w32 s1 = w32 s2 then (k_Mo_both_188 M) else (k_Mo_both_189 1 M)
theorem z_Mo_both_181 (C : Cx p s m args meth c G b_Mo_both 9 "PrairiePoolModel" none) (hlev : 1 ≤ lev) {r : Int × Mem}  {s1 s2 : Int} {M : Mem} (h : k_Mo_both_181 s1 s2 M = some r) : Z p l e lev s m args below meth c G 9 (MQ below (Qm G 0 r) args s 0 0 (Ab G)) M 181 [] [vi s2, vi s1, .ref (G.1 + 111)] := by
  unfold k_Mo_both_181 at h
  rcases ite_e h with ⟨c1, h⟩ | ⟨c1, h⟩
  · refine z_icmp_eq_t (tgt := 188) C x_Mo_both_181 rfl c1 ?_
    exact z_sub [] rfl (z_Mo_both_188 C hlev h)
  · refine z_icmp_eq_f (tgt := 188) C x_Mo_both_181 rfl c1 ?_
    refine z_lconst1 C x_Mo_both_184 ?_
    refine z_goto (tgt := 189) C x_Mo_both_185 rfl ?_
    exact z_sub [] rfl (z_Mo_both_189 C hlev h)
def k_Mo_both_161 (a2 a7 s0 : Int) (M : Mem) : Res := if w32 a7 = 0 then (if w32 a2 = 1 then (k_Mo_both_181 s0 1 M) else (k_Mo_both_181 s0 0 M)) else (k_Mo_both_188 M)
theorem z_Mo_both_161 (C : Cx p s m args meth c G b_Mo_both 9 "PrairiePoolModel" none) (hlev : 1 ≤ lev) {r : Int × Mem}  {a2 a7 s0 : Int} {M : Mem} (h : k_Mo_both_161 a2 a7 s0 M = some r) : Z p l e lev s m args below meth c G 9 (MQ below (Qm G 0 r) args s 0 0 (Ab G)) M 161 [(0, .ref (G.1 + 111)), (2, vi a2), (7, vi a7)] [vi s0] := by
  unfold k_Mo_both_161 at h
  refine z_istore (lv' := [(8, vi s0), (0, .ref (G.1 + 111)), (2, vi a2), (7, vi a7)]) C rfl x_Mo_both_161 (i_lt rfl) rfl ?_
  refine z_aload_n C 1 x_Mo_both_163 rfl ?_
  refine z_iload C 3 x_Mo_both_164 rfl ?_
  rcases ite_e h with ⟨c1, h⟩ | ⟨c1, h⟩
  · refine z_if_ne_f (tgt := 188) C x_Mo_both_166 rfl c1 ?_
    refine z_iload C 0 x_Mo_both_169 rfl ?_
    refine z_iload_n C 2 x_Mo_both_171 rfl ?_
    refine z_iconst C x_Mo_both_172 ?_
    rcases ite_e h with ⟨c2, h⟩ | ⟨c2, h⟩
    · refine z_icmp_ne_f (tgt := 180) C x_Mo_both_173 rfl c2 ?_
      refine z_iconst C x_Mo_both_176 ?_
      refine z_goto (tgt := 181) C x_Mo_both_177 rfl ?_
      exact z_sub [] rfl (z_Mo_both_181 C hlev h)
    · refine z_icmp_ne_t (tgt := 180) C x_Mo_both_173 rfl c2 ?_
      refine z_iconst C x_Mo_both_180 ?_
      exact z_sub [] rfl (z_Mo_both_181 C hlev h)
  · refine z_if_ne_t (tgt := 188) C x_Mo_both_166 rfl c1 ?_
    exact z_sub [] rfl (z_Mo_both_188 C hlev h)
def k_Mo_both_96 (s1 : Int) (M : Mem) : Res := bcall (d_Mo_push s1 0 M) fun v1 M2 => some (0, M2)
theorem z_Mo_both_96 (C : Cx p s m args meth c G b_Mo_both 9 "PrairiePoolModel" none) (hlev : 1 ≤ lev) {r : Int × Mem}  {s1 : Int} {M : Mem} (h : k_Mo_both_96 s1 M = some r) : Z p l e lev s m args below meth c G 9 (MQ below (Qm G 0 r) args s 0 0 (Ab G)) M 96 [] [vl s1, .ref (G.1 + 111)] := by
  unfold k_Mo_both_96 at h
  refine z_iconst C x_Mo_both_96 ?_
  obtain ⟨v1, M2, fv1, h⟩ := bcall_e h
  refine z_callVv (k := 111) C x_Mo_both_97 cv_Mo_584 (t_Mo_push (lev := lev - 1) l G (by omega) fv1) nk_111 ck_111 rfl (by omega) rfl (i_le rfl) rfl ?_
  exact z_vret C x_Mo_both_100 h
def k_Mo_both_78 (a1 a3 a5 : Int) (M : Mem) : Res := if w32 a1 = 13 then (k_Mo_both_96 (an64 a3 a5) M) else (k_Mo_both_96 (or64 a3 a5) M)
theorem z_Mo_both_78 (C : Cx p s m args meth c G b_Mo_both 9 "PrairiePoolModel" none) (hlev : 1 ≤ lev) {r : Int × Mem}  {a1 a3 a5 : Int} {M : Mem} (h : k_Mo_both_78 a1 a3 a5 M = some r) : Z p l e lev s m args below meth c G 9 (MQ below (Qm G 0 r) args s 0 0 (Ab G)) M 78 [(0, .ref (G.1 + 111)), (1, vi a1), (3, vl a3), (5, vl a5)] [] := by
  unfold k_Mo_both_78 at h
  refine z_aload_n C 0 x_Mo_both_78 rfl ?_
  refine z_iload_n C 1 x_Mo_both_79 rfl ?_
  refine z_bipush C rfl x_Mo_both_80 ?_
  rcases ite_e h with ⟨c1, h⟩ | ⟨c1, h⟩
  · refine z_icmp_ne_f (tgt := 92) C x_Mo_both_82 rfl c1 ?_
    refine z_lload_n C 2 x_Mo_both_85 rfl ?_
    refine z_lload C 3 x_Mo_both_86 rfl ?_
    refine z_land C x_Mo_both_88 ?_
    refine z_goto (tgt := 96) C x_Mo_both_89 rfl ?_
    exact z_sub [] rfl (z_Mo_both_96 C hlev h)
  · refine z_icmp_ne_t (tgt := 92) C x_Mo_both_82 rfl c1 ?_
    refine z_lload_n C 2 x_Mo_both_92 rfl ?_
    refine z_lload C 3 x_Mo_both_93 rfl ?_
    refine z_lor C x_Mo_both_95 ?_
    exact z_sub [] rfl (z_Mo_both_96 C hlev h)
def k_Mo_both_64 (a1 a2 a3 a5 s0 : Int) (M : Mem) : Res := if w32 a1 = 13 then (k_Mo_both_78 a1 a3 a5 M) else (if w32 a1 = 14 then (k_Mo_both_78 a1 a3 a5 M) else (if w32 a1 < 10 then (if w32 s0 = 0 then (if w32 a1 = 6 then (k_Mo_both_211 a1 a3 a5 M) else (if w32 a1 = 7 then (k_Mo_both_211 a1 a3 a5 M) else (k_Mo_both_222 a1 a3 a5 M))) else (k_Mo_both_218 a1 a3 a5 M)) else (if w32 a1 = 10 then (if w64 a3 < w64 a5 then (k_Mo_both_161 a2 s0 1 M) else (k_Mo_both_161 a2 s0 0 M)) else (if w32 a1 = 11 then (if w64 a5 < w64 a3 then (k_Mo_both_161 a2 s0 1 M) else (k_Mo_both_161 a2 s0 0 M)) else (if w64 a3 = w64 a5 then (k_Mo_both_161 a2 s0 1 M) else (k_Mo_both_161 a2 s0 0 M))))))
theorem z_Mo_both_64 (C : Cx p s m args meth c G b_Mo_both 9 "PrairiePoolModel" none) (hlev : 1 ≤ lev) {r : Int × Mem}  {a1 a2 a3 a5 s0 : Int} {M : Mem} (h : k_Mo_both_64 a1 a2 a3 a5 s0 M = some r) : Z p l e lev s m args below meth c G 9 (MQ below (Qm G 0 r) args s 0 0 (Ab G)) M 64 [(0, .ref (G.1 + 111)), (1, vi a1), (2, vi a2), (3, vl a3), (5, vl a5)] [vi s0] := by
  unfold k_Mo_both_64 at h
  refine z_istore (lv' := [(7, vi s0), (0, .ref (G.1 + 111)), (1, vi a1), (2, vi a2), (3, vl a3), (5, vl a5)]) C rfl x_Mo_both_64 (i_lt rfl) rfl ?_
  refine z_iload_n C 2 x_Mo_both_66 rfl ?_
  refine z_bipush C rfl x_Mo_both_67 ?_
  rcases ite_e h with ⟨c1, h⟩ | ⟨c1, h⟩
  · refine z_icmp_eq_t (tgt := 78) C x_Mo_both_69 rfl c1 ?_
    exact z_sub [1, 2, 4, 5] rfl (z_Mo_both_78 C hlev h)
  · refine z_icmp_eq_f (tgt := 78) C x_Mo_both_69 rfl c1 ?_
    refine z_iload_n C 2 x_Mo_both_72 rfl ?_
    refine z_bipush C rfl x_Mo_both_73 ?_
    rcases ite_e h with ⟨c2, h⟩ | ⟨c2, h⟩
    · refine z_icmp_ne_f (tgt := 101) C x_Mo_both_75 rfl c2 ?_
      exact z_sub [1, 2, 4, 5] rfl (z_Mo_both_78 C hlev h)
    · refine z_icmp_ne_t (tgt := 101) C x_Mo_both_75 rfl c2 ?_
      refine z_iload_n C 2 x_Mo_both_101 rfl ?_
      refine z_bipush C rfl x_Mo_both_102 ?_
      rcases ite_e h with ⟨c3, h⟩ | ⟨c3, h⟩
      · refine z_icmp_lt_t (tgt := 194) C x_Mo_both_104 rfl c3 ?_
        refine z_iload C 0 x_Mo_both_194 rfl ?_
        rcases ite_e h with ⟨c4, h⟩ | ⟨c4, h⟩
        · refine z_if_ne_f (tgt := 218) C x_Mo_both_196 rfl c4 ?_
          refine z_iload_n C 2 x_Mo_both_199 rfl ?_
          refine z_bipush C rfl x_Mo_both_200 ?_
          rcases ite_e h with ⟨c5, h⟩ | ⟨c5, h⟩
          · refine z_icmp_eq_t (tgt := 211) C x_Mo_both_202 rfl c5 ?_
            exact z_sub [1, 2, 4, 5] rfl (z_Mo_both_211 C hlev h)
          · refine z_icmp_eq_f (tgt := 211) C x_Mo_both_202 rfl c5 ?_
            refine z_iload_n C 2 x_Mo_both_205 rfl ?_
            refine z_bipush C rfl x_Mo_both_206 ?_
            rcases ite_e h with ⟨c6, h⟩ | ⟨c6, h⟩
            · refine z_icmp_ne_f (tgt := 222) C x_Mo_both_208 rfl c6 ?_
              exact z_sub [1, 2, 4, 5] rfl (z_Mo_both_211 C hlev h)
            · refine z_icmp_ne_t (tgt := 222) C x_Mo_both_208 rfl c6 ?_
              exact z_sub [1, 2, 4, 5] rfl (z_Mo_both_222 C hlev h)
        · refine z_if_ne_t (tgt := 218) C x_Mo_both_196 rfl c4 ?_
          exact z_sub [1, 2, 4, 5] rfl (z_Mo_both_218 C hlev h)
      · refine z_icmp_lt_f (tgt := 194) C x_Mo_both_104 rfl c3 ?_
        refine z_iload_n C 2 x_Mo_both_107 rfl ?_
        refine z_bipush C rfl x_Mo_both_108 ?_
        rcases ite_e h with ⟨c7, h⟩ | ⟨c7, h⟩
        · refine z_icmp_ne_f (tgt := 128) C x_Mo_both_110 rfl c7 ?_
          refine z_lload_n C 4 x_Mo_both_113 rfl ?_
          refine z_lload C 5 x_Mo_both_114 rfl ?_
          refine z_lcmp C x_Mo_both_116 ?_
          rcases ite_e h with ⟨c8, h⟩ | ⟨c8, h⟩
          · refine z_if_ge_f (tgt := 124) C x_Mo_both_117 rfl (cm_lt.mpr c8) ?_
            refine z_iconst C x_Mo_both_120 ?_
            refine z_goto (tgt := 161) C x_Mo_both_121 rfl ?_
            exact z_sub [1, 3, 0] rfl (z_Mo_both_161 C hlev h)
          · refine z_if_ge_t (tgt := 124) C x_Mo_both_117 rfl (fun q => c8 (cm_lt.mp q)) ?_
            refine z_iconst C x_Mo_both_124 ?_
            refine z_goto (tgt := 161) C x_Mo_both_125 rfl ?_
            exact z_sub [1, 3, 0] rfl (z_Mo_both_161 C hlev h)
        · refine z_icmp_ne_t (tgt := 128) C x_Mo_both_110 rfl c7 ?_
          refine z_iload_n C 2 x_Mo_both_128 rfl ?_
          refine z_bipush C rfl x_Mo_both_129 ?_
          rcases ite_e h with ⟨c9, h⟩ | ⟨c9, h⟩
          · refine z_icmp_ne_f (tgt := 149) C x_Mo_both_131 rfl c9 ?_
            refine z_lload_n C 4 x_Mo_both_134 rfl ?_
            refine z_lload C 5 x_Mo_both_135 rfl ?_
            refine z_lcmp C x_Mo_both_137 ?_
            rcases ite_e h with ⟨c10, h⟩ | ⟨c10, h⟩
            · refine z_if_le_f (tgt := 145) C x_Mo_both_138 rfl (cm_gt.mpr c10) ?_
              refine z_iconst C x_Mo_both_141 ?_
              refine z_goto (tgt := 161) C x_Mo_both_142 rfl ?_
              exact z_sub [1, 3, 0] rfl (z_Mo_both_161 C hlev h)
            · refine z_if_le_t (tgt := 145) C x_Mo_both_138 rfl (fun q => c10 (cm_gt.mp q)) ?_
              refine z_iconst C x_Mo_both_145 ?_
              refine z_goto (tgt := 161) C x_Mo_both_146 rfl ?_
              exact z_sub [1, 3, 0] rfl (z_Mo_both_161 C hlev h)
          · refine z_icmp_ne_t (tgt := 149) C x_Mo_both_131 rfl c9 ?_
            refine z_lload_n C 4 x_Mo_both_149 rfl ?_
            refine z_lload C 5 x_Mo_both_150 rfl ?_
            refine z_lcmp C x_Mo_both_152 ?_
            rcases ite_e h with ⟨c11, h⟩ | ⟨c11, h⟩
            · refine z_if_ne_f (tgt := 160) C x_Mo_both_153 rfl (cm_eqz.mpr c11) ?_
              refine z_iconst C x_Mo_both_156 ?_
              refine z_goto (tgt := 161) C x_Mo_both_157 rfl ?_
              exact z_sub [1, 3, 0] rfl (z_Mo_both_161 C hlev h)
            · refine z_if_ne_t (tgt := 160) C x_Mo_both_153 rfl (fun q => c11 (cm_eqz.mp q)) ?_
              refine z_iconst C x_Mo_both_160 ?_
              exact z_sub [1, 3, 0] rfl (z_Mo_both_161 C hlev h)
def k_Mo_both_59 (a1 a2 a3 a5 : Int) (M : Mem) : Res := k_Mo_both_64 a1 a2 a3 a5 1 M
theorem z_Mo_both_59 (C : Cx p s m args meth c G b_Mo_both 9 "PrairiePoolModel" none) (hlev : 1 ≤ lev) {r : Int × Mem}  {a1 a2 a3 a5 : Int} {M : Mem} (h : k_Mo_both_59 a1 a2 a3 a5 M = some r) : Z p l e lev s m args below meth c G 9 (MQ below (Qm G 0 r) args s 0 0 (Ab G)) M 59 [(0, .ref (G.1 + 111)), (1, vi a1), (2, vi a2), (3, vl a3), (5, vl a5)] [] := by
  unfold k_Mo_both_59 at h
  refine z_iconst C x_Mo_both_59 ?_
  refine z_goto (tgt := 64) C x_Mo_both_60 rfl ?_
  exact z_sub [0, 1, 2, 3, 4] rfl (z_Mo_both_64 C hlev h)
def d_Mo_both (a1 a2 : Int) (M : Mem) : Res := blet (M 111 72) fun v1 => blet (sto M 111 72 (v1 - 2)) fun M2 => blet (M2 111 72) fun v3 => chk (0 ≤ w32 v3 ∧ w32 v3 < 600) <| blet (M2 155 (ix v3)) fun v5 => blet (M2 111 72) fun v6 => chk (0 ≤ w32 (v6 + 1) ∧ w32 (v6 + 1) < 600) <| blet (M2 155 (ix (v6 + 1))) fun v8 => blet (M2 111 72) fun v9 => chk (0 ≤ w32 v9 ∧ w32 v9 < 600) <| blet (M2 158 (ix v9) % 2) fun v11 => if w32 v11 = 0 then (blet (M2 111 72) fun v13 => chk (0 ≤ w32 (v13 + 1) ∧ w32 (v13 + 1) < 600) <| blet (M2 158 (ix (v13 + 1)) % 2) fun v15 => if w32 v15 = 0 then (k_Mo_both_64 a1 a2 v5 v8 0 M2) else (k_Mo_both_59 a1 a2 v5 v8 M2)) else (k_Mo_both_59 a1 a2 v5 v8 M2)
theorem t_Mo_both (l : Launch) (G : GX) {lev : Nat} (hlev : 1 ≤ lev) {a1 a2 : Int} {M : Mem} {r : Int × Mem} (h : d_Mo_both a1 a2 M = some r) : Mt l G y_Mo_both b_Mo_both 9 none lev 0 [.ref (G.1 + 111), vi a1, vi a2] M r := by
  refine Mt.of (by decide) (i_le rfl) ?_
  intro p e s m args below meth c C
  have C : Cx p s m args meth c G b_Mo_both 9 "PrairiePoolModel" none := C
  unfold d_Mo_both at h
  refine z_sub (lv' := [(0, .ref (G.1 + 111)), (1, vi a1), (2, vi a2)]) [0, 1, 2] rfl ?_
  refine z_aload_n C 0 x_Mo_both_0 rfl ?_
  refine z_dup C x_Mo_both_1 rfl ?_
  obtain ⟨v1, ev1, h⟩ := blet_e h
  refine z_getI (j := 72) C x_Mo_both_2 nk_111 ck_111 cw_12 (i_lt rfl) rfl rfl fl_Mo_578 ev1 ?_
  refine z_iconst C x_Mo_both_5 ?_
  refine z_isub C x_Mo_both_6 ?_
  obtain ⟨M2, eM2, h⟩ := blet_e h
  refine z_putI (j := 72) C x_Mo_both_7 nk_111 ck_111 cw_12 (i_lt rfl) rfl rfl rfl rfl fl_Mo_578 eM2 ?_
  refine z_aload_n C 0 x_Mo_both_10 rfl ?_
  refine z_getR (j := 67) C x_Mo_both_11 nk_111 ck_111 cw_12 (i_lt rfl) rfl rf_111_67 rfl fl_Mo_148 ?_
  refine z_aload_n C 0 x_Mo_both_14 rfl ?_
  obtain ⟨v3, ev3, h⟩ := blet_e h
  refine z_getI (j := 72) C x_Mo_both_15 nk_111 ck_111 cw_12 (i_lt rfl) rfl rfl fl_Mo_578 ev3 ?_
  obtain ⟨c4, h⟩ := chk_e h
  obtain ⟨v5, ev5, h⟩ := blet_e h
  refine z_lald C x_Mo_both_18 nk_155 ck_155 c4 ev5 ?_
  refine z_lstore_n (lv' := [(3, vl v5), (0, .ref (G.1 + 111)), (1, vi a1), (2, vi a2)]) C rfl x_Mo_both_19 (i_lt rfl) rfl ?_
  refine z_aload_n C 1 x_Mo_both_20 rfl ?_
  refine z_getR (j := 67) C x_Mo_both_21 nk_111 ck_111 cw_12 (i_lt rfl) rfl rf_111_67 rfl fl_Mo_148 ?_
  refine z_aload_n C 1 x_Mo_both_24 rfl ?_
  obtain ⟨v6, ev6, h⟩ := blet_e h
  refine z_getI (j := 72) C x_Mo_both_25 nk_111 ck_111 cw_12 (i_lt rfl) rfl rfl fl_Mo_578 ev6 ?_
  refine z_iconst C x_Mo_both_28 ?_
  refine z_iadd C x_Mo_both_29 ?_
  obtain ⟨c7, h⟩ := chk_e h
  obtain ⟨v8, ev8, h⟩ := blet_e h
  refine z_lald C x_Mo_both_30 nk_155 ck_155 c7 ev8 ?_
  refine z_lstore (lv' := [(5, vl v8), (3, vl v5), (0, .ref (G.1 + 111)), (1, vi a1), (2, vi a2)]) C rfl x_Mo_both_31 (i_lt rfl) rfl ?_
  refine z_aload_n C 2 x_Mo_both_33 rfl ?_
  refine z_getR (j := 70) C x_Mo_both_34 nk_111 ck_111 cw_12 (i_lt rfl) rfl rf_111_70 rfl fl_Mo_157 ?_
  refine z_aload_n C 2 x_Mo_both_37 rfl ?_
  obtain ⟨v9, ev9, h⟩ := blet_e h
  refine z_getI (j := 72) C x_Mo_both_38 nk_111 ck_111 cw_12 (i_lt rfl) rfl rfl fl_Mo_578 ev9 ?_
  obtain ⟨c10, h⟩ := chk_e h
  obtain ⟨v11, ev11, h⟩ := blet_e h
  refine z_zald C x_Mo_both_41 nk_158 ck_158 c10 ev11 ?_
  rcases ite_e h with ⟨c12, h⟩ | ⟨c12, h⟩
  · refine z_if_ne_f (tgt := 59) C x_Mo_both_42 rfl c12 ?_
    refine z_aload_n C 2 x_Mo_both_45 rfl ?_
    refine z_getR (j := 70) C x_Mo_both_46 nk_111 ck_111 cw_12 (i_lt rfl) rfl rf_111_70 rfl fl_Mo_157 ?_
    refine z_aload_n C 2 x_Mo_both_49 rfl ?_
    obtain ⟨v13, ev13, h⟩ := blet_e h
    refine z_getI (j := 72) C x_Mo_both_50 nk_111 ck_111 cw_12 (i_lt rfl) rfl rfl fl_Mo_578 ev13 ?_
    refine z_iconst C x_Mo_both_53 ?_
    refine z_iadd C x_Mo_both_54 ?_
    obtain ⟨c14, h⟩ := chk_e h
    obtain ⟨v15, ev15, h⟩ := blet_e h
    refine z_zald C x_Mo_both_55 nk_158 ck_158 c14 ev15 ?_
    rcases ite_e h with ⟨c16, h⟩ | ⟨c16, h⟩
    · refine z_if_eq_t (tgt := 63) C x_Mo_both_56 rfl c16 ?_
      refine z_iconst C x_Mo_both_63 ?_
      exact z_sub [2, 3, 4, 1, 0] rfl (z_Mo_both_64 C hlev h)
    · refine z_if_eq_f (tgt := 63) C x_Mo_both_56 rfl c16 ?_
      exact z_sub [2, 3, 4, 1, 0] rfl (z_Mo_both_59 C hlev h)
  · refine z_if_ne_t (tgt := 59) C x_Mo_both_42 rfl c12 ?_
    exact z_sub [2, 3, 4, 1, 0] rfl (z_Mo_both_59 C hlev h)
theorem x_Mo_does_0 : DC b_Mo_does 0 (.iload_n 1) 1 1 := ⟨by decide +kernel, rfl⟩
theorem x_Mo_does_1 : DC b_Mo_does 1 (.ldc_w 503) 3 4 := ⟨by decide +kernel, rfl⟩
theorem x_Mo_does_4 : DC b_Mo_does 4 (.idiv) 1 5 := ⟨by decide +kernel, rfl⟩
theorem x_Mo_does_5 : DC b_Mo_does 5 (.istore_n 3) 1 6 := ⟨by decide +kernel, rfl⟩
theorem x_Mo_does_6 : DC b_Mo_does 6 (.iload_n 1) 1 7 := ⟨by decide +kernel, rfl⟩
theorem x_Mo_does_7 : DC b_Mo_does 7 (.ldc_w 503) 3 10 := ⟨by decide +kernel, rfl⟩
theorem x_Mo_does_10 : DC b_Mo_does 10 (.irem) 1 11 := ⟨by decide +kernel, rfl⟩
theorem x_Mo_does_11 : DC b_Mo_does 11 (.istore 4) 2 13 := ⟨by decide +kernel, rfl⟩
theorem x_Mo_does_13 : DC b_Mo_does 13 (.iload_n 3) 1 14 := ⟨by decide +kernel, rfl⟩
theorem x_Mo_does_14 : DC b_Mo_does 14 (.lookupswitch 136 #[(0, 50), (1, 62), (2, 78), (15, 103), (16, 100)]) 50 64 := ⟨by decide +kernel, rfl⟩
theorem x_Mo_does_64 : DC b_Mo_does 64 (.aload_n 0) 1 65 := ⟨by decide +kernel, rfl⟩
theorem x_Mo_does_65 : DC b_Mo_does 65 (.iload 4) 2 67 := ⟨by decide +kernel, rfl⟩
theorem x_Mo_does_67 : DC b_Mo_does 67 (.i2l) 1 68 := ⟨by decide +kernel, rfl⟩
theorem x_Mo_does_68 : DC b_Mo_does 68 (.iconst 0) 1 69 := ⟨by decide +kernel, rfl⟩
theorem x_Mo_does_69 : DC b_Mo_does 69 (.invokevirtual 584) 3 72 := ⟨by decide +kernel, rfl⟩
theorem x_Mo_does_72 : DC b_Mo_does 72 (.iload_n 2) 1 73 := ⟨by decide +kernel, rfl⟩
theorem x_Mo_does_73 : DC b_Mo_does 73 (.iconst 1) 1 74 := ⟨by decide +kernel, rfl⟩
theorem x_Mo_does_74 : DC b_Mo_does 74 (.iadd) 1 75 := ⟨by decide +kernel, rfl⟩
theorem x_Mo_does_75 : DC b_Mo_does 75 (.ireturn) 1 76 := ⟨by decide +kernel, rfl⟩
theorem x_Mo_does_76 : DC b_Mo_does 76 (.aload_n 0) 1 77 := ⟨by decide +kernel, rfl⟩
theorem x_Mo_does_77 : DC b_Mo_does 77 (.aload_n 0) 1 78 := ⟨by decide +kernel, rfl⟩
theorem x_Mo_does_78 : DC b_Mo_does 78 (.getfield 151) 3 81 := ⟨by decide +kernel, rfl⟩
theorem x_Mo_does_81 : DC b_Mo_does 81 (.iload 4) 2 83 := ⟨by decide +kernel, rfl⟩
theorem x_Mo_does_83 : DC b_Mo_does 83 (.laload) 1 84 := ⟨by decide +kernel, rfl⟩
theorem x_Mo_does_84 : DC b_Mo_does 84 (.iconst 0) 1 85 := ⟨by decide +kernel, rfl⟩
theorem x_Mo_does_85 : DC b_Mo_does 85 (.invokevirtual 584) 3 88 := ⟨by decide +kernel, rfl⟩
theorem x_Mo_does_88 : DC b_Mo_does 88 (.iload_n 2) 1 89 := ⟨by decide +kernel, rfl⟩
theorem x_Mo_does_89 : DC b_Mo_does 89 (.iconst 1) 1 90 := ⟨by decide +kernel, rfl⟩
theorem x_Mo_does_90 : DC b_Mo_does 90 (.iadd) 1 91 := ⟨by decide +kernel, rfl⟩
theorem x_Mo_does_91 : DC b_Mo_does 91 (.ireturn) 1 92 := ⟨by decide +kernel, rfl⟩
theorem x_Mo_does_92 : DC b_Mo_does 92 (.aload_n 0) 1 93 := ⟨by decide +kernel, rfl⟩
theorem x_Mo_does_93 : DC b_Mo_does 93 (.aload_n 0) 1 94 := ⟨by decide +kernel, rfl⟩
theorem x_Mo_does_94 : DC b_Mo_does 94 (.getfield 154) 3 97 := ⟨by decide +kernel, rfl⟩
theorem x_Mo_does_97 : DC b_Mo_does 97 (.iload 4) 2 99 := ⟨by decide +kernel, rfl⟩
theorem x_Mo_does_99 : DC b_Mo_does 99 (.laload) 1 100 := ⟨by decide +kernel, rfl⟩
theorem x_Mo_does_100 : DC b_Mo_does 100 (.aload_n 0) 1 101 := ⟨by decide +kernel, rfl⟩
theorem x_Mo_does_101 : DC b_Mo_does 101 (.getfield 161) 3 104 := ⟨by decide +kernel, rfl⟩
theorem x_Mo_does_104 : DC b_Mo_does 104 (.iload 4) 2 106 := ⟨by decide +kernel, rfl⟩
theorem x_Mo_does_106 : DC b_Mo_does 106 (.baload) 1 107 := ⟨by decide +kernel, rfl⟩
theorem x_Mo_does_107 : DC b_Mo_does 107 (.invokevirtual 584) 3 110 := ⟨by decide +kernel, rfl⟩
theorem x_Mo_does_110 : DC b_Mo_does 110 (.iload_n 2) 1 111 := ⟨by decide +kernel, rfl⟩
theorem x_Mo_does_111 : DC b_Mo_does 111 (.iconst 1) 1 112 := ⟨by decide +kernel, rfl⟩
theorem x_Mo_does_112 : DC b_Mo_does 112 (.iadd) 1 113 := ⟨by decide +kernel, rfl⟩
theorem x_Mo_does_113 : DC b_Mo_does 113 (.ireturn) 1 114 := ⟨by decide +kernel, rfl⟩
theorem x_Mo_does_114 : DC b_Mo_does 114 (.iload 4) 2 116 := ⟨by decide +kernel, rfl⟩
theorem x_Mo_does_116 : DC b_Mo_does 116 (.ireturn) 1 117 := ⟨by decide +kernel, rfl⟩
theorem x_Mo_does_117 : DC b_Mo_does 117 (.aload_n 0) 1 118 := ⟨by decide +kernel, rfl⟩
theorem x_Mo_does_118 : DC b_Mo_does 118 (.dup) 1 119 := ⟨by decide +kernel, rfl⟩
theorem x_Mo_does_119 : DC b_Mo_does 119 (.getfield 578) 3 122 := ⟨by decide +kernel, rfl⟩
theorem x_Mo_does_122 : DC b_Mo_does 122 (.iconst 1) 1 123 := ⟨by decide +kernel, rfl⟩
theorem x_Mo_does_123 : DC b_Mo_does 123 (.isub) 1 124 := ⟨by decide +kernel, rfl⟩
theorem x_Mo_does_124 : DC b_Mo_does 124 (.putfield 578) 3 127 := ⟨by decide +kernel, rfl⟩
theorem x_Mo_does_127 : DC b_Mo_does 127 (.aload_n 0) 1 128 := ⟨by decide +kernel, rfl⟩
theorem x_Mo_does_128 : DC b_Mo_does 128 (.getfield 148) 3 131 := ⟨by decide +kernel, rfl⟩
theorem x_Mo_does_131 : DC b_Mo_does 131 (.aload_n 0) 1 132 := ⟨by decide +kernel, rfl⟩
theorem x_Mo_does_132 : DC b_Mo_does 132 (.getfield 578) 3 135 := ⟨by decide +kernel, rfl⟩
theorem x_Mo_does_135 : DC b_Mo_does 135 (.laload) 1 136 := ⟨by decide +kernel, rfl⟩
theorem x_Mo_does_136 : DC b_Mo_does 136 (.lconst 1) 1 137 := ⟨by decide +kernel, rfl⟩
theorem x_Mo_does_137 : DC b_Mo_does 137 (.lcmp) 1 138 := ⟨by decide +kernel, rfl⟩
theorem x_Mo_does_138 : DC b_Mo_does 138 (.ifCond .ne 9) 3 141 := ⟨by decide +kernel, rfl⟩
theorem x_Mo_does_141 : DC b_Mo_does 141 (.iload_n 2) 1 142 := ⟨by decide +kernel, rfl⟩
theorem x_Mo_does_142 : DC b_Mo_does 142 (.iconst 1) 1 143 := ⟨by decide +kernel, rfl⟩
theorem x_Mo_does_143 : DC b_Mo_does 143 (.iadd) 1 144 := ⟨by decide +kernel, rfl⟩
theorem x_Mo_does_144 : DC b_Mo_does 144 (.goto 5) 3 147 := ⟨by decide +kernel, rfl⟩
theorem x_Mo_does_147 : DC b_Mo_does 147 (.iload 4) 2 149 := ⟨by decide +kernel, rfl⟩
theorem x_Mo_does_149 : DC b_Mo_does 149 (.ireturn) 1 150 := ⟨by decide +kernel, rfl⟩
theorem x_Mo_does_150 : DC b_Mo_does 150 (.aload_n 0) 1 151 := ⟨by decide +kernel, rfl⟩
theorem x_Mo_does_151 : DC b_Mo_does 151 (.iload_n 3) 1 152 := ⟨by decide +kernel, rfl⟩
theorem x_Mo_does_152 : DC b_Mo_does 152 (.iload 4) 2 154 := ⟨by decide +kernel, rfl⟩
theorem x_Mo_does_154 : DC b_Mo_does 154 (.invokevirtual 588) 3 157 := ⟨by decide +kernel, rfl⟩
theorem x_Mo_does_157 : DC b_Mo_does 157 (.iload_n 2) 1 158 := ⟨by decide +kernel, rfl⟩
theorem x_Mo_does_158 : DC b_Mo_does 158 (.iconst 1) 1 159 := ⟨by decide +kernel, rfl⟩
theorem x_Mo_does_159 : DC b_Mo_does 159 (.iadd) 1 160 := ⟨by decide +kernel, rfl⟩
theorem x_Mo_does_160 : DC b_Mo_does 160 (.ireturn) 1 161 := ⟨by decide +kernel, rfl⟩
def d_Mo_does (a1 a2 : Int) (M : Mem) : Res := blet (dv32 a1 1048576) fun v1 => blet (rm32 a1 1048576) fun v2 => if w32 v1 = 0 then (bcall (d_Mo_push (w32 v2) 0 M) fun v4 M5 => some (a2 + 1, M5)) else (if w32 v1 = 1 then (chk (0 ≤ w32 v2 ∧ w32 v2 < 11) <| blet (M 156 (ix v2)) fun v8 => bcall (d_Mo_push v8 0 M) fun v9 M10 => some (a2 + 1, M10)) else (if w32 v1 = 2 then (chk (0 ≤ w32 v2 ∧ w32 v2 < 10) <| blet (M 157 (ix v2)) fun v13 => chk (0 ≤ w32 v2 ∧ w32 v2 < 10) <| blet (M 159 (ix v2) % 2) fun v15 => bcall (d_Mo_push v13 v15 M) fun v16 M17 => some (a2 + 1, M17)) else (if w32 v1 = 15 then (blet (M 111 72) fun v19 => blet (sto M 111 72 (v19 - 1)) fun M20 => blet (M20 111 72) fun v21 => chk (0 ≤ w32 v21 ∧ w32 v21 < 600) <| blet (M20 155 (ix v21)) fun v23 => if w64 v23 = 1 then (some (a2 + 1, M20)) else (some (v2, M20))) else (if w32 v1 = 16 then (some (v2, M)) else (bcall (d_Mo_both v1 v2 M) fun v26 M27 => some (a2 + 1, M27))))))
theorem t_Mo_does (l : Launch) (G : GX) {lev : Nat} (hlev : 2 ≤ lev) {a1 a2 : Int} {M : Mem} {r : Int × Mem} (h : d_Mo_does a1 a2 M = some r) : Mt l G y_Mo_does b_Mo_does 5 (some .int) lev 1 [.ref (G.1 + 111), vi a1, vi a2] M r := by
  refine Mt.of (by decide) (i_le rfl) ?_
  intro p e s m args below meth c C
  have C : Cx p s m args meth c G b_Mo_does 5 "PrairiePoolModel" (some .int) := C
  unfold d_Mo_does at h
  refine z_sub (lv' := [(0, .ref (G.1 + 111)), (1, vi a1), (2, vi a2)]) [0, 1, 2] rfl ?_
  refine z_iload_n C 1 x_Mo_does_0 rfl ?_
  refine z_ldcw C kc_Mo_503 x_Mo_does_1 ?_
  refine z_idiv C (by decide) x_Mo_does_4 ?_
  obtain ⟨v1, ev1, h⟩ := blet_e h
  refine z_istore_n (lv' := [(3, vi v1), (0, .ref (G.1 + 111)), (1, vi a1), (2, vi a2)]) C ev1 x_Mo_does_5 (i_lt rfl) rfl ?_
  refine z_iload_n C 2 x_Mo_does_6 rfl ?_
  refine z_ldcw C kc_Mo_503 x_Mo_does_7 ?_
  refine z_irem C (by decide) x_Mo_does_10 ?_
  obtain ⟨v2, ev2, h⟩ := blet_e h
  refine z_istore (lv' := [(4, vi v2), (3, vi v1), (0, .ref (G.1 + 111)), (1, vi a1), (2, vi a2)]) C ev2 x_Mo_does_11 (i_lt rfl) rfl ?_
  refine z_iload_n C 1 x_Mo_does_13 rfl ?_
  rcases ite_e h with ⟨c3, h⟩ | ⟨c3, h⟩
  · refine z_lookup (tgt := 64) C x_Mo_does_14 (by decide) (off := 50) (by rw [c3]; decide) rfl ?_
    refine z_aload_n C 2 x_Mo_does_64 rfl ?_
    refine z_iload C 0 x_Mo_does_65 rfl ?_
    refine z_i2l C x_Mo_does_67 ?_
    refine z_iconst C x_Mo_does_68 ?_
    obtain ⟨v4, M5, fv4, h⟩ := bcall_e h
    refine z_callVv (k := 111) C x_Mo_does_69 cv_Mo_584 (t_Mo_push (lev := lev - 1) l G (by omega) fv4) nk_111 ck_111 rfl (by omega) rfl (i_le rfl) rfl ?_
    refine z_iload_n C 4 x_Mo_does_72 rfl ?_
    refine z_iconst C x_Mo_does_73 ?_
    refine z_iadd C x_Mo_does_74 ?_
    exact z_iret C x_Mo_does_75 h
  · rcases ite_e h with ⟨c6, h⟩ | ⟨c6, h⟩
    · refine z_lookup (tgt := 76) C x_Mo_does_14 (by decide) (off := 62) (by rw [c6]; decide) rfl ?_
      refine z_aload_n C 2 x_Mo_does_76 rfl ?_
      refine z_aload_n C 2 x_Mo_does_77 rfl ?_
      refine z_getR (j := 68) C x_Mo_does_78 nk_111 ck_111 cw_12 (i_lt rfl) rfl rf_111_68 rfl fl_Mo_151 ?_
      refine z_iload C 0 x_Mo_does_81 rfl ?_
      obtain ⟨c7, h⟩ := chk_e h
      obtain ⟨v8, ev8, h⟩ := blet_e h
      refine z_lald C x_Mo_does_83 nk_156 ck_156 c7 ev8 ?_
      refine z_iconst C x_Mo_does_84 ?_
      obtain ⟨v9, M10, fv9, h⟩ := bcall_e h
      refine z_callVv (k := 111) C x_Mo_does_85 cv_Mo_584 (t_Mo_push (lev := lev - 1) l G (by omega) fv9) nk_111 ck_111 rfl (by omega) rfl (i_le rfl) rfl ?_
      refine z_iload_n C 4 x_Mo_does_88 rfl ?_
      refine z_iconst C x_Mo_does_89 ?_
      refine z_iadd C x_Mo_does_90 ?_
      exact z_iret C x_Mo_does_91 h
    · rcases ite_e h with ⟨c11, h⟩ | ⟨c11, h⟩
      · refine z_lookup (tgt := 92) C x_Mo_does_14 (by decide) (off := 78) (by rw [c11]; decide) rfl ?_
        refine z_aload_n C 2 x_Mo_does_92 rfl ?_
        refine z_aload_n C 2 x_Mo_does_93 rfl ?_
        refine z_getR (j := 69) C x_Mo_does_94 nk_111 ck_111 cw_12 (i_lt rfl) rfl rf_111_69 rfl fl_Mo_154 ?_
        refine z_iload C 0 x_Mo_does_97 rfl ?_
        obtain ⟨c12, h⟩ := chk_e h
        obtain ⟨v13, ev13, h⟩ := blet_e h
        refine z_lald C x_Mo_does_99 nk_157 ck_157 c12 ev13 ?_
        refine z_aload_n C 2 x_Mo_does_100 rfl ?_
        refine z_getR (j := 71) C x_Mo_does_101 nk_111 ck_111 cw_12 (i_lt rfl) rfl rf_111_71 rfl fl_Mo_161 ?_
        refine z_iload C 0 x_Mo_does_104 rfl ?_
        obtain ⟨c14, h⟩ := chk_e h
        obtain ⟨v15, ev15, h⟩ := blet_e h
        refine z_zald C x_Mo_does_106 nk_159 ck_159 c14 ev15 ?_
        obtain ⟨v16, M17, fv16, h⟩ := bcall_e h
        refine z_callVv (k := 111) C x_Mo_does_107 cv_Mo_584 (t_Mo_push (lev := lev - 1) l G (by omega) fv16) nk_111 ck_111 rfl (by omega) rfl (i_le rfl) rfl ?_
        refine z_iload_n C 4 x_Mo_does_110 rfl ?_
        refine z_iconst C x_Mo_does_111 ?_
        refine z_iadd C x_Mo_does_112 ?_
        exact z_iret C x_Mo_does_113 h
      · rcases ite_e h with ⟨c18, h⟩ | ⟨c18, h⟩
        · refine z_lookup (tgt := 117) C x_Mo_does_14 (by decide) (off := 103) (by rw [c18]; decide) rfl ?_
          refine z_aload_n C 2 x_Mo_does_117 rfl ?_
          refine z_dup C x_Mo_does_118 rfl ?_
          obtain ⟨v19, ev19, h⟩ := blet_e h
          refine z_getI (j := 72) C x_Mo_does_119 nk_111 ck_111 cw_12 (i_lt rfl) rfl rfl fl_Mo_578 ev19 ?_
          refine z_iconst C x_Mo_does_122 ?_
          refine z_isub C x_Mo_does_123 ?_
          obtain ⟨M20, eM20, h⟩ := blet_e h
          refine z_putI (j := 72) C x_Mo_does_124 nk_111 ck_111 cw_12 (i_lt rfl) rfl rfl rfl rfl fl_Mo_578 eM20 ?_
          refine z_aload_n C 2 x_Mo_does_127 rfl ?_
          refine z_getR (j := 67) C x_Mo_does_128 nk_111 ck_111 cw_12 (i_lt rfl) rfl rf_111_67 rfl fl_Mo_148 ?_
          refine z_aload_n C 2 x_Mo_does_131 rfl ?_
          obtain ⟨v21, ev21, h⟩ := blet_e h
          refine z_getI (j := 72) C x_Mo_does_132 nk_111 ck_111 cw_12 (i_lt rfl) rfl rfl fl_Mo_578 ev21 ?_
          obtain ⟨c22, h⟩ := chk_e h
          obtain ⟨v23, ev23, h⟩ := blet_e h
          refine z_lald C x_Mo_does_135 nk_155 ck_155 c22 ev23 ?_
          refine z_lconst1 C x_Mo_does_136 ?_
          refine z_lcmp C x_Mo_does_137 ?_
          rcases ite_e h with ⟨c24, h⟩ | ⟨c24, h⟩
          · refine z_if_ne_f (tgt := 147) C x_Mo_does_138 rfl (cm_eqz.mpr c24) ?_
            refine z_iload_n C 4 x_Mo_does_141 rfl ?_
            refine z_iconst C x_Mo_does_142 ?_
            refine z_iadd C x_Mo_does_143 ?_
            refine z_goto (tgt := 149) C x_Mo_does_144 rfl ?_
            exact z_iret C x_Mo_does_149 h
          · refine z_if_ne_t (tgt := 147) C x_Mo_does_138 rfl (fun q => c24 (cm_eqz.mp q)) ?_
            refine z_iload C 0 x_Mo_does_147 rfl ?_
            exact z_iret C x_Mo_does_149 h
        · rcases ite_e h with ⟨c25, h⟩ | ⟨c25, h⟩
          · refine z_lookup (tgt := 114) C x_Mo_does_14 (by decide) (off := 100) (by rw [c25]; decide) rfl ?_
            refine z_iload C 0 x_Mo_does_114 rfl ?_
            exact z_iret C x_Mo_does_116 h
          · refine z_lookup (tgt := 150) C x_Mo_does_14 (by decide) (off := 136) (by simp [Op.lookupswitch.offset_cons, Op.lookupswitch.offset, Ne.symm c3, Ne.symm c6, Ne.symm c11, Ne.symm c18, Ne.symm c25]) rfl ?_
            refine z_aload_n C 2 x_Mo_does_150 rfl ?_
            refine z_iload_n C 1 x_Mo_does_151 rfl ?_
            refine z_iload C 0 x_Mo_does_152 rfl ?_
            obtain ⟨v26, M27, fv26, h⟩ := bcall_e h
            refine z_callVv (k := 111) C x_Mo_does_154 cv_Mo_588 (t_Mo_both (lev := lev - 1) l G (by omega) fv26) nk_111 ck_111 rfl (by omega) rfl (i_le rfl) rfl ?_
            refine z_iload_n C 4 x_Mo_does_157 rfl ?_
            refine z_iconst C x_Mo_does_158 ?_
            refine z_iadd C x_Mo_does_159 ?_
            exact z_iret C x_Mo_does_160 h
theorem x_Mo_work_0 : DC b_Mo_work 0 (.iconst 0) 1 1 := ⟨by decide +kernel, rfl⟩
theorem x_Mo_work_1 : DC b_Mo_work 1 (.istore_n 3) 1 2 := ⟨by decide +kernel, rfl⟩
theorem x_Mo_work_2 : DC b_Mo_work 2 (.iload_n 3) 1 3 := ⟨by decide +kernel, rfl⟩
theorem x_Mo_work_3 : DC b_Mo_work 3 (.iload_n 2) 1 4 := ⟨by decide +kernel, rfl⟩
theorem x_Mo_work_4 : DC b_Mo_work 4 (.if_icmp .gt 97) 3 7 := ⟨by decide +kernel, rfl⟩
theorem x_Mo_work_7 : DC b_Mo_work 7 (.aload_n 0) 1 8 := ⟨by decide +kernel, rfl⟩
theorem x_Mo_work_8 : DC b_Mo_work 8 (.iconst 0) 1 9 := ⟨by decide +kernel, rfl⟩
theorem x_Mo_work_9 : DC b_Mo_work 9 (.putfield 578) 3 12 := ⟨by decide +kernel, rfl⟩
theorem x_Mo_work_12 : DC b_Mo_work 12 (.aload_n 0) 1 13 := ⟨by decide +kernel, rfl⟩
theorem x_Mo_work_13 : DC b_Mo_work 13 (.getfield 130) 3 16 := ⟨by decide +kernel, rfl⟩
theorem x_Mo_work_16 : DC b_Mo_work 16 (.bipush 11) 2 18 := ⟨by decide +kernel, rfl⟩
theorem x_Mo_work_18 : DC b_Mo_work 18 (.iload_n 1) 1 19 := ⟨by decide +kernel, rfl⟩
theorem x_Mo_work_19 : DC b_Mo_work 19 (.imul) 1 20 := ⟨by decide +kernel, rfl⟩
theorem x_Mo_work_20 : DC b_Mo_work 20 (.iload_n 3) 1 21 := ⟨by decide +kernel, rfl⟩
theorem x_Mo_work_21 : DC b_Mo_work 21 (.iadd) 1 22 := ⟨by decide +kernel, rfl⟩
theorem x_Mo_work_22 : DC b_Mo_work 22 (.iaload) 1 23 := ⟨by decide +kernel, rfl⟩
theorem x_Mo_work_23 : DC b_Mo_work 23 (.istore 4) 2 25 := ⟨by decide +kernel, rfl⟩
theorem x_Mo_work_25 : DC b_Mo_work 25 (.aload_n 0) 1 26 := ⟨by decide +kernel, rfl⟩
theorem x_Mo_work_26 : DC b_Mo_work 26 (.getfield 130) 3 29 := ⟨by decide +kernel, rfl⟩
theorem x_Mo_work_29 : DC b_Mo_work 29 (.bipush 11) 2 31 := ⟨by decide +kernel, rfl⟩
theorem x_Mo_work_31 : DC b_Mo_work 31 (.iload_n 1) 1 32 := ⟨by decide +kernel, rfl⟩
theorem x_Mo_work_32 : DC b_Mo_work 32 (.imul) 1 33 := ⟨by decide +kernel, rfl⟩
theorem x_Mo_work_33 : DC b_Mo_work 33 (.iload_n 3) 1 34 := ⟨by decide +kernel, rfl⟩
theorem x_Mo_work_34 : DC b_Mo_work 34 (.iadd) 1 35 := ⟨by decide +kernel, rfl⟩
theorem x_Mo_work_35 : DC b_Mo_work 35 (.iconst 1) 1 36 := ⟨by decide +kernel, rfl⟩
theorem x_Mo_work_36 : DC b_Mo_work 36 (.iadd) 1 37 := ⟨by decide +kernel, rfl⟩
theorem x_Mo_work_37 : DC b_Mo_work 37 (.iaload) 1 38 := ⟨by decide +kernel, rfl⟩
theorem x_Mo_work_38 : DC b_Mo_work 38 (.istore 5) 2 40 := ⟨by decide +kernel, rfl⟩
theorem x_Mo_work_40 : DC b_Mo_work 40 (.iload 4) 2 42 := ⟨by decide +kernel, rfl⟩
theorem x_Mo_work_42 : DC b_Mo_work 42 (.iload 5) 2 44 := ⟨by decide +kernel, rfl⟩
theorem x_Mo_work_44 : DC b_Mo_work 44 (.if_icmp .ge 27) 3 47 := ⟨by decide +kernel, rfl⟩
theorem x_Mo_work_47 : DC b_Mo_work 47 (.aload_n 0) 1 48 := ⟨by decide +kernel, rfl⟩
theorem x_Mo_work_48 : DC b_Mo_work 48 (.aload_n 0) 1 49 := ⟨by decide +kernel, rfl⟩
theorem x_Mo_work_49 : DC b_Mo_work 49 (.getfield 133) 3 52 := ⟨by decide +kernel, rfl⟩
theorem x_Mo_work_52 : DC b_Mo_work 52 (.sipush 1100) 3 55 := ⟨by decide +kernel, rfl⟩
theorem x_Mo_work_55 : DC b_Mo_work 55 (.iload_n 1) 1 56 := ⟨by decide +kernel, rfl⟩
theorem x_Mo_work_56 : DC b_Mo_work 56 (.imul) 1 57 := ⟨by decide +kernel, rfl⟩
theorem x_Mo_work_57 : DC b_Mo_work 57 (.iload 4) 2 59 := ⟨by decide +kernel, rfl⟩
theorem x_Mo_work_59 : DC b_Mo_work 59 (.iadd) 1 60 := ⟨by decide +kernel, rfl⟩
theorem x_Mo_work_60 : DC b_Mo_work 60 (.iaload) 1 61 := ⟨by decide +kernel, rfl⟩
theorem x_Mo_work_61 : DC b_Mo_work 61 (.iload 4) 2 63 := ⟨by decide +kernel, rfl⟩
theorem x_Mo_work_63 : DC b_Mo_work 63 (.invokevirtual 581) 3 66 := ⟨by decide +kernel, rfl⟩
theorem x_Mo_work_66 : DC b_Mo_work 66 (.istore 4) 2 68 := ⟨by decide +kernel, rfl⟩
theorem x_Mo_work_68 : DC b_Mo_work 68 (.goto (-28)) 3 71 := ⟨by decide +kernel, rfl⟩
theorem x_Mo_work_71 : DC b_Mo_work 71 (.aload_n 0) 1 72 := ⟨by decide +kernel, rfl⟩
theorem x_Mo_work_72 : DC b_Mo_work 72 (.getfield 154) 3 75 := ⟨by decide +kernel, rfl⟩
theorem x_Mo_work_75 : DC b_Mo_work 75 (.iload_n 3) 1 76 := ⟨by decide +kernel, rfl⟩
theorem x_Mo_work_76 : DC b_Mo_work 76 (.aload_n 0) 1 77 := ⟨by decide +kernel, rfl⟩
theorem x_Mo_work_77 : DC b_Mo_work 77 (.getfield 148) 3 80 := ⟨by decide +kernel, rfl⟩
theorem x_Mo_work_80 : DC b_Mo_work 80 (.iconst 0) 1 81 := ⟨by decide +kernel, rfl⟩
theorem x_Mo_work_81 : DC b_Mo_work 81 (.laload) 1 82 := ⟨by decide +kernel, rfl⟩
theorem x_Mo_work_82 : DC b_Mo_work 82 (.lastore) 1 83 := ⟨by decide +kernel, rfl⟩
theorem x_Mo_work_83 : DC b_Mo_work 83 (.aload_n 0) 1 84 := ⟨by decide +kernel, rfl⟩
theorem x_Mo_work_84 : DC b_Mo_work 84 (.getfield 161) 3 87 := ⟨by decide +kernel, rfl⟩
theorem x_Mo_work_87 : DC b_Mo_work 87 (.iload_n 3) 1 88 := ⟨by decide +kernel, rfl⟩
theorem x_Mo_work_88 : DC b_Mo_work 88 (.aload_n 0) 1 89 := ⟨by decide +kernel, rfl⟩
theorem x_Mo_work_89 : DC b_Mo_work 89 (.getfield 157) 3 92 := ⟨by decide +kernel, rfl⟩
theorem x_Mo_work_92 : DC b_Mo_work 92 (.iconst 0) 1 93 := ⟨by decide +kernel, rfl⟩
theorem x_Mo_work_93 : DC b_Mo_work 93 (.baload) 1 94 := ⟨by decide +kernel, rfl⟩
theorem x_Mo_work_94 : DC b_Mo_work 94 (.bastore) 1 95 := ⟨by decide +kernel, rfl⟩
theorem x_Mo_work_95 : DC b_Mo_work 95 (.iinc 3 1) 3 98 := ⟨by decide +kernel, rfl⟩
theorem x_Mo_work_98 : DC b_Mo_work 98 (.goto (-96)) 3 101 := ⟨by decide +kernel, rfl⟩
theorem x_Mo_work_101 : DC b_Mo_work 101 (.return_) 1 102 := ⟨by decide +kernel, rfl⟩
def k_Mo_work_40 (R2 : Int → Int → Int → Mem → Res) (R40 : Int → Int → Int → Int → Int → Mem → Res) (a1 a2 a3 a4 a5 : Int) (M : Mem) : Res := if w32 a4 < w32 a5 then (chk (0 ≤ w32 ((1100 * a1) + a4) ∧ w32 ((1100 * a1) + a4) < 4400) <| blet (M 150 (ix ((1100 * a1) + a4))) fun v3 => bcall (d_Mo_does v3 a4 M) fun v4 M5 => R40 a1 a2 a3 v4 a5 M5) else (blet (M 155 0) fun v6 => chk (0 ≤ w32 a3 ∧ w32 a3 < 10) <| blet (sto M 157 (ix a3) v6) fun M8 => blet (M8 158 0 % 2) fun v9 => chk (0 ≤ w32 a3 ∧ w32 a3 < 10) <| blet (sto M8 159 (ix a3) v9) fun M11 => blet (a3 + 1) fun v12 => R2 a1 a2 v12 M11)
theorem z_Mo_work_40 (C : Cx p s m args meth c G b_Mo_work 6 "PrairiePoolModel" none) (hlev : 3 ≤ lev) {r : Int × Mem} {R2 : Int → Int → Int → Mem → Res} {R40 : Int → Int → Int → Int → Int → Mem → Res} (hR2 : ∀ (a1 a2 a3 : Int) (M : Mem), R2 a1 a2 a3 M = some r → Z p l e lev s m args below meth c G 6 (MQ below (Qm G 0 r) args s 0 0 (Ab G)) M 2 [(0, .ref (G.1 + 111)), (1, vi a1), (2, vi a2), (3, vi a3)] []) (hR40 : ∀ (a1 a2 a3 a4 a5 : Int) (M : Mem), R40 a1 a2 a3 a4 a5 M = some r → Z p l e lev s m args below meth c G 6 (MQ below (Qm G 0 r) args s 0 0 (Ab G)) M 40 [(0, .ref (G.1 + 111)), (1, vi a1), (2, vi a2), (3, vi a3), (4, vi a4), (5, vi a5)] []) {a1 a2 a3 a4 a5 : Int} {M : Mem} (h : k_Mo_work_40 R2 R40 a1 a2 a3 a4 a5 M = some r) : Z p l e lev s m args below meth c G 6 (MQ below (Qm G 0 r) args s 0 0 (Ab G)) M 40 [(0, .ref (G.1 + 111)), (1, vi a1), (2, vi a2), (3, vi a3), (4, vi a4), (5, vi a5)] [] := by
  unfold k_Mo_work_40 at h
  refine z_iload C 4 x_Mo_work_40 rfl ?_
  refine z_iload C 5 x_Mo_work_42 rfl ?_
  rcases ite_e h with ⟨c1, h⟩ | ⟨c1, h⟩
  · refine z_icmp_ge_f (tgt := 71) C x_Mo_work_44 rfl c1 ?_
    refine z_aload_n C 0 x_Mo_work_47 rfl ?_
    refine z_aload_n C 0 x_Mo_work_48 rfl ?_
    refine z_getR (j := 62) C x_Mo_work_49 nk_111 ck_111 cw_12 (i_lt rfl) rfl rf_111_62 rfl fl_Mo_133 ?_
    refine z_sipush C rfl x_Mo_work_52 ?_
    refine z_iload_n C 1 x_Mo_work_55 rfl ?_
    refine z_imul C x_Mo_work_56 ?_
    refine z_iload C 4 x_Mo_work_57 rfl ?_
    refine z_iadd C x_Mo_work_59 ?_
    obtain ⟨c2, h⟩ := chk_e h
    obtain ⟨v3, ev3, h⟩ := blet_e h
    refine z_iald C x_Mo_work_60 nk_150 ck_150 c2 ev3 ?_
    refine z_iload C 4 x_Mo_work_61 rfl ?_
    obtain ⟨v4, M5, fv4, h⟩ := bcall_e h
    refine z_callVi (k := 111) C x_Mo_work_63 cv_Mo_581 (t_Mo_does (lev := lev - 1) l G (by omega) fv4) nk_111 ck_111 rfl (by omega) rfl (i_le rfl) rfl ?_
    refine z_istore (lv' := [(4, vi v4), (0, .ref (G.1 + 111)), (1, vi a1), (2, vi a2), (3, vi a3), (5, vi a5)]) C rfl x_Mo_work_66 (i_lt rfl) rfl ?_
    refine z_goto (tgt := 40) C x_Mo_work_68 rfl ?_
    exact z_sub [1, 2, 3, 4, 0, 5] rfl (hR40 a1 a2 a3 v4 a5 M5 h)
  · refine z_icmp_ge_t (tgt := 71) C x_Mo_work_44 rfl c1 ?_
    refine z_aload_n C 0 x_Mo_work_71 rfl ?_
    refine z_getR (j := 69) C x_Mo_work_72 nk_111 ck_111 cw_12 (i_lt rfl) rfl rf_111_69 rfl fl_Mo_154 ?_
    refine z_iload_n C 3 x_Mo_work_75 rfl ?_
    refine z_aload_n C 0 x_Mo_work_76 rfl ?_
    refine z_getR (j := 67) C x_Mo_work_77 nk_111 ck_111 cw_12 (i_lt rfl) rfl rf_111_67 rfl fl_Mo_148 ?_
    refine z_iconst C x_Mo_work_80 ?_
    obtain ⟨v6, ev6, h⟩ := blet_e h
    refine z_lald C x_Mo_work_81 nk_155 ck_155 (by decide) ev6 ?_
    obtain ⟨c7, h⟩ := chk_e h
    obtain ⟨M8, eM8, h⟩ := blet_e h
    refine z_last C x_Mo_work_82 nk_157 ck_157 c7 eM8 ?_
    refine z_aload_n C 0 x_Mo_work_83 rfl ?_
    refine z_getR (j := 71) C x_Mo_work_84 nk_111 ck_111 cw_12 (i_lt rfl) rfl rf_111_71 rfl fl_Mo_161 ?_
    refine z_iload_n C 3 x_Mo_work_87 rfl ?_
    refine z_aload_n C 0 x_Mo_work_88 rfl ?_
    refine z_getR (j := 70) C x_Mo_work_89 nk_111 ck_111 cw_12 (i_lt rfl) rfl rf_111_70 rfl fl_Mo_157 ?_
    refine z_iconst C x_Mo_work_92 ?_
    obtain ⟨v9, ev9, h⟩ := blet_e h
    refine z_zald C x_Mo_work_93 nk_158 ck_158 (by decide) ev9 ?_
    obtain ⟨c10, h⟩ := chk_e h
    obtain ⟨M11, eM11, h⟩ := blet_e h
    refine z_zast C x_Mo_work_94 nk_159 ck_159 c10 eM11 ?_
    obtain ⟨v12, ev12, h⟩ := blet_e h
    refine z_iinc (lv' := [(3, vi v12), (0, .ref (G.1 + 111)), (1, vi a1), (2, vi a2), (4, vi a4), (5, vi a5)]) C 3 ev12 x_Mo_work_95 rfl (i_lt rfl) rfl ?_
    refine z_goto (tgt := 2) C x_Mo_work_98 rfl ?_
    exact z_sub [1, 2, 3, 0] rfl (hR2 a1 a2 v12 M11 h)
theorem zl_Mo_work_40 (C : Cx p s m args meth c G b_Mo_work 6 "PrairiePoolModel" none) (hlev : 3 ≤ lev) {r : Int × Mem} {R2 : Int → Int → Int → Mem → Res} (hR2 : ∀ (a1 a2 a3 : Int) (M : Mem), R2 a1 a2 a3 M = some r → Z p l e lev s m args below meth c G 6 (MQ below (Qm G 0 r) args s 0 0 (Ab G)) M 2 [(0, .ref (G.1 + 111)), (1, vi a1), (2, vi a2), (3, vi a3)] []) : ∀ (n : Nat) (a1 a2 a3 a4 a5 : Int) (M : Mem), fix (fun _ _ _ _ _ _ => none) (k_Mo_work_40 R2) n a1 a2 a3 a4 a5 M = some r → Z p l e lev s m args below meth c G 6 (MQ below (Qm G 0 r) args s 0 0 (Ab G)) M 40 [(0, .ref (G.1 + 111)), (1, vi a1), (2, vi a2), (3, vi a3), (4, vi a4), (5, vi a5)] [] := by
  intro n
  induction n with
  | zero => intro a1 a2 a3 a4 a5 M h; exact nomatch (show (none : Res) = some r from h)
  | succ n ih => intro a1 a2 a3 a4 a5 M h; exact z_Mo_work_40 C hlev hR2 ih h
def k_Mo_work_2 (R2 : Int → Int → Int → Mem → Res) (a1 a2 a3 : Int) (M : Mem) : Res := if w32 a2 < w32 a3 then (some (0, M)) else (blet (sto M 111 72 0) fun M2 => chk (0 ≤ w32 ((11 * a1) + a3) ∧ w32 ((11 * a1) + a3) < 44) <| blet (M2 149 (ix ((11 * a1) + a3))) fun v4 => chk (0 ≤ w32 (((11 * a1) + a3) + 1) ∧ w32 (((11 * a1) + a3) + 1) < 44) <| blet (M2 149 (ix (((11 * a1) + a3) + 1))) fun v6 => fix (fun _ _ _ _ _ _ => none) (k_Mo_work_40 R2) FU a1 a2 a3 v4 v6 M2)
theorem z_Mo_work_2 (C : Cx p s m args meth c G b_Mo_work 6 "PrairiePoolModel" none) (hlev : 3 ≤ lev) {r : Int × Mem} {R2 : Int → Int → Int → Mem → Res} (hR2 : ∀ (a1 a2 a3 : Int) (M : Mem), R2 a1 a2 a3 M = some r → Z p l e lev s m args below meth c G 6 (MQ below (Qm G 0 r) args s 0 0 (Ab G)) M 2 [(0, .ref (G.1 + 111)), (1, vi a1), (2, vi a2), (3, vi a3)] []) {a1 a2 a3 : Int} {M : Mem} (h : k_Mo_work_2 R2 a1 a2 a3 M = some r) : Z p l e lev s m args below meth c G 6 (MQ below (Qm G 0 r) args s 0 0 (Ab G)) M 2 [(0, .ref (G.1 + 111)), (1, vi a1), (2, vi a2), (3, vi a3)] [] := by
  unfold k_Mo_work_2 at h
  refine z_iload_n C 3 x_Mo_work_2 rfl ?_
  refine z_iload_n C 2 x_Mo_work_3 rfl ?_
  rcases ite_e h with ⟨c1, h⟩ | ⟨c1, h⟩
  · refine z_icmp_gt_t (tgt := 101) C x_Mo_work_4 rfl c1 ?_
    exact z_vret C x_Mo_work_101 h
  · refine z_icmp_gt_f (tgt := 101) C x_Mo_work_4 rfl c1 ?_
    refine z_aload_n C 0 x_Mo_work_7 rfl ?_
    refine z_iconst C x_Mo_work_8 ?_
    obtain ⟨M2, eM2, h⟩ := blet_e h
    refine z_putI (j := 72) C x_Mo_work_9 nk_111 ck_111 cw_12 (i_lt rfl) rfl rfl rfl rfl fl_Mo_578 eM2 ?_
    refine z_aload_n C 0 x_Mo_work_12 rfl ?_
    refine z_getR (j := 61) C x_Mo_work_13 nk_111 ck_111 cw_12 (i_lt rfl) rfl rf_111_61 rfl fl_Mo_130 ?_
    refine z_bipush C rfl x_Mo_work_16 ?_
    refine z_iload_n C 1 x_Mo_work_18 rfl ?_
    refine z_imul C x_Mo_work_19 ?_
    refine z_iload_n C 3 x_Mo_work_20 rfl ?_
    refine z_iadd C x_Mo_work_21 ?_
    obtain ⟨c3, h⟩ := chk_e h
    obtain ⟨v4, ev4, h⟩ := blet_e h
    refine z_iald C x_Mo_work_22 nk_149 ck_149 c3 ev4 ?_
    refine z_istore (lv' := [(4, vi v4), (0, .ref (G.1 + 111)), (1, vi a1), (2, vi a2), (3, vi a3)]) C rfl x_Mo_work_23 (i_lt rfl) rfl ?_
    refine z_aload_n C 1 x_Mo_work_25 rfl ?_
    refine z_getR (j := 61) C x_Mo_work_26 nk_111 ck_111 cw_12 (i_lt rfl) rfl rf_111_61 rfl fl_Mo_130 ?_
    refine z_bipush C rfl x_Mo_work_29 ?_
    refine z_iload_n C 2 x_Mo_work_31 rfl ?_
    refine z_imul C x_Mo_work_32 ?_
    refine z_iload_n C 4 x_Mo_work_33 rfl ?_
    refine z_iadd C x_Mo_work_34 ?_
    refine z_iconst C x_Mo_work_35 ?_
    refine z_iadd C x_Mo_work_36 ?_
    obtain ⟨c5, h⟩ := chk_e h
    obtain ⟨v6, ev6, h⟩ := blet_e h
    refine z_iald C x_Mo_work_37 nk_149 ck_149 c5 ev6 ?_
    refine z_istore (lv' := [(5, vi v6), (4, vi v4), (0, .ref (G.1 + 111)), (1, vi a1), (2, vi a2), (3, vi a3)]) C rfl x_Mo_work_38 (i_lt rfl) rfl ?_
    exact z_sub [2, 3, 4, 5, 1, 0] rfl (zl_Mo_work_40 C hlev hR2 FU a1 a2 a3 v4 v6 M2 h)
theorem zl_Mo_work_2 (C : Cx p s m args meth c G b_Mo_work 6 "PrairiePoolModel" none) (hlev : 3 ≤ lev) {r : Int × Mem}  : ∀ (n : Nat) (a1 a2 a3 : Int) (M : Mem), fix (fun _ _ _ _ => none) (k_Mo_work_2) n a1 a2 a3 M = some r → Z p l e lev s m args below meth c G 6 (MQ below (Qm G 0 r) args s 0 0 (Ab G)) M 2 [(0, .ref (G.1 + 111)), (1, vi a1), (2, vi a2), (3, vi a3)] [] := by
  intro n
  induction n with
  | zero => intro a1 a2 a3 M h; exact nomatch (show (none : Res) = some r from h)
  | succ n ih => intro a1 a2 a3 M h; exact z_Mo_work_2 C hlev ih h
def d_Mo_work (a1 a2 : Int) (M : Mem) : Res := fix (fun _ _ _ _ => none) (k_Mo_work_2) FU a1 a2 0 M
theorem t_Mo_work (l : Launch) (G : GX) {lev : Nat} (hlev : 3 ≤ lev) {a1 a2 : Int} {M : Mem} {r : Int × Mem} (h : d_Mo_work a1 a2 M = some r) : Mt l G y_Mo_work b_Mo_work 6 none lev 0 [.ref (G.1 + 111), vi a1, vi a2] M r := by
  refine Mt.of (by decide) (i_le rfl) ?_
  intro p e s m args below meth c C
  have C : Cx p s m args meth c G b_Mo_work 6 "PrairiePoolModel" none := C
  unfold d_Mo_work at h
  refine z_sub (lv' := [(0, .ref (G.1 + 111)), (1, vi a1), (2, vi a2)]) [0, 1, 2] rfl ?_
  refine z_iconst C x_Mo_work_0 ?_
  refine z_istore_n (lv' := [(3, vi 0), (0, .ref (G.1 + 111)), (1, vi a1), (2, vi a2)]) C rfl x_Mo_work_1 (i_lt rfl) rfl ?_
  exact z_sub [1, 2, 3, 0] rfl (zl_Mo_work_2 C hlev FU a1 a2 0 M h)
theorem x_Mo_told_0 : DC b_Mo_told 0 (.aload_n 0) 1 1 := ⟨by decide +kernel, rfl⟩
theorem x_Mo_told_1 : DC b_Mo_told 1 (.iconst 0) 1 2 := ⟨by decide +kernel, rfl⟩
theorem x_Mo_told_2 : DC b_Mo_told 2 (.putfield 568) 3 5 := ⟨by decide +kernel, rfl⟩
theorem x_Mo_told_5 : DC b_Mo_told 5 (.aload_n 0) 1 6 := ⟨by decide +kernel, rfl⟩
theorem x_Mo_told_6 : DC b_Mo_told 6 (.iload_n 3) 1 7 := ⟨by decide +kernel, rfl⟩
theorem x_Mo_told_7 : DC b_Mo_told 7 (.invokevirtual 572) 3 10 := ⟨by decide +kernel, rfl⟩
theorem x_Mo_told_10 : DC b_Mo_told 10 (.istore 6) 2 12 := ⟨by decide +kernel, rfl⟩
theorem x_Mo_told_12 : DC b_Mo_told 12 (.iconst (-1)) 1 13 := ⟨by decide +kernel, rfl⟩
theorem x_Mo_told_13 : DC b_Mo_told 13 (.istore 7) 2 15 := ⟨by decide +kernel, rfl⟩
theorem x_Mo_told_15 : DC b_Mo_told 15 (.iconst 0) 1 16 := ⟨by decide +kernel, rfl⟩
theorem x_Mo_told_16 : DC b_Mo_told 16 (.istore 8) 2 18 := ⟨by decide +kernel, rfl⟩
theorem x_Mo_told_18 : DC b_Mo_told 18 (.iload 6) 2 20 := ⟨by decide +kernel, rfl⟩
theorem x_Mo_told_20 : DC b_Mo_told 20 (.ifCond .lt 43) 3 23 := ⟨by decide +kernel, rfl⟩
theorem x_Mo_told_23 : DC b_Mo_told 23 (.iload 8) 2 25 := ⟨by decide +kernel, rfl⟩
theorem x_Mo_told_25 : DC b_Mo_told 25 (.aload_n 0) 1 26 := ⟨by decide +kernel, rfl⟩
theorem x_Mo_told_26 : DC b_Mo_told 26 (.getfield 127) 3 29 := ⟨by decide +kernel, rfl⟩
theorem x_Mo_told_29 : DC b_Mo_told 29 (.iload 6) 2 31 := ⟨by decide +kernel, rfl⟩
theorem x_Mo_told_31 : DC b_Mo_told 31 (.iaload) 1 32 := ⟨by decide +kernel, rfl⟩
theorem x_Mo_told_32 : DC b_Mo_told 32 (.if_icmp .ge 31) 3 35 := ⟨by decide +kernel, rfl⟩
theorem x_Mo_told_35 : DC b_Mo_told 35 (.aload_n 0) 1 36 := ⟨by decide +kernel, rfl⟩
theorem x_Mo_told_36 : DC b_Mo_told 36 (.getfield 142) 3 39 := ⟨by decide +kernel, rfl⟩
theorem x_Mo_told_39 : DC b_Mo_told 39 (.bipush 10) 2 41 := ⟨by decide +kernel, rfl⟩
theorem x_Mo_told_41 : DC b_Mo_told 41 (.iload 6) 2 43 := ⟨by decide +kernel, rfl⟩
theorem x_Mo_told_43 : DC b_Mo_told 43 (.imul) 1 44 := ⟨by decide +kernel, rfl⟩
theorem x_Mo_told_44 : DC b_Mo_told 44 (.iload 8) 2 46 := ⟨by decide +kernel, rfl⟩
theorem x_Mo_told_46 : DC b_Mo_told 46 (.iadd) 1 47 := ⟨by decide +kernel, rfl⟩
theorem x_Mo_told_47 : DC b_Mo_told 47 (.laload) 1 48 := ⟨by decide +kernel, rfl⟩
theorem x_Mo_told_48 : DC b_Mo_told 48 (.lload_n 1) 1 49 := ⟨by decide +kernel, rfl⟩
theorem x_Mo_told_49 : DC b_Mo_told 49 (.lcmp) 1 50 := ⟨by decide +kernel, rfl⟩
theorem x_Mo_told_50 : DC b_Mo_told 50 (.ifCond .ne 7) 3 53 := ⟨by decide +kernel, rfl⟩
theorem x_Mo_told_53 : DC b_Mo_told 53 (.iload 8) 2 55 := ⟨by decide +kernel, rfl⟩
theorem x_Mo_told_55 : DC b_Mo_told 55 (.istore 7) 2 57 := ⟨by decide +kernel, rfl⟩
theorem x_Mo_told_57 : DC b_Mo_told 57 (.iinc 8 1) 3 60 := ⟨by decide +kernel, rfl⟩
theorem x_Mo_told_60 : DC b_Mo_told 60 (.goto (-42)) 3 63 := ⟨by decide +kernel, rfl⟩
theorem x_Mo_told_63 : DC b_Mo_told 63 (.iload 7) 2 65 := ⟨by decide +kernel, rfl⟩
theorem x_Mo_told_65 : DC b_Mo_told 65 (.ifCond .ge 6) 3 68 := ⟨by decide +kernel, rfl⟩
theorem x_Mo_told_68 : DC b_Mo_told 68 (.lload 4) 2 70 := ⟨by decide +kernel, rfl⟩
theorem x_Mo_told_70 : DC b_Mo_told 70 (.lreturn) 1 71 := ⟨by decide +kernel, rfl⟩
theorem x_Mo_told_71 : DC b_Mo_told 71 (.aload_n 0) 1 72 := ⟨by decide +kernel, rfl⟩
theorem x_Mo_told_72 : DC b_Mo_told 72 (.iload 6) 2 74 := ⟨by decide +kernel, rfl⟩
theorem x_Mo_told_74 : DC b_Mo_told 74 (.iload 7) 2 76 := ⟨by decide +kernel, rfl⟩
theorem x_Mo_told_76 : DC b_Mo_told 76 (.invokevirtual 575) 3 79 := ⟨by decide +kernel, rfl⟩
theorem x_Mo_told_79 : DC b_Mo_told 79 (.aload_n 0) 1 80 := ⟨by decide +kernel, rfl⟩
theorem x_Mo_told_80 : DC b_Mo_told 80 (.aload_n 0) 1 81 := ⟨by decide +kernel, rfl⟩
theorem x_Mo_told_81 : DC b_Mo_told 81 (.getfield 161) 3 84 := ⟨by decide +kernel, rfl⟩
theorem x_Mo_told_84 : DC b_Mo_told 84 (.iload 7) 2 86 := ⟨by decide +kernel, rfl⟩
theorem x_Mo_told_86 : DC b_Mo_told 86 (.baload) 1 87 := ⟨by decide +kernel, rfl⟩
theorem x_Mo_told_87 : DC b_Mo_told 87 (.putfield 568) 3 90 := ⟨by decide +kernel, rfl⟩
theorem x_Mo_told_90 : DC b_Mo_told 90 (.aload_n 0) 1 91 := ⟨by decide +kernel, rfl⟩
theorem x_Mo_told_91 : DC b_Mo_told 91 (.getfield 568) 3 94 := ⟨by decide +kernel, rfl⟩
theorem x_Mo_told_94 : DC b_Mo_told 94 (.ifCond .eq 8) 3 97 := ⟨by decide +kernel, rfl⟩
theorem x_Mo_told_97 : DC b_Mo_told 97 (.lload 4) 2 99 := ⟨by decide +kernel, rfl⟩
theorem x_Mo_told_99 : DC b_Mo_told 99 (.goto 10) 3 102 := ⟨by decide +kernel, rfl⟩
theorem x_Mo_told_102 : DC b_Mo_told 102 (.aload_n 0) 1 103 := ⟨by decide +kernel, rfl⟩
theorem x_Mo_told_103 : DC b_Mo_told 103 (.getfield 154) 3 106 := ⟨by decide +kernel, rfl⟩
theorem x_Mo_told_106 : DC b_Mo_told 106 (.iload 7) 2 108 := ⟨by decide +kernel, rfl⟩
theorem x_Mo_told_108 : DC b_Mo_told 108 (.laload) 1 109 := ⟨by decide +kernel, rfl⟩
theorem x_Mo_told_109 : DC b_Mo_told 109 (.lreturn) 1 110 := ⟨by decide +kernel, rfl⟩
def k_Mo_told_63 (a4 a6 a7 : Int) (M : Mem) : Res := if w32 a7 < 0 then (some (a4, M)) else (bcall (d_Mo_work a6 a7 M) fun v2 M3 => chk (0 ≤ w32 a7 ∧ w32 a7 < 10) <| blet (M3 159 (ix a7) % 2) fun v5 => chk (w32 v5 = 0 ∨ w32 v5 = 1) <| blet (sto M3 111 108 v5) fun M7 => blet (M7 111 108) fun v8 => if w32 v8 = 0 then (chk (0 ≤ w32 a7 ∧ w32 a7 < 10) <| blet (M7 157 (ix a7)) fun v11 => some (v11, M7)) else (some (a4, M7)))
theorem z_Mo_told_63 (C : Cx p s m args meth c G b_Mo_told 9 "PrairiePoolModel" (some .long)) (hlev : 4 ≤ lev) {r : Int × Mem}  {a4 a6 a7 : Int} {M : Mem} (h : k_Mo_told_63 a4 a6 a7 M = some r) : Z p l e lev s m args below meth c G 9 (MQ below (Qm G 2 r) args s 0 0 (Ab G)) M 63 [(0, .ref (G.1 + 111)), (4, vl a4), (6, vi a6), (7, vi a7)] [] := by
  unfold k_Mo_told_63 at h
  refine z_iload C 3 x_Mo_told_63 rfl ?_
  rcases ite_e h with ⟨c1, h⟩ | ⟨c1, h⟩
  · refine z_if_ge_f (tgt := 71) C x_Mo_told_65 rfl c1 ?_
    refine z_lload C 1 x_Mo_told_68 rfl ?_
    exact z_lret C x_Mo_told_70 h
  · refine z_if_ge_t (tgt := 71) C x_Mo_told_65 rfl c1 ?_
    refine z_aload_n C 0 x_Mo_told_71 rfl ?_
    refine z_iload C 2 x_Mo_told_72 rfl ?_
    refine z_iload C 3 x_Mo_told_74 rfl ?_
    obtain ⟨v2, M3, fv2, h⟩ := bcall_e h
    refine z_callVv (k := 111) C x_Mo_told_76 cv_Mo_575 (t_Mo_work (lev := lev - 1) l G (by omega) fv2) nk_111 ck_111 rfl (by omega) rfl (i_le rfl) rfl ?_
    refine z_aload_n C 0 x_Mo_told_79 rfl ?_
    refine z_aload_n C 0 x_Mo_told_80 rfl ?_
    refine z_getR (j := 71) C x_Mo_told_81 nk_111 ck_111 cw_12 (i_lt rfl) rfl rf_111_71 rfl fl_Mo_161 ?_
    refine z_iload C 3 x_Mo_told_84 rfl ?_
    obtain ⟨c4, h⟩ := chk_e h
    obtain ⟨v5, ev5, h⟩ := blet_e h
    refine z_zald C x_Mo_told_86 nk_159 ck_159 c4 ev5 ?_
    obtain ⟨c6, h⟩ := chk_e h
    obtain ⟨M7, eM7, h⟩ := blet_e h
    refine z_putZ (j := 108) C x_Mo_told_87 nk_111 ck_111 cw_12 (i_lt rfl) rfl rfl rfl c6 rfl fl_Mo_568 eM7 ?_
    refine z_aload_n C 0 x_Mo_told_90 rfl ?_
    obtain ⟨v8, ev8, h⟩ := blet_e h
    refine z_getI (j := 108) C x_Mo_told_91 nk_111 ck_111 cw_12 (i_lt rfl) rfl rfl fl_Mo_568 ev8 ?_
    rcases ite_e h with ⟨c9, h⟩ | ⟨c9, h⟩
    · refine z_if_eq_t (tgt := 102) C x_Mo_told_94 rfl c9 ?_
      refine z_aload_n C 0 x_Mo_told_102 rfl ?_
      refine z_getR (j := 69) C x_Mo_told_103 nk_111 ck_111 cw_12 (i_lt rfl) rfl rf_111_69 rfl fl_Mo_154 ?_
      refine z_iload C 3 x_Mo_told_106 rfl ?_
      obtain ⟨c10, h⟩ := chk_e h
      obtain ⟨v11, ev11, h⟩ := blet_e h
      refine z_lald C x_Mo_told_108 nk_157 ck_157 c10 ev11 ?_
      exact z_lret C x_Mo_told_109 h
    · refine z_if_eq_f (tgt := 102) C x_Mo_told_94 rfl c9 ?_
      refine z_lload C 1 x_Mo_told_97 rfl ?_
      refine z_goto (tgt := 109) C x_Mo_told_99 rfl ?_
      exact z_lret C x_Mo_told_109 h
def k_Mo_told_57 (R18 : Int → Int → Int → Int → Int → Mem → Res) (a1 a4 a6 a7 a8 : Int) (M : Mem) : Res := blet (a8 + 1) fun v1 => R18 a1 a4 a6 a7 v1 M
theorem z_Mo_told_57 (C : Cx p s m args meth c G b_Mo_told 9 "PrairiePoolModel" (some .long)) (hlev : 4 ≤ lev) {r : Int × Mem} {R18 : Int → Int → Int → Int → Int → Mem → Res} (hR18 : ∀ (a1 a4 a6 a7 a8 : Int) (M : Mem), R18 a1 a4 a6 a7 a8 M = some r → Z p l e lev s m args below meth c G 9 (MQ below (Qm G 2 r) args s 0 0 (Ab G)) M 18 [(0, .ref (G.1 + 111)), (1, vl a1), (4, vl a4), (6, vi a6), (7, vi a7), (8, vi a8)] []) {a1 a4 a6 a7 a8 : Int} {M : Mem} (h : k_Mo_told_57 R18 a1 a4 a6 a7 a8 M = some r) : Z p l e lev s m args below meth c G 9 (MQ below (Qm G 2 r) args s 0 0 (Ab G)) M 57 [(0, .ref (G.1 + 111)), (1, vl a1), (4, vl a4), (6, vi a6), (7, vi a7), (8, vi a8)] [] := by
  unfold k_Mo_told_57 at h
  obtain ⟨v1, ev1, h⟩ := blet_e h
  refine z_iinc (lv' := [(8, vi v1), (0, .ref (G.1 + 111)), (1, vl a1), (4, vl a4), (6, vi a6), (7, vi a7)]) C 5 ev1 x_Mo_told_57 rfl (i_lt rfl) rfl ?_
  refine z_goto (tgt := 18) C x_Mo_told_60 rfl ?_
  exact z_sub [1, 2, 3, 4, 5, 0] rfl (hR18 a1 a4 a6 a7 v1 M h)
def k_Mo_told_18 (R18 : Int → Int → Int → Int → Int → Mem → Res) (a1 a4 a6 a7 a8 : Int) (M : Mem) : Res := if w32 a6 < 0 then (k_Mo_told_63 a4 a6 a7 M) else (chk (0 ≤ w32 a6 ∧ w32 a6 < 4) <| blet (M 148 (ix a6)) fun v3 => if w32 a8 < w32 v3 then (chk (0 ≤ w32 ((10 * a6) + a8) ∧ w32 ((10 * a6) + a8) < 40) <| blet (M 153 (ix ((10 * a6) + a8))) fun v6 => if w64 v6 = w64 a1 then (k_Mo_told_57 R18 a1 a4 a6 a8 a8 M) else (k_Mo_told_57 R18 a1 a4 a6 a7 a8 M)) else (k_Mo_told_63 a4 a6 a7 M))
theorem z_Mo_told_18 (C : Cx p s m args meth c G b_Mo_told 9 "PrairiePoolModel" (some .long)) (hlev : 4 ≤ lev) {r : Int × Mem} {R18 : Int → Int → Int → Int → Int → Mem → Res} (hR18 : ∀ (a1 a4 a6 a7 a8 : Int) (M : Mem), R18 a1 a4 a6 a7 a8 M = some r → Z p l e lev s m args below meth c G 9 (MQ below (Qm G 2 r) args s 0 0 (Ab G)) M 18 [(0, .ref (G.1 + 111)), (1, vl a1), (4, vl a4), (6, vi a6), (7, vi a7), (8, vi a8)] []) {a1 a4 a6 a7 a8 : Int} {M : Mem} (h : k_Mo_told_18 R18 a1 a4 a6 a7 a8 M = some r) : Z p l e lev s m args below meth c G 9 (MQ below (Qm G 2 r) args s 0 0 (Ab G)) M 18 [(0, .ref (G.1 + 111)), (1, vl a1), (4, vl a4), (6, vi a6), (7, vi a7), (8, vi a8)] [] := by
  unfold k_Mo_told_18 at h
  refine z_iload C 3 x_Mo_told_18 rfl ?_
  rcases ite_e h with ⟨c1, h⟩ | ⟨c1, h⟩
  · refine z_if_lt_t (tgt := 63) C x_Mo_told_20 rfl c1 ?_
    exact z_sub [0, 2, 3, 4] rfl (z_Mo_told_63 C hlev h)
  · refine z_if_lt_f (tgt := 63) C x_Mo_told_20 rfl c1 ?_
    refine z_iload C 5 x_Mo_told_23 rfl ?_
    refine z_aload_n C 0 x_Mo_told_25 rfl ?_
    refine z_getR (j := 60) C x_Mo_told_26 nk_111 ck_111 cw_12 (i_lt rfl) rfl rf_111_60 rfl fl_Mo_127 ?_
    refine z_iload C 3 x_Mo_told_29 rfl ?_
    obtain ⟨c2, h⟩ := chk_e h
    obtain ⟨v3, ev3, h⟩ := blet_e h
    refine z_iald C x_Mo_told_31 nk_148 ck_148 c2 ev3 ?_
    rcases ite_e h with ⟨c4, h⟩ | ⟨c4, h⟩
    · refine z_icmp_ge_f (tgt := 63) C x_Mo_told_32 rfl c4 ?_
      refine z_aload_n C 0 x_Mo_told_35 rfl ?_
      refine z_getR (j := 65) C x_Mo_told_36 nk_111 ck_111 cw_12 (i_lt rfl) rfl rf_111_65 rfl fl_Mo_142 ?_
      refine z_bipush C rfl x_Mo_told_39 ?_
      refine z_iload C 3 x_Mo_told_41 rfl ?_
      refine z_imul C x_Mo_told_43 ?_
      refine z_iload C 5 x_Mo_told_44 rfl ?_
      refine z_iadd C x_Mo_told_46 ?_
      obtain ⟨c5, h⟩ := chk_e h
      obtain ⟨v6, ev6, h⟩ := blet_e h
      refine z_lald C x_Mo_told_47 nk_153 ck_153 c5 ev6 ?_
      refine z_lload_n C 1 x_Mo_told_48 rfl ?_
      refine z_lcmp C x_Mo_told_49 ?_
      rcases ite_e h with ⟨c7, h⟩ | ⟨c7, h⟩
      · refine z_if_ne_f (tgt := 57) C x_Mo_told_50 rfl (cm_eqz.mpr c7) ?_
        refine z_iload C 5 x_Mo_told_53 rfl ?_
        refine z_istore (lv' := [(7, vi a8), (0, .ref (G.1 + 111)), (1, vl a1), (4, vl a4), (6, vi a6), (8, vi a8)]) C rfl x_Mo_told_55 (i_lt rfl) rfl ?_
        exact z_sub [1, 2, 3, 4, 0, 5] rfl (z_Mo_told_57 C hlev hR18 h)
      · refine z_if_ne_t (tgt := 57) C x_Mo_told_50 rfl (fun q => c7 (cm_eqz.mp q)) ?_
        exact z_sub [0, 1, 2, 3, 4, 5] rfl (z_Mo_told_57 C hlev hR18 h)
    · refine z_icmp_ge_t (tgt := 63) C x_Mo_told_32 rfl c4 ?_
      exact z_sub [0, 2, 3, 4] rfl (z_Mo_told_63 C hlev h)
theorem zl_Mo_told_18 (C : Cx p s m args meth c G b_Mo_told 9 "PrairiePoolModel" (some .long)) (hlev : 4 ≤ lev) {r : Int × Mem}  : ∀ (n : Nat) (a1 a4 a6 a7 a8 : Int) (M : Mem), fix (fun _ _ _ _ _ _ => none) (k_Mo_told_18) n a1 a4 a6 a7 a8 M = some r → Z p l e lev s m args below meth c G 9 (MQ below (Qm G 2 r) args s 0 0 (Ab G)) M 18 [(0, .ref (G.1 + 111)), (1, vl a1), (4, vl a4), (6, vi a6), (7, vi a7), (8, vi a8)] [] := by
  intro n
  induction n with
  | zero => intro a1 a4 a6 a7 a8 M h; exact nomatch (show (none : Res) = some r from h)
  | succ n ih => intro a1 a4 a6 a7 a8 M h; exact z_Mo_told_18 C hlev ih h
def d_Mo_told (a1 a3 a4 : Int) (M : Mem) : Res := blet (sto M 111 108 0) fun M1 => bcall (d_Mo_force a3 M1) fun v2 M3 => fix (fun _ _ _ _ _ _ => none) (k_Mo_told_18) FU a1 a4 v2 (-1) 0 M3
theorem t_Mo_told (l : Launch) (G : GX) {lev : Nat} (hlev : 4 ≤ lev) {a1 a3 a4 : Int} {M : Mem} {r : Int × Mem} (h : d_Mo_told a1 a3 a4 M = some r) : Mt l G y_Mo_told b_Mo_told 9 (some .long) lev 2 [.ref (G.1 + 111), vl a1, vi a3, vl a4] M r := by
  refine Mt.of (by decide) (i_le rfl) ?_
  intro p e s m args below meth c C
  have C : Cx p s m args meth c G b_Mo_told 9 "PrairiePoolModel" (some .long) := C
  unfold d_Mo_told at h
  refine z_sub (lv' := [(0, .ref (G.1 + 111)), (1, vl a1), (3, vi a3), (4, vl a4)]) [0, 1, 2, 3] rfl ?_
  refine z_aload_n C 0 x_Mo_told_0 rfl ?_
  refine z_iconst C x_Mo_told_1 ?_
  obtain ⟨M1, eM1, h⟩ := blet_e h
  refine z_putZ (j := 108) C x_Mo_told_2 nk_111 ck_111 cw_12 (i_lt rfl) rfl rfl rfl (by decide) rfl fl_Mo_568 eM1 ?_
  refine z_aload_n C 0 x_Mo_told_5 rfl ?_
  refine z_iload_n C 2 x_Mo_told_6 rfl ?_
  obtain ⟨v2, M3, fv2, h⟩ := bcall_e h
  refine z_callVi (k := 111) C x_Mo_told_7 cv_Mo_572 (t_Mo_force (lev := lev - 1) l G (by omega) fv2) nk_111 ck_111 rfl (by omega) rfl (i_le rfl) rfl ?_
  refine z_istore (lv' := [(6, vi v2), (0, .ref (G.1 + 111)), (1, vl a1), (3, vi a3), (4, vl a4)]) C rfl x_Mo_told_10 (i_lt rfl) rfl ?_
  refine z_iconst C x_Mo_told_12 ?_
  refine z_istore (lv' := [(7, vi (-1)), (6, vi v2), (0, .ref (G.1 + 111)), (1, vl a1), (3, vi a3), (4, vl a4)]) C rfl x_Mo_told_13 (i_lt rfl) rfl ?_
  refine z_iconst C x_Mo_told_15 ?_
  refine z_istore (lv' := [(8, vi 0), (7, vi (-1)), (6, vi v2), (0, .ref (G.1 + 111)), (1, vl a1), (3, vi a3), (4, vl a4)]) C rfl x_Mo_told_16 (i_lt rfl) rfl ?_
  exact z_sub [3, 4, 6, 2, 1, 0] rfl (zl_Mo_told_18 C hlev FU a1 a4 v2 (-1) 0 M3 h)
theorem x_Mo_cut1_0 : DC b_Mo_cut1 0 (.lload_n 0) 1 1 := ⟨by decide +kernel, rfl⟩
theorem x_Mo_cut1_1 : DC b_Mo_cut1 1 (.lload_n 2) 1 2 := ⟨by decide +kernel, rfl⟩
theorem x_Mo_cut1_2 : DC b_Mo_cut1 2 (.lcmp) 1 3 := ⟨by decide +kernel, rfl⟩
theorem x_Mo_cut1_3 : DC b_Mo_cut1 3 (.ifCond .ge 7) 3 6 := ⟨by decide +kernel, rfl⟩
theorem x_Mo_cut1_6 : DC b_Mo_cut1 6 (.lload_n 2) 1 7 := ⟨by decide +kernel, rfl⟩
theorem x_Mo_cut1_7 : DC b_Mo_cut1 7 (.goto 16) 3 10 := ⟨by decide +kernel, rfl⟩
theorem x_Mo_cut1_10 : DC b_Mo_cut1 10 (.lload_n 0) 1 11 := ⟨by decide +kernel, rfl⟩
theorem x_Mo_cut1_11 : DC b_Mo_cut1 11 (.lload 4) 2 13 := ⟨by decide +kernel, rfl⟩
theorem x_Mo_cut1_13 : DC b_Mo_cut1 13 (.lcmp) 1 14 := ⟨by decide +kernel, rfl⟩
theorem x_Mo_cut1_14 : DC b_Mo_cut1 14 (.ifCond .le 8) 3 17 := ⟨by decide +kernel, rfl⟩
theorem x_Mo_cut1_17 : DC b_Mo_cut1 17 (.lload 4) 2 19 := ⟨by decide +kernel, rfl⟩
theorem x_Mo_cut1_19 : DC b_Mo_cut1 19 (.goto 4) 3 22 := ⟨by decide +kernel, rfl⟩
theorem x_Mo_cut1_22 : DC b_Mo_cut1 22 (.lload_n 0) 1 23 := ⟨by decide +kernel, rfl⟩
theorem x_Mo_cut1_23 : DC b_Mo_cut1 23 (.lreturn) 1 24 := ⟨by decide +kernel, rfl⟩
def d_Mo_cut1 (a0 a2 a4 : Int) (M : Mem) : Res := if w64 a0 < w64 a2 then (some (a2, M)) else (if w64 a4 < w64 a0 then (some (a4, M)) else (some (a0, M)))
theorem t_Mo_cut1 (l : Launch) (G : GX) {lev : Nat} (hlev : 0 ≤ lev) {a0 a2 a4 : Int} {M : Mem} {r : Int × Mem} (h : d_Mo_cut1 a0 a2 a4 M = some r) : Mt l G y_Mo_cut1 b_Mo_cut1 6 (some .long) lev 2 [vl a0, vl a2, vl a4] M r := by
  refine Mt.of (by decide) (i_le rfl) ?_
  intro p e s m args below meth c C
  have C : Cx p s m args meth c G b_Mo_cut1 6 "PrairiePoolModel" (some .long) := C
  unfold d_Mo_cut1 at h
  refine z_sub (lv' := [(0, vl a0), (2, vl a2), (4, vl a4)]) [0, 1, 2] rfl ?_
  refine z_lload_n C 0 x_Mo_cut1_0 rfl ?_
  refine z_lload_n C 1 x_Mo_cut1_1 rfl ?_
  refine z_lcmp C x_Mo_cut1_2 ?_
  rcases ite_e h with ⟨c1, h⟩ | ⟨c1, h⟩
  · refine z_if_ge_f (tgt := 10) C x_Mo_cut1_3 rfl (cm_lt.mpr c1) ?_
    refine z_lload_n C 1 x_Mo_cut1_6 rfl ?_
    refine z_goto (tgt := 23) C x_Mo_cut1_7 rfl ?_
    exact z_lret C x_Mo_cut1_23 h
  · refine z_if_ge_t (tgt := 10) C x_Mo_cut1_3 rfl (fun q => c1 (cm_lt.mp q)) ?_
    refine z_lload_n C 0 x_Mo_cut1_10 rfl ?_
    refine z_lload C 2 x_Mo_cut1_11 rfl ?_
    refine z_lcmp C x_Mo_cut1_13 ?_
    rcases ite_e h with ⟨c2, h⟩ | ⟨c2, h⟩
    · refine z_if_le_f (tgt := 22) C x_Mo_cut1_14 rfl (cm_gt.mpr c2) ?_
      refine z_lload C 2 x_Mo_cut1_17 rfl ?_
      refine z_goto (tgt := 23) C x_Mo_cut1_19 rfl ?_
      exact z_lret C x_Mo_cut1_23 h
    · refine z_if_le_t (tgt := 22) C x_Mo_cut1_14 rfl (fun q => c2 (cm_gt.mp q)) ?_
      refine z_lload_n C 0 x_Mo_cut1_22 rfl ?_
      exact z_lret C x_Mo_cut1_23 h
theorem x_Mo_gradeOf_0 : DC b_Mo_gradeOf 0 (.iconst 5) 1 1 := ⟨by decide +kernel, rfl⟩
theorem x_Mo_gradeOf_1 : DC b_Mo_gradeOf 1 (.istore_n 3) 1 2 := ⟨by decide +kernel, rfl⟩
theorem x_Mo_gradeOf_2 : DC b_Mo_gradeOf 2 (.iconst 0) 1 3 := ⟨by decide +kernel, rfl⟩
theorem x_Mo_gradeOf_3 : DC b_Mo_gradeOf 3 (.istore 4) 2 5 := ⟨by decide +kernel, rfl⟩
theorem x_Mo_gradeOf_5 : DC b_Mo_gradeOf 5 (.lconst 0) 1 6 := ⟨by decide +kernel, rfl⟩
theorem x_Mo_gradeOf_6 : DC b_Mo_gradeOf 6 (.lstore 5) 2 8 := ⟨by decide +kernel, rfl⟩
theorem x_Mo_gradeOf_8 : DC b_Mo_gradeOf 8 (.iconst 0) 1 9 := ⟨by decide +kernel, rfl⟩
theorem x_Mo_gradeOf_9 : DC b_Mo_gradeOf 9 (.istore 7) 2 11 := ⟨by decide +kernel, rfl⟩
theorem x_Mo_gradeOf_11 : DC b_Mo_gradeOf 11 (.iload 7) 2 13 := ⟨by decide +kernel, rfl⟩
theorem x_Mo_gradeOf_13 : DC b_Mo_gradeOf 13 (.aload_n 0) 1 14 := ⟨by decide +kernel, rfl⟩
theorem x_Mo_gradeOf_14 : DC b_Mo_gradeOf 14 (.getfield 341) 3 17 := ⟨by decide +kernel, rfl⟩
theorem x_Mo_gradeOf_17 : DC b_Mo_gradeOf 17 (.if_icmp .ge 192) 3 20 := ⟨by decide +kernel, rfl⟩
theorem x_Mo_gradeOf_20 : DC b_Mo_gradeOf 20 (.aload_n 0) 1 21 := ⟨by decide +kernel, rfl⟩
theorem x_Mo_gradeOf_21 : DC b_Mo_gradeOf 21 (.getfield 65) 3 24 := ⟨by decide +kernel, rfl⟩
theorem x_Mo_gradeOf_24 : DC b_Mo_gradeOf 24 (.iload 7) 2 26 := ⟨by decide +kernel, rfl⟩
theorem x_Mo_gradeOf_26 : DC b_Mo_gradeOf 26 (.iaload) 1 27 := ⟨by decide +kernel, rfl⟩
theorem x_Mo_gradeOf_27 : DC b_Mo_gradeOf 27 (.iload_n 1) 1 28 := ⟨by decide +kernel, rfl⟩
theorem x_Mo_gradeOf_28 : DC b_Mo_gradeOf 28 (.if_icmp .ne 175) 3 31 := ⟨by decide +kernel, rfl⟩
theorem x_Mo_gradeOf_31 : DC b_Mo_gradeOf 31 (.aload_n 0) 1 32 := ⟨by decide +kernel, rfl⟩
theorem x_Mo_gradeOf_32 : DC b_Mo_gradeOf 32 (.getfield 74) 3 35 := ⟨by decide +kernel, rfl⟩
theorem x_Mo_gradeOf_35 : DC b_Mo_gradeOf 35 (.iload 7) 2 37 := ⟨by decide +kernel, rfl⟩
theorem x_Mo_gradeOf_37 : DC b_Mo_gradeOf 37 (.iaload) 1 38 := ⟨by decide +kernel, rfl⟩
theorem x_Mo_gradeOf_38 : DC b_Mo_gradeOf 38 (.iload_n 2) 1 39 := ⟨by decide +kernel, rfl⟩
theorem x_Mo_gradeOf_39 : DC b_Mo_gradeOf 39 (.if_icmp .le 6) 3 42 := ⟨by decide +kernel, rfl⟩
theorem x_Mo_gradeOf_42 : DC b_Mo_gradeOf 42 (.goto 161) 3 45 := ⟨by decide +kernel, rfl⟩
theorem x_Mo_gradeOf_45 : DC b_Mo_gradeOf 45 (.aload_n 0) 1 46 := ⟨by decide +kernel, rfl⟩
theorem x_Mo_gradeOf_46 : DC b_Mo_gradeOf 46 (.invokevirtual 344) 3 49 := ⟨by decide +kernel, rfl⟩
theorem x_Mo_gradeOf_49 : DC b_Mo_gradeOf 49 (.aload_n 0) 1 50 := ⟨by decide +kernel, rfl⟩
theorem x_Mo_gradeOf_50 : DC b_Mo_gradeOf 50 (.getfield 151) 3 53 := ⟨by decide +kernel, rfl⟩
theorem x_Mo_gradeOf_53 : DC b_Mo_gradeOf 53 (.iconst 0) 1 54 := ⟨by decide +kernel, rfl⟩
theorem x_Mo_gradeOf_54 : DC b_Mo_gradeOf 54 (.aload_n 0) 1 55 := ⟨by decide +kernel, rfl⟩
theorem x_Mo_gradeOf_55 : DC b_Mo_gradeOf 55 (.getfield 71) 3 58 := ⟨by decide +kernel, rfl⟩
theorem x_Mo_gradeOf_58 : DC b_Mo_gradeOf 58 (.iload 7) 2 60 := ⟨by decide +kernel, rfl⟩
theorem x_Mo_gradeOf_60 : DC b_Mo_gradeOf 60 (.iaload) 1 61 := ⟨by decide +kernel, rfl⟩
theorem x_Mo_gradeOf_61 : DC b_Mo_gradeOf 61 (.i2l) 1 62 := ⟨by decide +kernel, rfl⟩
theorem x_Mo_gradeOf_62 : DC b_Mo_gradeOf 62 (.lastore) 1 63 := ⟨by decide +kernel, rfl⟩
theorem x_Mo_gradeOf_63 : DC b_Mo_gradeOf 63 (.aload_n 0) 1 64 := ⟨by decide +kernel, rfl⟩
theorem x_Mo_gradeOf_64 : DC b_Mo_gradeOf 64 (.getfield 151) 3 67 := ⟨by decide +kernel, rfl⟩
theorem x_Mo_gradeOf_67 : DC b_Mo_gradeOf 67 (.iconst 1) 1 68 := ⟨by decide +kernel, rfl⟩
theorem x_Mo_gradeOf_68 : DC b_Mo_gradeOf 68 (.aload_n 0) 1 69 := ⟨by decide +kernel, rfl⟩
theorem x_Mo_gradeOf_69 : DC b_Mo_gradeOf 69 (.getfield 68) 3 72 := ⟨by decide +kernel, rfl⟩
theorem x_Mo_gradeOf_72 : DC b_Mo_gradeOf 72 (.iload 7) 2 74 := ⟨by decide +kernel, rfl⟩
theorem x_Mo_gradeOf_74 : DC b_Mo_gradeOf 74 (.iaload) 1 75 := ⟨by decide +kernel, rfl⟩
theorem x_Mo_gradeOf_75 : DC b_Mo_gradeOf 75 (.i2l) 1 76 := ⟨by decide +kernel, rfl⟩
theorem x_Mo_gradeOf_76 : DC b_Mo_gradeOf 76 (.lastore) 1 77 := ⟨by decide +kernel, rfl⟩
theorem x_Mo_gradeOf_77 : DC b_Mo_gradeOf 77 (.aload_n 0) 1 78 := ⟨by decide +kernel, rfl⟩
theorem x_Mo_gradeOf_78 : DC b_Mo_gradeOf 78 (.getfield 151) 3 81 := ⟨by decide +kernel, rfl⟩
theorem x_Mo_gradeOf_81 : DC b_Mo_gradeOf 81 (.iconst 2) 1 82 := ⟨by decide +kernel, rfl⟩
theorem x_Mo_gradeOf_82 : DC b_Mo_gradeOf 82 (.aload_n 0) 1 83 := ⟨by decide +kernel, rfl⟩
theorem x_Mo_gradeOf_83 : DC b_Mo_gradeOf 83 (.getfield 59) 3 86 := ⟨by decide +kernel, rfl⟩
theorem x_Mo_gradeOf_86 : DC b_Mo_gradeOf 86 (.iload_n 1) 1 87 := ⟨by decide +kernel, rfl⟩
theorem x_Mo_gradeOf_87 : DC b_Mo_gradeOf 87 (.iaload) 1 88 := ⟨by decide +kernel, rfl⟩
theorem x_Mo_gradeOf_88 : DC b_Mo_gradeOf 88 (.i2l) 1 89 := ⟨by decide +kernel, rfl⟩
theorem x_Mo_gradeOf_89 : DC b_Mo_gradeOf 89 (.lastore) 1 90 := ⟨by decide +kernel, rfl⟩
theorem x_Mo_gradeOf_90 : DC b_Mo_gradeOf 90 (.aload_n 0) 1 91 := ⟨by decide +kernel, rfl⟩
theorem x_Mo_gradeOf_91 : DC b_Mo_gradeOf 91 (.getfield 151) 3 94 := ⟨by decide +kernel, rfl⟩
theorem x_Mo_gradeOf_94 : DC b_Mo_gradeOf 94 (.iconst 3) 1 95 := ⟨by decide +kernel, rfl⟩
theorem x_Mo_gradeOf_95 : DC b_Mo_gradeOf 95 (.aload_n 0) 1 96 := ⟨by decide +kernel, rfl⟩
theorem x_Mo_gradeOf_96 : DC b_Mo_gradeOf 96 (.getfield 59) 3 99 := ⟨by decide +kernel, rfl⟩
theorem x_Mo_gradeOf_99 : DC b_Mo_gradeOf 99 (.iload_n 1) 1 100 := ⟨by decide +kernel, rfl⟩
theorem x_Mo_gradeOf_100 : DC b_Mo_gradeOf 100 (.iaload) 1 101 := ⟨by decide +kernel, rfl⟩
theorem x_Mo_gradeOf_101 : DC b_Mo_gradeOf 101 (.bipush 52) 2 103 := ⟨by decide +kernel, rfl⟩
theorem x_Mo_gradeOf_103 : DC b_Mo_gradeOf 103 (.idiv) 1 104 := ⟨by decide +kernel, rfl⟩
theorem x_Mo_gradeOf_104 : DC b_Mo_gradeOf 104 (.i2l) 1 105 := ⟨by decide +kernel, rfl⟩
theorem x_Mo_gradeOf_105 : DC b_Mo_gradeOf 105 (.lastore) 1 106 := ⟨by decide +kernel, rfl⟩
theorem x_Mo_gradeOf_106 : DC b_Mo_gradeOf 106 (.aload_n 0) 1 107 := ⟨by decide +kernel, rfl⟩
theorem x_Mo_gradeOf_107 : DC b_Mo_gradeOf 107 (.getfield 151) 3 110 := ⟨by decide +kernel, rfl⟩
theorem x_Mo_gradeOf_110 : DC b_Mo_gradeOf 110 (.iconst 4) 1 111 := ⟨by decide +kernel, rfl⟩
theorem x_Mo_gradeOf_111 : DC b_Mo_gradeOf 111 (.aload_n 0) 1 112 := ⟨by decide +kernel, rfl⟩
theorem x_Mo_gradeOf_112 : DC b_Mo_gradeOf 112 (.iload_n 1) 1 113 := ⟨by decide +kernel, rfl⟩
theorem x_Mo_gradeOf_113 : DC b_Mo_gradeOf 113 (.invokevirtual 347) 3 116 := ⟨by decide +kernel, rfl⟩
theorem x_Mo_gradeOf_116 : DC b_Mo_gradeOf 116 (.i2l) 1 117 := ⟨by decide +kernel, rfl⟩
theorem x_Mo_gradeOf_117 : DC b_Mo_gradeOf 117 (.lastore) 1 118 := ⟨by decide +kernel, rfl⟩
theorem x_Mo_gradeOf_118 : DC b_Mo_gradeOf 118 (.aload_n 0) 1 119 := ⟨by decide +kernel, rfl⟩
theorem x_Mo_gradeOf_119 : DC b_Mo_gradeOf 119 (.getfield 151) 3 122 := ⟨by decide +kernel, rfl⟩
theorem x_Mo_gradeOf_122 : DC b_Mo_gradeOf 122 (.bipush 7) 2 124 := ⟨by decide +kernel, rfl⟩
theorem x_Mo_gradeOf_124 : DC b_Mo_gradeOf 124 (.aload_n 0) 1 125 := ⟨by decide +kernel, rfl⟩
theorem x_Mo_gradeOf_125 : DC b_Mo_gradeOf 125 (.getfield 20) 3 128 := ⟨by decide +kernel, rfl⟩
theorem x_Mo_gradeOf_128 : DC b_Mo_gradeOf 128 (.aload_n 0) 1 129 := ⟨by decide +kernel, rfl⟩
theorem x_Mo_gradeOf_129 : DC b_Mo_gradeOf 129 (.getfield 38) 3 132 := ⟨by decide +kernel, rfl⟩
theorem x_Mo_gradeOf_132 : DC b_Mo_gradeOf 132 (.iload_n 1) 1 133 := ⟨by decide +kernel, rfl⟩
theorem x_Mo_gradeOf_133 : DC b_Mo_gradeOf 133 (.iaload) 1 134 := ⟨by decide +kernel, rfl⟩
theorem x_Mo_gradeOf_134 : DC b_Mo_gradeOf 134 (.iaload) 1 135 := ⟨by decide +kernel, rfl⟩
theorem x_Mo_gradeOf_135 : DC b_Mo_gradeOf 135 (.i2l) 1 136 := ⟨by decide +kernel, rfl⟩
theorem x_Mo_gradeOf_136 : DC b_Mo_gradeOf 136 (.lastore) 1 137 := ⟨by decide +kernel, rfl⟩
theorem x_Mo_gradeOf_137 : DC b_Mo_gradeOf 137 (.aload_n 0) 1 138 := ⟨by decide +kernel, rfl⟩
theorem x_Mo_gradeOf_138 : DC b_Mo_gradeOf 138 (.bipush 114) 2 140 := ⟨by decide +kernel, rfl⟩
theorem x_Mo_gradeOf_140 : DC b_Mo_gradeOf 140 (.bipush 97) 2 142 := ⟨by decide +kernel, rfl⟩
theorem x_Mo_gradeOf_142 : DC b_Mo_gradeOf 142 (.bipush 110) 2 144 := ⟨by decide +kernel, rfl⟩
theorem x_Mo_gradeOf_144 : DC b_Mo_gradeOf 144 (.bipush 107) 2 146 := ⟨by decide +kernel, rfl⟩
theorem x_Mo_gradeOf_146 : DC b_Mo_gradeOf 146 (.iconst 0) 1 147 := ⟨by decide +kernel, rfl⟩
theorem x_Mo_gradeOf_147 : DC b_Mo_gradeOf 147 (.iconst 0) 1 148 := ⟨by decide +kernel, rfl⟩
theorem x_Mo_gradeOf_148 : DC b_Mo_gradeOf 148 (.invokestatic 350) 3 151 := ⟨by decide +kernel, rfl⟩
theorem x_Mo_gradeOf_151 : DC b_Mo_gradeOf 151 (.aload_n 0) 1 152 := ⟨by decide +kernel, rfl⟩
theorem x_Mo_gradeOf_152 : DC b_Mo_gradeOf 152 (.getfield 59) 3 155 := ⟨by decide +kernel, rfl⟩
theorem x_Mo_gradeOf_155 : DC b_Mo_gradeOf 155 (.iload_n 1) 1 156 := ⟨by decide +kernel, rfl⟩
theorem x_Mo_gradeOf_156 : DC b_Mo_gradeOf 156 (.iaload) 1 157 := ⟨by decide +kernel, rfl⟩
theorem x_Mo_gradeOf_157 : DC b_Mo_gradeOf 157 (.lconst 0) 1 158 := ⟨by decide +kernel, rfl⟩
theorem x_Mo_gradeOf_158 : DC b_Mo_gradeOf 158 (.invokevirtual 354) 3 161 := ⟨by decide +kernel, rfl⟩
theorem x_Mo_gradeOf_161 : DC b_Mo_gradeOf 161 (.ldc2_w 358) 3 164 := ⟨by decide +kernel, rfl⟩
theorem x_Mo_gradeOf_164 : DC b_Mo_gradeOf 164 (.ldc2_w 304) 3 167 := ⟨by decide +kernel, rfl⟩
theorem x_Mo_gradeOf_167 : DC b_Mo_gradeOf 167 (.invokestatic 360) 3 170 := ⟨by decide +kernel, rfl⟩
theorem x_Mo_gradeOf_170 : DC b_Mo_gradeOf 170 (.lstore 8) 2 172 := ⟨by decide +kernel, rfl⟩
theorem x_Mo_gradeOf_172 : DC b_Mo_gradeOf 172 (.iload 4) 2 174 := ⟨by decide +kernel, rfl⟩
theorem x_Mo_gradeOf_174 : DC b_Mo_gradeOf 174 (.ifCond .eq 14) 3 177 := ⟨by decide +kernel, rfl⟩
theorem x_Mo_gradeOf_177 : DC b_Mo_gradeOf 177 (.lload 8) 2 179 := ⟨by decide +kernel, rfl⟩
theorem x_Mo_gradeOf_179 : DC b_Mo_gradeOf 179 (.lload 5) 2 181 := ⟨by decide +kernel, rfl⟩
theorem x_Mo_gradeOf_181 : DC b_Mo_gradeOf 181 (.lcmp) 1 182 := ⟨by decide +kernel, rfl⟩
theorem x_Mo_gradeOf_182 : DC b_Mo_gradeOf 182 (.ifCond .ge 6) 3 185 := ⟨by decide +kernel, rfl⟩
theorem x_Mo_gradeOf_185 : DC b_Mo_gradeOf 185 (.goto 18) 3 188 := ⟨by decide +kernel, rfl⟩
theorem x_Mo_gradeOf_188 : DC b_Mo_gradeOf 188 (.iconst 1) 1 189 := ⟨by decide +kernel, rfl⟩
theorem x_Mo_gradeOf_189 : DC b_Mo_gradeOf 189 (.istore 4) 2 191 := ⟨by decide +kernel, rfl⟩
theorem x_Mo_gradeOf_191 : DC b_Mo_gradeOf 191 (.lload 8) 2 193 := ⟨by decide +kernel, rfl⟩
theorem x_Mo_gradeOf_193 : DC b_Mo_gradeOf 193 (.lstore 5) 2 195 := ⟨by decide +kernel, rfl⟩
theorem x_Mo_gradeOf_195 : DC b_Mo_gradeOf 195 (.aload_n 0) 1 196 := ⟨by decide +kernel, rfl⟩
theorem x_Mo_gradeOf_196 : DC b_Mo_gradeOf 196 (.getfield 71) 3 199 := ⟨by decide +kernel, rfl⟩
theorem x_Mo_gradeOf_199 : DC b_Mo_gradeOf 199 (.iload 7) 2 201 := ⟨by decide +kernel, rfl⟩
theorem x_Mo_gradeOf_201 : DC b_Mo_gradeOf 201 (.iaload) 1 202 := ⟨by decide +kernel, rfl⟩
theorem x_Mo_gradeOf_202 : DC b_Mo_gradeOf 202 (.istore_n 3) 1 203 := ⟨by decide +kernel, rfl⟩
theorem x_Mo_gradeOf_203 : DC b_Mo_gradeOf 203 (.iinc 7 1) 3 206 := ⟨by decide +kernel, rfl⟩
theorem x_Mo_gradeOf_206 : DC b_Mo_gradeOf 206 (.goto (-195)) 3 209 := ⟨by decide +kernel, rfl⟩
theorem x_Mo_gradeOf_209 : DC b_Mo_gradeOf 209 (.iload_n 3) 1 210 := ⟨by decide +kernel, rfl⟩
theorem x_Mo_gradeOf_210 : DC b_Mo_gradeOf 210 (.ireturn) 1 211 := ⟨by decide +kernel, rfl⟩
def k_Mo_gradeOf_203 (R11 : Int → Int → Int → Int → Int → Int → Mem → Res) (a1 a2 a3 a4 a5 a7 : Int) (M : Mem) : Res := blet (a7 + 1) fun v1 => R11 a1 a2 a3 a4 a5 v1 M
theorem z_Mo_gradeOf_203 (C : Cx p s m args meth c G b_Mo_gradeOf 10 "PrairiePoolModel" (some .int)) (hlev : 5 ≤ lev) {r : Int × Mem} {R11 : Int → Int → Int → Int → Int → Int → Mem → Res} (hR11 : ∀ (a1 a2 a3 a4 a5 a7 : Int) (M : Mem), R11 a1 a2 a3 a4 a5 a7 M = some r → Z p l e lev s m args below meth c G 10 (MQ below (Qm G 1 r) args s 0 0 (Ab G)) M 11 [(0, .ref (G.1 + 111)), (1, vi a1), (2, vi a2), (3, vi a3), (4, vi a4), (5, vl a5), (7, vi a7)] []) {a1 a2 a3 a4 a5 a7 : Int} {M : Mem} (h : k_Mo_gradeOf_203 R11 a1 a2 a3 a4 a5 a7 M = some r) : Z p l e lev s m args below meth c G 10 (MQ below (Qm G 1 r) args s 0 0 (Ab G)) M 203 [(0, .ref (G.1 + 111)), (1, vi a1), (2, vi a2), (3, vi a3), (4, vi a4), (5, vl a5), (7, vi a7)] [] := by
  unfold k_Mo_gradeOf_203 at h
  obtain ⟨v1, ev1, h⟩ := blet_e h
  refine z_iinc (lv' := [(7, vi v1), (0, .ref (G.1 + 111)), (1, vi a1), (2, vi a2), (3, vi a3), (4, vi a4), (5, vl a5)]) C 6 ev1 x_Mo_gradeOf_203 rfl (i_lt rfl) rfl ?_
  refine z_goto (tgt := 11) C x_Mo_gradeOf_206 rfl ?_
  exact z_sub [1, 2, 3, 4, 5, 6, 0] rfl (hR11 a1 a2 a3 a4 a5 v1 M h)
def k_Mo_gradeOf_188 (R11 : Int → Int → Int → Int → Int → Int → Mem → Res) (a1 a2 a7 a8 : Int) (M : Mem) : Res := chk (0 ≤ w32 a7 ∧ w32 a7 < 100) <| blet (M 132 (ix a7)) fun v2 => k_Mo_gradeOf_203 R11 a1 a2 v2 1 a8 a7 M
theorem z_Mo_gradeOf_188 (C : Cx p s m args meth c G b_Mo_gradeOf 10 "PrairiePoolModel" (some .int)) (hlev : 5 ≤ lev) {r : Int × Mem} {R11 : Int → Int → Int → Int → Int → Int → Mem → Res} (hR11 : ∀ (a1 a2 a3 a4 a5 a7 : Int) (M : Mem), R11 a1 a2 a3 a4 a5 a7 M = some r → Z p l e lev s m args below meth c G 10 (MQ below (Qm G 1 r) args s 0 0 (Ab G)) M 11 [(0, .ref (G.1 + 111)), (1, vi a1), (2, vi a2), (3, vi a3), (4, vi a4), (5, vl a5), (7, vi a7)] []) {a1 a2 a7 a8 : Int} {M : Mem} (h : k_Mo_gradeOf_188 R11 a1 a2 a7 a8 M = some r) : Z p l e lev s m args below meth c G 10 (MQ below (Qm G 1 r) args s 0 0 (Ab G)) M 188 [(0, .ref (G.1 + 111)), (1, vi a1), (2, vi a2), (7, vi a7), (8, vl a8)] [] := by
  unfold k_Mo_gradeOf_188 at h
  refine z_iconst C x_Mo_gradeOf_188 ?_
  refine z_istore (lv' := [(4, vi 1), (0, .ref (G.1 + 111)), (1, vi a1), (2, vi a2), (7, vi a7), (8, vl a8)]) C rfl x_Mo_gradeOf_189 (i_lt rfl) rfl ?_
  refine z_lload C 5 x_Mo_gradeOf_191 rfl ?_
  refine z_lstore (lv' := [(5, vl a8), (4, vi 1), (0, .ref (G.1 + 111)), (1, vi a1), (2, vi a2), (7, vi a7), (8, vl a8)]) C rfl x_Mo_gradeOf_193 (i_lt rfl) rfl ?_
  refine z_aload_n C 2 x_Mo_gradeOf_195 rfl ?_
  refine z_getR (j := 28) C x_Mo_gradeOf_196 nk_111 ck_111 cw_12 (i_lt rfl) rfl rf_111_28 rfl fl_Mo_71 ?_
  refine z_iload C 5 x_Mo_gradeOf_199 rfl ?_
  obtain ⟨c1, h⟩ := chk_e h
  obtain ⟨v2, ev2, h⟩ := blet_e h
  refine z_iald C x_Mo_gradeOf_201 nk_132 ck_132 c1 ev2 ?_
  refine z_istore_n (lv' := [(3, vi v2), (5, vl a8), (4, vi 1), (0, .ref (G.1 + 111)), (1, vi a1), (2, vi a2), (7, vi a7), (8, vl a8)]) C rfl x_Mo_gradeOf_202 (i_lt rfl) rfl ?_
  exact z_sub [3, 4, 5, 0, 2, 1, 6] rfl (z_Mo_gradeOf_203 C hlev hR11 h)
def k_Mo_gradeOf_11 (R11 : Int → Int → Int → Int → Int → Int → Mem → Res) (a1 a2 a3 a4 a5 a7 : Int) (M : Mem) : Res := blet (M 111 8) fun v1 => if w32 a7 < w32 v1 then (chk (0 ≤ w32 a7 ∧ w32 a7 < 100) <| blet (M 130 (ix a7)) fun v4 => if w32 v4 = w32 a1 then (chk (0 ≤ w32 a7 ∧ w32 a7 < 100) <| blet (M 133 (ix a7)) fun v7 => if w32 a2 < w32 v7 then (k_Mo_gradeOf_203 R11 a1 a2 a3 a4 a5 a7 M) else (bcall (d_Mo_letNothing M) fun v9 M10 => chk (0 ≤ w32 a7 ∧ w32 a7 < 100) <| blet (M10 132 (ix a7)) fun v12 => blet (sto M10 156 0 (w32 v12)) fun M13 => chk (0 ≤ w32 a7 ∧ w32 a7 < 100) <| blet (M13 131 (ix a7)) fun v15 => blet (sto M13 156 1 (w32 v15)) fun M16 => chk (0 ≤ w32 a1 ∧ w32 a1 < 120) <| blet (M16 128 (ix a1)) fun v18 => blet (sto M16 156 2 (w32 v18)) fun M19 => chk (0 ≤ w32 a1 ∧ w32 a1 < 120) <| blet (M19 128 (ix a1)) fun v21 => blet (sto M19 156 3 (w32 (dv32 v21 52))) fun M22 => bcall (d_Mo_net a1 M22) fun v23 M24 => blet (sto M24 156 4 (w32 v23)) fun M25 => chk (0 ≤ w32 a1 ∧ w32 a1 < 120) <| blet (M25 121 (ix a1)) fun v27 => chk (0 ≤ w32 v27 ∧ w32 v27 < 20) <| blet (M25 115 (ix v27)) fun v29 => blet (sto M25 156 7 (w32 v29)) fun M30 => bcall (d_Mo_spelled 114 97 110 107 0 0 M30) fun v31 M32 => chk (0 ≤ w32 a1 ∧ w32 a1 < 120) <| blet (M32 128 (ix a1)) fun v34 => bcall (d_Mo_told v31 v34 0 M32) fun v35 M36 => bcall (d_Mo_cut1 v35 (-1000000) 1000000 M36) fun v37 M38 => if w32 a4 = 0 then (k_Mo_gradeOf_188 R11 a1 a2 a7 v37 M38) else (if w64 v37 < w64 a5 then (k_Mo_gradeOf_203 R11 a1 a2 a3 a4 a5 a7 M38) else (k_Mo_gradeOf_188 R11 a1 a2 a7 v37 M38)))) else (k_Mo_gradeOf_203 R11 a1 a2 a3 a4 a5 a7 M)) else (some (a3, M))
theorem z_Mo_gradeOf_11 (C : Cx p s m args meth c G b_Mo_gradeOf 10 "PrairiePoolModel" (some .int)) (hlev : 5 ≤ lev) {r : Int × Mem} {R11 : Int → Int → Int → Int → Int → Int → Mem → Res} (hR11 : ∀ (a1 a2 a3 a4 a5 a7 : Int) (M : Mem), R11 a1 a2 a3 a4 a5 a7 M = some r → Z p l e lev s m args below meth c G 10 (MQ below (Qm G 1 r) args s 0 0 (Ab G)) M 11 [(0, .ref (G.1 + 111)), (1, vi a1), (2, vi a2), (3, vi a3), (4, vi a4), (5, vl a5), (7, vi a7)] []) {a1 a2 a3 a4 a5 a7 : Int} {M : Mem} (h : k_Mo_gradeOf_11 R11 a1 a2 a3 a4 a5 a7 M = some r) : Z p l e lev s m args below meth c G 10 (MQ below (Qm G 1 r) args s 0 0 (Ab G)) M 11 [(0, .ref (G.1 + 111)), (1, vi a1), (2, vi a2), (3, vi a3), (4, vi a4), (5, vl a5), (7, vi a7)] [] := by
  unfold k_Mo_gradeOf_11 at h
  refine z_iload C 6 x_Mo_gradeOf_11 rfl ?_
  refine z_aload_n C 0 x_Mo_gradeOf_13 rfl ?_
  obtain ⟨v1, ev1, h⟩ := blet_e h
  refine z_getI (j := 8) C x_Mo_gradeOf_14 nk_111 ck_111 cw_12 (i_lt rfl) rfl rfl fl_Mo_341 ev1 ?_
  rcases ite_e h with ⟨c2, h⟩ | ⟨c2, h⟩
  · refine z_icmp_ge_f (tgt := 209) C x_Mo_gradeOf_17 rfl c2 ?_
    refine z_aload_n C 0 x_Mo_gradeOf_20 rfl ?_
    refine z_getR (j := 26) C x_Mo_gradeOf_21 nk_111 ck_111 cw_12 (i_lt rfl) rfl rf_111_26 rfl fl_Mo_65 ?_
    refine z_iload C 6 x_Mo_gradeOf_24 rfl ?_
    obtain ⟨c3, h⟩ := chk_e h
    obtain ⟨v4, ev4, h⟩ := blet_e h
    refine z_iald C x_Mo_gradeOf_26 nk_130 ck_130 c3 ev4 ?_
    refine z_iload_n C 1 x_Mo_gradeOf_27 rfl ?_
    rcases ite_e h with ⟨c5, h⟩ | ⟨c5, h⟩
    · refine z_icmp_ne_f (tgt := 203) C x_Mo_gradeOf_28 rfl c5 ?_
      refine z_aload_n C 0 x_Mo_gradeOf_31 rfl ?_
      refine z_getR (j := 29) C x_Mo_gradeOf_32 nk_111 ck_111 cw_12 (i_lt rfl) rfl rf_111_29 rfl fl_Mo_74 ?_
      refine z_iload C 6 x_Mo_gradeOf_35 rfl ?_
      obtain ⟨c6, h⟩ := chk_e h
      obtain ⟨v7, ev7, h⟩ := blet_e h
      refine z_iald C x_Mo_gradeOf_37 nk_133 ck_133 c6 ev7 ?_
      refine z_iload_n C 2 x_Mo_gradeOf_38 rfl ?_
      rcases ite_e h with ⟨c8, h⟩ | ⟨c8, h⟩
      · refine z_icmp_le_f (tgt := 45) C x_Mo_gradeOf_39 rfl c8 ?_
        refine z_goto (tgt := 203) C x_Mo_gradeOf_42 rfl ?_
        exact z_sub [0, 1, 2, 3, 4, 5, 6] rfl (z_Mo_gradeOf_203 C hlev hR11 h)
      · refine z_icmp_le_t (tgt := 45) C x_Mo_gradeOf_39 rfl c8 ?_
        refine z_aload_n C 0 x_Mo_gradeOf_45 rfl ?_
        obtain ⟨v9, M10, fv9, h⟩ := bcall_e h
        refine z_callVv (k := 111) C x_Mo_gradeOf_46 cv_Mo_344 (t_Mo_letNothing (lev := lev - 1) l G (by omega) fv9) nk_111 ck_111 rfl (by omega) rfl (i_le rfl) rfl ?_
        refine z_aload_n C 0 x_Mo_gradeOf_49 rfl ?_
        refine z_getR (j := 68) C x_Mo_gradeOf_50 nk_111 ck_111 cw_12 (i_lt rfl) rfl rf_111_68 rfl fl_Mo_151 ?_
        refine z_iconst C x_Mo_gradeOf_53 ?_
        refine z_aload_n C 0 x_Mo_gradeOf_54 rfl ?_
        refine z_getR (j := 28) C x_Mo_gradeOf_55 nk_111 ck_111 cw_12 (i_lt rfl) rfl rf_111_28 rfl fl_Mo_71 ?_
        refine z_iload C 6 x_Mo_gradeOf_58 rfl ?_
        obtain ⟨c11, h⟩ := chk_e h
        obtain ⟨v12, ev12, h⟩ := blet_e h
        refine z_iald C x_Mo_gradeOf_60 nk_132 ck_132 c11 ev12 ?_
        refine z_i2l C x_Mo_gradeOf_61 ?_
        obtain ⟨M13, eM13, h⟩ := blet_e h
        refine z_last C x_Mo_gradeOf_62 nk_156 ck_156 (by decide) eM13 ?_
        refine z_aload_n C 0 x_Mo_gradeOf_63 rfl ?_
        refine z_getR (j := 68) C x_Mo_gradeOf_64 nk_111 ck_111 cw_12 (i_lt rfl) rfl rf_111_68 rfl fl_Mo_151 ?_
        refine z_iconst C x_Mo_gradeOf_67 ?_
        refine z_aload_n C 0 x_Mo_gradeOf_68 rfl ?_
        refine z_getR (j := 27) C x_Mo_gradeOf_69 nk_111 ck_111 cw_12 (i_lt rfl) rfl rf_111_27 rfl fl_Mo_68 ?_
        refine z_iload C 6 x_Mo_gradeOf_72 rfl ?_
        obtain ⟨c14, h⟩ := chk_e h
        obtain ⟨v15, ev15, h⟩ := blet_e h
        refine z_iald C x_Mo_gradeOf_74 nk_131 ck_131 c14 ev15 ?_
        refine z_i2l C x_Mo_gradeOf_75 ?_
        obtain ⟨M16, eM16, h⟩ := blet_e h
        refine z_last C x_Mo_gradeOf_76 nk_156 ck_156 (by decide) eM16 ?_
        refine z_aload_n C 0 x_Mo_gradeOf_77 rfl ?_
        refine z_getR (j := 68) C x_Mo_gradeOf_78 nk_111 ck_111 cw_12 (i_lt rfl) rfl rf_111_68 rfl fl_Mo_151 ?_
        refine z_iconst C x_Mo_gradeOf_81 ?_
        refine z_aload_n C 0 x_Mo_gradeOf_82 rfl ?_
        refine z_getR (j := 24) C x_Mo_gradeOf_83 nk_111 ck_111 cw_12 (i_lt rfl) rfl rf_111_24 rfl fl_Mo_59 ?_
        refine z_iload_n C 1 x_Mo_gradeOf_86 rfl ?_
        obtain ⟨c17, h⟩ := chk_e h
        obtain ⟨v18, ev18, h⟩ := blet_e h
        refine z_iald C x_Mo_gradeOf_87 nk_128 ck_128 c17 ev18 ?_
        refine z_i2l C x_Mo_gradeOf_88 ?_
        obtain ⟨M19, eM19, h⟩ := blet_e h
        refine z_last C x_Mo_gradeOf_89 nk_156 ck_156 (by decide) eM19 ?_
        refine z_aload_n C 0 x_Mo_gradeOf_90 rfl ?_
        refine z_getR (j := 68) C x_Mo_gradeOf_91 nk_111 ck_111 cw_12 (i_lt rfl) rfl rf_111_68 rfl fl_Mo_151 ?_
        refine z_iconst C x_Mo_gradeOf_94 ?_
        refine z_aload_n C 0 x_Mo_gradeOf_95 rfl ?_
        refine z_getR (j := 24) C x_Mo_gradeOf_96 nk_111 ck_111 cw_12 (i_lt rfl) rfl rf_111_24 rfl fl_Mo_59 ?_
        refine z_iload_n C 1 x_Mo_gradeOf_99 rfl ?_
        obtain ⟨c20, h⟩ := chk_e h
        obtain ⟨v21, ev21, h⟩ := blet_e h
        refine z_iald C x_Mo_gradeOf_100 nk_128 ck_128 c20 ev21 ?_
        refine z_bipush C rfl x_Mo_gradeOf_101 ?_
        refine z_idiv C (by decide) x_Mo_gradeOf_103 ?_
        refine z_i2l C x_Mo_gradeOf_104 ?_
        obtain ⟨M22, eM22, h⟩ := blet_e h
        refine z_last C x_Mo_gradeOf_105 nk_156 ck_156 (by decide) eM22 ?_
        refine z_aload_n C 0 x_Mo_gradeOf_106 rfl ?_
        refine z_getR (j := 68) C x_Mo_gradeOf_107 nk_111 ck_111 cw_12 (i_lt rfl) rfl rf_111_68 rfl fl_Mo_151 ?_
        refine z_iconst C x_Mo_gradeOf_110 ?_
        refine z_aload_n C 0 x_Mo_gradeOf_111 rfl ?_
        refine z_iload_n C 1 x_Mo_gradeOf_112 rfl ?_
        obtain ⟨v23, M24, fv23, h⟩ := bcall_e h
        refine z_callVi (k := 111) C x_Mo_gradeOf_113 cv_Mo_347 (t_Mo_net (lev := lev - 1) l G (by omega) fv23) nk_111 ck_111 rfl (by omega) rfl (i_le rfl) rfl ?_
        refine z_i2l C x_Mo_gradeOf_116 ?_
        obtain ⟨M25, eM25, h⟩ := blet_e h
        refine z_last C x_Mo_gradeOf_117 nk_156 ck_156 (by decide) eM25 ?_
        refine z_aload_n C 0 x_Mo_gradeOf_118 rfl ?_
        refine z_getR (j := 68) C x_Mo_gradeOf_119 nk_111 ck_111 cw_12 (i_lt rfl) rfl rf_111_68 rfl fl_Mo_151 ?_
        refine z_bipush C rfl x_Mo_gradeOf_122 ?_
        refine z_aload_n C 0 x_Mo_gradeOf_124 rfl ?_
        refine z_getR (j := 11) C x_Mo_gradeOf_125 nk_111 ck_111 cw_12 (i_lt rfl) rfl rf_111_11 rfl fl_Mo_20 ?_
        refine z_aload_n C 0 x_Mo_gradeOf_128 rfl ?_
        refine z_getR (j := 17) C x_Mo_gradeOf_129 nk_111 ck_111 cw_12 (i_lt rfl) rfl rf_111_17 rfl fl_Mo_38 ?_
        refine z_iload_n C 1 x_Mo_gradeOf_132 rfl ?_
        obtain ⟨c26, h⟩ := chk_e h
        obtain ⟨v27, ev27, h⟩ := blet_e h
        refine z_iald C x_Mo_gradeOf_133 nk_121 ck_121 c26 ev27 ?_
        obtain ⟨c28, h⟩ := chk_e h
        obtain ⟨v29, ev29, h⟩ := blet_e h
        refine z_iald C x_Mo_gradeOf_134 nk_115 ck_115 c28 ev29 ?_
        refine z_i2l C x_Mo_gradeOf_135 ?_
        obtain ⟨M30, eM30, h⟩ := blet_e h
        refine z_last C x_Mo_gradeOf_136 nk_156 ck_156 (by decide) eM30 ?_
        refine z_aload_n C 0 x_Mo_gradeOf_137 rfl ?_
        refine z_bipush C rfl x_Mo_gradeOf_138 ?_
        refine z_bipush C rfl x_Mo_gradeOf_140 ?_
        refine z_bipush C rfl x_Mo_gradeOf_142 ?_
        refine z_bipush C rfl x_Mo_gradeOf_144 ?_
        refine z_iconst C x_Mo_gradeOf_146 ?_
        refine z_iconst C x_Mo_gradeOf_147 ?_
        obtain ⟨v31, M32, fv31, h⟩ := bcall_e h
        refine z_callSl C x_Mo_gradeOf_148 cs_Mo_350 (t_Mo_spelled (lev := lev - 1) l G (by omega) fv31) (by omega) rfl (i_le rfl) rfl ?_
        refine z_aload_n C 0 x_Mo_gradeOf_151 rfl ?_
        refine z_getR (j := 24) C x_Mo_gradeOf_152 nk_111 ck_111 cw_12 (i_lt rfl) rfl rf_111_24 rfl fl_Mo_59 ?_
        refine z_iload_n C 1 x_Mo_gradeOf_155 rfl ?_
        obtain ⟨c33, h⟩ := chk_e h
        obtain ⟨v34, ev34, h⟩ := blet_e h
        refine z_iald C x_Mo_gradeOf_156 nk_128 ck_128 c33 ev34 ?_
        refine z_lconst0 C x_Mo_gradeOf_157 ?_
        obtain ⟨v35, M36, fv35, h⟩ := bcall_e h
        refine z_callVl (k := 111) C x_Mo_gradeOf_158 cv_Mo_354 (t_Mo_told (lev := lev - 1) l G (by omega) fv35) nk_111 ck_111 rfl (by omega) rfl (i_le rfl) rfl ?_
        refine z_ldc2 C kl_Mo_358 x_Mo_gradeOf_161 ?_
        refine z_ldc2 C kl_Mo_304 x_Mo_gradeOf_164 ?_
        obtain ⟨v37, M38, fv37, h⟩ := bcall_e h
        refine z_callSl C x_Mo_gradeOf_167 cs_Mo_360 (t_Mo_cut1 (lev := lev - 1) l G (by omega) fv37) (by omega) rfl (i_le rfl) rfl ?_
        refine z_lstore (lv' := [(8, vl v37), (0, .ref (G.1 + 111)), (1, vi a1), (2, vi a2), (3, vi a3), (4, vi a4), (5, vl a5), (7, vi a7)]) C rfl x_Mo_gradeOf_170 (i_lt rfl) rfl ?_
        refine z_iload C 5 x_Mo_gradeOf_172 rfl ?_
        rcases ite_e h with ⟨c39, h⟩ | ⟨c39, h⟩
        · refine z_if_eq_t (tgt := 188) C x_Mo_gradeOf_174 rfl c39 ?_
          exact z_sub [1, 2, 3, 7, 0] rfl (z_Mo_gradeOf_188 C hlev hR11 h)
        · refine z_if_eq_f (tgt := 188) C x_Mo_gradeOf_174 rfl c39 ?_
          refine z_lload C 0 x_Mo_gradeOf_177 rfl ?_
          refine z_lload C 6 x_Mo_gradeOf_179 rfl ?_
          refine z_lcmp C x_Mo_gradeOf_181 ?_
          rcases ite_e h with ⟨c40, h⟩ | ⟨c40, h⟩
          · refine z_if_ge_f (tgt := 188) C x_Mo_gradeOf_182 rfl (cm_lt.mpr c40) ?_
            refine z_goto (tgt := 203) C x_Mo_gradeOf_185 rfl ?_
            exact z_sub [1, 2, 3, 4, 5, 6, 7] rfl (z_Mo_gradeOf_203 C hlev hR11 h)
          · refine z_if_ge_t (tgt := 188) C x_Mo_gradeOf_182 rfl (fun q => c40 (cm_lt.mp q)) ?_
            exact z_sub [1, 2, 3, 7, 0] rfl (z_Mo_gradeOf_188 C hlev hR11 h)
    · refine z_icmp_ne_t (tgt := 203) C x_Mo_gradeOf_28 rfl c5 ?_
      exact z_sub [0, 1, 2, 3, 4, 5, 6] rfl (z_Mo_gradeOf_203 C hlev hR11 h)
  · refine z_icmp_ge_t (tgt := 209) C x_Mo_gradeOf_17 rfl c2 ?_
    refine z_iload_n C 3 x_Mo_gradeOf_209 rfl ?_
    exact z_iret C x_Mo_gradeOf_210 h
theorem zl_Mo_gradeOf_11 (C : Cx p s m args meth c G b_Mo_gradeOf 10 "PrairiePoolModel" (some .int)) (hlev : 5 ≤ lev) {r : Int × Mem}  : ∀ (n : Nat) (a1 a2 a3 a4 a5 a7 : Int) (M : Mem), fix (fun _ _ _ _ _ _ _ => none) (k_Mo_gradeOf_11) n a1 a2 a3 a4 a5 a7 M = some r → Z p l e lev s m args below meth c G 10 (MQ below (Qm G 1 r) args s 0 0 (Ab G)) M 11 [(0, .ref (G.1 + 111)), (1, vi a1), (2, vi a2), (3, vi a3), (4, vi a4), (5, vl a5), (7, vi a7)] [] := by
  intro n
  induction n with
  | zero => intro a1 a2 a3 a4 a5 a7 M h; exact nomatch (show (none : Res) = some r from h)
  | succ n ih => intro a1 a2 a3 a4 a5 a7 M h; exact z_Mo_gradeOf_11 C hlev ih h
def d_Mo_gradeOf (a1 a2 : Int) (M : Mem) : Res := fix (fun _ _ _ _ _ _ _ => none) (k_Mo_gradeOf_11) FU a1 a2 5 0 0 0 M
theorem t_Mo_gradeOf (l : Launch) (G : GX) {lev : Nat} (hlev : 5 ≤ lev) {a1 a2 : Int} {M : Mem} {r : Int × Mem} (h : d_Mo_gradeOf a1 a2 M = some r) : Mt l G y_Mo_gradeOf b_Mo_gradeOf 10 (some .int) lev 1 [.ref (G.1 + 111), vi a1, vi a2] M r := by
  refine Mt.of (by decide) (i_le rfl) ?_
  intro p e s m args below meth c C
  have C : Cx p s m args meth c G b_Mo_gradeOf 10 "PrairiePoolModel" (some .int) := C
  unfold d_Mo_gradeOf at h
  refine z_sub (lv' := [(0, .ref (G.1 + 111)), (1, vi a1), (2, vi a2)]) [0, 1, 2] rfl ?_
  refine z_iconst C x_Mo_gradeOf_0 ?_
  refine z_istore_n (lv' := [(3, vi 5), (0, .ref (G.1 + 111)), (1, vi a1), (2, vi a2)]) C rfl x_Mo_gradeOf_1 (i_lt rfl) rfl ?_
  refine z_iconst C x_Mo_gradeOf_2 ?_
  refine z_istore (lv' := [(4, vi 0), (3, vi 5), (0, .ref (G.1 + 111)), (1, vi a1), (2, vi a2)]) C rfl x_Mo_gradeOf_3 (i_lt rfl) rfl ?_
  refine z_lconst0 C x_Mo_gradeOf_5 ?_
  refine z_lstore (lv' := [(5, vl 0), (4, vi 0), (3, vi 5), (0, .ref (G.1 + 111)), (1, vi a1), (2, vi a2)]) C rfl x_Mo_gradeOf_6 (i_lt rfl) rfl ?_
  refine z_iconst C x_Mo_gradeOf_8 ?_
  refine z_istore (lv' := [(7, vi 0), (5, vl 0), (4, vi 0), (3, vi 5), (0, .ref (G.1 + 111)), (1, vi a1), (2, vi a2)]) C rfl x_Mo_gradeOf_9 (i_lt rfl) rfl ?_
  exact z_sub [4, 5, 6, 3, 2, 1, 0] rfl (zl_Mo_gradeOf_11 C hlev FU a1 a2 5 0 0 0 M h)
end
