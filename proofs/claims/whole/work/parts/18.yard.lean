section
variable {p : Program} {l : Launch} {e : Env} {lev : Nat} {s : State} {m : MethodId} {args : Array Value} {below : List Frame} {meth : Method} {c : Code} {G : GX}
theorem x_Ya_savedWith_0 : DC b_Ya_savedWith 0 (.iload_n 1) 1 1 := ⟨by decide +kernel, rfl⟩
theorem x_Ya_savedWith_1 : DC b_Ya_savedWith 1 (.iconst 1) 1 2 := ⟨by decide +kernel, rfl⟩
theorem x_Ya_savedWith_2 : DC b_Ya_savedWith 2 (.iload_n 2) 1 3 := ⟨by decide +kernel, rfl⟩
theorem x_Ya_savedWith_3 : DC b_Ya_savedWith 3 (.ishl) 1 4 := ⟨by decide +kernel, rfl⟩
theorem x_Ya_savedWith_4 : DC b_Ya_savedWith 4 (.iand) 1 5 := ⟨by decide +kernel, rfl⟩
theorem x_Ya_savedWith_5 : DC b_Ya_savedWith 5 (.ifCond .ne 20) 3 8 := ⟨by decide +kernel, rfl⟩
theorem x_Ya_savedWith_8 : DC b_Ya_savedWith 8 (.iload_n 1) 1 9 := ⟨by decide +kernel, rfl⟩
theorem x_Ya_savedWith_9 : DC b_Ya_savedWith 9 (.invokestatic 61) 3 12 := ⟨by decide +kernel, rfl⟩
theorem x_Ya_savedWith_12 : DC b_Ya_savedWith 12 (.aload_n 0) 1 13 := ⟨by decide +kernel, rfl⟩
theorem x_Ya_savedWith_13 : DC b_Ya_savedWith 13 (.getfield 11) 3 16 := ⟨by decide +kernel, rfl⟩
theorem x_Ya_savedWith_16 : DC b_Ya_savedWith 16 (.iload_n 2) 1 17 := ⟨by decide +kernel, rfl⟩
theorem x_Ya_savedWith_17 : DC b_Ya_savedWith 17 (.iaload) 1 18 := ⟨by decide +kernel, rfl⟩
theorem x_Ya_savedWith_18 : DC b_Ya_savedWith 18 (.if_icmp .ge 7) 3 21 := ⟨by decide +kernel, rfl⟩
theorem x_Ya_savedWith_21 : DC b_Ya_savedWith 21 (.iconst 1) 1 22 := ⟨by decide +kernel, rfl⟩
theorem x_Ya_savedWith_22 : DC b_Ya_savedWith 22 (.goto 4) 3 25 := ⟨by decide +kernel, rfl⟩
theorem x_Ya_savedWith_25 : DC b_Ya_savedWith 25 (.iconst 0) 1 26 := ⟨by decide +kernel, rfl⟩
theorem x_Ya_savedWith_26 : DC b_Ya_savedWith 26 (.istore_n 3) 1 27 := ⟨by decide +kernel, rfl⟩
theorem x_Ya_savedWith_27 : DC b_Ya_savedWith 27 (.iload_n 3) 1 28 := ⟨by decide +kernel, rfl⟩
theorem x_Ya_savedWith_28 : DC b_Ya_savedWith 28 (.ifCond .eq 23) 3 31 := ⟨by decide +kernel, rfl⟩
theorem x_Ya_savedWith_31 : DC b_Ya_savedWith 31 (.aload_n 0) 1 32 := ⟨by decide +kernel, rfl⟩
theorem x_Ya_savedWith_32 : DC b_Ya_savedWith 32 (.getfield 15) 3 35 := ⟨by decide +kernel, rfl⟩
theorem x_Ya_savedWith_35 : DC b_Ya_savedWith 35 (.iload_n 2) 1 36 := ⟨by decide +kernel, rfl⟩
theorem x_Ya_savedWith_36 : DC b_Ya_savedWith 36 (.iaload) 1 37 := ⟨by decide +kernel, rfl⟩
theorem x_Ya_savedWith_37 : DC b_Ya_savedWith 37 (.aload_n 0) 1 38 := ⟨by decide +kernel, rfl⟩
theorem x_Ya_savedWith_38 : DC b_Ya_savedWith 38 (.getfield 21) 3 41 := ⟨by decide +kernel, rfl⟩
theorem x_Ya_savedWith_41 : DC b_Ya_savedWith 41 (.iload_n 1) 1 42 := ⟨by decide +kernel, rfl⟩
theorem x_Ya_savedWith_42 : DC b_Ya_savedWith 42 (.iconst 1) 1 43 := ⟨by decide +kernel, rfl⟩
theorem x_Ya_savedWith_43 : DC b_Ya_savedWith 43 (.iload_n 2) 1 44 := ⟨by decide +kernel, rfl⟩
theorem x_Ya_savedWith_44 : DC b_Ya_savedWith 44 (.ishl) 1 45 := ⟨by decide +kernel, rfl⟩
theorem x_Ya_savedWith_45 : DC b_Ya_savedWith 45 (.ior) 1 46 := ⟨by decide +kernel, rfl⟩
theorem x_Ya_savedWith_46 : DC b_Ya_savedWith 46 (.iaload) 1 47 := ⟨by decide +kernel, rfl⟩
theorem x_Ya_savedWith_47 : DC b_Ya_savedWith 47 (.iadd) 1 48 := ⟨by decide +kernel, rfl⟩
theorem x_Ya_savedWith_48 : DC b_Ya_savedWith 48 (.goto 4) 3 51 := ⟨by decide +kernel, rfl⟩
theorem x_Ya_savedWith_51 : DC b_Ya_savedWith 51 (.iconst 0) 1 52 := ⟨by decide +kernel, rfl⟩
theorem x_Ya_savedWith_52 : DC b_Ya_savedWith 52 (.ireturn) 1 53 := ⟨by decide +kernel, rfl⟩
def k_Ya_savedWith_26 (a1 a2 s0 : Int) (M : Mem) : Res := if w32 s0 = 0 then (some (0, M)) else (chk (0 ≤ w32 a2 ∧ w32 a2 < 8) <| blet (M 64 (ix a2)) fun v3 => chk (0 ≤ w32 (or32 a1 (sl32 1 a2)) ∧ w32 (or32 a1 (sl32 1 a2)) < 256) <| blet (M 66 (ix (or32 a1 (sl32 1 a2)))) fun v5 => some (v3 + v5, M))
theorem z_Ya_savedWith_26 (C : Cx p s m args meth c G b_Ya_savedWith 4 "PrairiePool$Yard" (some .int)) (hlev : 1 ≤ lev) {r : Int × Mem}  {a1 a2 s0 : Int} {M : Mem} (h : k_Ya_savedWith_26 a1 a2 s0 M = some r) : Z p l e lev s m args below meth c G 4 (MQ below (Qm G 1 r) args s 0 0 (Ab G)) M 26 [(0, .ref (G.1 + 62)), (1, vi a1), (2, vi a2)] [vi s0] := by
  unfold k_Ya_savedWith_26 at h
  refine z_istore_n (lv' := [(3, vi s0), (0, .ref (G.1 + 62)), (1, vi a1), (2, vi a2)]) C rfl x_Ya_savedWith_26 (i_lt rfl) rfl ?_
  refine z_iload_n C 0 x_Ya_savedWith_27 rfl ?_
  rcases ite_e h with ⟨c1, h⟩ | ⟨c1, h⟩
  · refine z_if_eq_t (tgt := 51) C x_Ya_savedWith_28 rfl c1 ?_
    refine z_iconst C x_Ya_savedWith_51 ?_
    exact z_iret C x_Ya_savedWith_52 h
  · refine z_if_eq_f (tgt := 51) C x_Ya_savedWith_28 rfl c1 ?_
    refine z_aload_n C 1 x_Ya_savedWith_31 rfl ?_
    refine z_getR (j := 1) C x_Ya_savedWith_32 nk_62 ck_62 cw_10 (i_lt rfl) rfl rf_62_1 rfl fl_Ya_15 ?_
    refine z_iload_n C 3 x_Ya_savedWith_35 rfl ?_
    obtain ⟨c2, h⟩ := chk_e h
    obtain ⟨v3, ev3, h⟩ := blet_e h
    refine z_iald C x_Ya_savedWith_36 nk_64 ck_64 c2 ev3 ?_
    refine z_aload_n C 1 x_Ya_savedWith_37 rfl ?_
    refine z_getR (j := 4) C x_Ya_savedWith_38 nk_62 ck_62 cw_10 (i_lt rfl) rfl rf_62_4 rfl fl_Ya_21 ?_
    refine z_iload_n C 2 x_Ya_savedWith_41 rfl ?_
    refine z_iconst C x_Ya_savedWith_42 ?_
    refine z_iload_n C 3 x_Ya_savedWith_43 rfl ?_
    refine z_ishl C x_Ya_savedWith_44 ?_
    refine z_ior C x_Ya_savedWith_45 ?_
    obtain ⟨c4, h⟩ := chk_e h
    obtain ⟨v5, ev5, h⟩ := blet_e h
    refine z_iald C x_Ya_savedWith_46 nk_66 ck_66 c4 ev5 ?_
    refine z_iadd C x_Ya_savedWith_47 ?_
    refine z_goto (tgt := 52) C x_Ya_savedWith_48 rfl ?_
    exact z_iret C x_Ya_savedWith_52 h
def k_Ya_savedWith_25 (a1 a2 : Int) (M : Mem) : Res := k_Ya_savedWith_26 a1 a2 0 M
theorem z_Ya_savedWith_25 (C : Cx p s m args meth c G b_Ya_savedWith 4 "PrairiePool$Yard" (some .int)) (hlev : 1 ≤ lev) {r : Int × Mem}  {a1 a2 : Int} {M : Mem} (h : k_Ya_savedWith_25 a1 a2 M = some r) : Z p l e lev s m args below meth c G 4 (MQ below (Qm G 1 r) args s 0 0 (Ab G)) M 25 [(0, .ref (G.1 + 62)), (1, vi a1), (2, vi a2)] [] := by
  unfold k_Ya_savedWith_25 at h
  refine z_iconst C x_Ya_savedWith_25 ?_
  exact z_sub [0, 1, 2] rfl (z_Ya_savedWith_26 C hlev h)
def d_Ya_savedWith (a1 a2 : Int) (M : Mem) : Res := if w32 (an32 a1 (sl32 1 a2)) = 0 then (bcall (d_In_bitCount a1 M) fun v2 M3 => chk (0 ≤ w32 a2 ∧ w32 a2 < 8) <| blet (M3 63 (ix a2)) fun v5 => if w32 v2 < w32 v5 then (k_Ya_savedWith_26 a1 a2 1 M3) else (k_Ya_savedWith_25 a1 a2 M3)) else (k_Ya_savedWith_25 a1 a2 M)
theorem t_Ya_savedWith (l : Launch) (G : GX) {lev : Nat} (hlev : 1 ≤ lev) {a1 a2 : Int} {M : Mem} {r : Int × Mem} (h : d_Ya_savedWith a1 a2 M = some r) : Mt l G y_Ya_savedWith b_Ya_savedWith 4 (some .int) lev 1 [.ref (G.1 + 62), vi a1, vi a2] M r := by
  refine Mt.of (by decide) (i_le rfl) ?_
  intro p e s m args below meth c C
  have C : Cx p s m args meth c G b_Ya_savedWith 4 "PrairiePool$Yard" (some .int) := C
  unfold d_Ya_savedWith at h
  refine z_sub (lv' := [(0, .ref (G.1 + 62)), (1, vi a1), (2, vi a2)]) [0, 1, 2] rfl ?_
  refine z_iload_n C 1 x_Ya_savedWith_0 rfl ?_
  refine z_iconst C x_Ya_savedWith_1 ?_
  refine z_iload_n C 2 x_Ya_savedWith_2 rfl ?_
  refine z_ishl C x_Ya_savedWith_3 ?_
  refine z_iand C x_Ya_savedWith_4 ?_
  rcases ite_e h with ⟨c1, h⟩ | ⟨c1, h⟩
  · refine z_if_ne_f (tgt := 25) C x_Ya_savedWith_5 rfl c1 ?_
    refine z_iload_n C 1 x_Ya_savedWith_8 rfl ?_
    obtain ⟨v2, M3, fv2, h⟩ := bcall_e h
    refine z_callSi C x_Ya_savedWith_9 cs_Ya_61 (t_In_bitCount (lev := lev - 1) l G (by omega) fv2) (by omega) rfl (i_le rfl) rfl ?_
    refine z_aload_n C 0 x_Ya_savedWith_12 rfl ?_
    refine z_getR (j := 0) C x_Ya_savedWith_13 nk_62 ck_62 cw_10 (i_lt rfl) rfl rf_62_0 rfl fl_Ya_11 ?_
    refine z_iload_n C 2 x_Ya_savedWith_16 rfl ?_
    obtain ⟨c4, h⟩ := chk_e h
    obtain ⟨v5, ev5, h⟩ := blet_e h
    refine z_iald C x_Ya_savedWith_17 nk_63 ck_63 c4 ev5 ?_
    rcases ite_e h with ⟨c6, h⟩ | ⟨c6, h⟩
    · refine z_icmp_ge_f (tgt := 25) C x_Ya_savedWith_18 rfl c6 ?_
      refine z_iconst C x_Ya_savedWith_21 ?_
      refine z_goto (tgt := 26) C x_Ya_savedWith_22 rfl ?_
      exact z_sub [0, 1, 2] rfl (z_Ya_savedWith_26 C hlev h)
    · refine z_icmp_ge_t (tgt := 25) C x_Ya_savedWith_18 rfl c6 ?_
      exact z_sub [0, 1, 2] rfl (z_Ya_savedWith_25 C hlev h)
  · refine z_if_ne_t (tgt := 25) C x_Ya_savedWith_5 rfl c1 ?_
    exact z_sub [0, 1, 2] rfl (z_Ya_savedWith_25 C hlev h)
theorem x_Ya_writePlan_0 : DC b_Ya_writePlan 0 (.aload_n 0) 1 1 := ⟨by decide +kernel, rfl⟩
theorem x_Ya_writePlan_1 : DC b_Ya_writePlan 1 (.iconst 1) 1 2 := ⟨by decide +kernel, rfl⟩
theorem x_Ya_writePlan_2 : DC b_Ya_writePlan 2 (.putfield 67) 3 5 := ⟨by decide +kernel, rfl⟩
theorem x_Ya_writePlan_5 : DC b_Ya_writePlan 5 (.iconst 0) 1 6 := ⟨by decide +kernel, rfl⟩
theorem x_Ya_writePlan_6 : DC b_Ya_writePlan 6 (.istore_n 2) 1 7 := ⟨by decide +kernel, rfl⟩
theorem x_Ya_writePlan_7 : DC b_Ya_writePlan 7 (.iconst 0) 1 8 := ⟨by decide +kernel, rfl⟩
theorem x_Ya_writePlan_8 : DC b_Ya_writePlan 8 (.istore_n 3) 1 9 := ⟨by decide +kernel, rfl⟩
theorem x_Ya_writePlan_9 : DC b_Ya_writePlan 9 (.iload_n 3) 1 10 := ⟨by decide +kernel, rfl⟩
theorem x_Ya_writePlan_10 : DC b_Ya_writePlan 10 (.bipush 20) 2 12 := ⟨by decide +kernel, rfl⟩
theorem x_Ya_writePlan_12 : DC b_Ya_writePlan 12 (.if_icmp .ge 90) 3 15 := ⟨by decide +kernel, rfl⟩
theorem x_Ya_writePlan_15 : DC b_Ya_writePlan 15 (.aload_n 0) 1 16 := ⟨by decide +kernel, rfl⟩
theorem x_Ya_writePlan_16 : DC b_Ya_writePlan 16 (.getfield 18) 3 19 := ⟨by decide +kernel, rfl⟩
theorem x_Ya_writePlan_19 : DC b_Ya_writePlan 19 (.iload_n 3) 1 20 := ⟨by decide +kernel, rfl⟩
theorem x_Ya_writePlan_20 : DC b_Ya_writePlan 20 (.iconst (-1)) 1 21 := ⟨by decide +kernel, rfl⟩
theorem x_Ya_writePlan_21 : DC b_Ya_writePlan 21 (.iastore) 1 22 := ⟨by decide +kernel, rfl⟩
theorem x_Ya_writePlan_22 : DC b_Ya_writePlan 22 (.iload_n 1) 1 23 := ⟨by decide +kernel, rfl⟩
theorem x_Ya_writePlan_23 : DC b_Ya_writePlan 23 (.iconst 1) 1 24 := ⟨by decide +kernel, rfl⟩
theorem x_Ya_writePlan_24 : DC b_Ya_writePlan 24 (.isub) 1 25 := ⟨by decide +kernel, rfl⟩
theorem x_Ya_writePlan_25 : DC b_Ya_writePlan 25 (.istore 4) 2 27 := ⟨by decide +kernel, rfl⟩
theorem x_Ya_writePlan_27 : DC b_Ya_writePlan 27 (.iload 4) 2 29 := ⟨by decide +kernel, rfl⟩
theorem x_Ya_writePlan_29 : DC b_Ya_writePlan 29 (.ifCond .lt 42) 3 32 := ⟨by decide +kernel, rfl⟩
theorem x_Ya_writePlan_32 : DC b_Ya_writePlan 32 (.aload_n 0) 1 33 := ⟨by decide +kernel, rfl⟩
theorem x_Ya_writePlan_33 : DC b_Ya_writePlan 33 (.getfield 21) 3 36 := ⟨by decide +kernel, rfl⟩
theorem x_Ya_writePlan_36 : DC b_Ya_writePlan 36 (.iload_n 2) 1 37 := ⟨by decide +kernel, rfl⟩
theorem x_Ya_writePlan_37 : DC b_Ya_writePlan 37 (.iaload) 1 38 := ⟨by decide +kernel, rfl⟩
theorem x_Ya_writePlan_38 : DC b_Ya_writePlan 38 (.ifCond .le 33) 3 41 := ⟨by decide +kernel, rfl⟩
theorem x_Ya_writePlan_41 : DC b_Ya_writePlan 41 (.aload_n 0) 1 42 := ⟨by decide +kernel, rfl⟩
theorem x_Ya_writePlan_42 : DC b_Ya_writePlan 42 (.iload_n 2) 1 43 := ⟨by decide +kernel, rfl⟩
theorem x_Ya_writePlan_43 : DC b_Ya_writePlan 43 (.iload 4) 2 45 := ⟨by decide +kernel, rfl⟩
theorem x_Ya_writePlan_45 : DC b_Ya_writePlan 45 (.invokevirtual 48) 3 48 := ⟨by decide +kernel, rfl⟩
theorem x_Ya_writePlan_48 : DC b_Ya_writePlan 48 (.aload_n 0) 1 49 := ⟨by decide +kernel, rfl⟩
theorem x_Ya_writePlan_49 : DC b_Ya_writePlan 49 (.getfield 21) 3 52 := ⟨by decide +kernel, rfl⟩
theorem x_Ya_writePlan_52 : DC b_Ya_writePlan 52 (.iload_n 2) 1 53 := ⟨by decide +kernel, rfl⟩
theorem x_Ya_writePlan_53 : DC b_Ya_writePlan 53 (.iaload) 1 54 := ⟨by decide +kernel, rfl⟩
theorem x_Ya_writePlan_54 : DC b_Ya_writePlan 54 (.if_icmp .ne 11) 3 57 := ⟨by decide +kernel, rfl⟩
theorem x_Ya_writePlan_57 : DC b_Ya_writePlan 57 (.aload_n 0) 1 58 := ⟨by decide +kernel, rfl⟩
theorem x_Ya_writePlan_58 : DC b_Ya_writePlan 58 (.getfield 18) 3 61 := ⟨by decide +kernel, rfl⟩
theorem x_Ya_writePlan_61 : DC b_Ya_writePlan 61 (.iload_n 3) 1 62 := ⟨by decide +kernel, rfl⟩
theorem x_Ya_writePlan_62 : DC b_Ya_writePlan 62 (.iload 4) 2 64 := ⟨by decide +kernel, rfl⟩
theorem x_Ya_writePlan_64 : DC b_Ya_writePlan 64 (.iastore) 1 65 := ⟨by decide +kernel, rfl⟩
theorem x_Ya_writePlan_65 : DC b_Ya_writePlan 65 (.iinc 4 (-1)) 3 68 := ⟨by decide +kernel, rfl⟩
theorem x_Ya_writePlan_68 : DC b_Ya_writePlan 68 (.goto (-41)) 3 71 := ⟨by decide +kernel, rfl⟩
theorem x_Ya_writePlan_71 : DC b_Ya_writePlan 71 (.iload_n 2) 1 72 := ⟨by decide +kernel, rfl⟩
theorem x_Ya_writePlan_72 : DC b_Ya_writePlan 72 (.aload_n 0) 1 73 := ⟨by decide +kernel, rfl⟩
theorem x_Ya_writePlan_73 : DC b_Ya_writePlan 73 (.getfield 18) 3 76 := ⟨by decide +kernel, rfl⟩
theorem x_Ya_writePlan_76 : DC b_Ya_writePlan 76 (.iload_n 3) 1 77 := ⟨by decide +kernel, rfl⟩
theorem x_Ya_writePlan_77 : DC b_Ya_writePlan 77 (.iaload) 1 78 := ⟨by decide +kernel, rfl⟩
theorem x_Ya_writePlan_78 : DC b_Ya_writePlan 78 (.iconst (-1)) 1 79 := ⟨by decide +kernel, rfl⟩
theorem x_Ya_writePlan_79 : DC b_Ya_writePlan 79 (.if_icmp .ne 7) 3 82 := ⟨by decide +kernel, rfl⟩
theorem x_Ya_writePlan_82 : DC b_Ya_writePlan 82 (.iconst 0) 1 83 := ⟨by decide +kernel, rfl⟩
theorem x_Ya_writePlan_83 : DC b_Ya_writePlan 83 (.goto 11) 3 86 := ⟨by decide +kernel, rfl⟩
theorem x_Ya_writePlan_86 : DC b_Ya_writePlan 86 (.iconst 1) 1 87 := ⟨by decide +kernel, rfl⟩
theorem x_Ya_writePlan_87 : DC b_Ya_writePlan 87 (.aload_n 0) 1 88 := ⟨by decide +kernel, rfl⟩
theorem x_Ya_writePlan_88 : DC b_Ya_writePlan 88 (.getfield 18) 3 91 := ⟨by decide +kernel, rfl⟩
theorem x_Ya_writePlan_91 : DC b_Ya_writePlan 91 (.iload_n 3) 1 92 := ⟨by decide +kernel, rfl⟩
theorem x_Ya_writePlan_92 : DC b_Ya_writePlan 92 (.iaload) 1 93 := ⟨by decide +kernel, rfl⟩
theorem x_Ya_writePlan_93 : DC b_Ya_writePlan 93 (.ishl) 1 94 := ⟨by decide +kernel, rfl⟩
theorem x_Ya_writePlan_94 : DC b_Ya_writePlan 94 (.ior) 1 95 := ⟨by decide +kernel, rfl⟩
theorem x_Ya_writePlan_95 : DC b_Ya_writePlan 95 (.istore_n 2) 1 96 := ⟨by decide +kernel, rfl⟩
theorem x_Ya_writePlan_96 : DC b_Ya_writePlan 96 (.iinc 3 1) 3 99 := ⟨by decide +kernel, rfl⟩
theorem x_Ya_writePlan_99 : DC b_Ya_writePlan 99 (.goto (-90)) 3 102 := ⟨by decide +kernel, rfl⟩
theorem x_Ya_writePlan_102 : DC b_Ya_writePlan 102 (.return_) 1 103 := ⟨by decide +kernel, rfl⟩
def k_Ya_writePlan_94 (R9 : Int → Int → Int → Mem → Res) (a1 a3 s0 s1 : Int) (M : Mem) : Res := blet (or32 s0 s1) fun v1 => blet (a3 + 1) fun v2 => R9 a1 v1 v2 M
theorem z_Ya_writePlan_94 (C : Cx p s m args meth c G b_Ya_writePlan 5 "PrairiePool$Yard" none) (hlev : 2 ≤ lev) {r : Int × Mem} {R9 : Int → Int → Int → Mem → Res} (hR9 : ∀ (a1 a2 a3 : Int) (M : Mem), R9 a1 a2 a3 M = some r → Z p l e lev s m args below meth c G 5 (MQ below (Qm G 0 r) args s 0 0 (Ab G)) M 9 [(0, .ref (G.1 + 62)), (1, vi a1), (2, vi a2), (3, vi a3)] []) {a1 a3 s0 s1 : Int} {M : Mem} (h : k_Ya_writePlan_94 R9 a1 a3 s0 s1 M = some r) : Z p l e lev s m args below meth c G 5 (MQ below (Qm G 0 r) args s 0 0 (Ab G)) M 94 [(0, .ref (G.1 + 62)), (1, vi a1), (3, vi a3)] [vi s1, vi s0] := by
  unfold k_Ya_writePlan_94 at h
  refine z_ior C x_Ya_writePlan_94 ?_
  obtain ⟨v1, ev1, h⟩ := blet_e h
  refine z_istore_n (lv' := [(2, vi v1), (0, .ref (G.1 + 62)), (1, vi a1), (3, vi a3)]) C ev1 x_Ya_writePlan_95 (i_lt rfl) rfl ?_
  obtain ⟨v2, ev2, h⟩ := blet_e h
  refine z_iinc (lv' := [(3, vi v2), (2, vi v1), (0, .ref (G.1 + 62)), (1, vi a1)]) C 3 ev2 x_Ya_writePlan_96 rfl (i_lt rfl) rfl ?_
  refine z_goto (tgt := 9) C x_Ya_writePlan_99 rfl ?_
  exact z_sub [2, 3, 1, 0] rfl (hR9 a1 v1 v2 M h)
def k_Ya_writePlan_71 (R9 : Int → Int → Int → Mem → Res) (a1 a2 a3 : Int) (M : Mem) : Res := chk (0 ≤ w32 a3 ∧ w32 a3 < 20) <| blet (M 65 (ix a3)) fun v2 => if w32 v2 = (-1) then (k_Ya_writePlan_94 R9 a1 a3 a2 0 M) else (chk (0 ≤ w32 a3 ∧ w32 a3 < 20) <| blet (M 65 (ix a3)) fun v5 => k_Ya_writePlan_94 R9 a1 a3 a2 (sl32 1 v5) M)
theorem z_Ya_writePlan_71 (C : Cx p s m args meth c G b_Ya_writePlan 5 "PrairiePool$Yard" none) (hlev : 2 ≤ lev) {r : Int × Mem} {R9 : Int → Int → Int → Mem → Res} (hR9 : ∀ (a1 a2 a3 : Int) (M : Mem), R9 a1 a2 a3 M = some r → Z p l e lev s m args below meth c G 5 (MQ below (Qm G 0 r) args s 0 0 (Ab G)) M 9 [(0, .ref (G.1 + 62)), (1, vi a1), (2, vi a2), (3, vi a3)] []) {a1 a2 a3 : Int} {M : Mem} (h : k_Ya_writePlan_71 R9 a1 a2 a3 M = some r) : Z p l e lev s m args below meth c G 5 (MQ below (Qm G 0 r) args s 0 0 (Ab G)) M 71 [(0, .ref (G.1 + 62)), (1, vi a1), (2, vi a2), (3, vi a3)] [] := by
  unfold k_Ya_writePlan_71 at h
  refine z_iload_n C 2 x_Ya_writePlan_71 rfl ?_
  refine z_aload_n C 0 x_Ya_writePlan_72 rfl ?_
  refine z_getR (j := 3) C x_Ya_writePlan_73 nk_62 ck_62 cw_10 (i_lt rfl) rfl rf_62_3 rfl fl_Ya_18 ?_
  refine z_iload_n C 3 x_Ya_writePlan_76 rfl ?_
  obtain ⟨c1, h⟩ := chk_e h
  obtain ⟨v2, ev2, h⟩ := blet_e h
  refine z_iald C x_Ya_writePlan_77 nk_65 ck_65 c1 ev2 ?_
  refine z_iconst C x_Ya_writePlan_78 ?_
  rcases ite_e h with ⟨c3, h⟩ | ⟨c3, h⟩
  · refine z_icmp_ne_f (tgt := 86) C x_Ya_writePlan_79 rfl c3 ?_
    refine z_iconst C x_Ya_writePlan_82 ?_
    refine z_goto (tgt := 94) C x_Ya_writePlan_83 rfl ?_
    exact z_sub [0, 1, 3] rfl (z_Ya_writePlan_94 C hlev hR9 h)
  · refine z_icmp_ne_t (tgt := 86) C x_Ya_writePlan_79 rfl c3 ?_
    refine z_iconst C x_Ya_writePlan_86 ?_
    refine z_aload_n C 0 x_Ya_writePlan_87 rfl ?_
    refine z_getR (j := 3) C x_Ya_writePlan_88 nk_62 ck_62 cw_10 (i_lt rfl) rfl rf_62_3 rfl fl_Ya_18 ?_
    refine z_iload_n C 3 x_Ya_writePlan_91 rfl ?_
    obtain ⟨c4, h⟩ := chk_e h
    obtain ⟨v5, ev5, h⟩ := blet_e h
    refine z_iald C x_Ya_writePlan_92 nk_65 ck_65 c4 ev5 ?_
    refine z_ishl C x_Ya_writePlan_93 ?_
    exact z_sub [0, 1, 3] rfl (z_Ya_writePlan_94 C hlev hR9 h)
def k_Ya_writePlan_65 (R9 : Int → Int → Int → Mem → Res) (R27 : Int → Int → Int → Int → Mem → Res) (a1 a2 a3 a4 : Int) (M : Mem) : Res := blet (a4 + (-1)) fun v1 => R27 a1 a2 a3 v1 M
theorem z_Ya_writePlan_65 (C : Cx p s m args meth c G b_Ya_writePlan 5 "PrairiePool$Yard" none) (hlev : 2 ≤ lev) {r : Int × Mem} {R9 : Int → Int → Int → Mem → Res} {R27 : Int → Int → Int → Int → Mem → Res} (hR9 : ∀ (a1 a2 a3 : Int) (M : Mem), R9 a1 a2 a3 M = some r → Z p l e lev s m args below meth c G 5 (MQ below (Qm G 0 r) args s 0 0 (Ab G)) M 9 [(0, .ref (G.1 + 62)), (1, vi a1), (2, vi a2), (3, vi a3)] []) (hR27 : ∀ (a1 a2 a3 a4 : Int) (M : Mem), R27 a1 a2 a3 a4 M = some r → Z p l e lev s m args below meth c G 5 (MQ below (Qm G 0 r) args s 0 0 (Ab G)) M 27 [(0, .ref (G.1 + 62)), (1, vi a1), (2, vi a2), (3, vi a3), (4, vi a4)] []) {a1 a2 a3 a4 : Int} {M : Mem} (h : k_Ya_writePlan_65 R9 R27 a1 a2 a3 a4 M = some r) : Z p l e lev s m args below meth c G 5 (MQ below (Qm G 0 r) args s 0 0 (Ab G)) M 65 [(0, .ref (G.1 + 62)), (1, vi a1), (2, vi a2), (3, vi a3), (4, vi a4)] [] := by
  unfold k_Ya_writePlan_65 at h
  obtain ⟨v1, ev1, h⟩ := blet_e h
  refine z_iinc (lv' := [(4, vi v1), (0, .ref (G.1 + 62)), (1, vi a1), (2, vi a2), (3, vi a3)]) C 4 ev1 x_Ya_writePlan_65 rfl (i_lt rfl) rfl ?_
  refine z_goto (tgt := 27) C x_Ya_writePlan_68 rfl ?_
  exact z_sub [1, 2, 3, 4, 0] rfl (hR27 a1 a2 a3 v1 M h)
def k_Ya_writePlan_27 (R9 : Int → Int → Int → Mem → Res) (R27 : Int → Int → Int → Int → Mem → Res) (a1 a2 a3 a4 : Int) (M : Mem) : Res := if w32 a4 < 0 then (k_Ya_writePlan_71 R9 a1 a2 a3 M) else (chk (0 ≤ w32 a2 ∧ w32 a2 < 256) <| blet (M 66 (ix a2)) fun v3 => if 0 < w32 v3 then (bcall (d_Ya_savedWith a2 a4 M) fun v5 M6 => chk (0 ≤ w32 a2 ∧ w32 a2 < 256) <| blet (M6 66 (ix a2)) fun v8 => if w32 v5 = w32 v8 then (chk (0 ≤ w32 a3 ∧ w32 a3 < 20) <| blet (sto M6 65 (ix a3) a4) fun M11 => k_Ya_writePlan_65 R9 R27 a1 a2 a3 a4 M11) else (k_Ya_writePlan_65 R9 R27 a1 a2 a3 a4 M6)) else (k_Ya_writePlan_71 R9 a1 a2 a3 M))
theorem z_Ya_writePlan_27 (C : Cx p s m args meth c G b_Ya_writePlan 5 "PrairiePool$Yard" none) (hlev : 2 ≤ lev) {r : Int × Mem} {R9 : Int → Int → Int → Mem → Res} {R27 : Int → Int → Int → Int → Mem → Res} (hR9 : ∀ (a1 a2 a3 : Int) (M : Mem), R9 a1 a2 a3 M = some r → Z p l e lev s m args below meth c G 5 (MQ below (Qm G 0 r) args s 0 0 (Ab G)) M 9 [(0, .ref (G.1 + 62)), (1, vi a1), (2, vi a2), (3, vi a3)] []) (hR27 : ∀ (a1 a2 a3 a4 : Int) (M : Mem), R27 a1 a2 a3 a4 M = some r → Z p l e lev s m args below meth c G 5 (MQ below (Qm G 0 r) args s 0 0 (Ab G)) M 27 [(0, .ref (G.1 + 62)), (1, vi a1), (2, vi a2), (3, vi a3), (4, vi a4)] []) {a1 a2 a3 a4 : Int} {M : Mem} (h : k_Ya_writePlan_27 R9 R27 a1 a2 a3 a4 M = some r) : Z p l e lev s m args below meth c G 5 (MQ below (Qm G 0 r) args s 0 0 (Ab G)) M 27 [(0, .ref (G.1 + 62)), (1, vi a1), (2, vi a2), (3, vi a3), (4, vi a4)] [] := by
  unfold k_Ya_writePlan_27 at h
  refine z_iload C 4 x_Ya_writePlan_27 rfl ?_
  rcases ite_e h with ⟨c1, h⟩ | ⟨c1, h⟩
  · refine z_if_lt_t (tgt := 71) C x_Ya_writePlan_29 rfl c1 ?_
    exact z_sub [0, 1, 2, 3] rfl (z_Ya_writePlan_71 C hlev hR9 h)
  · refine z_if_lt_f (tgt := 71) C x_Ya_writePlan_29 rfl c1 ?_
    refine z_aload_n C 0 x_Ya_writePlan_32 rfl ?_
    refine z_getR (j := 4) C x_Ya_writePlan_33 nk_62 ck_62 cw_10 (i_lt rfl) rfl rf_62_4 rfl fl_Ya_21 ?_
    refine z_iload_n C 2 x_Ya_writePlan_36 rfl ?_
    obtain ⟨c2, h⟩ := chk_e h
    obtain ⟨v3, ev3, h⟩ := blet_e h
    refine z_iald C x_Ya_writePlan_37 nk_66 ck_66 c2 ev3 ?_
    rcases ite_e h with ⟨c4, h⟩ | ⟨c4, h⟩
    · refine z_if_le_f (tgt := 71) C x_Ya_writePlan_38 rfl c4 ?_
      refine z_aload_n C 0 x_Ya_writePlan_41 rfl ?_
      refine z_iload_n C 2 x_Ya_writePlan_42 rfl ?_
      refine z_iload C 4 x_Ya_writePlan_43 rfl ?_
      obtain ⟨v5, M6, fv5, h⟩ := bcall_e h
      refine z_callVi (k := 62) C x_Ya_writePlan_45 cv_Ya_48 (t_Ya_savedWith (lev := lev - 1) l G (by omega) fv5) nk_62 ck_62 rfl (by omega) rfl (i_le rfl) rfl ?_
      refine z_aload_n C 0 x_Ya_writePlan_48 rfl ?_
      refine z_getR (j := 4) C x_Ya_writePlan_49 nk_62 ck_62 cw_10 (i_lt rfl) rfl rf_62_4 rfl fl_Ya_21 ?_
      refine z_iload_n C 2 x_Ya_writePlan_52 rfl ?_
      obtain ⟨c7, h⟩ := chk_e h
      obtain ⟨v8, ev8, h⟩ := blet_e h
      refine z_iald C x_Ya_writePlan_53 nk_66 ck_66 c7 ev8 ?_
      rcases ite_e h with ⟨c9, h⟩ | ⟨c9, h⟩
      · refine z_icmp_ne_f (tgt := 65) C x_Ya_writePlan_54 rfl c9 ?_
        refine z_aload_n C 0 x_Ya_writePlan_57 rfl ?_
        refine z_getR (j := 3) C x_Ya_writePlan_58 nk_62 ck_62 cw_10 (i_lt rfl) rfl rf_62_3 rfl fl_Ya_18 ?_
        refine z_iload_n C 3 x_Ya_writePlan_61 rfl ?_
        refine z_iload C 4 x_Ya_writePlan_62 rfl ?_
        obtain ⟨c10, h⟩ := chk_e h
        obtain ⟨M11, eM11, h⟩ := blet_e h
        refine z_iast C x_Ya_writePlan_64 nk_65 ck_65 c10 eM11 ?_
        exact z_sub [0, 1, 2, 3, 4] rfl (z_Ya_writePlan_65 C hlev hR9 hR27 h)
      · refine z_icmp_ne_t (tgt := 65) C x_Ya_writePlan_54 rfl c9 ?_
        exact z_sub [0, 1, 2, 3, 4] rfl (z_Ya_writePlan_65 C hlev hR9 hR27 h)
    · refine z_if_le_t (tgt := 71) C x_Ya_writePlan_38 rfl c4 ?_
      exact z_sub [0, 1, 2, 3] rfl (z_Ya_writePlan_71 C hlev hR9 h)
theorem zl_Ya_writePlan_27 (C : Cx p s m args meth c G b_Ya_writePlan 5 "PrairiePool$Yard" none) (hlev : 2 ≤ lev) {r : Int × Mem} {R9 : Int → Int → Int → Mem → Res} (hR9 : ∀ (a1 a2 a3 : Int) (M : Mem), R9 a1 a2 a3 M = some r → Z p l e lev s m args below meth c G 5 (MQ below (Qm G 0 r) args s 0 0 (Ab G)) M 9 [(0, .ref (G.1 + 62)), (1, vi a1), (2, vi a2), (3, vi a3)] []) : ∀ (n : Nat) (a1 a2 a3 a4 : Int) (M : Mem), fix (fun _ _ _ _ _ => none) (k_Ya_writePlan_27 R9) n a1 a2 a3 a4 M = some r → Z p l e lev s m args below meth c G 5 (MQ below (Qm G 0 r) args s 0 0 (Ab G)) M 27 [(0, .ref (G.1 + 62)), (1, vi a1), (2, vi a2), (3, vi a3), (4, vi a4)] [] := by
  intro n
  induction n with
  | zero => intro a1 a2 a3 a4 M h; exact nomatch (show (none : Res) = some r from h)
  | succ n ih => intro a1 a2 a3 a4 M h; exact z_Ya_writePlan_27 C hlev hR9 ih h
def k_Ya_writePlan_9 (R9 : Int → Int → Int → Mem → Res) (a1 a2 a3 : Int) (M : Mem) : Res := if w32 a3 < 20 then (chk (0 ≤ w32 a3 ∧ w32 a3 < 20) <| blet (sto M 65 (ix a3) (-1)) fun M3 => blet (a1 - 1) fun v4 => fix (fun _ _ _ _ _ => none) (k_Ya_writePlan_27 R9) FU a1 a2 a3 v4 M3) else (some (0, M))
theorem z_Ya_writePlan_9 (C : Cx p s m args meth c G b_Ya_writePlan 5 "PrairiePool$Yard" none) (hlev : 2 ≤ lev) {r : Int × Mem} {R9 : Int → Int → Int → Mem → Res} (hR9 : ∀ (a1 a2 a3 : Int) (M : Mem), R9 a1 a2 a3 M = some r → Z p l e lev s m args below meth c G 5 (MQ below (Qm G 0 r) args s 0 0 (Ab G)) M 9 [(0, .ref (G.1 + 62)), (1, vi a1), (2, vi a2), (3, vi a3)] []) {a1 a2 a3 : Int} {M : Mem} (h : k_Ya_writePlan_9 R9 a1 a2 a3 M = some r) : Z p l e lev s m args below meth c G 5 (MQ below (Qm G 0 r) args s 0 0 (Ab G)) M 9 [(0, .ref (G.1 + 62)), (1, vi a1), (2, vi a2), (3, vi a3)] [] := by
  unfold k_Ya_writePlan_9 at h
  refine z_iload_n C 3 x_Ya_writePlan_9 rfl ?_
  refine z_bipush C rfl x_Ya_writePlan_10 ?_
  rcases ite_e h with ⟨c1, h⟩ | ⟨c1, h⟩
  · refine z_icmp_ge_f (tgt := 102) C x_Ya_writePlan_12 rfl c1 ?_
    refine z_aload_n C 0 x_Ya_writePlan_15 rfl ?_
    refine z_getR (j := 3) C x_Ya_writePlan_16 nk_62 ck_62 cw_10 (i_lt rfl) rfl rf_62_3 rfl fl_Ya_18 ?_
    refine z_iload_n C 3 x_Ya_writePlan_19 rfl ?_
    refine z_iconst C x_Ya_writePlan_20 ?_
    obtain ⟨c2, h⟩ := chk_e h
    obtain ⟨M3, eM3, h⟩ := blet_e h
    refine z_iast C x_Ya_writePlan_21 nk_65 ck_65 c2 eM3 ?_
    refine z_iload_n C 1 x_Ya_writePlan_22 rfl ?_
    refine z_iconst C x_Ya_writePlan_23 ?_
    refine z_isub C x_Ya_writePlan_24 ?_
    obtain ⟨v4, ev4, h⟩ := blet_e h
    refine z_istore (lv' := [(4, vi v4), (0, .ref (G.1 + 62)), (1, vi a1), (2, vi a2), (3, vi a3)]) C ev4 x_Ya_writePlan_25 (i_lt rfl) rfl ?_
    exact z_sub [1, 2, 3, 4, 0] rfl (zl_Ya_writePlan_27 C hlev hR9 FU a1 a2 a3 v4 M3 h)
  · refine z_icmp_ge_t (tgt := 102) C x_Ya_writePlan_12 rfl c1 ?_
    exact z_vret C x_Ya_writePlan_102 h
theorem zl_Ya_writePlan_9 (C : Cx p s m args meth c G b_Ya_writePlan 5 "PrairiePool$Yard" none) (hlev : 2 ≤ lev) {r : Int × Mem}  : ∀ (n : Nat) (a1 a2 a3 : Int) (M : Mem), fix (fun _ _ _ _ => none) (k_Ya_writePlan_9) n a1 a2 a3 M = some r → Z p l e lev s m args below meth c G 5 (MQ below (Qm G 0 r) args s 0 0 (Ab G)) M 9 [(0, .ref (G.1 + 62)), (1, vi a1), (2, vi a2), (3, vi a3)] [] := by
  intro n
  induction n with
  | zero => intro a1 a2 a3 M h; exact nomatch (show (none : Res) = some r from h)
  | succ n ih => intro a1 a2 a3 M h; exact z_Ya_writePlan_9 C hlev ih h
def d_Ya_writePlan (a1 : Int) (M : Mem) : Res := blet (sto M 62 2 1) fun M1 => fix (fun _ _ _ _ => none) (k_Ya_writePlan_9) FU a1 0 0 M1
theorem t_Ya_writePlan (l : Launch) (G : GX) {lev : Nat} (hlev : 2 ≤ lev) {a1 : Int} {M : Mem} {r : Int × Mem} (h : d_Ya_writePlan a1 M = some r) : Mt l G y_Ya_writePlan b_Ya_writePlan 5 none lev 0 [.ref (G.1 + 62), vi a1] M r := by
  refine Mt.of (by decide) (i_le rfl) ?_
  intro p e s m args below meth c C
  have C : Cx p s m args meth c G b_Ya_writePlan 5 "PrairiePool$Yard" none := C
  unfold d_Ya_writePlan at h
  refine z_sub (lv' := [(0, .ref (G.1 + 62)), (1, vi a1)]) [0, 1] rfl ?_
  refine z_aload_n C 0 x_Ya_writePlan_0 rfl ?_
  refine z_iconst C x_Ya_writePlan_1 ?_
  obtain ⟨M1, eM1, h⟩ := blet_e h
  refine z_putZ (j := 2) C x_Ya_writePlan_2 nk_62 ck_62 cw_10 (i_lt rfl) rfl rfl rfl (by decide) rfl fl_Ya_67 eM1 ?_
  refine z_iconst C x_Ya_writePlan_5 ?_
  refine z_istore_n (lv' := [(2, vi 0), (0, .ref (G.1 + 62)), (1, vi a1)]) C rfl x_Ya_writePlan_6 (i_lt rfl) rfl ?_
  refine z_iconst C x_Ya_writePlan_7 ?_
  refine z_istore_n (lv' := [(3, vi 0), (2, vi 0), (0, .ref (G.1 + 62)), (1, vi a1)]) C rfl x_Ya_writePlan_8 (i_lt rfl) rfl ?_
  exact z_sub [2, 3, 1, 0] rfl (zl_Ya_writePlan_9 C hlev FU a1 0 0 M1 h)
theorem x_Ya_planTurning_0 : DC b_Ya_planTurning 0 (.iconst 1) 1 1 := ⟨by decide +kernel, rfl⟩
theorem x_Ya_planTurning_1 : DC b_Ya_planTurning 1 (.iload_n 1) 1 2 := ⟨by decide +kernel, rfl⟩
theorem x_Ya_planTurning_2 : DC b_Ya_planTurning 2 (.ishl) 1 3 := ⟨by decide +kernel, rfl⟩
theorem x_Ya_planTurning_3 : DC b_Ya_planTurning 3 (.iconst 1) 1 4 := ⟨by decide +kernel, rfl⟩
theorem x_Ya_planTurning_4 : DC b_Ya_planTurning 4 (.isub) 1 5 := ⟨by decide +kernel, rfl⟩
theorem x_Ya_planTurning_5 : DC b_Ya_planTurning 5 (.istore_n 2) 1 6 := ⟨by decide +kernel, rfl⟩
theorem x_Ya_planTurning_6 : DC b_Ya_planTurning 6 (.iload_n 2) 1 7 := ⟨by decide +kernel, rfl⟩
theorem x_Ya_planTurning_7 : DC b_Ya_planTurning 7 (.ifCond .lt 45) 3 10 := ⟨by decide +kernel, rfl⟩
theorem x_Ya_planTurning_10 : DC b_Ya_planTurning 10 (.iconst 0) 1 11 := ⟨by decide +kernel, rfl⟩
theorem x_Ya_planTurning_11 : DC b_Ya_planTurning 11 (.istore_n 3) 1 12 := ⟨by decide +kernel, rfl⟩
theorem x_Ya_planTurning_12 : DC b_Ya_planTurning 12 (.iconst 0) 1 13 := ⟨by decide +kernel, rfl⟩
theorem x_Ya_planTurning_13 : DC b_Ya_planTurning 13 (.istore 4) 2 15 := ⟨by decide +kernel, rfl⟩
theorem x_Ya_planTurning_15 : DC b_Ya_planTurning 15 (.iload 4) 2 17 := ⟨by decide +kernel, rfl⟩
theorem x_Ya_planTurning_17 : DC b_Ya_planTurning 17 (.iload_n 1) 1 18 := ⟨by decide +kernel, rfl⟩
theorem x_Ya_planTurning_18 : DC b_Ya_planTurning 18 (.if_icmp .ge 21) 3 21 := ⟨by decide +kernel, rfl⟩
theorem x_Ya_planTurning_21 : DC b_Ya_planTurning 21 (.iload_n 3) 1 22 := ⟨by decide +kernel, rfl⟩
theorem x_Ya_planTurning_22 : DC b_Ya_planTurning 22 (.aload_n 0) 1 23 := ⟨by decide +kernel, rfl⟩
theorem x_Ya_planTurning_23 : DC b_Ya_planTurning 23 (.iload_n 2) 1 24 := ⟨by decide +kernel, rfl⟩
theorem x_Ya_planTurning_24 : DC b_Ya_planTurning 24 (.iload 4) 2 26 := ⟨by decide +kernel, rfl⟩
theorem x_Ya_planTurning_26 : DC b_Ya_planTurning 26 (.invokevirtual 48) 3 29 := ⟨by decide +kernel, rfl⟩
theorem x_Ya_planTurning_29 : DC b_Ya_planTurning 29 (.invokestatic 52) 3 32 := ⟨by decide +kernel, rfl⟩
theorem x_Ya_planTurning_32 : DC b_Ya_planTurning 32 (.istore_n 3) 1 33 := ⟨by decide +kernel, rfl⟩
theorem x_Ya_planTurning_33 : DC b_Ya_planTurning 33 (.iinc 4 1) 3 36 := ⟨by decide +kernel, rfl⟩
theorem x_Ya_planTurning_36 : DC b_Ya_planTurning 36 (.goto (-21)) 3 39 := ⟨by decide +kernel, rfl⟩
theorem x_Ya_planTurning_39 : DC b_Ya_planTurning 39 (.aload_n 0) 1 40 := ⟨by decide +kernel, rfl⟩
theorem x_Ya_planTurning_40 : DC b_Ya_planTurning 40 (.getfield 21) 3 43 := ⟨by decide +kernel, rfl⟩
theorem x_Ya_planTurning_43 : DC b_Ya_planTurning 43 (.iload_n 2) 1 44 := ⟨by decide +kernel, rfl⟩
theorem x_Ya_planTurning_44 : DC b_Ya_planTurning 44 (.iload_n 3) 1 45 := ⟨by decide +kernel, rfl⟩
theorem x_Ya_planTurning_45 : DC b_Ya_planTurning 45 (.iastore) 1 46 := ⟨by decide +kernel, rfl⟩
theorem x_Ya_planTurning_46 : DC b_Ya_planTurning 46 (.iinc 2 (-1)) 3 49 := ⟨by decide +kernel, rfl⟩
theorem x_Ya_planTurning_49 : DC b_Ya_planTurning 49 (.goto (-43)) 3 52 := ⟨by decide +kernel, rfl⟩
theorem x_Ya_planTurning_52 : DC b_Ya_planTurning 52 (.aload_n 0) 1 53 := ⟨by decide +kernel, rfl⟩
theorem x_Ya_planTurning_53 : DC b_Ya_planTurning 53 (.iload_n 1) 1 54 := ⟨by decide +kernel, rfl⟩
theorem x_Ya_planTurning_54 : DC b_Ya_planTurning 54 (.invokevirtual 57) 3 57 := ⟨by decide +kernel, rfl⟩
theorem x_Ya_planTurning_57 : DC b_Ya_planTurning 57 (.aload_n 0) 1 58 := ⟨by decide +kernel, rfl⟩
theorem x_Ya_planTurning_58 : DC b_Ya_planTurning 58 (.getfield 21) 3 61 := ⟨by decide +kernel, rfl⟩
theorem x_Ya_planTurning_61 : DC b_Ya_planTurning 61 (.iconst 0) 1 62 := ⟨by decide +kernel, rfl⟩
theorem x_Ya_planTurning_62 : DC b_Ya_planTurning 62 (.iaload) 1 63 := ⟨by decide +kernel, rfl⟩
theorem x_Ya_planTurning_63 : DC b_Ya_planTurning 63 (.ireturn) 1 64 := ⟨by decide +kernel, rfl⟩
def k_Ya_planTurning_15 (R6 : Int → Int → Mem → Res) (R15 : Int → Int → Int → Int → Mem → Res) (a1 a2 a3 a4 : Int) (M : Mem) : Res := if w32 a4 < w32 a1 then (bcall (d_Ya_savedWith a2 a4 M) fun v2 M3 => blet (mx32 a3 v2) fun v4 => blet (a4 + 1) fun v5 => R15 a1 a2 v4 v5 M3) else (chk (0 ≤ w32 a2 ∧ w32 a2 < 256) <| blet (sto M 66 (ix a2) a3) fun M7 => blet (a2 + (-1)) fun v8 => R6 a1 v8 M7)
theorem z_Ya_planTurning_15 (C : Cx p s m args meth c G b_Ya_planTurning 5 "PrairiePool$Yard" (some .int)) (hlev : 3 ≤ lev) {r : Int × Mem} {R6 : Int → Int → Mem → Res} {R15 : Int → Int → Int → Int → Mem → Res} (hR6 : ∀ (a1 a2 : Int) (M : Mem), R6 a1 a2 M = some r → Z p l e lev s m args below meth c G 5 (MQ below (Qm G 1 r) args s 0 0 (Ab G)) M 6 [(0, .ref (G.1 + 62)), (1, vi a1), (2, vi a2)] []) (hR15 : ∀ (a1 a2 a3 a4 : Int) (M : Mem), R15 a1 a2 a3 a4 M = some r → Z p l e lev s m args below meth c G 5 (MQ below (Qm G 1 r) args s 0 0 (Ab G)) M 15 [(0, .ref (G.1 + 62)), (1, vi a1), (2, vi a2), (3, vi a3), (4, vi a4)] []) {a1 a2 a3 a4 : Int} {M : Mem} (h : k_Ya_planTurning_15 R6 R15 a1 a2 a3 a4 M = some r) : Z p l e lev s m args below meth c G 5 (MQ below (Qm G 1 r) args s 0 0 (Ab G)) M 15 [(0, .ref (G.1 + 62)), (1, vi a1), (2, vi a2), (3, vi a3), (4, vi a4)] [] := by
  unfold k_Ya_planTurning_15 at h
  refine z_iload C 4 x_Ya_planTurning_15 rfl ?_
  refine z_iload_n C 1 x_Ya_planTurning_17 rfl ?_
  rcases ite_e h with ⟨c1, h⟩ | ⟨c1, h⟩
  · refine z_icmp_ge_f (tgt := 39) C x_Ya_planTurning_18 rfl c1 ?_
    refine z_iload_n C 3 x_Ya_planTurning_21 rfl ?_
    refine z_aload_n C 0 x_Ya_planTurning_22 rfl ?_
    refine z_iload_n C 2 x_Ya_planTurning_23 rfl ?_
    refine z_iload C 4 x_Ya_planTurning_24 rfl ?_
    obtain ⟨v2, M3, fv2, h⟩ := bcall_e h
    refine z_callVi (k := 62) C x_Ya_planTurning_26 cv_Ya_48 (t_Ya_savedWith (lev := lev - 1) l G (by omega) fv2) nk_62 ck_62 rfl (by omega) rfl (i_le rfl) rfl ?_
    refine z_mx32 C x_Ya_planTurning_29 cs_Ya_52 (by omega) (i_le rfl) ?_
    obtain ⟨v4, ev4, h⟩ := blet_e h
    refine z_istore_n (lv' := [(3, vi v4), (0, .ref (G.1 + 62)), (1, vi a1), (2, vi a2), (4, vi a4)]) C ev4 x_Ya_planTurning_32 (i_lt rfl) rfl ?_
    obtain ⟨v5, ev5, h⟩ := blet_e h
    refine z_iinc (lv' := [(4, vi v5), (3, vi v4), (0, .ref (G.1 + 62)), (1, vi a1), (2, vi a2)]) C 4 ev5 x_Ya_planTurning_33 rfl (i_lt rfl) rfl ?_
    refine z_goto (tgt := 15) C x_Ya_planTurning_36 rfl ?_
    exact z_sub [2, 3, 4, 1, 0] rfl (hR15 a1 a2 v4 v5 M3 h)
  · refine z_icmp_ge_t (tgt := 39) C x_Ya_planTurning_18 rfl c1 ?_
    refine z_aload_n C 0 x_Ya_planTurning_39 rfl ?_
    refine z_getR (j := 4) C x_Ya_planTurning_40 nk_62 ck_62 cw_10 (i_lt rfl) rfl rf_62_4 rfl fl_Ya_21 ?_
    refine z_iload_n C 2 x_Ya_planTurning_43 rfl ?_
    refine z_iload_n C 3 x_Ya_planTurning_44 rfl ?_
    obtain ⟨c6, h⟩ := chk_e h
    obtain ⟨M7, eM7, h⟩ := blet_e h
    refine z_iast C x_Ya_planTurning_45 nk_66 ck_66 c6 eM7 ?_
    obtain ⟨v8, ev8, h⟩ := blet_e h
    refine z_iinc (lv' := [(2, vi v8), (0, .ref (G.1 + 62)), (1, vi a1), (3, vi a3), (4, vi a4)]) C 2 ev8 x_Ya_planTurning_46 rfl (i_lt rfl) rfl ?_
    refine z_goto (tgt := 6) C x_Ya_planTurning_49 rfl ?_
    exact z_sub [1, 2, 0] rfl (hR6 a1 v8 M7 h)
theorem zl_Ya_planTurning_15 (C : Cx p s m args meth c G b_Ya_planTurning 5 "PrairiePool$Yard" (some .int)) (hlev : 3 ≤ lev) {r : Int × Mem} {R6 : Int → Int → Mem → Res} (hR6 : ∀ (a1 a2 : Int) (M : Mem), R6 a1 a2 M = some r → Z p l e lev s m args below meth c G 5 (MQ below (Qm G 1 r) args s 0 0 (Ab G)) M 6 [(0, .ref (G.1 + 62)), (1, vi a1), (2, vi a2)] []) : ∀ (n : Nat) (a1 a2 a3 a4 : Int) (M : Mem), fix (fun _ _ _ _ _ => none) (k_Ya_planTurning_15 R6) n a1 a2 a3 a4 M = some r → Z p l e lev s m args below meth c G 5 (MQ below (Qm G 1 r) args s 0 0 (Ab G)) M 15 [(0, .ref (G.1 + 62)), (1, vi a1), (2, vi a2), (3, vi a3), (4, vi a4)] [] := by
  intro n
  induction n with
  | zero => intro a1 a2 a3 a4 M h; exact nomatch (show (none : Res) = some r from h)
  | succ n ih => intro a1 a2 a3 a4 M h; exact z_Ya_planTurning_15 C hlev hR6 ih h
def k_Ya_planTurning_6 (R6 : Int → Int → Mem → Res) (a1 a2 : Int) (M : Mem) : Res := if w32 a2 < 0 then (bcall (d_Ya_writePlan a1 M) fun v2 M3 => blet (M3 66 0) fun v4 => some (v4, M3)) else (fix (fun _ _ _ _ _ => none) (k_Ya_planTurning_15 R6) FU a1 a2 0 0 M)
theorem z_Ya_planTurning_6 (C : Cx p s m args meth c G b_Ya_planTurning 5 "PrairiePool$Yard" (some .int)) (hlev : 3 ≤ lev) {r : Int × Mem} {R6 : Int → Int → Mem → Res} (hR6 : ∀ (a1 a2 : Int) (M : Mem), R6 a1 a2 M = some r → Z p l e lev s m args below meth c G 5 (MQ below (Qm G 1 r) args s 0 0 (Ab G)) M 6 [(0, .ref (G.1 + 62)), (1, vi a1), (2, vi a2)] []) {a1 a2 : Int} {M : Mem} (h : k_Ya_planTurning_6 R6 a1 a2 M = some r) : Z p l e lev s m args below meth c G 5 (MQ below (Qm G 1 r) args s 0 0 (Ab G)) M 6 [(0, .ref (G.1 + 62)), (1, vi a1), (2, vi a2)] [] := by
  unfold k_Ya_planTurning_6 at h
  refine z_iload_n C 2 x_Ya_planTurning_6 rfl ?_
  rcases ite_e h with ⟨c1, h⟩ | ⟨c1, h⟩
  · refine z_if_lt_t (tgt := 52) C x_Ya_planTurning_7 rfl c1 ?_
    refine z_aload_n C 0 x_Ya_planTurning_52 rfl ?_
    refine z_iload_n C 1 x_Ya_planTurning_53 rfl ?_
    obtain ⟨v2, M3, fv2, h⟩ := bcall_e h
    refine z_callVv (k := 62) C x_Ya_planTurning_54 cv_Ya_57 (t_Ya_writePlan (lev := lev - 1) l G (by omega) fv2) nk_62 ck_62 rfl (by omega) rfl (i_le rfl) rfl ?_
    refine z_aload_n C 0 x_Ya_planTurning_57 rfl ?_
    refine z_getR (j := 4) C x_Ya_planTurning_58 nk_62 ck_62 cw_10 (i_lt rfl) rfl rf_62_4 rfl fl_Ya_21 ?_
    refine z_iconst C x_Ya_planTurning_61 ?_
    obtain ⟨v4, ev4, h⟩ := blet_e h
    refine z_iald C x_Ya_planTurning_62 nk_66 ck_66 (by decide) ev4 ?_
    exact z_iret C x_Ya_planTurning_63 h
  · refine z_if_lt_f (tgt := 52) C x_Ya_planTurning_7 rfl c1 ?_
    refine z_iconst C x_Ya_planTurning_10 ?_
    refine z_istore_n (lv' := [(3, vi 0), (0, .ref (G.1 + 62)), (1, vi a1), (2, vi a2)]) C rfl x_Ya_planTurning_11 (i_lt rfl) rfl ?_
    refine z_iconst C x_Ya_planTurning_12 ?_
    refine z_istore (lv' := [(4, vi 0), (3, vi 0), (0, .ref (G.1 + 62)), (1, vi a1), (2, vi a2)]) C rfl x_Ya_planTurning_13 (i_lt rfl) rfl ?_
    exact z_sub [2, 3, 4, 1, 0] rfl (zl_Ya_planTurning_15 C hlev hR6 FU a1 a2 0 0 M h)
theorem zl_Ya_planTurning_6 (C : Cx p s m args meth c G b_Ya_planTurning 5 "PrairiePool$Yard" (some .int)) (hlev : 3 ≤ lev) {r : Int × Mem}  : ∀ (n : Nat) (a1 a2 : Int) (M : Mem), fix (fun _ _ _ => none) (k_Ya_planTurning_6) n a1 a2 M = some r → Z p l e lev s m args below meth c G 5 (MQ below (Qm G 1 r) args s 0 0 (Ab G)) M 6 [(0, .ref (G.1 + 62)), (1, vi a1), (2, vi a2)] [] := by
  intro n
  induction n with
  | zero => intro a1 a2 M h; exact nomatch (show (none : Res) = some r from h)
  | succ n ih => intro a1 a2 M h; exact z_Ya_planTurning_6 C hlev ih h
def d_Ya_planTurning (a1 : Int) (M : Mem) : Res := blet ((sl32 1 a1) - 1) fun v1 => fix (fun _ _ _ => none) (k_Ya_planTurning_6) FU a1 v1 M
theorem t_Ya_planTurning (l : Launch) (G : GX) {lev : Nat} (hlev : 3 ≤ lev) {a1 : Int} {M : Mem} {r : Int × Mem} (h : d_Ya_planTurning a1 M = some r) : Mt l G y_Ya_planTurning b_Ya_planTurning 5 (some .int) lev 1 [.ref (G.1 + 62), vi a1] M r := by
  refine Mt.of (by decide) (i_le rfl) ?_
  intro p e s m args below meth c C
  have C : Cx p s m args meth c G b_Ya_planTurning 5 "PrairiePool$Yard" (some .int) := C
  unfold d_Ya_planTurning at h
  refine z_sub (lv' := [(0, .ref (G.1 + 62)), (1, vi a1)]) [0, 1] rfl ?_
  refine z_iconst C x_Ya_planTurning_0 ?_
  refine z_iload_n C 1 x_Ya_planTurning_1 rfl ?_
  refine z_ishl C x_Ya_planTurning_2 ?_
  refine z_iconst C x_Ya_planTurning_3 ?_
  refine z_isub C x_Ya_planTurning_4 ?_
  obtain ⟨v1, ev1, h⟩ := blet_e h
  refine z_istore_n (lv' := [(2, vi v1), (0, .ref (G.1 + 62)), (1, vi a1)]) C ev1 x_Ya_planTurning_5 (i_lt rfl) rfl ?_
  exact z_sub [1, 2, 0] rfl (zl_Ya_planTurning_6 C hlev FU a1 v1 M h)
theorem x_Ya_goOn_0 : DC b_Ya_goOn 0 (.iconst 0) 1 1 := ⟨by decide +kernel, rfl⟩
theorem x_Ya_goOn_1 : DC b_Ya_goOn 1 (.istore 4) 2 3 := ⟨by decide +kernel, rfl⟩
theorem x_Ya_goOn_3 : DC b_Ya_goOn 3 (.aload_n 0) 1 4 := ⟨by decide +kernel, rfl⟩
theorem x_Ya_goOn_4 : DC b_Ya_goOn 4 (.getfield 36) 3 7 := ⟨by decide +kernel, rfl⟩
theorem x_Ya_goOn_7 : DC b_Ya_goOn 7 (.iload_n 1) 1 8 := ⟨by decide +kernel, rfl⟩
theorem x_Ya_goOn_8 : DC b_Ya_goOn 8 (.iaload) 1 9 := ⟨by decide +kernel, rfl⟩
theorem x_Ya_goOn_9 : DC b_Ya_goOn 9 (.ldc 91) 2 11 := ⟨by decide +kernel, rfl⟩
theorem x_Ya_goOn_11 : DC b_Ya_goOn 11 (.if_icmp .ge 54) 3 14 := ⟨by decide +kernel, rfl⟩
theorem x_Ya_goOn_14 : DC b_Ya_goOn 14 (.aload_n 0) 1 15 := ⟨by decide +kernel, rfl⟩
theorem x_Ya_goOn_15 : DC b_Ya_goOn 15 (.getfield 36) 3 18 := ⟨by decide +kernel, rfl⟩
theorem x_Ya_goOn_18 : DC b_Ya_goOn 18 (.iload_n 1) 1 19 := ⟨by decide +kernel, rfl⟩
theorem x_Ya_goOn_19 : DC b_Ya_goOn 19 (.iaload) 1 20 := ⟨by decide +kernel, rfl⟩
theorem x_Ya_goOn_20 : DC b_Ya_goOn 20 (.aload_n 0) 1 21 := ⟨by decide +kernel, rfl⟩
theorem x_Ya_goOn_21 : DC b_Ya_goOn 21 (.getfield 30) 3 24 := ⟨by decide +kernel, rfl⟩
theorem x_Ya_goOn_24 : DC b_Ya_goOn 24 (.iload_n 3) 1 25 := ⟨by decide +kernel, rfl⟩
theorem x_Ya_goOn_25 : DC b_Ya_goOn 25 (.iaload) 1 26 := ⟨by decide +kernel, rfl⟩
theorem x_Ya_goOn_26 : DC b_Ya_goOn 26 (.iadd) 1 27 := ⟨by decide +kernel, rfl⟩
theorem x_Ya_goOn_27 : DC b_Ya_goOn 27 (.aload_n 0) 1 28 := ⟨by decide +kernel, rfl⟩
theorem x_Ya_goOn_28 : DC b_Ya_goOn 28 (.getfield 42) 3 31 := ⟨by decide +kernel, rfl⟩
theorem x_Ya_goOn_31 : DC b_Ya_goOn 31 (.iload_n 2) 1 32 := ⟨by decide +kernel, rfl⟩
theorem x_Ya_goOn_32 : DC b_Ya_goOn 32 (.iaload) 1 33 := ⟨by decide +kernel, rfl⟩
theorem x_Ya_goOn_33 : DC b_Ya_goOn 33 (.if_icmp .ge 32) 3 36 := ⟨by decide +kernel, rfl⟩
theorem x_Ya_goOn_36 : DC b_Ya_goOn 36 (.aload_n 0) 1 37 := ⟨by decide +kernel, rfl⟩
theorem x_Ya_goOn_37 : DC b_Ya_goOn 37 (.getfield 42) 3 40 := ⟨by decide +kernel, rfl⟩
theorem x_Ya_goOn_40 : DC b_Ya_goOn 40 (.iload_n 2) 1 41 := ⟨by decide +kernel, rfl⟩
theorem x_Ya_goOn_41 : DC b_Ya_goOn 41 (.aload_n 0) 1 42 := ⟨by decide +kernel, rfl⟩
theorem x_Ya_goOn_42 : DC b_Ya_goOn 42 (.getfield 36) 3 45 := ⟨by decide +kernel, rfl⟩
theorem x_Ya_goOn_45 : DC b_Ya_goOn 45 (.iload_n 1) 1 46 := ⟨by decide +kernel, rfl⟩
theorem x_Ya_goOn_46 : DC b_Ya_goOn 46 (.iaload) 1 47 := ⟨by decide +kernel, rfl⟩
theorem x_Ya_goOn_47 : DC b_Ya_goOn 47 (.aload_n 0) 1 48 := ⟨by decide +kernel, rfl⟩
theorem x_Ya_goOn_48 : DC b_Ya_goOn 48 (.getfield 30) 3 51 := ⟨by decide +kernel, rfl⟩
theorem x_Ya_goOn_51 : DC b_Ya_goOn 51 (.iload_n 3) 1 52 := ⟨by decide +kernel, rfl⟩
theorem x_Ya_goOn_52 : DC b_Ya_goOn 52 (.iaload) 1 53 := ⟨by decide +kernel, rfl⟩
theorem x_Ya_goOn_53 : DC b_Ya_goOn 53 (.iadd) 1 54 := ⟨by decide +kernel, rfl⟩
theorem x_Ya_goOn_54 : DC b_Ya_goOn 54 (.iastore) 1 55 := ⟨by decide +kernel, rfl⟩
theorem x_Ya_goOn_55 : DC b_Ya_goOn 55 (.aload_n 0) 1 56 := ⟨by decide +kernel, rfl⟩
theorem x_Ya_goOn_56 : DC b_Ya_goOn 56 (.getfield 45) 3 59 := ⟨by decide +kernel, rfl⟩
theorem x_Ya_goOn_59 : DC b_Ya_goOn 59 (.iload_n 2) 1 60 := ⟨by decide +kernel, rfl⟩
theorem x_Ya_goOn_60 : DC b_Ya_goOn 60 (.iload_n 1) 1 61 := ⟨by decide +kernel, rfl⟩
theorem x_Ya_goOn_61 : DC b_Ya_goOn 61 (.iastore) 1 62 := ⟨by decide +kernel, rfl⟩
theorem x_Ya_goOn_62 : DC b_Ya_goOn 62 (.iconst 1) 1 63 := ⟨by decide +kernel, rfl⟩
theorem x_Ya_goOn_63 : DC b_Ya_goOn 63 (.istore 4) 2 65 := ⟨by decide +kernel, rfl⟩
theorem x_Ya_goOn_65 : DC b_Ya_goOn 65 (.aload_n 0) 1 66 := ⟨by decide +kernel, rfl⟩
theorem x_Ya_goOn_66 : DC b_Ya_goOn 66 (.getfield 33) 3 69 := ⟨by decide +kernel, rfl⟩
theorem x_Ya_goOn_69 : DC b_Ya_goOn 69 (.iload_n 3) 1 70 := ⟨by decide +kernel, rfl⟩
theorem x_Ya_goOn_70 : DC b_Ya_goOn 70 (.iaload) 1 71 := ⟨by decide +kernel, rfl⟩
theorem x_Ya_goOn_71 : DC b_Ya_goOn 71 (.ifCond .le 54) 3 74 := ⟨by decide +kernel, rfl⟩
theorem x_Ya_goOn_74 : DC b_Ya_goOn 74 (.aload_n 0) 1 75 := ⟨by decide +kernel, rfl⟩
theorem x_Ya_goOn_75 : DC b_Ya_goOn 75 (.getfield 42) 3 78 := ⟨by decide +kernel, rfl⟩
theorem x_Ya_goOn_78 : DC b_Ya_goOn 78 (.iload_n 2) 1 79 := ⟨by decide +kernel, rfl⟩
theorem x_Ya_goOn_79 : DC b_Ya_goOn 79 (.iaload) 1 80 := ⟨by decide +kernel, rfl⟩
theorem x_Ya_goOn_80 : DC b_Ya_goOn 80 (.aload_n 0) 1 81 := ⟨by decide +kernel, rfl⟩
theorem x_Ya_goOn_81 : DC b_Ya_goOn 81 (.getfield 30) 3 84 := ⟨by decide +kernel, rfl⟩
theorem x_Ya_goOn_84 : DC b_Ya_goOn 84 (.iload_n 3) 1 85 := ⟨by decide +kernel, rfl⟩
theorem x_Ya_goOn_85 : DC b_Ya_goOn 85 (.iaload) 1 86 := ⟨by decide +kernel, rfl⟩
theorem x_Ya_goOn_86 : DC b_Ya_goOn 86 (.isub) 1 87 := ⟨by decide +kernel, rfl⟩
theorem x_Ya_goOn_87 : DC b_Ya_goOn 87 (.aload_n 0) 1 88 := ⟨by decide +kernel, rfl⟩
theorem x_Ya_goOn_88 : DC b_Ya_goOn 88 (.getfield 36) 3 91 := ⟨by decide +kernel, rfl⟩
theorem x_Ya_goOn_91 : DC b_Ya_goOn 91 (.iload_n 1) 1 92 := ⟨by decide +kernel, rfl⟩
theorem x_Ya_goOn_92 : DC b_Ya_goOn 92 (.iaload) 1 93 := ⟨by decide +kernel, rfl⟩
theorem x_Ya_goOn_93 : DC b_Ya_goOn 93 (.if_icmp .ge 32) 3 96 := ⟨by decide +kernel, rfl⟩
theorem x_Ya_goOn_96 : DC b_Ya_goOn 96 (.aload_n 0) 1 97 := ⟨by decide +kernel, rfl⟩
theorem x_Ya_goOn_97 : DC b_Ya_goOn 97 (.getfield 36) 3 100 := ⟨by decide +kernel, rfl⟩
theorem x_Ya_goOn_100 : DC b_Ya_goOn 100 (.iload_n 1) 1 101 := ⟨by decide +kernel, rfl⟩
theorem x_Ya_goOn_101 : DC b_Ya_goOn 101 (.aload_n 0) 1 102 := ⟨by decide +kernel, rfl⟩
theorem x_Ya_goOn_102 : DC b_Ya_goOn 102 (.getfield 42) 3 105 := ⟨by decide +kernel, rfl⟩
theorem x_Ya_goOn_105 : DC b_Ya_goOn 105 (.iload_n 2) 1 106 := ⟨by decide +kernel, rfl⟩
theorem x_Ya_goOn_106 : DC b_Ya_goOn 106 (.iaload) 1 107 := ⟨by decide +kernel, rfl⟩
theorem x_Ya_goOn_107 : DC b_Ya_goOn 107 (.aload_n 0) 1 108 := ⟨by decide +kernel, rfl⟩
theorem x_Ya_goOn_108 : DC b_Ya_goOn 108 (.getfield 30) 3 111 := ⟨by decide +kernel, rfl⟩
theorem x_Ya_goOn_111 : DC b_Ya_goOn 111 (.iload_n 3) 1 112 := ⟨by decide +kernel, rfl⟩
theorem x_Ya_goOn_112 : DC b_Ya_goOn 112 (.iaload) 1 113 := ⟨by decide +kernel, rfl⟩
theorem x_Ya_goOn_113 : DC b_Ya_goOn 113 (.isub) 1 114 := ⟨by decide +kernel, rfl⟩
theorem x_Ya_goOn_114 : DC b_Ya_goOn 114 (.iastore) 1 115 := ⟨by decide +kernel, rfl⟩
theorem x_Ya_goOn_115 : DC b_Ya_goOn 115 (.aload_n 0) 1 116 := ⟨by decide +kernel, rfl⟩
theorem x_Ya_goOn_116 : DC b_Ya_goOn 116 (.getfield 39) 3 119 := ⟨by decide +kernel, rfl⟩
theorem x_Ya_goOn_119 : DC b_Ya_goOn 119 (.iload_n 1) 1 120 := ⟨by decide +kernel, rfl⟩
theorem x_Ya_goOn_120 : DC b_Ya_goOn 120 (.iload_n 2) 1 121 := ⟨by decide +kernel, rfl⟩
theorem x_Ya_goOn_121 : DC b_Ya_goOn 121 (.iastore) 1 122 := ⟨by decide +kernel, rfl⟩
theorem x_Ya_goOn_122 : DC b_Ya_goOn 122 (.iconst 1) 1 123 := ⟨by decide +kernel, rfl⟩
theorem x_Ya_goOn_123 : DC b_Ya_goOn 123 (.istore 4) 2 125 := ⟨by decide +kernel, rfl⟩
theorem x_Ya_goOn_125 : DC b_Ya_goOn 125 (.iload 4) 2 127 := ⟨by decide +kernel, rfl⟩
theorem x_Ya_goOn_127 : DC b_Ya_goOn 127 (.ireturn) 1 128 := ⟨by decide +kernel, rfl⟩
def k_Ya_goOn_65 (a1 a2 a3 a4 : Int) (M : Mem) : Res := chk (0 ≤ w32 a3 ∧ w32 a3 < 20) <| blet (M 70 (ix a3)) fun v2 => if 0 < w32 v2 then (chk (0 ≤ w32 a2 ∧ w32 a2 < 4) <| blet (M 73 (ix a2)) fun v5 => chk (0 ≤ w32 a3 ∧ w32 a3 < 20) <| blet (M 69 (ix a3)) fun v7 => chk (0 ≤ w32 a1 ∧ w32 a1 < 5) <| blet (M 71 (ix a1)) fun v9 => if w32 (v5 - v7) < w32 v9 then (chk (0 ≤ w32 a2 ∧ w32 a2 < 4) <| blet (M 73 (ix a2)) fun v12 => chk (0 ≤ w32 a3 ∧ w32 a3 < 20) <| blet (M 69 (ix a3)) fun v14 => chk (0 ≤ w32 a1 ∧ w32 a1 < 5) <| blet (sto M 71 (ix a1) (v12 - v14)) fun M16 => chk (0 ≤ w32 a1 ∧ w32 a1 < 5) <| blet (sto M16 72 (ix a1) a2) fun M18 => some (1, M18)) else (chk (w32 a4 = 0 ∨ w32 a4 = 1) <| some (a4, M))) else (chk (w32 a4 = 0 ∨ w32 a4 = 1) <| some (a4, M))
theorem z_Ya_goOn_65 (C : Cx p s m args meth c G b_Ya_goOn 5 "PrairiePool$Yard" (some .boolean)) (hlev : 0 ≤ lev) {r : Int × Mem}  {a1 a2 a3 a4 : Int} {M : Mem} (h : k_Ya_goOn_65 a1 a2 a3 a4 M = some r) : Z p l e lev s m args below meth c G 5 (MQ below (Qm G 1 r) args s 0 0 (Ab G)) M 65 [(0, .ref (G.1 + 62)), (1, vi a1), (2, vi a2), (3, vi a3), (4, vi a4)] [] := by
  unfold k_Ya_goOn_65 at h
  refine z_aload_n C 0 x_Ya_goOn_65 rfl ?_
  refine z_getR (j := 8) C x_Ya_goOn_66 nk_62 ck_62 cw_10 (i_lt rfl) rfl rf_62_8 rfl fl_Ya_33 ?_
  refine z_iload_n C 3 x_Ya_goOn_69 rfl ?_
  obtain ⟨c1, h⟩ := chk_e h
  obtain ⟨v2, ev2, h⟩ := blet_e h
  refine z_iald C x_Ya_goOn_70 nk_70 ck_70 c1 ev2 ?_
  rcases ite_e h with ⟨c3, h⟩ | ⟨c3, h⟩
  · refine z_if_le_f (tgt := 125) C x_Ya_goOn_71 rfl c3 ?_
    refine z_aload_n C 0 x_Ya_goOn_74 rfl ?_
    refine z_getR (j := 11) C x_Ya_goOn_75 nk_62 ck_62 cw_10 (i_lt rfl) rfl rf_62_11 rfl fl_Ya_42 ?_
    refine z_iload_n C 2 x_Ya_goOn_78 rfl ?_
    obtain ⟨c4, h⟩ := chk_e h
    obtain ⟨v5, ev5, h⟩ := blet_e h
    refine z_iald C x_Ya_goOn_79 nk_73 ck_73 c4 ev5 ?_
    refine z_aload_n C 0 x_Ya_goOn_80 rfl ?_
    refine z_getR (j := 7) C x_Ya_goOn_81 nk_62 ck_62 cw_10 (i_lt rfl) rfl rf_62_7 rfl fl_Ya_30 ?_
    refine z_iload_n C 3 x_Ya_goOn_84 rfl ?_
    obtain ⟨c6, h⟩ := chk_e h
    obtain ⟨v7, ev7, h⟩ := blet_e h
    refine z_iald C x_Ya_goOn_85 nk_69 ck_69 c6 ev7 ?_
    refine z_isub C x_Ya_goOn_86 ?_
    refine z_aload_n C 0 x_Ya_goOn_87 rfl ?_
    refine z_getR (j := 9) C x_Ya_goOn_88 nk_62 ck_62 cw_10 (i_lt rfl) rfl rf_62_9 rfl fl_Ya_36 ?_
    refine z_iload_n C 1 x_Ya_goOn_91 rfl ?_
    obtain ⟨c8, h⟩ := chk_e h
    obtain ⟨v9, ev9, h⟩ := blet_e h
    refine z_iald C x_Ya_goOn_92 nk_71 ck_71 c8 ev9 ?_
    rcases ite_e h with ⟨c10, h⟩ | ⟨c10, h⟩
    · refine z_icmp_ge_f (tgt := 125) C x_Ya_goOn_93 rfl c10 ?_
      refine z_aload_n C 0 x_Ya_goOn_96 rfl ?_
      refine z_getR (j := 9) C x_Ya_goOn_97 nk_62 ck_62 cw_10 (i_lt rfl) rfl rf_62_9 rfl fl_Ya_36 ?_
      refine z_iload_n C 1 x_Ya_goOn_100 rfl ?_
      refine z_aload_n C 0 x_Ya_goOn_101 rfl ?_
      refine z_getR (j := 11) C x_Ya_goOn_102 nk_62 ck_62 cw_10 (i_lt rfl) rfl rf_62_11 rfl fl_Ya_42 ?_
      refine z_iload_n C 2 x_Ya_goOn_105 rfl ?_
      obtain ⟨c11, h⟩ := chk_e h
      obtain ⟨v12, ev12, h⟩ := blet_e h
      refine z_iald C x_Ya_goOn_106 nk_73 ck_73 c11 ev12 ?_
      refine z_aload_n C 0 x_Ya_goOn_107 rfl ?_
      refine z_getR (j := 7) C x_Ya_goOn_108 nk_62 ck_62 cw_10 (i_lt rfl) rfl rf_62_7 rfl fl_Ya_30 ?_
      refine z_iload_n C 3 x_Ya_goOn_111 rfl ?_
      obtain ⟨c13, h⟩ := chk_e h
      obtain ⟨v14, ev14, h⟩ := blet_e h
      refine z_iald C x_Ya_goOn_112 nk_69 ck_69 c13 ev14 ?_
      refine z_isub C x_Ya_goOn_113 ?_
      obtain ⟨c15, h⟩ := chk_e h
      obtain ⟨M16, eM16, h⟩ := blet_e h
      refine z_iast C x_Ya_goOn_114 nk_71 ck_71 c15 eM16 ?_
      refine z_aload_n C 0 x_Ya_goOn_115 rfl ?_
      refine z_getR (j := 10) C x_Ya_goOn_116 nk_62 ck_62 cw_10 (i_lt rfl) rfl rf_62_10 rfl fl_Ya_39 ?_
      refine z_iload_n C 1 x_Ya_goOn_119 rfl ?_
      refine z_iload_n C 2 x_Ya_goOn_120 rfl ?_
      obtain ⟨c17, h⟩ := chk_e h
      obtain ⟨M18, eM18, h⟩ := blet_e h
      refine z_iast C x_Ya_goOn_121 nk_72 ck_72 c17 eM18 ?_
      refine z_iconst C x_Ya_goOn_122 ?_
      refine z_istore (lv' := [(4, vi 1), (0, .ref (G.1 + 62)), (1, vi a1), (2, vi a2), (3, vi a3)]) C rfl x_Ya_goOn_123 (i_lt rfl) rfl ?_
      refine z_iload C 0 x_Ya_goOn_125 rfl ?_
      exact z_zret C x_Ya_goOn_127 (by decide) h
    · refine z_icmp_ge_t (tgt := 125) C x_Ya_goOn_93 rfl c10 ?_
      refine z_iload C 4 x_Ya_goOn_125 rfl ?_
      obtain ⟨c19, h⟩ := chk_e h
      exact z_zret C x_Ya_goOn_127 c19 h
  · refine z_if_le_t (tgt := 125) C x_Ya_goOn_71 rfl c3 ?_
    refine z_iload C 4 x_Ya_goOn_125 rfl ?_
    obtain ⟨c20, h⟩ := chk_e h
    exact z_zret C x_Ya_goOn_127 c20 h
def d_Ya_goOn (a1 a2 a3 : Int) (M : Mem) : Res := chk (0 ≤ w32 a1 ∧ w32 a1 < 5) <| blet (M 71 (ix a1)) fun v2 => if w32 v2 < 1000000 then (chk (0 ≤ w32 a1 ∧ w32 a1 < 5) <| blet (M 71 (ix a1)) fun v5 => chk (0 ≤ w32 a3 ∧ w32 a3 < 20) <| blet (M 69 (ix a3)) fun v7 => chk (0 ≤ w32 a2 ∧ w32 a2 < 4) <| blet (M 73 (ix a2)) fun v9 => if w32 (v5 + v7) < w32 v9 then (chk (0 ≤ w32 a1 ∧ w32 a1 < 5) <| blet (M 71 (ix a1)) fun v12 => chk (0 ≤ w32 a3 ∧ w32 a3 < 20) <| blet (M 69 (ix a3)) fun v14 => chk (0 ≤ w32 a2 ∧ w32 a2 < 4) <| blet (sto M 73 (ix a2) (v12 + v14)) fun M16 => chk (0 ≤ w32 a2 ∧ w32 a2 < 4) <| blet (sto M16 74 (ix a2) a1) fun M18 => k_Ya_goOn_65 a1 a2 a3 1 M18) else (k_Ya_goOn_65 a1 a2 a3 0 M)) else (k_Ya_goOn_65 a1 a2 a3 0 M)
theorem t_Ya_goOn (l : Launch) (G : GX) {lev : Nat} (hlev : 0 ≤ lev) {a1 a2 a3 : Int} {M : Mem} {r : Int × Mem} (h : d_Ya_goOn a1 a2 a3 M = some r) : Mt l G y_Ya_goOn b_Ya_goOn 5 (some .boolean) lev 1 [.ref (G.1 + 62), vi a1, vi a2, vi a3] M r := by
  refine Mt.of (by decide) (i_le rfl) ?_
  intro p e s m args below meth c C
  have C : Cx p s m args meth c G b_Ya_goOn 5 "PrairiePool$Yard" (some .boolean) := C
  unfold d_Ya_goOn at h
  refine z_sub (lv' := [(0, .ref (G.1 + 62)), (1, vi a1), (2, vi a2), (3, vi a3)]) [0, 1, 2, 3] rfl ?_
  refine z_iconst C x_Ya_goOn_0 ?_
  refine z_istore (lv' := [(4, vi 0), (0, .ref (G.1 + 62)), (1, vi a1), (2, vi a2), (3, vi a3)]) C rfl x_Ya_goOn_1 (i_lt rfl) rfl ?_
  refine z_aload_n C 1 x_Ya_goOn_3 rfl ?_
  refine z_getR (j := 9) C x_Ya_goOn_4 nk_62 ck_62 cw_10 (i_lt rfl) rfl rf_62_9 rfl fl_Ya_36 ?_
  refine z_iload_n C 2 x_Ya_goOn_7 rfl ?_
  obtain ⟨c1, h⟩ := chk_e h
  obtain ⟨v2, ev2, h⟩ := blet_e h
  refine z_iald C x_Ya_goOn_8 nk_71 ck_71 c1 ev2 ?_
  refine z_ldc C kc_Ya_91 x_Ya_goOn_9 ?_
  rcases ite_e h with ⟨c3, h⟩ | ⟨c3, h⟩
  · refine z_icmp_ge_f (tgt := 65) C x_Ya_goOn_11 rfl c3 ?_
    refine z_aload_n C 1 x_Ya_goOn_14 rfl ?_
    refine z_getR (j := 9) C x_Ya_goOn_15 nk_62 ck_62 cw_10 (i_lt rfl) rfl rf_62_9 rfl fl_Ya_36 ?_
    refine z_iload_n C 2 x_Ya_goOn_18 rfl ?_
    obtain ⟨c4, h⟩ := chk_e h
    obtain ⟨v5, ev5, h⟩ := blet_e h
    refine z_iald C x_Ya_goOn_19 nk_71 ck_71 c4 ev5 ?_
    refine z_aload_n C 1 x_Ya_goOn_20 rfl ?_
    refine z_getR (j := 7) C x_Ya_goOn_21 nk_62 ck_62 cw_10 (i_lt rfl) rfl rf_62_7 rfl fl_Ya_30 ?_
    refine z_iload_n C 4 x_Ya_goOn_24 rfl ?_
    obtain ⟨c6, h⟩ := chk_e h
    obtain ⟨v7, ev7, h⟩ := blet_e h
    refine z_iald C x_Ya_goOn_25 nk_69 ck_69 c6 ev7 ?_
    refine z_iadd C x_Ya_goOn_26 ?_
    refine z_aload_n C 1 x_Ya_goOn_27 rfl ?_
    refine z_getR (j := 11) C x_Ya_goOn_28 nk_62 ck_62 cw_10 (i_lt rfl) rfl rf_62_11 rfl fl_Ya_42 ?_
    refine z_iload_n C 3 x_Ya_goOn_31 rfl ?_
    obtain ⟨c8, h⟩ := chk_e h
    obtain ⟨v9, ev9, h⟩ := blet_e h
    refine z_iald C x_Ya_goOn_32 nk_73 ck_73 c8 ev9 ?_
    rcases ite_e h with ⟨c10, h⟩ | ⟨c10, h⟩
    · refine z_icmp_ge_f (tgt := 65) C x_Ya_goOn_33 rfl c10 ?_
      refine z_aload_n C 1 x_Ya_goOn_36 rfl ?_
      refine z_getR (j := 11) C x_Ya_goOn_37 nk_62 ck_62 cw_10 (i_lt rfl) rfl rf_62_11 rfl fl_Ya_42 ?_
      refine z_iload_n C 3 x_Ya_goOn_40 rfl ?_
      refine z_aload_n C 1 x_Ya_goOn_41 rfl ?_
      refine z_getR (j := 9) C x_Ya_goOn_42 nk_62 ck_62 cw_10 (i_lt rfl) rfl rf_62_9 rfl fl_Ya_36 ?_
      refine z_iload_n C 2 x_Ya_goOn_45 rfl ?_
      obtain ⟨c11, h⟩ := chk_e h
      obtain ⟨v12, ev12, h⟩ := blet_e h
      refine z_iald C x_Ya_goOn_46 nk_71 ck_71 c11 ev12 ?_
      refine z_aload_n C 1 x_Ya_goOn_47 rfl ?_
      refine z_getR (j := 7) C x_Ya_goOn_48 nk_62 ck_62 cw_10 (i_lt rfl) rfl rf_62_7 rfl fl_Ya_30 ?_
      refine z_iload_n C 4 x_Ya_goOn_51 rfl ?_
      obtain ⟨c13, h⟩ := chk_e h
      obtain ⟨v14, ev14, h⟩ := blet_e h
      refine z_iald C x_Ya_goOn_52 nk_69 ck_69 c13 ev14 ?_
      refine z_iadd C x_Ya_goOn_53 ?_
      obtain ⟨c15, h⟩ := chk_e h
      obtain ⟨M16, eM16, h⟩ := blet_e h
      refine z_iast C x_Ya_goOn_54 nk_73 ck_73 c15 eM16 ?_
      refine z_aload_n C 1 x_Ya_goOn_55 rfl ?_
      refine z_getR (j := 12) C x_Ya_goOn_56 nk_62 ck_62 cw_10 (i_lt rfl) rfl rf_62_12 rfl fl_Ya_45 ?_
      refine z_iload_n C 3 x_Ya_goOn_59 rfl ?_
      refine z_iload_n C 2 x_Ya_goOn_60 rfl ?_
      obtain ⟨c17, h⟩ := chk_e h
      obtain ⟨M18, eM18, h⟩ := blet_e h
      refine z_iast C x_Ya_goOn_61 nk_74 ck_74 c17 eM18 ?_
      refine z_iconst C x_Ya_goOn_62 ?_
      refine z_istore (lv' := [(4, vi 1), (0, .ref (G.1 + 62)), (1, vi a1), (2, vi a2), (3, vi a3)]) C rfl x_Ya_goOn_63 (i_lt rfl) rfl ?_
      exact z_sub [1, 2, 3, 4, 0] rfl (z_Ya_goOn_65 C hlev h)
    · refine z_icmp_ge_t (tgt := 65) C x_Ya_goOn_33 rfl c10 ?_
      exact z_sub [1, 2, 3, 4, 0] rfl (z_Ya_goOn_65 C hlev h)
  · refine z_icmp_ge_t (tgt := 65) C x_Ya_goOn_11 rfl c3 ?_
    exact z_sub [1, 2, 3, 4, 0] rfl (z_Ya_goOn_65 C hlev h)
theorem x_Ya_findWays_0 : DC b_Ya_findWays 0 (.iconst 0) 1 1 := ⟨by decide +kernel, rfl⟩
theorem x_Ya_findWays_1 : DC b_Ya_findWays 1 (.istore_n 3) 1 2 := ⟨by decide +kernel, rfl⟩
theorem x_Ya_findWays_2 : DC b_Ya_findWays 2 (.iload_n 3) 1 3 := ⟨by decide +kernel, rfl⟩
theorem x_Ya_findWays_3 : DC b_Ya_findWays 3 (.iload_n 1) 1 4 := ⟨by decide +kernel, rfl⟩
theorem x_Ya_findWays_4 : DC b_Ya_findWays 4 (.if_icmp .ge 37) 3 7 := ⟨by decide +kernel, rfl⟩
theorem x_Ya_findWays_7 : DC b_Ya_findWays 7 (.aload_n 0) 1 8 := ⟨by decide +kernel, rfl⟩
theorem x_Ya_findWays_8 : DC b_Ya_findWays 8 (.getfield 36) 3 11 := ⟨by decide +kernel, rfl⟩
theorem x_Ya_findWays_11 : DC b_Ya_findWays 11 (.iload_n 3) 1 12 := ⟨by decide +kernel, rfl⟩
theorem x_Ya_findWays_12 : DC b_Ya_findWays 12 (.aload_n 0) 1 13 := ⟨by decide +kernel, rfl⟩
theorem x_Ya_findWays_13 : DC b_Ya_findWays 13 (.getfield 24) 3 16 := ⟨by decide +kernel, rfl⟩
theorem x_Ya_findWays_16 : DC b_Ya_findWays 16 (.iload_n 3) 1 17 := ⟨by decide +kernel, rfl⟩
theorem x_Ya_findWays_17 : DC b_Ya_findWays 17 (.iaload) 1 18 := ⟨by decide +kernel, rfl⟩
theorem x_Ya_findWays_18 : DC b_Ya_findWays 18 (.ifCond .le 7) 3 21 := ⟨by decide +kernel, rfl⟩
theorem x_Ya_findWays_21 : DC b_Ya_findWays 21 (.iconst 0) 1 22 := ⟨by decide +kernel, rfl⟩
theorem x_Ya_findWays_22 : DC b_Ya_findWays 22 (.goto 5) 3 25 := ⟨by decide +kernel, rfl⟩
theorem x_Ya_findWays_25 : DC b_Ya_findWays 25 (.ldc 91) 2 27 := ⟨by decide +kernel, rfl⟩
theorem x_Ya_findWays_27 : DC b_Ya_findWays 27 (.iastore) 1 28 := ⟨by decide +kernel, rfl⟩
theorem x_Ya_findWays_28 : DC b_Ya_findWays 28 (.aload_n 0) 1 29 := ⟨by decide +kernel, rfl⟩
theorem x_Ya_findWays_29 : DC b_Ya_findWays 29 (.getfield 39) 3 32 := ⟨by decide +kernel, rfl⟩
theorem x_Ya_findWays_32 : DC b_Ya_findWays 32 (.iload_n 3) 1 33 := ⟨by decide +kernel, rfl⟩
theorem x_Ya_findWays_33 : DC b_Ya_findWays 33 (.iconst (-1)) 1 34 := ⟨by decide +kernel, rfl⟩
theorem x_Ya_findWays_34 : DC b_Ya_findWays 34 (.iastore) 1 35 := ⟨by decide +kernel, rfl⟩
theorem x_Ya_findWays_35 : DC b_Ya_findWays 35 (.iinc 3 1) 3 38 := ⟨by decide +kernel, rfl⟩
theorem x_Ya_findWays_38 : DC b_Ya_findWays 38 (.goto (-36)) 3 41 := ⟨by decide +kernel, rfl⟩
theorem x_Ya_findWays_41 : DC b_Ya_findWays 41 (.iconst 0) 1 42 := ⟨by decide +kernel, rfl⟩
theorem x_Ya_findWays_42 : DC b_Ya_findWays 42 (.istore_n 3) 1 43 := ⟨by decide +kernel, rfl⟩
theorem x_Ya_findWays_43 : DC b_Ya_findWays 43 (.iload_n 3) 1 44 := ⟨by decide +kernel, rfl⟩
theorem x_Ya_findWays_44 : DC b_Ya_findWays 44 (.iload_n 2) 1 45 := ⟨by decide +kernel, rfl⟩
theorem x_Ya_findWays_45 : DC b_Ya_findWays 45 (.if_icmp .ge 24) 3 48 := ⟨by decide +kernel, rfl⟩
theorem x_Ya_findWays_48 : DC b_Ya_findWays 48 (.aload_n 0) 1 49 := ⟨by decide +kernel, rfl⟩
theorem x_Ya_findWays_49 : DC b_Ya_findWays 49 (.getfield 42) 3 52 := ⟨by decide +kernel, rfl⟩
theorem x_Ya_findWays_52 : DC b_Ya_findWays 52 (.iload_n 3) 1 53 := ⟨by decide +kernel, rfl⟩
theorem x_Ya_findWays_53 : DC b_Ya_findWays 53 (.ldc 91) 2 55 := ⟨by decide +kernel, rfl⟩
theorem x_Ya_findWays_55 : DC b_Ya_findWays 55 (.iastore) 1 56 := ⟨by decide +kernel, rfl⟩
theorem x_Ya_findWays_56 : DC b_Ya_findWays 56 (.aload_n 0) 1 57 := ⟨by decide +kernel, rfl⟩
theorem x_Ya_findWays_57 : DC b_Ya_findWays 57 (.getfield 45) 3 60 := ⟨by decide +kernel, rfl⟩
theorem x_Ya_findWays_60 : DC b_Ya_findWays 60 (.iload_n 3) 1 61 := ⟨by decide +kernel, rfl⟩
theorem x_Ya_findWays_61 : DC b_Ya_findWays 61 (.iconst (-1)) 1 62 := ⟨by decide +kernel, rfl⟩
theorem x_Ya_findWays_62 : DC b_Ya_findWays 62 (.iastore) 1 63 := ⟨by decide +kernel, rfl⟩
theorem x_Ya_findWays_63 : DC b_Ya_findWays 63 (.iinc 3 1) 3 66 := ⟨by decide +kernel, rfl⟩
theorem x_Ya_findWays_66 : DC b_Ya_findWays 66 (.goto (-23)) 3 69 := ⟨by decide +kernel, rfl⟩
theorem x_Ya_findWays_69 : DC b_Ya_findWays 69 (.iconst 1) 1 70 := ⟨by decide +kernel, rfl⟩
theorem x_Ya_findWays_70 : DC b_Ya_findWays 70 (.istore_n 3) 1 71 := ⟨by decide +kernel, rfl⟩
theorem x_Ya_findWays_71 : DC b_Ya_findWays 71 (.iconst 0) 1 72 := ⟨by decide +kernel, rfl⟩
theorem x_Ya_findWays_72 : DC b_Ya_findWays 72 (.istore 4) 2 74 := ⟨by decide +kernel, rfl⟩
theorem x_Ya_findWays_74 : DC b_Ya_findWays 74 (.iload 4) 2 76 := ⟨by decide +kernel, rfl⟩
theorem x_Ya_findWays_76 : DC b_Ya_findWays 76 (.iload_n 1) 1 77 := ⟨by decide +kernel, rfl⟩
theorem x_Ya_findWays_77 : DC b_Ya_findWays 77 (.iload_n 2) 1 78 := ⟨by decide +kernel, rfl⟩
theorem x_Ya_findWays_78 : DC b_Ya_findWays 78 (.iadd) 1 79 := ⟨by decide +kernel, rfl⟩
theorem x_Ya_findWays_79 : DC b_Ya_findWays 79 (.if_icmp .ge 63) 3 82 := ⟨by decide +kernel, rfl⟩
theorem x_Ya_findWays_82 : DC b_Ya_findWays 82 (.iload_n 3) 1 83 := ⟨by decide +kernel, rfl⟩
theorem x_Ya_findWays_83 : DC b_Ya_findWays 83 (.ifCond .eq 59) 3 86 := ⟨by decide +kernel, rfl⟩
theorem x_Ya_findWays_86 : DC b_Ya_findWays 86 (.iconst 0) 1 87 := ⟨by decide +kernel, rfl⟩
theorem x_Ya_findWays_87 : DC b_Ya_findWays 87 (.istore_n 3) 1 88 := ⟨by decide +kernel, rfl⟩
theorem x_Ya_findWays_88 : DC b_Ya_findWays 88 (.iconst 0) 1 89 := ⟨by decide +kernel, rfl⟩
theorem x_Ya_findWays_89 : DC b_Ya_findWays 89 (.istore 5) 2 91 := ⟨by decide +kernel, rfl⟩
theorem x_Ya_findWays_91 : DC b_Ya_findWays 91 (.iload 5) 2 93 := ⟨by decide +kernel, rfl⟩
theorem x_Ya_findWays_93 : DC b_Ya_findWays 93 (.iload_n 1) 1 94 := ⟨by decide +kernel, rfl⟩
theorem x_Ya_findWays_94 : DC b_Ya_findWays 94 (.if_icmp .ge 42) 3 97 := ⟨by decide +kernel, rfl⟩
theorem x_Ya_findWays_97 : DC b_Ya_findWays 97 (.iconst 0) 1 98 := ⟨by decide +kernel, rfl⟩
theorem x_Ya_findWays_98 : DC b_Ya_findWays 98 (.istore 6) 2 100 := ⟨by decide +kernel, rfl⟩
theorem x_Ya_findWays_100 : DC b_Ya_findWays 100 (.iload 6) 2 102 := ⟨by decide +kernel, rfl⟩
theorem x_Ya_findWays_102 : DC b_Ya_findWays 102 (.iload_n 2) 1 103 := ⟨by decide +kernel, rfl⟩
theorem x_Ya_findWays_103 : DC b_Ya_findWays 103 (.if_icmp .ge 27) 3 106 := ⟨by decide +kernel, rfl⟩
theorem x_Ya_findWays_106 : DC b_Ya_findWays 106 (.iload_n 3) 1 107 := ⟨by decide +kernel, rfl⟩
theorem x_Ya_findWays_107 : DC b_Ya_findWays 107 (.aload_n 0) 1 108 := ⟨by decide +kernel, rfl⟩
theorem x_Ya_findWays_108 : DC b_Ya_findWays 108 (.iload 5) 2 110 := ⟨by decide +kernel, rfl⟩
theorem x_Ya_findWays_110 : DC b_Ya_findWays 110 (.iload 6) 2 112 := ⟨by decide +kernel, rfl⟩
theorem x_Ya_findWays_112 : DC b_Ya_findWays 112 (.iload 5) 2 114 := ⟨by decide +kernel, rfl⟩
theorem x_Ya_findWays_114 : DC b_Ya_findWays 114 (.iload_n 2) 1 115 := ⟨by decide +kernel, rfl⟩
theorem x_Ya_findWays_115 : DC b_Ya_findWays 115 (.imul) 1 116 := ⟨by decide +kernel, rfl⟩
theorem x_Ya_findWays_116 : DC b_Ya_findWays 116 (.iload 6) 2 118 := ⟨by decide +kernel, rfl⟩
theorem x_Ya_findWays_118 : DC b_Ya_findWays 118 (.iadd) 1 119 := ⟨by decide +kernel, rfl⟩
theorem x_Ya_findWays_119 : DC b_Ya_findWays 119 (.invokevirtual 92) 3 122 := ⟨by decide +kernel, rfl⟩
theorem x_Ya_findWays_122 : DC b_Ya_findWays 122 (.ior) 1 123 := ⟨by decide +kernel, rfl⟩
theorem x_Ya_findWays_123 : DC b_Ya_findWays 123 (.istore_n 3) 1 124 := ⟨by decide +kernel, rfl⟩
theorem x_Ya_findWays_124 : DC b_Ya_findWays 124 (.iinc 6 1) 3 127 := ⟨by decide +kernel, rfl⟩
theorem x_Ya_findWays_127 : DC b_Ya_findWays 127 (.goto (-27)) 3 130 := ⟨by decide +kernel, rfl⟩
theorem x_Ya_findWays_130 : DC b_Ya_findWays 130 (.iinc 5 1) 3 133 := ⟨by decide +kernel, rfl⟩
theorem x_Ya_findWays_133 : DC b_Ya_findWays 133 (.goto (-42)) 3 136 := ⟨by decide +kernel, rfl⟩
theorem x_Ya_findWays_136 : DC b_Ya_findWays 136 (.iinc 4 1) 3 139 := ⟨by decide +kernel, rfl⟩
theorem x_Ya_findWays_139 : DC b_Ya_findWays 139 (.goto (-65)) 3 142 := ⟨by decide +kernel, rfl⟩
theorem x_Ya_findWays_142 : DC b_Ya_findWays 142 (.return_) 1 143 := ⟨by decide +kernel, rfl⟩
def k_Ya_findWays_100 (R74 : Int → Int → Int → Int → Mem → Res) (R91 : Int → Int → Int → Int → Int → Mem → Res) (R100 : Int → Int → Int → Int → Int → Int → Mem → Res) (a1 a2 a3 a4 a5 a6 : Int) (M : Mem) : Res := if w32 a6 < w32 a2 then (bcall (d_Ya_goOn a5 a6 ((a5 * a2) + a6) M) fun v2 M3 => blet (or32 a3 v2) fun v4 => blet (a6 + 1) fun v5 => R100 a1 a2 v4 a4 a5 v5 M3) else (blet (a5 + 1) fun v6 => R91 a1 a2 a3 a4 v6 M)
theorem z_Ya_findWays_100 (C : Cx p s m args meth c G b_Ya_findWays 7 "PrairiePool$Yard" none) (hlev : 1 ≤ lev) {r : Int × Mem} {R74 : Int → Int → Int → Int → Mem → Res} {R91 : Int → Int → Int → Int → Int → Mem → Res} {R100 : Int → Int → Int → Int → Int → Int → Mem → Res} (hR74 : ∀ (a1 a2 a3 a4 : Int) (M : Mem), R74 a1 a2 a3 a4 M = some r → Z p l e lev s m args below meth c G 7 (MQ below (Qm G 0 r) args s 0 0 (Ab G)) M 74 [(0, .ref (G.1 + 62)), (1, vi a1), (2, vi a2), (3, vi a3), (4, vi a4)] []) (hR91 : ∀ (a1 a2 a3 a4 a5 : Int) (M : Mem), R91 a1 a2 a3 a4 a5 M = some r → Z p l e lev s m args below meth c G 7 (MQ below (Qm G 0 r) args s 0 0 (Ab G)) M 91 [(0, .ref (G.1 + 62)), (1, vi a1), (2, vi a2), (3, vi a3), (4, vi a4), (5, vi a5)] []) (hR100 : ∀ (a1 a2 a3 a4 a5 a6 : Int) (M : Mem), R100 a1 a2 a3 a4 a5 a6 M = some r → Z p l e lev s m args below meth c G 7 (MQ below (Qm G 0 r) args s 0 0 (Ab G)) M 100 [(0, .ref (G.1 + 62)), (1, vi a1), (2, vi a2), (3, vi a3), (4, vi a4), (5, vi a5), (6, vi a6)] []) {a1 a2 a3 a4 a5 a6 : Int} {M : Mem} (h : k_Ya_findWays_100 R74 R91 R100 a1 a2 a3 a4 a5 a6 M = some r) : Z p l e lev s m args below meth c G 7 (MQ below (Qm G 0 r) args s 0 0 (Ab G)) M 100 [(0, .ref (G.1 + 62)), (1, vi a1), (2, vi a2), (3, vi a3), (4, vi a4), (5, vi a5), (6, vi a6)] [] := by
  unfold k_Ya_findWays_100 at h
  refine z_iload C 6 x_Ya_findWays_100 rfl ?_
  refine z_iload_n C 2 x_Ya_findWays_102 rfl ?_
  rcases ite_e h with ⟨c1, h⟩ | ⟨c1, h⟩
  · refine z_icmp_ge_f (tgt := 130) C x_Ya_findWays_103 rfl c1 ?_
    refine z_iload_n C 3 x_Ya_findWays_106 rfl ?_
    refine z_aload_n C 0 x_Ya_findWays_107 rfl ?_
    refine z_iload C 5 x_Ya_findWays_108 rfl ?_
    refine z_iload C 6 x_Ya_findWays_110 rfl ?_
    refine z_iload C 5 x_Ya_findWays_112 rfl ?_
    refine z_iload_n C 2 x_Ya_findWays_114 rfl ?_
    refine z_imul C x_Ya_findWays_115 ?_
    refine z_iload C 6 x_Ya_findWays_116 rfl ?_
    refine z_iadd C x_Ya_findWays_118 ?_
    obtain ⟨v2, M3, fv2, h⟩ := bcall_e h
    refine z_callVi (k := 62) C x_Ya_findWays_119 cv_Ya_92 (t_Ya_goOn (lev := lev - 1) l G (by omega) fv2) nk_62 ck_62 rfl (by omega) rfl (i_le rfl) rfl ?_
    refine z_ior C x_Ya_findWays_122 ?_
    obtain ⟨v4, ev4, h⟩ := blet_e h
    refine z_istore_n (lv' := [(3, vi v4), (0, .ref (G.1 + 62)), (1, vi a1), (2, vi a2), (4, vi a4), (5, vi a5), (6, vi a6)]) C ev4 x_Ya_findWays_123 (i_lt rfl) rfl ?_
    obtain ⟨v5, ev5, h⟩ := blet_e h
    refine z_iinc (lv' := [(6, vi v5), (3, vi v4), (0, .ref (G.1 + 62)), (1, vi a1), (2, vi a2), (4, vi a4), (5, vi a5)]) C 6 ev5 x_Ya_findWays_124 rfl (i_lt rfl) rfl ?_
    refine z_goto (tgt := 100) C x_Ya_findWays_127 rfl ?_
    exact z_sub [2, 3, 4, 1, 5, 6, 0] rfl (hR100 a1 a2 v4 a4 a5 v5 M3 h)
  · refine z_icmp_ge_t (tgt := 130) C x_Ya_findWays_103 rfl c1 ?_
    obtain ⟨v6, ev6, h⟩ := blet_e h
    refine z_iinc (lv' := [(5, vi v6), (0, .ref (G.1 + 62)), (1, vi a1), (2, vi a2), (3, vi a3), (4, vi a4), (6, vi a6)]) C 5 ev6 x_Ya_findWays_130 rfl (i_lt rfl) rfl ?_
    refine z_goto (tgt := 91) C x_Ya_findWays_133 rfl ?_
    exact z_sub [1, 2, 3, 4, 5, 0] rfl (hR91 a1 a2 a3 a4 v6 M h)
theorem zl_Ya_findWays_100 (C : Cx p s m args meth c G b_Ya_findWays 7 "PrairiePool$Yard" none) (hlev : 1 ≤ lev) {r : Int × Mem} {R74 : Int → Int → Int → Int → Mem → Res} {R91 : Int → Int → Int → Int → Int → Mem → Res} (hR74 : ∀ (a1 a2 a3 a4 : Int) (M : Mem), R74 a1 a2 a3 a4 M = some r → Z p l e lev s m args below meth c G 7 (MQ below (Qm G 0 r) args s 0 0 (Ab G)) M 74 [(0, .ref (G.1 + 62)), (1, vi a1), (2, vi a2), (3, vi a3), (4, vi a4)] []) (hR91 : ∀ (a1 a2 a3 a4 a5 : Int) (M : Mem), R91 a1 a2 a3 a4 a5 M = some r → Z p l e lev s m args below meth c G 7 (MQ below (Qm G 0 r) args s 0 0 (Ab G)) M 91 [(0, .ref (G.1 + 62)), (1, vi a1), (2, vi a2), (3, vi a3), (4, vi a4), (5, vi a5)] []) : ∀ (n : Nat) (a1 a2 a3 a4 a5 a6 : Int) (M : Mem), fix (fun _ _ _ _ _ _ _ => none) (k_Ya_findWays_100 R74 R91) n a1 a2 a3 a4 a5 a6 M = some r → Z p l e lev s m args below meth c G 7 (MQ below (Qm G 0 r) args s 0 0 (Ab G)) M 100 [(0, .ref (G.1 + 62)), (1, vi a1), (2, vi a2), (3, vi a3), (4, vi a4), (5, vi a5), (6, vi a6)] [] := by
  intro n
  induction n with
  | zero => intro a1 a2 a3 a4 a5 a6 M h; exact nomatch (show (none : Res) = some r from h)
  | succ n ih => intro a1 a2 a3 a4 a5 a6 M h; exact z_Ya_findWays_100 C hlev hR74 hR91 ih h
def k_Ya_findWays_91 (R74 : Int → Int → Int → Int → Mem → Res) (R91 : Int → Int → Int → Int → Int → Mem → Res) (a1 a2 a3 a4 a5 : Int) (M : Mem) : Res := if w32 a5 < w32 a1 then (fix (fun _ _ _ _ _ _ _ => none) (k_Ya_findWays_100 R74 R91) FU a1 a2 a3 a4 a5 0 M) else (blet (a4 + 1) fun v2 => R74 a1 a2 a3 v2 M)
theorem z_Ya_findWays_91 (C : Cx p s m args meth c G b_Ya_findWays 7 "PrairiePool$Yard" none) (hlev : 1 ≤ lev) {r : Int × Mem} {R74 : Int → Int → Int → Int → Mem → Res} {R91 : Int → Int → Int → Int → Int → Mem → Res} (hR74 : ∀ (a1 a2 a3 a4 : Int) (M : Mem), R74 a1 a2 a3 a4 M = some r → Z p l e lev s m args below meth c G 7 (MQ below (Qm G 0 r) args s 0 0 (Ab G)) M 74 [(0, .ref (G.1 + 62)), (1, vi a1), (2, vi a2), (3, vi a3), (4, vi a4)] []) (hR91 : ∀ (a1 a2 a3 a4 a5 : Int) (M : Mem), R91 a1 a2 a3 a4 a5 M = some r → Z p l e lev s m args below meth c G 7 (MQ below (Qm G 0 r) args s 0 0 (Ab G)) M 91 [(0, .ref (G.1 + 62)), (1, vi a1), (2, vi a2), (3, vi a3), (4, vi a4), (5, vi a5)] []) {a1 a2 a3 a4 a5 : Int} {M : Mem} (h : k_Ya_findWays_91 R74 R91 a1 a2 a3 a4 a5 M = some r) : Z p l e lev s m args below meth c G 7 (MQ below (Qm G 0 r) args s 0 0 (Ab G)) M 91 [(0, .ref (G.1 + 62)), (1, vi a1), (2, vi a2), (3, vi a3), (4, vi a4), (5, vi a5)] [] := by
  unfold k_Ya_findWays_91 at h
  refine z_iload C 5 x_Ya_findWays_91 rfl ?_
  refine z_iload_n C 1 x_Ya_findWays_93 rfl ?_
  rcases ite_e h with ⟨c1, h⟩ | ⟨c1, h⟩
  · refine z_icmp_ge_f (tgt := 136) C x_Ya_findWays_94 rfl c1 ?_
    refine z_iconst C x_Ya_findWays_97 ?_
    refine z_istore (lv' := [(6, vi 0), (0, .ref (G.1 + 62)), (1, vi a1), (2, vi a2), (3, vi a3), (4, vi a4), (5, vi a5)]) C rfl x_Ya_findWays_98 (i_lt rfl) rfl ?_
    exact z_sub [1, 2, 3, 4, 5, 6, 0] rfl (zl_Ya_findWays_100 C hlev hR74 hR91 FU a1 a2 a3 a4 a5 0 M h)
  · refine z_icmp_ge_t (tgt := 136) C x_Ya_findWays_94 rfl c1 ?_
    obtain ⟨v2, ev2, h⟩ := blet_e h
    refine z_iinc (lv' := [(4, vi v2), (0, .ref (G.1 + 62)), (1, vi a1), (2, vi a2), (3, vi a3), (5, vi a5)]) C 4 ev2 x_Ya_findWays_136 rfl (i_lt rfl) rfl ?_
    refine z_goto (tgt := 74) C x_Ya_findWays_139 rfl ?_
    exact z_sub [1, 2, 3, 4, 0] rfl (hR74 a1 a2 a3 v2 M h)
theorem zl_Ya_findWays_91 (C : Cx p s m args meth c G b_Ya_findWays 7 "PrairiePool$Yard" none) (hlev : 1 ≤ lev) {r : Int × Mem} {R74 : Int → Int → Int → Int → Mem → Res} (hR74 : ∀ (a1 a2 a3 a4 : Int) (M : Mem), R74 a1 a2 a3 a4 M = some r → Z p l e lev s m args below meth c G 7 (MQ below (Qm G 0 r) args s 0 0 (Ab G)) M 74 [(0, .ref (G.1 + 62)), (1, vi a1), (2, vi a2), (3, vi a3), (4, vi a4)] []) : ∀ (n : Nat) (a1 a2 a3 a4 a5 : Int) (M : Mem), fix (fun _ _ _ _ _ _ => none) (k_Ya_findWays_91 R74) n a1 a2 a3 a4 a5 M = some r → Z p l e lev s m args below meth c G 7 (MQ below (Qm G 0 r) args s 0 0 (Ab G)) M 91 [(0, .ref (G.1 + 62)), (1, vi a1), (2, vi a2), (3, vi a3), (4, vi a4), (5, vi a5)] [] := by
  intro n
  induction n with
  | zero => intro a1 a2 a3 a4 a5 M h; exact nomatch (show (none : Res) = some r from h)
  | succ n ih => intro a1 a2 a3 a4 a5 M h; exact z_Ya_findWays_91 C hlev hR74 ih h
def k_Ya_findWays_74 (R74 : Int → Int → Int → Int → Mem → Res) (a1 a2 a3 a4 : Int) (M : Mem) : Res := if w32 a4 < w32 (a1 + a2) then (if w32 a3 = 0 then (some (0, M)) else (fix (fun _ _ _ _ _ _ => none) (k_Ya_findWays_91 R74) FU a1 a2 0 a4 0 M)) else (some (0, M))
theorem z_Ya_findWays_74 (C : Cx p s m args meth c G b_Ya_findWays 7 "PrairiePool$Yard" none) (hlev : 1 ≤ lev) {r : Int × Mem} {R74 : Int → Int → Int → Int → Mem → Res} (hR74 : ∀ (a1 a2 a3 a4 : Int) (M : Mem), R74 a1 a2 a3 a4 M = some r → Z p l e lev s m args below meth c G 7 (MQ below (Qm G 0 r) args s 0 0 (Ab G)) M 74 [(0, .ref (G.1 + 62)), (1, vi a1), (2, vi a2), (3, vi a3), (4, vi a4)] []) {a1 a2 a3 a4 : Int} {M : Mem} (h : k_Ya_findWays_74 R74 a1 a2 a3 a4 M = some r) : Z p l e lev s m args below meth c G 7 (MQ below (Qm G 0 r) args s 0 0 (Ab G)) M 74 [(0, .ref (G.1 + 62)), (1, vi a1), (2, vi a2), (3, vi a3), (4, vi a4)] [] := by
  unfold k_Ya_findWays_74 at h
  refine z_iload C 4 x_Ya_findWays_74 rfl ?_
  refine z_iload_n C 1 x_Ya_findWays_76 rfl ?_
  refine z_iload_n C 2 x_Ya_findWays_77 rfl ?_
  refine z_iadd C x_Ya_findWays_78 ?_
  rcases ite_e h with ⟨c1, h⟩ | ⟨c1, h⟩
  · refine z_icmp_ge_f (tgt := 142) C x_Ya_findWays_79 rfl c1 ?_
    refine z_iload_n C 3 x_Ya_findWays_82 rfl ?_
    rcases ite_e h with ⟨c2, h⟩ | ⟨c2, h⟩
    · refine z_if_eq_t (tgt := 142) C x_Ya_findWays_83 rfl c2 ?_
      exact z_vret C x_Ya_findWays_142 h
    · refine z_if_eq_f (tgt := 142) C x_Ya_findWays_83 rfl c2 ?_
      refine z_iconst C x_Ya_findWays_86 ?_
      refine z_istore_n (lv' := [(3, vi 0), (0, .ref (G.1 + 62)), (1, vi a1), (2, vi a2), (4, vi a4)]) C rfl x_Ya_findWays_87 (i_lt rfl) rfl ?_
      refine z_iconst C x_Ya_findWays_88 ?_
      refine z_istore (lv' := [(5, vi 0), (3, vi 0), (0, .ref (G.1 + 62)), (1, vi a1), (2, vi a2), (4, vi a4)]) C rfl x_Ya_findWays_89 (i_lt rfl) rfl ?_
      exact z_sub [2, 3, 4, 1, 5, 0] rfl (zl_Ya_findWays_91 C hlev hR74 FU a1 a2 0 a4 0 M h)
  · refine z_icmp_ge_t (tgt := 142) C x_Ya_findWays_79 rfl c1 ?_
    exact z_vret C x_Ya_findWays_142 h
theorem zl_Ya_findWays_74 (C : Cx p s m args meth c G b_Ya_findWays 7 "PrairiePool$Yard" none) (hlev : 1 ≤ lev) {r : Int × Mem}  : ∀ (n : Nat) (a1 a2 a3 a4 : Int) (M : Mem), fix (fun _ _ _ _ _ => none) (k_Ya_findWays_74) n a1 a2 a3 a4 M = some r → Z p l e lev s m args below meth c G 7 (MQ below (Qm G 0 r) args s 0 0 (Ab G)) M 74 [(0, .ref (G.1 + 62)), (1, vi a1), (2, vi a2), (3, vi a3), (4, vi a4)] [] := by
  intro n
  induction n with
  | zero => intro a1 a2 a3 a4 M h; exact nomatch (show (none : Res) = some r from h)
  | succ n ih => intro a1 a2 a3 a4 M h; exact z_Ya_findWays_74 C hlev ih h
def k_Ya_findWays_43 (R43 : Int → Int → Int → Mem → Res) (a1 a2 a3 : Int) (M : Mem) : Res := if w32 a3 < w32 a2 then (chk (0 ≤ w32 a3 ∧ w32 a3 < 4) <| blet (sto M 73 (ix a3) 1000000) fun M3 => chk (0 ≤ w32 a3 ∧ w32 a3 < 4) <| blet (sto M3 74 (ix a3) (-1)) fun M5 => blet (a3 + 1) fun v6 => R43 a1 a2 v6 M5) else (fix (fun _ _ _ _ _ => none) (k_Ya_findWays_74) FU a1 a2 1 0 M)
theorem z_Ya_findWays_43 (C : Cx p s m args meth c G b_Ya_findWays 7 "PrairiePool$Yard" none) (hlev : 1 ≤ lev) {r : Int × Mem} {R43 : Int → Int → Int → Mem → Res} (hR43 : ∀ (a1 a2 a3 : Int) (M : Mem), R43 a1 a2 a3 M = some r → Z p l e lev s m args below meth c G 7 (MQ below (Qm G 0 r) args s 0 0 (Ab G)) M 43 [(0, .ref (G.1 + 62)), (1, vi a1), (2, vi a2), (3, vi a3)] []) {a1 a2 a3 : Int} {M : Mem} (h : k_Ya_findWays_43 R43 a1 a2 a3 M = some r) : Z p l e lev s m args below meth c G 7 (MQ below (Qm G 0 r) args s 0 0 (Ab G)) M 43 [(0, .ref (G.1 + 62)), (1, vi a1), (2, vi a2), (3, vi a3)] [] := by
  unfold k_Ya_findWays_43 at h
  refine z_iload_n C 3 x_Ya_findWays_43 rfl ?_
  refine z_iload_n C 2 x_Ya_findWays_44 rfl ?_
  rcases ite_e h with ⟨c1, h⟩ | ⟨c1, h⟩
  · refine z_icmp_ge_f (tgt := 69) C x_Ya_findWays_45 rfl c1 ?_
    refine z_aload_n C 0 x_Ya_findWays_48 rfl ?_
    refine z_getR (j := 11) C x_Ya_findWays_49 nk_62 ck_62 cw_10 (i_lt rfl) rfl rf_62_11 rfl fl_Ya_42 ?_
    refine z_iload_n C 3 x_Ya_findWays_52 rfl ?_
    refine z_ldc C kc_Ya_91 x_Ya_findWays_53 ?_
    obtain ⟨c2, h⟩ := chk_e h
    obtain ⟨M3, eM3, h⟩ := blet_e h
    refine z_iast C x_Ya_findWays_55 nk_73 ck_73 c2 eM3 ?_
    refine z_aload_n C 0 x_Ya_findWays_56 rfl ?_
    refine z_getR (j := 12) C x_Ya_findWays_57 nk_62 ck_62 cw_10 (i_lt rfl) rfl rf_62_12 rfl fl_Ya_45 ?_
    refine z_iload_n C 3 x_Ya_findWays_60 rfl ?_
    refine z_iconst C x_Ya_findWays_61 ?_
    obtain ⟨c4, h⟩ := chk_e h
    obtain ⟨M5, eM5, h⟩ := blet_e h
    refine z_iast C x_Ya_findWays_62 nk_74 ck_74 c4 eM5 ?_
    obtain ⟨v6, ev6, h⟩ := blet_e h
    refine z_iinc (lv' := [(3, vi v6), (0, .ref (G.1 + 62)), (1, vi a1), (2, vi a2)]) C 3 ev6 x_Ya_findWays_63 rfl (i_lt rfl) rfl ?_
    refine z_goto (tgt := 43) C x_Ya_findWays_66 rfl ?_
    exact z_sub [1, 2, 3, 0] rfl (hR43 a1 a2 v6 M5 h)
  · refine z_icmp_ge_t (tgt := 69) C x_Ya_findWays_45 rfl c1 ?_
    refine z_iconst C x_Ya_findWays_69 ?_
    refine z_istore_n (lv' := [(3, vi 1), (0, .ref (G.1 + 62)), (1, vi a1), (2, vi a2)]) C rfl x_Ya_findWays_70 (i_lt rfl) rfl ?_
    refine z_iconst C x_Ya_findWays_71 ?_
    refine z_istore (lv' := [(4, vi 0), (3, vi 1), (0, .ref (G.1 + 62)), (1, vi a1), (2, vi a2)]) C rfl x_Ya_findWays_72 (i_lt rfl) rfl ?_
    exact z_sub [2, 3, 4, 1, 0] rfl (zl_Ya_findWays_74 C hlev FU a1 a2 1 0 M h)
theorem zl_Ya_findWays_43 (C : Cx p s m args meth c G b_Ya_findWays 7 "PrairiePool$Yard" none) (hlev : 1 ≤ lev) {r : Int × Mem}  : ∀ (n : Nat) (a1 a2 a3 : Int) (M : Mem), fix (fun _ _ _ _ => none) (k_Ya_findWays_43) n a1 a2 a3 M = some r → Z p l e lev s m args below meth c G 7 (MQ below (Qm G 0 r) args s 0 0 (Ab G)) M 43 [(0, .ref (G.1 + 62)), (1, vi a1), (2, vi a2), (3, vi a3)] [] := by
  intro n
  induction n with
  | zero => intro a1 a2 a3 M h; exact nomatch (show (none : Res) = some r from h)
  | succ n ih => intro a1 a2 a3 M h; exact z_Ya_findWays_43 C hlev ih h
def k_Ya_findWays_27 (R2 : Int → Int → Int → Mem → Res) (a1 a2 a3 s1 s2 : Int) (M : Mem) : Res := chk (0 ≤ w32 s1 ∧ w32 s1 < 5) <| blet (sto M 71 (ix s1) s2) fun M2 => chk (0 ≤ w32 a3 ∧ w32 a3 < 5) <| blet (sto M2 72 (ix a3) (-1)) fun M4 => blet (a3 + 1) fun v5 => R2 a1 a2 v5 M4
theorem z_Ya_findWays_27 (C : Cx p s m args meth c G b_Ya_findWays 7 "PrairiePool$Yard" none) (hlev : 1 ≤ lev) {r : Int × Mem} {R2 : Int → Int → Int → Mem → Res} (hR2 : ∀ (a1 a2 a3 : Int) (M : Mem), R2 a1 a2 a3 M = some r → Z p l e lev s m args below meth c G 7 (MQ below (Qm G 0 r) args s 0 0 (Ab G)) M 2 [(0, .ref (G.1 + 62)), (1, vi a1), (2, vi a2), (3, vi a3)] []) {a1 a2 a3 s1 s2 : Int} {M : Mem} (h : k_Ya_findWays_27 R2 a1 a2 a3 s1 s2 M = some r) : Z p l e lev s m args below meth c G 7 (MQ below (Qm G 0 r) args s 0 0 (Ab G)) M 27 [(0, .ref (G.1 + 62)), (1, vi a1), (2, vi a2), (3, vi a3)] [vi s2, vi s1, .ref (G.1 + 71)] := by
  unfold k_Ya_findWays_27 at h
  obtain ⟨c1, h⟩ := chk_e h
  obtain ⟨M2, eM2, h⟩ := blet_e h
  refine z_iast C x_Ya_findWays_27 nk_71 ck_71 c1 eM2 ?_
  refine z_aload_n C 0 x_Ya_findWays_28 rfl ?_
  refine z_getR (j := 10) C x_Ya_findWays_29 nk_62 ck_62 cw_10 (i_lt rfl) rfl rf_62_10 rfl fl_Ya_39 ?_
  refine z_iload_n C 3 x_Ya_findWays_32 rfl ?_
  refine z_iconst C x_Ya_findWays_33 ?_
  obtain ⟨c3, h⟩ := chk_e h
  obtain ⟨M4, eM4, h⟩ := blet_e h
  refine z_iast C x_Ya_findWays_34 nk_72 ck_72 c3 eM4 ?_
  obtain ⟨v5, ev5, h⟩ := blet_e h
  refine z_iinc (lv' := [(3, vi v5), (0, .ref (G.1 + 62)), (1, vi a1), (2, vi a2)]) C 3 ev5 x_Ya_findWays_35 rfl (i_lt rfl) rfl ?_
  refine z_goto (tgt := 2) C x_Ya_findWays_38 rfl ?_
  exact z_sub [1, 2, 3, 0] rfl (hR2 a1 a2 v5 M4 h)
def k_Ya_findWays_2 (R2 : Int → Int → Int → Mem → Res) (a1 a2 a3 : Int) (M : Mem) : Res := if w32 a3 < w32 a1 then (chk (0 ≤ w32 a3 ∧ w32 a3 < 5) <| blet (M 67 (ix a3)) fun v3 => if 0 < w32 v3 then (k_Ya_findWays_27 R2 a1 a2 a3 a3 0 M) else (k_Ya_findWays_27 R2 a1 a2 a3 a3 1000000 M)) else (fix (fun _ _ _ _ => none) (k_Ya_findWays_43) FU a1 a2 0 M)
theorem z_Ya_findWays_2 (C : Cx p s m args meth c G b_Ya_findWays 7 "PrairiePool$Yard" none) (hlev : 1 ≤ lev) {r : Int × Mem} {R2 : Int → Int → Int → Mem → Res} (hR2 : ∀ (a1 a2 a3 : Int) (M : Mem), R2 a1 a2 a3 M = some r → Z p l e lev s m args below meth c G 7 (MQ below (Qm G 0 r) args s 0 0 (Ab G)) M 2 [(0, .ref (G.1 + 62)), (1, vi a1), (2, vi a2), (3, vi a3)] []) {a1 a2 a3 : Int} {M : Mem} (h : k_Ya_findWays_2 R2 a1 a2 a3 M = some r) : Z p l e lev s m args below meth c G 7 (MQ below (Qm G 0 r) args s 0 0 (Ab G)) M 2 [(0, .ref (G.1 + 62)), (1, vi a1), (2, vi a2), (3, vi a3)] [] := by
  unfold k_Ya_findWays_2 at h
  refine z_iload_n C 3 x_Ya_findWays_2 rfl ?_
  refine z_iload_n C 1 x_Ya_findWays_3 rfl ?_
  rcases ite_e h with ⟨c1, h⟩ | ⟨c1, h⟩
  · refine z_icmp_ge_f (tgt := 41) C x_Ya_findWays_4 rfl c1 ?_
    refine z_aload_n C 0 x_Ya_findWays_7 rfl ?_
    refine z_getR (j := 9) C x_Ya_findWays_8 nk_62 ck_62 cw_10 (i_lt rfl) rfl rf_62_9 rfl fl_Ya_36 ?_
    refine z_iload_n C 3 x_Ya_findWays_11 rfl ?_
    refine z_aload_n C 0 x_Ya_findWays_12 rfl ?_
    refine z_getR (j := 5) C x_Ya_findWays_13 nk_62 ck_62 cw_10 (i_lt rfl) rfl rf_62_5 rfl fl_Ya_24 ?_
    refine z_iload_n C 3 x_Ya_findWays_16 rfl ?_
    obtain ⟨c2, h⟩ := chk_e h
    obtain ⟨v3, ev3, h⟩ := blet_e h
    refine z_iald C x_Ya_findWays_17 nk_67 ck_67 c2 ev3 ?_
    rcases ite_e h with ⟨c4, h⟩ | ⟨c4, h⟩
    · refine z_if_le_f (tgt := 25) C x_Ya_findWays_18 rfl c4 ?_
      refine z_iconst C x_Ya_findWays_21 ?_
      refine z_goto (tgt := 27) C x_Ya_findWays_22 rfl ?_
      exact z_sub [0, 1, 2, 3] rfl (z_Ya_findWays_27 C hlev hR2 h)
    · refine z_if_le_t (tgt := 25) C x_Ya_findWays_18 rfl c4 ?_
      refine z_ldc C kc_Ya_91 x_Ya_findWays_25 ?_
      exact z_sub [0, 1, 2, 3] rfl (z_Ya_findWays_27 C hlev hR2 h)
  · refine z_icmp_ge_t (tgt := 41) C x_Ya_findWays_4 rfl c1 ?_
    refine z_iconst C x_Ya_findWays_41 ?_
    refine z_istore_n (lv' := [(3, vi 0), (0, .ref (G.1 + 62)), (1, vi a1), (2, vi a2)]) C rfl x_Ya_findWays_42 (i_lt rfl) rfl ?_
    exact z_sub [1, 2, 3, 0] rfl (zl_Ya_findWays_43 C hlev FU a1 a2 0 M h)
theorem zl_Ya_findWays_2 (C : Cx p s m args meth c G b_Ya_findWays 7 "PrairiePool$Yard" none) (hlev : 1 ≤ lev) {r : Int × Mem}  : ∀ (n : Nat) (a1 a2 a3 : Int) (M : Mem), fix (fun _ _ _ _ => none) (k_Ya_findWays_2) n a1 a2 a3 M = some r → Z p l e lev s m args below meth c G 7 (MQ below (Qm G 0 r) args s 0 0 (Ab G)) M 2 [(0, .ref (G.1 + 62)), (1, vi a1), (2, vi a2), (3, vi a3)] [] := by
  intro n
  induction n with
  | zero => intro a1 a2 a3 M h; exact nomatch (show (none : Res) = some r from h)
  | succ n ih => intro a1 a2 a3 M h; exact z_Ya_findWays_2 C hlev ih h
def d_Ya_findWays (a1 a2 : Int) (M : Mem) : Res := fix (fun _ _ _ _ => none) (k_Ya_findWays_2) FU a1 a2 0 M
theorem t_Ya_findWays (l : Launch) (G : GX) {lev : Nat} (hlev : 1 ≤ lev) {a1 a2 : Int} {M : Mem} {r : Int × Mem} (h : d_Ya_findWays a1 a2 M = some r) : Mt l G y_Ya_findWays b_Ya_findWays 7 none lev 0 [.ref (G.1 + 62), vi a1, vi a2] M r := by
  refine Mt.of (by decide) (i_le rfl) ?_
  intro p e s m args below meth c C
  have C : Cx p s m args meth c G b_Ya_findWays 7 "PrairiePool$Yard" none := C
  unfold d_Ya_findWays at h
  refine z_sub (lv' := [(0, .ref (G.1 + 62)), (1, vi a1), (2, vi a2)]) [0, 1, 2] rfl ?_
  refine z_iconst C x_Ya_findWays_0 ?_
  refine z_istore_n (lv' := [(3, vi 0), (0, .ref (G.1 + 62)), (1, vi a1), (2, vi a2)]) C rfl x_Ya_findWays_1 (i_lt rfl) rfl ?_
  exact z_sub [1, 2, 3, 0] rfl (zl_Ya_findWays_2 C hlev FU a1 a2 0 M h)
theorem x_Ya_cheapestOrder_0 : DC b_Ya_cheapestOrder 0 (.iconst (-1)) 1 1 := ⟨by decide +kernel, rfl⟩
theorem x_Ya_cheapestOrder_1 : DC b_Ya_cheapestOrder 1 (.istore_n 2) 1 2 := ⟨by decide +kernel, rfl⟩
theorem x_Ya_cheapestOrder_2 : DC b_Ya_cheapestOrder 2 (.iconst 0) 1 3 := ⟨by decide +kernel, rfl⟩
theorem x_Ya_cheapestOrder_3 : DC b_Ya_cheapestOrder 3 (.istore_n 3) 1 4 := ⟨by decide +kernel, rfl⟩
theorem x_Ya_cheapestOrder_4 : DC b_Ya_cheapestOrder 4 (.iload_n 3) 1 5 := ⟨by decide +kernel, rfl⟩
theorem x_Ya_cheapestOrder_5 : DC b_Ya_cheapestOrder 5 (.iload_n 1) 1 6 := ⟨by decide +kernel, rfl⟩
theorem x_Ya_cheapestOrder_6 : DC b_Ya_cheapestOrder 6 (.if_icmp .ge 63) 3 9 := ⟨by decide +kernel, rfl⟩
theorem x_Ya_cheapestOrder_9 : DC b_Ya_cheapestOrder 9 (.aload_n 0) 1 10 := ⟨by decide +kernel, rfl⟩
theorem x_Ya_cheapestOrder_10 : DC b_Ya_cheapestOrder 10 (.getfield 27) 3 13 := ⟨by decide +kernel, rfl⟩
theorem x_Ya_cheapestOrder_13 : DC b_Ya_cheapestOrder 13 (.iload_n 3) 1 14 := ⟨by decide +kernel, rfl⟩
theorem x_Ya_cheapestOrder_14 : DC b_Ya_cheapestOrder 14 (.iaload) 1 15 := ⟨by decide +kernel, rfl⟩
theorem x_Ya_cheapestOrder_15 : DC b_Ya_cheapestOrder 15 (.ifCond .le 18) 3 18 := ⟨by decide +kernel, rfl⟩
theorem x_Ya_cheapestOrder_18 : DC b_Ya_cheapestOrder 18 (.aload_n 0) 1 19 := ⟨by decide +kernel, rfl⟩
theorem x_Ya_cheapestOrder_19 : DC b_Ya_cheapestOrder 19 (.getfield 42) 3 22 := ⟨by decide +kernel, rfl⟩
theorem x_Ya_cheapestOrder_22 : DC b_Ya_cheapestOrder 22 (.iload_n 3) 1 23 := ⟨by decide +kernel, rfl⟩
theorem x_Ya_cheapestOrder_23 : DC b_Ya_cheapestOrder 23 (.iaload) 1 24 := ⟨by decide +kernel, rfl⟩
theorem x_Ya_cheapestOrder_24 : DC b_Ya_cheapestOrder 24 (.ldc 91) 2 26 := ⟨by decide +kernel, rfl⟩
theorem x_Ya_cheapestOrder_26 : DC b_Ya_cheapestOrder 26 (.if_icmp .ge 7) 3 29 := ⟨by decide +kernel, rfl⟩
theorem x_Ya_cheapestOrder_29 : DC b_Ya_cheapestOrder 29 (.iconst 1) 1 30 := ⟨by decide +kernel, rfl⟩
theorem x_Ya_cheapestOrder_30 : DC b_Ya_cheapestOrder 30 (.goto 4) 3 33 := ⟨by decide +kernel, rfl⟩
theorem x_Ya_cheapestOrder_33 : DC b_Ya_cheapestOrder 33 (.iconst 0) 1 34 := ⟨by decide +kernel, rfl⟩
theorem x_Ya_cheapestOrder_34 : DC b_Ya_cheapestOrder 34 (.istore 4) 2 36 := ⟨by decide +kernel, rfl⟩
theorem x_Ya_cheapestOrder_36 : DC b_Ya_cheapestOrder 36 (.iload 4) 2 38 := ⟨by decide +kernel, rfl⟩
theorem x_Ya_cheapestOrder_38 : DC b_Ya_cheapestOrder 38 (.ifCond .eq 25) 3 41 := ⟨by decide +kernel, rfl⟩
theorem x_Ya_cheapestOrder_41 : DC b_Ya_cheapestOrder 41 (.iload_n 2) 1 42 := ⟨by decide +kernel, rfl⟩
theorem x_Ya_cheapestOrder_42 : DC b_Ya_cheapestOrder 42 (.iconst (-1)) 1 43 := ⟨by decide +kernel, rfl⟩
theorem x_Ya_cheapestOrder_43 : DC b_Ya_cheapestOrder 43 (.if_icmp .eq 18) 3 46 := ⟨by decide +kernel, rfl⟩
theorem x_Ya_cheapestOrder_46 : DC b_Ya_cheapestOrder 46 (.aload_n 0) 1 47 := ⟨by decide +kernel, rfl⟩
theorem x_Ya_cheapestOrder_47 : DC b_Ya_cheapestOrder 47 (.getfield 42) 3 50 := ⟨by decide +kernel, rfl⟩
theorem x_Ya_cheapestOrder_50 : DC b_Ya_cheapestOrder 50 (.iload_n 3) 1 51 := ⟨by decide +kernel, rfl⟩
theorem x_Ya_cheapestOrder_51 : DC b_Ya_cheapestOrder 51 (.iaload) 1 52 := ⟨by decide +kernel, rfl⟩
theorem x_Ya_cheapestOrder_52 : DC b_Ya_cheapestOrder 52 (.aload_n 0) 1 53 := ⟨by decide +kernel, rfl⟩
theorem x_Ya_cheapestOrder_53 : DC b_Ya_cheapestOrder 53 (.getfield 42) 3 56 := ⟨by decide +kernel, rfl⟩
theorem x_Ya_cheapestOrder_56 : DC b_Ya_cheapestOrder 56 (.iload_n 2) 1 57 := ⟨by decide +kernel, rfl⟩
theorem x_Ya_cheapestOrder_57 : DC b_Ya_cheapestOrder 57 (.iaload) 1 58 := ⟨by decide +kernel, rfl⟩
theorem x_Ya_cheapestOrder_58 : DC b_Ya_cheapestOrder 58 (.if_icmp .ge 5) 3 61 := ⟨by decide +kernel, rfl⟩
theorem x_Ya_cheapestOrder_61 : DC b_Ya_cheapestOrder 61 (.iload_n 3) 1 62 := ⟨by decide +kernel, rfl⟩
theorem x_Ya_cheapestOrder_62 : DC b_Ya_cheapestOrder 62 (.istore_n 2) 1 63 := ⟨by decide +kernel, rfl⟩
theorem x_Ya_cheapestOrder_63 : DC b_Ya_cheapestOrder 63 (.iinc 3 1) 3 66 := ⟨by decide +kernel, rfl⟩
theorem x_Ya_cheapestOrder_66 : DC b_Ya_cheapestOrder 66 (.goto (-62)) 3 69 := ⟨by decide +kernel, rfl⟩
theorem x_Ya_cheapestOrder_69 : DC b_Ya_cheapestOrder 69 (.iload_n 2) 1 70 := ⟨by decide +kernel, rfl⟩
theorem x_Ya_cheapestOrder_70 : DC b_Ya_cheapestOrder 70 (.ireturn) 1 71 := ⟨by decide +kernel, rfl⟩
def k_Ya_cheapestOrder_63 (R4 : Int → Int → Int → Mem → Res) (a1 a2 a3 : Int) (M : Mem) : Res := blet (a3 + 1) fun v1 => R4 a1 a2 v1 M
theorem z_Ya_cheapestOrder_63 (C : Cx p s m args meth c G b_Ya_cheapestOrder 5 "PrairiePool$Yard" (some .int)) (hlev : 0 ≤ lev) {r : Int × Mem} {R4 : Int → Int → Int → Mem → Res} (hR4 : ∀ (a1 a2 a3 : Int) (M : Mem), R4 a1 a2 a3 M = some r → Z p l e lev s m args below meth c G 5 (MQ below (Qm G 1 r) args s 0 0 (Ab G)) M 4 [(0, .ref (G.1 + 62)), (1, vi a1), (2, vi a2), (3, vi a3)] []) {a1 a2 a3 : Int} {M : Mem} (h : k_Ya_cheapestOrder_63 R4 a1 a2 a3 M = some r) : Z p l e lev s m args below meth c G 5 (MQ below (Qm G 1 r) args s 0 0 (Ab G)) M 63 [(0, .ref (G.1 + 62)), (1, vi a1), (2, vi a2), (3, vi a3)] [] := by
  unfold k_Ya_cheapestOrder_63 at h
  obtain ⟨v1, ev1, h⟩ := blet_e h
  refine z_iinc (lv' := [(3, vi v1), (0, .ref (G.1 + 62)), (1, vi a1), (2, vi a2)]) C 3 ev1 x_Ya_cheapestOrder_63 rfl (i_lt rfl) rfl ?_
  refine z_goto (tgt := 4) C x_Ya_cheapestOrder_66 rfl ?_
  exact z_sub [1, 2, 3, 0] rfl (hR4 a1 a2 v1 M h)
def k_Ya_cheapestOrder_61 (R4 : Int → Int → Int → Mem → Res) (a1 a3 : Int) (M : Mem) : Res := k_Ya_cheapestOrder_63 R4 a1 a3 a3 M
theorem z_Ya_cheapestOrder_61 (C : Cx p s m args meth c G b_Ya_cheapestOrder 5 "PrairiePool$Yard" (some .int)) (hlev : 0 ≤ lev) {r : Int × Mem} {R4 : Int → Int → Int → Mem → Res} (hR4 : ∀ (a1 a2 a3 : Int) (M : Mem), R4 a1 a2 a3 M = some r → Z p l e lev s m args below meth c G 5 (MQ below (Qm G 1 r) args s 0 0 (Ab G)) M 4 [(0, .ref (G.1 + 62)), (1, vi a1), (2, vi a2), (3, vi a3)] []) {a1 a3 : Int} {M : Mem} (h : k_Ya_cheapestOrder_61 R4 a1 a3 M = some r) : Z p l e lev s m args below meth c G 5 (MQ below (Qm G 1 r) args s 0 0 (Ab G)) M 61 [(0, .ref (G.1 + 62)), (1, vi a1), (3, vi a3)] [] := by
  unfold k_Ya_cheapestOrder_61 at h
  refine z_iload_n C 2 x_Ya_cheapestOrder_61 rfl ?_
  refine z_istore_n (lv' := [(2, vi a3), (0, .ref (G.1 + 62)), (1, vi a1), (3, vi a3)]) C rfl x_Ya_cheapestOrder_62 (i_lt rfl) rfl ?_
  exact z_sub [1, 2, 0, 3] rfl (z_Ya_cheapestOrder_63 C hlev hR4 h)
def k_Ya_cheapestOrder_34 (R4 : Int → Int → Int → Mem → Res) (a1 a2 a3 s0 : Int) (M : Mem) : Res := if w32 s0 = 0 then (k_Ya_cheapestOrder_63 R4 a1 a2 a3 M) else (if w32 a2 = (-1) then (k_Ya_cheapestOrder_61 R4 a1 a3 M) else (chk (0 ≤ w32 a3 ∧ w32 a3 < 4) <| blet (M 73 (ix a3)) fun v4 => chk (0 ≤ w32 a2 ∧ w32 a2 < 4) <| blet (M 73 (ix a2)) fun v6 => if w32 v4 < w32 v6 then (k_Ya_cheapestOrder_61 R4 a1 a3 M) else (k_Ya_cheapestOrder_63 R4 a1 a2 a3 M)))
theorem z_Ya_cheapestOrder_34 (C : Cx p s m args meth c G b_Ya_cheapestOrder 5 "PrairiePool$Yard" (some .int)) (hlev : 0 ≤ lev) {r : Int × Mem} {R4 : Int → Int → Int → Mem → Res} (hR4 : ∀ (a1 a2 a3 : Int) (M : Mem), R4 a1 a2 a3 M = some r → Z p l e lev s m args below meth c G 5 (MQ below (Qm G 1 r) args s 0 0 (Ab G)) M 4 [(0, .ref (G.1 + 62)), (1, vi a1), (2, vi a2), (3, vi a3)] []) {a1 a2 a3 s0 : Int} {M : Mem} (h : k_Ya_cheapestOrder_34 R4 a1 a2 a3 s0 M = some r) : Z p l e lev s m args below meth c G 5 (MQ below (Qm G 1 r) args s 0 0 (Ab G)) M 34 [(0, .ref (G.1 + 62)), (1, vi a1), (2, vi a2), (3, vi a3)] [vi s0] := by
  unfold k_Ya_cheapestOrder_34 at h
  refine z_istore (lv' := [(4, vi s0), (0, .ref (G.1 + 62)), (1, vi a1), (2, vi a2), (3, vi a3)]) C rfl x_Ya_cheapestOrder_34 (i_lt rfl) rfl ?_
  refine z_iload C 0 x_Ya_cheapestOrder_36 rfl ?_
  rcases ite_e h with ⟨c1, h⟩ | ⟨c1, h⟩
  · refine z_if_eq_t (tgt := 63) C x_Ya_cheapestOrder_38 rfl c1 ?_
    exact z_sub [1, 2, 3, 4] rfl (z_Ya_cheapestOrder_63 C hlev hR4 h)
  · refine z_if_eq_f (tgt := 63) C x_Ya_cheapestOrder_38 rfl c1 ?_
    refine z_iload_n C 3 x_Ya_cheapestOrder_41 rfl ?_
    refine z_iconst C x_Ya_cheapestOrder_42 ?_
    rcases ite_e h with ⟨c2, h⟩ | ⟨c2, h⟩
    · refine z_icmp_eq_t (tgt := 61) C x_Ya_cheapestOrder_43 rfl c2 ?_
      exact z_sub [1, 2, 4] rfl (z_Ya_cheapestOrder_61 C hlev hR4 h)
    · refine z_icmp_eq_f (tgt := 61) C x_Ya_cheapestOrder_43 rfl c2 ?_
      refine z_aload_n C 1 x_Ya_cheapestOrder_46 rfl ?_
      refine z_getR (j := 11) C x_Ya_cheapestOrder_47 nk_62 ck_62 cw_10 (i_lt rfl) rfl rf_62_11 rfl fl_Ya_42 ?_
      refine z_iload_n C 4 x_Ya_cheapestOrder_50 rfl ?_
      obtain ⟨c3, h⟩ := chk_e h
      obtain ⟨v4, ev4, h⟩ := blet_e h
      refine z_iald C x_Ya_cheapestOrder_51 nk_73 ck_73 c3 ev4 ?_
      refine z_aload_n C 1 x_Ya_cheapestOrder_52 rfl ?_
      refine z_getR (j := 11) C x_Ya_cheapestOrder_53 nk_62 ck_62 cw_10 (i_lt rfl) rfl rf_62_11 rfl fl_Ya_42 ?_
      refine z_iload_n C 3 x_Ya_cheapestOrder_56 rfl ?_
      obtain ⟨c5, h⟩ := chk_e h
      obtain ⟨v6, ev6, h⟩ := blet_e h
      refine z_iald C x_Ya_cheapestOrder_57 nk_73 ck_73 c5 ev6 ?_
      rcases ite_e h with ⟨c7, h⟩ | ⟨c7, h⟩
      · refine z_icmp_ge_f (tgt := 63) C x_Ya_cheapestOrder_58 rfl c7 ?_
        exact z_sub [1, 2, 4] rfl (z_Ya_cheapestOrder_61 C hlev hR4 h)
      · refine z_icmp_ge_t (tgt := 63) C x_Ya_cheapestOrder_58 rfl c7 ?_
        exact z_sub [1, 2, 3, 4] rfl (z_Ya_cheapestOrder_63 C hlev hR4 h)
def k_Ya_cheapestOrder_33 (R4 : Int → Int → Int → Mem → Res) (a1 a2 a3 : Int) (M : Mem) : Res := k_Ya_cheapestOrder_34 R4 a1 a2 a3 0 M
theorem z_Ya_cheapestOrder_33 (C : Cx p s m args meth c G b_Ya_cheapestOrder 5 "PrairiePool$Yard" (some .int)) (hlev : 0 ≤ lev) {r : Int × Mem} {R4 : Int → Int → Int → Mem → Res} (hR4 : ∀ (a1 a2 a3 : Int) (M : Mem), R4 a1 a2 a3 M = some r → Z p l e lev s m args below meth c G 5 (MQ below (Qm G 1 r) args s 0 0 (Ab G)) M 4 [(0, .ref (G.1 + 62)), (1, vi a1), (2, vi a2), (3, vi a3)] []) {a1 a2 a3 : Int} {M : Mem} (h : k_Ya_cheapestOrder_33 R4 a1 a2 a3 M = some r) : Z p l e lev s m args below meth c G 5 (MQ below (Qm G 1 r) args s 0 0 (Ab G)) M 33 [(0, .ref (G.1 + 62)), (1, vi a1), (2, vi a2), (3, vi a3)] [] := by
  unfold k_Ya_cheapestOrder_33 at h
  refine z_iconst C x_Ya_cheapestOrder_33 ?_
  exact z_sub [0, 1, 2, 3] rfl (z_Ya_cheapestOrder_34 C hlev hR4 h)
def k_Ya_cheapestOrder_4 (R4 : Int → Int → Int → Mem → Res) (a1 a2 a3 : Int) (M : Mem) : Res := if w32 a3 < w32 a1 then (chk (0 ≤ w32 a3 ∧ w32 a3 < 4) <| blet (M 68 (ix a3)) fun v3 => if 0 < w32 v3 then (chk (0 ≤ w32 a3 ∧ w32 a3 < 4) <| blet (M 73 (ix a3)) fun v6 => if w32 v6 < 1000000 then (k_Ya_cheapestOrder_34 R4 a1 a2 a3 1 M) else (k_Ya_cheapestOrder_33 R4 a1 a2 a3 M)) else (k_Ya_cheapestOrder_33 R4 a1 a2 a3 M)) else (some (a2, M))
theorem z_Ya_cheapestOrder_4 (C : Cx p s m args meth c G b_Ya_cheapestOrder 5 "PrairiePool$Yard" (some .int)) (hlev : 0 ≤ lev) {r : Int × Mem} {R4 : Int → Int → Int → Mem → Res} (hR4 : ∀ (a1 a2 a3 : Int) (M : Mem), R4 a1 a2 a3 M = some r → Z p l e lev s m args below meth c G 5 (MQ below (Qm G 1 r) args s 0 0 (Ab G)) M 4 [(0, .ref (G.1 + 62)), (1, vi a1), (2, vi a2), (3, vi a3)] []) {a1 a2 a3 : Int} {M : Mem} (h : k_Ya_cheapestOrder_4 R4 a1 a2 a3 M = some r) : Z p l e lev s m args below meth c G 5 (MQ below (Qm G 1 r) args s 0 0 (Ab G)) M 4 [(0, .ref (G.1 + 62)), (1, vi a1), (2, vi a2), (3, vi a3)] [] := by
  unfold k_Ya_cheapestOrder_4 at h
  refine z_iload_n C 3 x_Ya_cheapestOrder_4 rfl ?_
  refine z_iload_n C 1 x_Ya_cheapestOrder_5 rfl ?_
  rcases ite_e h with ⟨c1, h⟩ | ⟨c1, h⟩
  · refine z_icmp_ge_f (tgt := 69) C x_Ya_cheapestOrder_6 rfl c1 ?_
    refine z_aload_n C 0 x_Ya_cheapestOrder_9 rfl ?_
    refine z_getR (j := 6) C x_Ya_cheapestOrder_10 nk_62 ck_62 cw_10 (i_lt rfl) rfl rf_62_6 rfl fl_Ya_27 ?_
    refine z_iload_n C 3 x_Ya_cheapestOrder_13 rfl ?_
    obtain ⟨c2, h⟩ := chk_e h
    obtain ⟨v3, ev3, h⟩ := blet_e h
    refine z_iald C x_Ya_cheapestOrder_14 nk_68 ck_68 c2 ev3 ?_
    rcases ite_e h with ⟨c4, h⟩ | ⟨c4, h⟩
    · refine z_if_le_f (tgt := 33) C x_Ya_cheapestOrder_15 rfl c4 ?_
      refine z_aload_n C 0 x_Ya_cheapestOrder_18 rfl ?_
      refine z_getR (j := 11) C x_Ya_cheapestOrder_19 nk_62 ck_62 cw_10 (i_lt rfl) rfl rf_62_11 rfl fl_Ya_42 ?_
      refine z_iload_n C 3 x_Ya_cheapestOrder_22 rfl ?_
      obtain ⟨c5, h⟩ := chk_e h
      obtain ⟨v6, ev6, h⟩ := blet_e h
      refine z_iald C x_Ya_cheapestOrder_23 nk_73 ck_73 c5 ev6 ?_
      refine z_ldc C kc_Ya_91 x_Ya_cheapestOrder_24 ?_
      rcases ite_e h with ⟨c7, h⟩ | ⟨c7, h⟩
      · refine z_icmp_ge_f (tgt := 33) C x_Ya_cheapestOrder_26 rfl c7 ?_
        refine z_iconst C x_Ya_cheapestOrder_29 ?_
        refine z_goto (tgt := 34) C x_Ya_cheapestOrder_30 rfl ?_
        exact z_sub [0, 1, 2, 3] rfl (z_Ya_cheapestOrder_34 C hlev hR4 h)
      · refine z_icmp_ge_t (tgt := 33) C x_Ya_cheapestOrder_26 rfl c7 ?_
        exact z_sub [0, 1, 2, 3] rfl (z_Ya_cheapestOrder_33 C hlev hR4 h)
    · refine z_if_le_t (tgt := 33) C x_Ya_cheapestOrder_15 rfl c4 ?_
      exact z_sub [0, 1, 2, 3] rfl (z_Ya_cheapestOrder_33 C hlev hR4 h)
  · refine z_icmp_ge_t (tgt := 69) C x_Ya_cheapestOrder_6 rfl c1 ?_
    refine z_iload_n C 2 x_Ya_cheapestOrder_69 rfl ?_
    exact z_iret C x_Ya_cheapestOrder_70 h
theorem zl_Ya_cheapestOrder_4 (C : Cx p s m args meth c G b_Ya_cheapestOrder 5 "PrairiePool$Yard" (some .int)) (hlev : 0 ≤ lev) {r : Int × Mem}  : ∀ (n : Nat) (a1 a2 a3 : Int) (M : Mem), fix (fun _ _ _ _ => none) (k_Ya_cheapestOrder_4) n a1 a2 a3 M = some r → Z p l e lev s m args below meth c G 5 (MQ below (Qm G 1 r) args s 0 0 (Ab G)) M 4 [(0, .ref (G.1 + 62)), (1, vi a1), (2, vi a2), (3, vi a3)] [] := by
  intro n
  induction n with
  | zero => intro a1 a2 a3 M h; exact nomatch (show (none : Res) = some r from h)
  | succ n ih => intro a1 a2 a3 M h; exact z_Ya_cheapestOrder_4 C hlev ih h
def d_Ya_cheapestOrder (a1 : Int) (M : Mem) : Res := fix (fun _ _ _ _ => none) (k_Ya_cheapestOrder_4) FU a1 (-1) 0 M
theorem t_Ya_cheapestOrder (l : Launch) (G : GX) {lev : Nat} (hlev : 0 ≤ lev) {a1 : Int} {M : Mem} {r : Int × Mem} (h : d_Ya_cheapestOrder a1 M = some r) : Mt l G y_Ya_cheapestOrder b_Ya_cheapestOrder 5 (some .int) lev 1 [.ref (G.1 + 62), vi a1] M r := by
  refine Mt.of (by decide) (i_le rfl) ?_
  intro p e s m args below meth c C
  have C : Cx p s m args meth c G b_Ya_cheapestOrder 5 "PrairiePool$Yard" (some .int) := C
  unfold d_Ya_cheapestOrder at h
  refine z_sub (lv' := [(0, .ref (G.1 + 62)), (1, vi a1)]) [0, 1] rfl ?_
  refine z_iconst C x_Ya_cheapestOrder_0 ?_
  refine z_istore_n (lv' := [(2, vi (-1)), (0, .ref (G.1 + 62)), (1, vi a1)]) C rfl x_Ya_cheapestOrder_1 (i_lt rfl) rfl ?_
  refine z_iconst C x_Ya_cheapestOrder_2 ?_
  refine z_istore_n (lv' := [(3, vi 0), (2, vi (-1)), (0, .ref (G.1 + 62)), (1, vi a1)]) C rfl x_Ya_cheapestOrder_3 (i_lt rfl) rfl ?_
  exact z_sub [2, 3, 1, 0] rfl (zl_Ya_cheapestOrder_4 C hlev FU a1 (-1) 0 M h)
theorem x_Ya_greatestLoad_0 : DC b_Ya_greatestLoad 0 (.aload_n 0) 1 1 := ⟨by decide +kernel, rfl⟩
theorem x_Ya_greatestLoad_1 : DC b_Ya_greatestLoad 1 (.getfield 27) 3 4 := ⟨by decide +kernel, rfl⟩
theorem x_Ya_greatestLoad_4 : DC b_Ya_greatestLoad 4 (.iload_n 1) 1 5 := ⟨by decide +kernel, rfl⟩
theorem x_Ya_greatestLoad_5 : DC b_Ya_greatestLoad 5 (.iaload) 1 6 := ⟨by decide +kernel, rfl⟩
theorem x_Ya_greatestLoad_6 : DC b_Ya_greatestLoad 6 (.istore_n 3) 1 7 := ⟨by decide +kernel, rfl⟩
theorem x_Ya_greatestLoad_7 : DC b_Ya_greatestLoad 7 (.iload_n 1) 1 8 := ⟨by decide +kernel, rfl⟩
theorem x_Ya_greatestLoad_8 : DC b_Ya_greatestLoad 8 (.istore 4) 2 10 := ⟨by decide +kernel, rfl⟩
theorem x_Ya_greatestLoad_10 : DC b_Ya_greatestLoad 10 (.iconst 0) 1 11 := ⟨by decide +kernel, rfl⟩
theorem x_Ya_greatestLoad_11 : DC b_Ya_greatestLoad 11 (.istore 5) 2 13 := ⟨by decide +kernel, rfl⟩
theorem x_Ya_greatestLoad_13 : DC b_Ya_greatestLoad 13 (.iload 5) 2 15 := ⟨by decide +kernel, rfl⟩
theorem x_Ya_greatestLoad_15 : DC b_Ya_greatestLoad 15 (.iconst 5) 1 16 := ⟨by decide +kernel, rfl⟩
theorem x_Ya_greatestLoad_16 : DC b_Ya_greatestLoad 16 (.if_icmp .ge 77) 3 19 := ⟨by decide +kernel, rfl⟩
theorem x_Ya_greatestLoad_19 : DC b_Ya_greatestLoad 19 (.iload 4) 2 21 := ⟨by decide +kernel, rfl⟩
theorem x_Ya_greatestLoad_21 : DC b_Ya_greatestLoad 21 (.iconst (-1)) 1 22 := ⟨by decide +kernel, rfl⟩
theorem x_Ya_greatestLoad_22 : DC b_Ya_greatestLoad 22 (.if_icmp .eq 71) 3 25 := ⟨by decide +kernel, rfl⟩
theorem x_Ya_greatestLoad_25 : DC b_Ya_greatestLoad 25 (.aload_n 0) 1 26 := ⟨by decide +kernel, rfl⟩
theorem x_Ya_greatestLoad_26 : DC b_Ya_greatestLoad 26 (.getfield 45) 3 29 := ⟨by decide +kernel, rfl⟩
theorem x_Ya_greatestLoad_29 : DC b_Ya_greatestLoad 29 (.iload 4) 2 31 := ⟨by decide +kernel, rfl⟩
theorem x_Ya_greatestLoad_31 : DC b_Ya_greatestLoad 31 (.iaload) 1 32 := ⟨by decide +kernel, rfl⟩
theorem x_Ya_greatestLoad_32 : DC b_Ya_greatestLoad 32 (.iconst (-1)) 1 33 := ⟨by decide +kernel, rfl⟩
theorem x_Ya_greatestLoad_33 : DC b_Ya_greatestLoad 33 (.if_icmp .eq 60) 3 36 := ⟨by decide +kernel, rfl⟩
theorem x_Ya_greatestLoad_36 : DC b_Ya_greatestLoad 36 (.aload_n 0) 1 37 := ⟨by decide +kernel, rfl⟩
theorem x_Ya_greatestLoad_37 : DC b_Ya_greatestLoad 37 (.getfield 45) 3 40 := ⟨by decide +kernel, rfl⟩
theorem x_Ya_greatestLoad_40 : DC b_Ya_greatestLoad 40 (.iload 4) 2 42 := ⟨by decide +kernel, rfl⟩
theorem x_Ya_greatestLoad_42 : DC b_Ya_greatestLoad 42 (.iaload) 1 43 := ⟨by decide +kernel, rfl⟩
theorem x_Ya_greatestLoad_43 : DC b_Ya_greatestLoad 43 (.istore 6) 2 45 := ⟨by decide +kernel, rfl⟩
theorem x_Ya_greatestLoad_45 : DC b_Ya_greatestLoad 45 (.aload_n 0) 1 46 := ⟨by decide +kernel, rfl⟩
theorem x_Ya_greatestLoad_46 : DC b_Ya_greatestLoad 46 (.getfield 39) 3 49 := ⟨by decide +kernel, rfl⟩
theorem x_Ya_greatestLoad_49 : DC b_Ya_greatestLoad 49 (.iload 6) 2 51 := ⟨by decide +kernel, rfl⟩
theorem x_Ya_greatestLoad_51 : DC b_Ya_greatestLoad 51 (.iaload) 1 52 := ⟨by decide +kernel, rfl⟩
theorem x_Ya_greatestLoad_52 : DC b_Ya_greatestLoad 52 (.istore 4) 2 54 := ⟨by decide +kernel, rfl⟩
theorem x_Ya_greatestLoad_54 : DC b_Ya_greatestLoad 54 (.iload_n 3) 1 55 := ⟨by decide +kernel, rfl⟩
theorem x_Ya_greatestLoad_55 : DC b_Ya_greatestLoad 55 (.iload 4) 2 57 := ⟨by decide +kernel, rfl⟩
theorem x_Ya_greatestLoad_57 : DC b_Ya_greatestLoad 57 (.iconst (-1)) 1 58 := ⟨by decide +kernel, rfl⟩
theorem x_Ya_greatestLoad_58 : DC b_Ya_greatestLoad 58 (.if_icmp .ne 13) 3 61 := ⟨by decide +kernel, rfl⟩
theorem x_Ya_greatestLoad_61 : DC b_Ya_greatestLoad 61 (.aload_n 0) 1 62 := ⟨by decide +kernel, rfl⟩
theorem x_Ya_greatestLoad_62 : DC b_Ya_greatestLoad 62 (.getfield 24) 3 65 := ⟨by decide +kernel, rfl⟩
theorem x_Ya_greatestLoad_65 : DC b_Ya_greatestLoad 65 (.iload 6) 2 67 := ⟨by decide +kernel, rfl⟩
theorem x_Ya_greatestLoad_67 : DC b_Ya_greatestLoad 67 (.iaload) 1 68 := ⟨by decide +kernel, rfl⟩
theorem x_Ya_greatestLoad_68 : DC b_Ya_greatestLoad 68 (.goto 15) 3 71 := ⟨by decide +kernel, rfl⟩
theorem x_Ya_greatestLoad_71 : DC b_Ya_greatestLoad 71 (.aload_n 0) 1 72 := ⟨by decide +kernel, rfl⟩
theorem x_Ya_greatestLoad_72 : DC b_Ya_greatestLoad 72 (.getfield 33) 3 75 := ⟨by decide +kernel, rfl⟩
theorem x_Ya_greatestLoad_75 : DC b_Ya_greatestLoad 75 (.iload 6) 2 77 := ⟨by decide +kernel, rfl⟩
theorem x_Ya_greatestLoad_77 : DC b_Ya_greatestLoad 77 (.iload_n 2) 1 78 := ⟨by decide +kernel, rfl⟩
theorem x_Ya_greatestLoad_78 : DC b_Ya_greatestLoad 78 (.imul) 1 79 := ⟨by decide +kernel, rfl⟩
theorem x_Ya_greatestLoad_79 : DC b_Ya_greatestLoad 79 (.iload 4) 2 81 := ⟨by decide +kernel, rfl⟩
theorem x_Ya_greatestLoad_81 : DC b_Ya_greatestLoad 81 (.iadd) 1 82 := ⟨by decide +kernel, rfl⟩
theorem x_Ya_greatestLoad_82 : DC b_Ya_greatestLoad 82 (.iaload) 1 83 := ⟨by decide +kernel, rfl⟩
theorem x_Ya_greatestLoad_83 : DC b_Ya_greatestLoad 83 (.invokestatic 96) 3 86 := ⟨by decide +kernel, rfl⟩
theorem x_Ya_greatestLoad_86 : DC b_Ya_greatestLoad 86 (.istore_n 3) 1 87 := ⟨by decide +kernel, rfl⟩
theorem x_Ya_greatestLoad_87 : DC b_Ya_greatestLoad 87 (.iinc 5 1) 3 90 := ⟨by decide +kernel, rfl⟩
theorem x_Ya_greatestLoad_90 : DC b_Ya_greatestLoad 90 (.goto (-77)) 3 93 := ⟨by decide +kernel, rfl⟩
theorem x_Ya_greatestLoad_93 : DC b_Ya_greatestLoad 93 (.iload_n 3) 1 94 := ⟨by decide +kernel, rfl⟩
theorem x_Ya_greatestLoad_94 : DC b_Ya_greatestLoad 94 (.ireturn) 1 95 := ⟨by decide +kernel, rfl⟩
def k_Ya_greatestLoad_83 (R13 : Int → Int → Int → Int → Mem → Res) (a2 a4 a5 s0 s1 : Int) (M : Mem) : Res := blet (mn32 s0 s1) fun v1 => blet (a5 + 1) fun v2 => R13 a2 v1 a4 v2 M
theorem z_Ya_greatestLoad_83 (C : Cx p s m args meth c G b_Ya_greatestLoad 7 "PrairiePool$Yard" (some .int)) (hlev : 1 ≤ lev) {r : Int × Mem} {R13 : Int → Int → Int → Int → Mem → Res} (hR13 : ∀ (a2 a3 a4 a5 : Int) (M : Mem), R13 a2 a3 a4 a5 M = some r → Z p l e lev s m args below meth c G 7 (MQ below (Qm G 1 r) args s 0 0 (Ab G)) M 13 [(0, .ref (G.1 + 62)), (2, vi a2), (3, vi a3), (4, vi a4), (5, vi a5)] []) {a2 a4 a5 s0 s1 : Int} {M : Mem} (h : k_Ya_greatestLoad_83 R13 a2 a4 a5 s0 s1 M = some r) : Z p l e lev s m args below meth c G 7 (MQ below (Qm G 1 r) args s 0 0 (Ab G)) M 83 [(0, .ref (G.1 + 62)), (2, vi a2), (4, vi a4), (5, vi a5)] [vi s1, vi s0] := by
  unfold k_Ya_greatestLoad_83 at h
  refine z_mn32 C x_Ya_greatestLoad_83 cs_Ya_96 (by omega) (i_le rfl) ?_
  obtain ⟨v1, ev1, h⟩ := blet_e h
  refine z_istore_n (lv' := [(3, vi v1), (0, .ref (G.1 + 62)), (2, vi a2), (4, vi a4), (5, vi a5)]) C ev1 x_Ya_greatestLoad_86 (i_lt rfl) rfl ?_
  obtain ⟨v2, ev2, h⟩ := blet_e h
  refine z_iinc (lv' := [(5, vi v2), (3, vi v1), (0, .ref (G.1 + 62)), (2, vi a2), (4, vi a4)]) C 4 ev2 x_Ya_greatestLoad_87 rfl (i_lt rfl) rfl ?_
  refine z_goto (tgt := 13) C x_Ya_greatestLoad_90 rfl ?_
  exact z_sub [2, 3, 1, 4, 0] rfl (hR13 a2 v1 a4 v2 M h)
def k_Ya_greatestLoad_13 (R13 : Int → Int → Int → Int → Mem → Res) (a2 a3 a4 a5 : Int) (M : Mem) : Res := if w32 a5 < 5 then (if w32 a4 = (-1) then (some (a3, M)) else (chk (0 ≤ w32 a4 ∧ w32 a4 < 4) <| blet (M 74 (ix a4)) fun v4 => if w32 v4 = (-1) then (some (a3, M)) else (chk (0 ≤ w32 a4 ∧ w32 a4 < 4) <| blet (M 74 (ix a4)) fun v7 => chk (0 ≤ w32 v7 ∧ w32 v7 < 5) <| blet (M 72 (ix v7)) fun v9 => if w32 v9 = (-1) then (chk (0 ≤ w32 v7 ∧ w32 v7 < 5) <| blet (M 67 (ix v7)) fun v12 => k_Ya_greatestLoad_83 R13 a2 v9 a5 a3 v12 M) else (chk (0 ≤ w32 ((v7 * a2) + v9) ∧ w32 ((v7 * a2) + v9) < 20) <| blet (M 70 (ix ((v7 * a2) + v9))) fun v14 => k_Ya_greatestLoad_83 R13 a2 v9 a5 a3 v14 M)))) else (some (a3, M))
theorem z_Ya_greatestLoad_13 (C : Cx p s m args meth c G b_Ya_greatestLoad 7 "PrairiePool$Yard" (some .int)) (hlev : 1 ≤ lev) {r : Int × Mem} {R13 : Int → Int → Int → Int → Mem → Res} (hR13 : ∀ (a2 a3 a4 a5 : Int) (M : Mem), R13 a2 a3 a4 a5 M = some r → Z p l e lev s m args below meth c G 7 (MQ below (Qm G 1 r) args s 0 0 (Ab G)) M 13 [(0, .ref (G.1 + 62)), (2, vi a2), (3, vi a3), (4, vi a4), (5, vi a5)] []) {a2 a3 a4 a5 : Int} {M : Mem} (h : k_Ya_greatestLoad_13 R13 a2 a3 a4 a5 M = some r) : Z p l e lev s m args below meth c G 7 (MQ below (Qm G 1 r) args s 0 0 (Ab G)) M 13 [(0, .ref (G.1 + 62)), (2, vi a2), (3, vi a3), (4, vi a4), (5, vi a5)] [] := by
  unfold k_Ya_greatestLoad_13 at h
  refine z_iload C 4 x_Ya_greatestLoad_13 rfl ?_
  refine z_iconst C x_Ya_greatestLoad_15 ?_
  rcases ite_e h with ⟨c1, h⟩ | ⟨c1, h⟩
  · refine z_icmp_ge_f (tgt := 93) C x_Ya_greatestLoad_16 rfl c1 ?_
    refine z_iload C 3 x_Ya_greatestLoad_19 rfl ?_
    refine z_iconst C x_Ya_greatestLoad_21 ?_
    rcases ite_e h with ⟨c2, h⟩ | ⟨c2, h⟩
    · refine z_icmp_eq_t (tgt := 93) C x_Ya_greatestLoad_22 rfl c2 ?_
      refine z_iload_n C 2 x_Ya_greatestLoad_93 rfl ?_
      exact z_iret C x_Ya_greatestLoad_94 h
    · refine z_icmp_eq_f (tgt := 93) C x_Ya_greatestLoad_22 rfl c2 ?_
      refine z_aload_n C 0 x_Ya_greatestLoad_25 rfl ?_
      refine z_getR (j := 12) C x_Ya_greatestLoad_26 nk_62 ck_62 cw_10 (i_lt rfl) rfl rf_62_12 rfl fl_Ya_45 ?_
      refine z_iload C 3 x_Ya_greatestLoad_29 rfl ?_
      obtain ⟨c3, h⟩ := chk_e h
      obtain ⟨v4, ev4, h⟩ := blet_e h
      refine z_iald C x_Ya_greatestLoad_31 nk_74 ck_74 c3 ev4 ?_
      refine z_iconst C x_Ya_greatestLoad_32 ?_
      rcases ite_e h with ⟨c5, h⟩ | ⟨c5, h⟩
      · refine z_icmp_eq_t (tgt := 93) C x_Ya_greatestLoad_33 rfl c5 ?_
        refine z_iload_n C 2 x_Ya_greatestLoad_93 rfl ?_
        exact z_iret C x_Ya_greatestLoad_94 h
      · refine z_icmp_eq_f (tgt := 93) C x_Ya_greatestLoad_33 rfl c5 ?_
        refine z_aload_n C 0 x_Ya_greatestLoad_36 rfl ?_
        refine z_getR (j := 12) C x_Ya_greatestLoad_37 nk_62 ck_62 cw_10 (i_lt rfl) rfl rf_62_12 rfl fl_Ya_45 ?_
        refine z_iload C 3 x_Ya_greatestLoad_40 rfl ?_
        obtain ⟨c6, h⟩ := chk_e h
        obtain ⟨v7, ev7, h⟩ := blet_e h
        refine z_iald C x_Ya_greatestLoad_42 nk_74 ck_74 c6 ev7 ?_
        refine z_istore (lv' := [(6, vi v7), (0, .ref (G.1 + 62)), (2, vi a2), (3, vi a3), (4, vi a4), (5, vi a5)]) C rfl x_Ya_greatestLoad_43 (i_lt rfl) rfl ?_
        refine z_aload_n C 1 x_Ya_greatestLoad_45 rfl ?_
        refine z_getR (j := 10) C x_Ya_greatestLoad_46 nk_62 ck_62 cw_10 (i_lt rfl) rfl rf_62_10 rfl fl_Ya_39 ?_
        refine z_iload C 0 x_Ya_greatestLoad_49 rfl ?_
        obtain ⟨c8, h⟩ := chk_e h
        obtain ⟨v9, ev9, h⟩ := blet_e h
        refine z_iald C x_Ya_greatestLoad_51 nk_72 ck_72 c8 ev9 ?_
        refine z_istore (lv' := [(4, vi v9), (6, vi v7), (0, .ref (G.1 + 62)), (2, vi a2), (3, vi a3), (5, vi a5)]) C rfl x_Ya_greatestLoad_52 (i_lt rfl) rfl ?_
        refine z_iload_n C 4 x_Ya_greatestLoad_54 rfl ?_
        refine z_iload C 0 x_Ya_greatestLoad_55 rfl ?_
        refine z_iconst C x_Ya_greatestLoad_57 ?_
        rcases ite_e h with ⟨c10, h⟩ | ⟨c10, h⟩
        · refine z_icmp_ne_f (tgt := 71) C x_Ya_greatestLoad_58 rfl c10 ?_
          refine z_aload_n C 2 x_Ya_greatestLoad_61 rfl ?_
          refine z_getR (j := 5) C x_Ya_greatestLoad_62 nk_62 ck_62 cw_10 (i_lt rfl) rfl rf_62_5 rfl fl_Ya_24 ?_
          refine z_iload C 1 x_Ya_greatestLoad_65 rfl ?_
          obtain ⟨c11, h⟩ := chk_e h
          obtain ⟨v12, ev12, h⟩ := blet_e h
          refine z_iald C x_Ya_greatestLoad_67 nk_67 ck_67 c11 ev12 ?_
          refine z_goto (tgt := 83) C x_Ya_greatestLoad_68 rfl ?_
          exact z_sub [2, 3, 0, 5] rfl (z_Ya_greatestLoad_83 C hlev hR13 h)
        · refine z_icmp_ne_t (tgt := 71) C x_Ya_greatestLoad_58 rfl c10 ?_
          refine z_aload_n C 2 x_Ya_greatestLoad_71 rfl ?_
          refine z_getR (j := 8) C x_Ya_greatestLoad_72 nk_62 ck_62 cw_10 (i_lt rfl) rfl rf_62_8 rfl fl_Ya_33 ?_
          refine z_iload C 1 x_Ya_greatestLoad_75 rfl ?_
          refine z_iload_n C 3 x_Ya_greatestLoad_77 rfl ?_
          refine z_imul C x_Ya_greatestLoad_78 ?_
          refine z_iload C 0 x_Ya_greatestLoad_79 rfl ?_
          refine z_iadd C x_Ya_greatestLoad_81 ?_
          obtain ⟨c13, h⟩ := chk_e h
          obtain ⟨v14, ev14, h⟩ := blet_e h
          refine z_iald C x_Ya_greatestLoad_82 nk_70 ck_70 c13 ev14 ?_
          exact z_sub [2, 3, 0, 5] rfl (z_Ya_greatestLoad_83 C hlev hR13 h)
  · refine z_icmp_ge_t (tgt := 93) C x_Ya_greatestLoad_16 rfl c1 ?_
    refine z_iload_n C 2 x_Ya_greatestLoad_93 rfl ?_
    exact z_iret C x_Ya_greatestLoad_94 h
theorem zl_Ya_greatestLoad_13 (C : Cx p s m args meth c G b_Ya_greatestLoad 7 "PrairiePool$Yard" (some .int)) (hlev : 1 ≤ lev) {r : Int × Mem}  : ∀ (n : Nat) (a2 a3 a4 a5 : Int) (M : Mem), fix (fun _ _ _ _ _ => none) (k_Ya_greatestLoad_13) n a2 a3 a4 a5 M = some r → Z p l e lev s m args below meth c G 7 (MQ below (Qm G 1 r) args s 0 0 (Ab G)) M 13 [(0, .ref (G.1 + 62)), (2, vi a2), (3, vi a3), (4, vi a4), (5, vi a5)] [] := by
  intro n
  induction n with
  | zero => intro a2 a3 a4 a5 M h; exact nomatch (show (none : Res) = some r from h)
  | succ n ih => intro a2 a3 a4 a5 M h; exact z_Ya_greatestLoad_13 C hlev ih h
def d_Ya_greatestLoad (a1 a2 : Int) (M : Mem) : Res := chk (0 ≤ w32 a1 ∧ w32 a1 < 4) <| blet (M 68 (ix a1)) fun v2 => fix (fun _ _ _ _ _ => none) (k_Ya_greatestLoad_13) FU a2 v2 a1 0 M
theorem t_Ya_greatestLoad (l : Launch) (G : GX) {lev : Nat} (hlev : 1 ≤ lev) {a1 a2 : Int} {M : Mem} {r : Int × Mem} (h : d_Ya_greatestLoad a1 a2 M = some r) : Mt l G y_Ya_greatestLoad b_Ya_greatestLoad 7 (some .int) lev 1 [.ref (G.1 + 62), vi a1, vi a2] M r := by
  refine Mt.of (by decide) (i_le rfl) ?_
  intro p e s m args below meth c C
  have C : Cx p s m args meth c G b_Ya_greatestLoad 7 "PrairiePool$Yard" (some .int) := C
  unfold d_Ya_greatestLoad at h
  refine z_sub (lv' := [(0, .ref (G.1 + 62)), (1, vi a1), (2, vi a2)]) [0, 1, 2] rfl ?_
  refine z_aload_n C 0 x_Ya_greatestLoad_0 rfl ?_
  refine z_getR (j := 6) C x_Ya_greatestLoad_1 nk_62 ck_62 cw_10 (i_lt rfl) rfl rf_62_6 rfl fl_Ya_27 ?_
  refine z_iload_n C 1 x_Ya_greatestLoad_4 rfl ?_
  obtain ⟨c1, h⟩ := chk_e h
  obtain ⟨v2, ev2, h⟩ := blet_e h
  refine z_iald C x_Ya_greatestLoad_5 nk_68 ck_68 c1 ev2 ?_
  refine z_istore_n (lv' := [(3, vi v2), (0, .ref (G.1 + 62)), (1, vi a1), (2, vi a2)]) C rfl x_Ya_greatestLoad_6 (i_lt rfl) rfl ?_
  refine z_iload_n C 2 x_Ya_greatestLoad_7 rfl ?_
  refine z_istore (lv' := [(4, vi a1), (3, vi v2), (0, .ref (G.1 + 62)), (1, vi a1), (2, vi a2)]) C rfl x_Ya_greatestLoad_8 (i_lt rfl) rfl ?_
  refine z_iconst C x_Ya_greatestLoad_10 ?_
  refine z_istore (lv' := [(5, vi 0), (4, vi a1), (3, vi v2), (0, .ref (G.1 + 62)), (1, vi a1), (2, vi a2)]) C rfl x_Ya_greatestLoad_11 (i_lt rfl) rfl ?_
  exact z_sub [3, 5, 2, 1, 0] rfl (zl_Ya_greatestLoad_13 C hlev FU a2 v2 a1 0 M h)
theorem x_Ya_carry_0 : DC b_Ya_carry 0 (.aload_n 0) 1 1 := ⟨by decide +kernel, rfl⟩
theorem x_Ya_carry_1 : DC b_Ya_carry 1 (.getfield 27) 3 4 := ⟨by decide +kernel, rfl⟩
theorem x_Ya_carry_4 : DC b_Ya_carry 4 (.iload_n 1) 1 5 := ⟨by decide +kernel, rfl⟩
theorem x_Ya_carry_5 : DC b_Ya_carry 5 (.dup2) 1 6 := ⟨by decide +kernel, rfl⟩
theorem x_Ya_carry_6 : DC b_Ya_carry 6 (.iaload) 1 7 := ⟨by decide +kernel, rfl⟩
theorem x_Ya_carry_7 : DC b_Ya_carry 7 (.iload_n 3) 1 8 := ⟨by decide +kernel, rfl⟩
theorem x_Ya_carry_8 : DC b_Ya_carry 8 (.isub) 1 9 := ⟨by decide +kernel, rfl⟩
theorem x_Ya_carry_9 : DC b_Ya_carry 9 (.iastore) 1 10 := ⟨by decide +kernel, rfl⟩
theorem x_Ya_carry_10 : DC b_Ya_carry 10 (.iload_n 1) 1 11 := ⟨by decide +kernel, rfl⟩
theorem x_Ya_carry_11 : DC b_Ya_carry 11 (.istore 4) 2 13 := ⟨by decide +kernel, rfl⟩
theorem x_Ya_carry_13 : DC b_Ya_carry 13 (.iconst 0) 1 14 := ⟨by decide +kernel, rfl⟩
theorem x_Ya_carry_14 : DC b_Ya_carry 14 (.istore 5) 2 16 := ⟨by decide +kernel, rfl⟩
theorem x_Ya_carry_16 : DC b_Ya_carry 16 (.iload 5) 2 18 := ⟨by decide +kernel, rfl⟩
theorem x_Ya_carry_18 : DC b_Ya_carry 18 (.iconst 5) 1 19 := ⟨by decide +kernel, rfl⟩
theorem x_Ya_carry_19 : DC b_Ya_carry 19 (.if_icmp .ge 96) 3 22 := ⟨by decide +kernel, rfl⟩
theorem x_Ya_carry_22 : DC b_Ya_carry 22 (.iload 4) 2 24 := ⟨by decide +kernel, rfl⟩
theorem x_Ya_carry_24 : DC b_Ya_carry 24 (.iconst (-1)) 1 25 := ⟨by decide +kernel, rfl⟩
theorem x_Ya_carry_25 : DC b_Ya_carry 25 (.if_icmp .eq 90) 3 28 := ⟨by decide +kernel, rfl⟩
theorem x_Ya_carry_28 : DC b_Ya_carry 28 (.aload_n 0) 1 29 := ⟨by decide +kernel, rfl⟩
theorem x_Ya_carry_29 : DC b_Ya_carry 29 (.getfield 45) 3 32 := ⟨by decide +kernel, rfl⟩
theorem x_Ya_carry_32 : DC b_Ya_carry 32 (.iload 4) 2 34 := ⟨by decide +kernel, rfl⟩
theorem x_Ya_carry_34 : DC b_Ya_carry 34 (.iaload) 1 35 := ⟨by decide +kernel, rfl⟩
theorem x_Ya_carry_35 : DC b_Ya_carry 35 (.iconst (-1)) 1 36 := ⟨by decide +kernel, rfl⟩
theorem x_Ya_carry_36 : DC b_Ya_carry 36 (.if_icmp .eq 79) 3 39 := ⟨by decide +kernel, rfl⟩
theorem x_Ya_carry_39 : DC b_Ya_carry 39 (.aload_n 0) 1 40 := ⟨by decide +kernel, rfl⟩
theorem x_Ya_carry_40 : DC b_Ya_carry 40 (.getfield 45) 3 43 := ⟨by decide +kernel, rfl⟩
theorem x_Ya_carry_43 : DC b_Ya_carry 43 (.iload 4) 2 45 := ⟨by decide +kernel, rfl⟩
theorem x_Ya_carry_45 : DC b_Ya_carry 45 (.iaload) 1 46 := ⟨by decide +kernel, rfl⟩
theorem x_Ya_carry_46 : DC b_Ya_carry 46 (.istore 6) 2 48 := ⟨by decide +kernel, rfl⟩
theorem x_Ya_carry_48 : DC b_Ya_carry 48 (.aload_n 0) 1 49 := ⟨by decide +kernel, rfl⟩
theorem x_Ya_carry_49 : DC b_Ya_carry 49 (.getfield 33) 3 52 := ⟨by decide +kernel, rfl⟩
theorem x_Ya_carry_52 : DC b_Ya_carry 52 (.iload 6) 2 54 := ⟨by decide +kernel, rfl⟩
theorem x_Ya_carry_54 : DC b_Ya_carry 54 (.iload_n 2) 1 55 := ⟨by decide +kernel, rfl⟩
theorem x_Ya_carry_55 : DC b_Ya_carry 55 (.imul) 1 56 := ⟨by decide +kernel, rfl⟩
theorem x_Ya_carry_56 : DC b_Ya_carry 56 (.iload 4) 2 58 := ⟨by decide +kernel, rfl⟩
theorem x_Ya_carry_58 : DC b_Ya_carry 58 (.iadd) 1 59 := ⟨by decide +kernel, rfl⟩
theorem x_Ya_carry_59 : DC b_Ya_carry 59 (.dup2) 1 60 := ⟨by decide +kernel, rfl⟩
theorem x_Ya_carry_60 : DC b_Ya_carry 60 (.iaload) 1 61 := ⟨by decide +kernel, rfl⟩
theorem x_Ya_carry_61 : DC b_Ya_carry 61 (.iload_n 3) 1 62 := ⟨by decide +kernel, rfl⟩
theorem x_Ya_carry_62 : DC b_Ya_carry 62 (.iadd) 1 63 := ⟨by decide +kernel, rfl⟩
theorem x_Ya_carry_63 : DC b_Ya_carry 63 (.iastore) 1 64 := ⟨by decide +kernel, rfl⟩
theorem x_Ya_carry_64 : DC b_Ya_carry 64 (.aload_n 0) 1 65 := ⟨by decide +kernel, rfl⟩
theorem x_Ya_carry_65 : DC b_Ya_carry 65 (.getfield 39) 3 68 := ⟨by decide +kernel, rfl⟩
theorem x_Ya_carry_68 : DC b_Ya_carry 68 (.iload 6) 2 70 := ⟨by decide +kernel, rfl⟩
theorem x_Ya_carry_70 : DC b_Ya_carry 70 (.iaload) 1 71 := ⟨by decide +kernel, rfl⟩
theorem x_Ya_carry_71 : DC b_Ya_carry 71 (.istore 4) 2 73 := ⟨by decide +kernel, rfl⟩
theorem x_Ya_carry_73 : DC b_Ya_carry 73 (.iload 4) 2 75 := ⟨by decide +kernel, rfl⟩
theorem x_Ya_carry_75 : DC b_Ya_carry 75 (.iconst (-1)) 1 76 := ⟨by decide +kernel, rfl⟩
theorem x_Ya_carry_76 : DC b_Ya_carry 76 (.if_icmp .ne 17) 3 79 := ⟨by decide +kernel, rfl⟩
theorem x_Ya_carry_79 : DC b_Ya_carry 79 (.aload_n 0) 1 80 := ⟨by decide +kernel, rfl⟩
theorem x_Ya_carry_80 : DC b_Ya_carry 80 (.getfield 24) 3 83 := ⟨by decide +kernel, rfl⟩
theorem x_Ya_carry_83 : DC b_Ya_carry 83 (.iload 6) 2 85 := ⟨by decide +kernel, rfl⟩
theorem x_Ya_carry_85 : DC b_Ya_carry 85 (.dup2) 1 86 := ⟨by decide +kernel, rfl⟩
theorem x_Ya_carry_86 : DC b_Ya_carry 86 (.iaload) 1 87 := ⟨by decide +kernel, rfl⟩
theorem x_Ya_carry_87 : DC b_Ya_carry 87 (.iload_n 3) 1 88 := ⟨by decide +kernel, rfl⟩
theorem x_Ya_carry_88 : DC b_Ya_carry 88 (.isub) 1 89 := ⟨by decide +kernel, rfl⟩
theorem x_Ya_carry_89 : DC b_Ya_carry 89 (.iastore) 1 90 := ⟨by decide +kernel, rfl⟩
theorem x_Ya_carry_90 : DC b_Ya_carry 90 (.goto 19) 3 93 := ⟨by decide +kernel, rfl⟩
theorem x_Ya_carry_93 : DC b_Ya_carry 93 (.aload_n 0) 1 94 := ⟨by decide +kernel, rfl⟩
theorem x_Ya_carry_94 : DC b_Ya_carry 94 (.getfield 33) 3 97 := ⟨by decide +kernel, rfl⟩
theorem x_Ya_carry_97 : DC b_Ya_carry 97 (.iload 6) 2 99 := ⟨by decide +kernel, rfl⟩
theorem x_Ya_carry_99 : DC b_Ya_carry 99 (.iload_n 2) 1 100 := ⟨by decide +kernel, rfl⟩
theorem x_Ya_carry_100 : DC b_Ya_carry 100 (.imul) 1 101 := ⟨by decide +kernel, rfl⟩
theorem x_Ya_carry_101 : DC b_Ya_carry 101 (.iload 4) 2 103 := ⟨by decide +kernel, rfl⟩
theorem x_Ya_carry_103 : DC b_Ya_carry 103 (.iadd) 1 104 := ⟨by decide +kernel, rfl⟩
theorem x_Ya_carry_104 : DC b_Ya_carry 104 (.dup2) 1 105 := ⟨by decide +kernel, rfl⟩
theorem x_Ya_carry_105 : DC b_Ya_carry 105 (.iaload) 1 106 := ⟨by decide +kernel, rfl⟩
theorem x_Ya_carry_106 : DC b_Ya_carry 106 (.iload_n 3) 1 107 := ⟨by decide +kernel, rfl⟩
theorem x_Ya_carry_107 : DC b_Ya_carry 107 (.isub) 1 108 := ⟨by decide +kernel, rfl⟩
theorem x_Ya_carry_108 : DC b_Ya_carry 108 (.iastore) 1 109 := ⟨by decide +kernel, rfl⟩
theorem x_Ya_carry_109 : DC b_Ya_carry 109 (.iinc 5 1) 3 112 := ⟨by decide +kernel, rfl⟩
theorem x_Ya_carry_112 : DC b_Ya_carry 112 (.goto (-96)) 3 115 := ⟨by decide +kernel, rfl⟩
theorem x_Ya_carry_115 : DC b_Ya_carry 115 (.return_) 1 116 := ⟨by decide +kernel, rfl⟩
def k_Ya_carry_109 (R16 : Int → Int → Int → Int → Mem → Res) (a2 a3 a4 a5 : Int) (M : Mem) : Res := blet (a5 + 1) fun v1 => R16 a2 a3 a4 v1 M
theorem z_Ya_carry_109 (C : Cx p s m args meth c G b_Ya_carry 7 "PrairiePool$Yard" none) (hlev : 0 ≤ lev) {r : Int × Mem} {R16 : Int → Int → Int → Int → Mem → Res} (hR16 : ∀ (a2 a3 a4 a5 : Int) (M : Mem), R16 a2 a3 a4 a5 M = some r → Z p l e lev s m args below meth c G 7 (MQ below (Qm G 0 r) args s 0 0 (Ab G)) M 16 [(0, .ref (G.1 + 62)), (2, vi a2), (3, vi a3), (4, vi a4), (5, vi a5)] []) {a2 a3 a4 a5 : Int} {M : Mem} (h : k_Ya_carry_109 R16 a2 a3 a4 a5 M = some r) : Z p l e lev s m args below meth c G 7 (MQ below (Qm G 0 r) args s 0 0 (Ab G)) M 109 [(0, .ref (G.1 + 62)), (2, vi a2), (3, vi a3), (4, vi a4), (5, vi a5)] [] := by
  unfold k_Ya_carry_109 at h
  obtain ⟨v1, ev1, h⟩ := blet_e h
  refine z_iinc (lv' := [(5, vi v1), (0, .ref (G.1 + 62)), (2, vi a2), (3, vi a3), (4, vi a4)]) C 4 ev1 x_Ya_carry_109 rfl (i_lt rfl) rfl ?_
  refine z_goto (tgt := 16) C x_Ya_carry_112 rfl ?_
  exact z_sub [1, 2, 3, 4, 0] rfl (hR16 a2 a3 a4 v1 M h)
def k_Ya_carry_16 (R16 : Int → Int → Int → Int → Mem → Res) (a2 a3 a4 a5 : Int) (M : Mem) : Res := if w32 a5 < 5 then (if w32 a4 = (-1) then (some (0, M)) else (chk (0 ≤ w32 a4 ∧ w32 a4 < 4) <| blet (M 74 (ix a4)) fun v4 => if w32 v4 = (-1) then (some (0, M)) else (chk (0 ≤ w32 a4 ∧ w32 a4 < 4) <| blet (M 74 (ix a4)) fun v7 => chk (0 ≤ w32 ((v7 * a2) + a4) ∧ w32 ((v7 * a2) + a4) < 20) <| blet (M 70 (ix ((v7 * a2) + a4))) fun v9 => chk (0 ≤ w32 ((v7 * a2) + a4) ∧ w32 ((v7 * a2) + a4) < 20) <| blet (sto M 70 (ix ((v7 * a2) + a4)) (v9 + a3)) fun M11 => chk (0 ≤ w32 v7 ∧ w32 v7 < 5) <| blet (M11 72 (ix v7)) fun v13 => if w32 v13 = (-1) then (chk (0 ≤ w32 v7 ∧ w32 v7 < 5) <| blet (M11 67 (ix v7)) fun v16 => chk (0 ≤ w32 v7 ∧ w32 v7 < 5) <| blet (sto M11 67 (ix v7) (v16 - a3)) fun M18 => k_Ya_carry_109 R16 a2 a3 v13 a5 M18) else (chk (0 ≤ w32 ((v7 * a2) + v13) ∧ w32 ((v7 * a2) + v13) < 20) <| blet (M11 70 (ix ((v7 * a2) + v13))) fun v20 => chk (0 ≤ w32 ((v7 * a2) + v13) ∧ w32 ((v7 * a2) + v13) < 20) <| blet (sto M11 70 (ix ((v7 * a2) + v13)) (v20 - a3)) fun M22 => k_Ya_carry_109 R16 a2 a3 v13 a5 M22)))) else (some (0, M))
theorem z_Ya_carry_16 (C : Cx p s m args meth c G b_Ya_carry 7 "PrairiePool$Yard" none) (hlev : 0 ≤ lev) {r : Int × Mem} {R16 : Int → Int → Int → Int → Mem → Res} (hR16 : ∀ (a2 a3 a4 a5 : Int) (M : Mem), R16 a2 a3 a4 a5 M = some r → Z p l e lev s m args below meth c G 7 (MQ below (Qm G 0 r) args s 0 0 (Ab G)) M 16 [(0, .ref (G.1 + 62)), (2, vi a2), (3, vi a3), (4, vi a4), (5, vi a5)] []) {a2 a3 a4 a5 : Int} {M : Mem} (h : k_Ya_carry_16 R16 a2 a3 a4 a5 M = some r) : Z p l e lev s m args below meth c G 7 (MQ below (Qm G 0 r) args s 0 0 (Ab G)) M 16 [(0, .ref (G.1 + 62)), (2, vi a2), (3, vi a3), (4, vi a4), (5, vi a5)] [] := by
  unfold k_Ya_carry_16 at h
  refine z_iload C 4 x_Ya_carry_16 rfl ?_
  refine z_iconst C x_Ya_carry_18 ?_
  rcases ite_e h with ⟨c1, h⟩ | ⟨c1, h⟩
  · refine z_icmp_ge_f (tgt := 115) C x_Ya_carry_19 rfl c1 ?_
    refine z_iload C 3 x_Ya_carry_22 rfl ?_
    refine z_iconst C x_Ya_carry_24 ?_
    rcases ite_e h with ⟨c2, h⟩ | ⟨c2, h⟩
    · refine z_icmp_eq_t (tgt := 115) C x_Ya_carry_25 rfl c2 ?_
      exact z_vret C x_Ya_carry_115 h
    · refine z_icmp_eq_f (tgt := 115) C x_Ya_carry_25 rfl c2 ?_
      refine z_aload_n C 0 x_Ya_carry_28 rfl ?_
      refine z_getR (j := 12) C x_Ya_carry_29 nk_62 ck_62 cw_10 (i_lt rfl) rfl rf_62_12 rfl fl_Ya_45 ?_
      refine z_iload C 3 x_Ya_carry_32 rfl ?_
      obtain ⟨c3, h⟩ := chk_e h
      obtain ⟨v4, ev4, h⟩ := blet_e h
      refine z_iald C x_Ya_carry_34 nk_74 ck_74 c3 ev4 ?_
      refine z_iconst C x_Ya_carry_35 ?_
      rcases ite_e h with ⟨c5, h⟩ | ⟨c5, h⟩
      · refine z_icmp_eq_t (tgt := 115) C x_Ya_carry_36 rfl c5 ?_
        exact z_vret C x_Ya_carry_115 h
      · refine z_icmp_eq_f (tgt := 115) C x_Ya_carry_36 rfl c5 ?_
        refine z_aload_n C 0 x_Ya_carry_39 rfl ?_
        refine z_getR (j := 12) C x_Ya_carry_40 nk_62 ck_62 cw_10 (i_lt rfl) rfl rf_62_12 rfl fl_Ya_45 ?_
        refine z_iload C 3 x_Ya_carry_43 rfl ?_
        obtain ⟨c6, h⟩ := chk_e h
        obtain ⟨v7, ev7, h⟩ := blet_e h
        refine z_iald C x_Ya_carry_45 nk_74 ck_74 c6 ev7 ?_
        refine z_istore (lv' := [(6, vi v7), (0, .ref (G.1 + 62)), (2, vi a2), (3, vi a3), (4, vi a4), (5, vi a5)]) C rfl x_Ya_carry_46 (i_lt rfl) rfl ?_
        refine z_aload_n C 1 x_Ya_carry_48 rfl ?_
        refine z_getR (j := 8) C x_Ya_carry_49 nk_62 ck_62 cw_10 (i_lt rfl) rfl rf_62_8 rfl fl_Ya_33 ?_
        refine z_iload C 0 x_Ya_carry_52 rfl ?_
        refine z_iload_n C 2 x_Ya_carry_54 rfl ?_
        refine z_imul C x_Ya_carry_55 ?_
        refine z_iload C 4 x_Ya_carry_56 rfl ?_
        refine z_iadd C x_Ya_carry_58 ?_
        refine z_dup2 C x_Ya_carry_59 rfl rfl ?_
        obtain ⟨c8, h⟩ := chk_e h
        obtain ⟨v9, ev9, h⟩ := blet_e h
        refine z_iald C x_Ya_carry_60 nk_70 ck_70 c8 ev9 ?_
        refine z_iload_n C 3 x_Ya_carry_61 rfl ?_
        refine z_iadd C x_Ya_carry_62 ?_
        obtain ⟨c10, h⟩ := chk_e h
        obtain ⟨M11, eM11, h⟩ := blet_e h
        refine z_iast C x_Ya_carry_63 nk_70 ck_70 c10 eM11 ?_
        refine z_aload_n C 1 x_Ya_carry_64 rfl ?_
        refine z_getR (j := 10) C x_Ya_carry_65 nk_62 ck_62 cw_10 (i_lt rfl) rfl rf_62_10 rfl fl_Ya_39 ?_
        refine z_iload C 0 x_Ya_carry_68 rfl ?_
        obtain ⟨c12, h⟩ := chk_e h
        obtain ⟨v13, ev13, h⟩ := blet_e h
        refine z_iald C x_Ya_carry_70 nk_72 ck_72 c12 ev13 ?_
        refine z_istore (lv' := [(4, vi v13), (6, vi v7), (0, .ref (G.1 + 62)), (2, vi a2), (3, vi a3), (5, vi a5)]) C rfl x_Ya_carry_71 (i_lt rfl) rfl ?_
        refine z_iload C 0 x_Ya_carry_73 rfl ?_
        refine z_iconst C x_Ya_carry_75 ?_
        rcases ite_e h with ⟨c14, h⟩ | ⟨c14, h⟩
        · refine z_icmp_ne_f (tgt := 93) C x_Ya_carry_76 rfl c14 ?_
          refine z_aload_n C 2 x_Ya_carry_79 rfl ?_
          refine z_getR (j := 5) C x_Ya_carry_80 nk_62 ck_62 cw_10 (i_lt rfl) rfl rf_62_5 rfl fl_Ya_24 ?_
          refine z_iload C 1 x_Ya_carry_83 rfl ?_
          refine z_dup2 C x_Ya_carry_85 rfl rfl ?_
          obtain ⟨c15, h⟩ := chk_e h
          obtain ⟨v16, ev16, h⟩ := blet_e h
          refine z_iald C x_Ya_carry_86 nk_67 ck_67 c15 ev16 ?_
          refine z_iload_n C 4 x_Ya_carry_87 rfl ?_
          refine z_isub C x_Ya_carry_88 ?_
          obtain ⟨c17, h⟩ := chk_e h
          obtain ⟨M18, eM18, h⟩ := blet_e h
          refine z_iast C x_Ya_carry_89 nk_67 ck_67 c17 eM18 ?_
          refine z_goto (tgt := 109) C x_Ya_carry_90 rfl ?_
          exact z_sub [2, 3, 4, 0, 5] rfl (z_Ya_carry_109 C hlev hR16 h)
        · refine z_icmp_ne_t (tgt := 93) C x_Ya_carry_76 rfl c14 ?_
          refine z_aload_n C 2 x_Ya_carry_93 rfl ?_
          refine z_getR (j := 8) C x_Ya_carry_94 nk_62 ck_62 cw_10 (i_lt rfl) rfl rf_62_8 rfl fl_Ya_33 ?_
          refine z_iload C 1 x_Ya_carry_97 rfl ?_
          refine z_iload_n C 3 x_Ya_carry_99 rfl ?_
          refine z_imul C x_Ya_carry_100 ?_
          refine z_iload C 0 x_Ya_carry_101 rfl ?_
          refine z_iadd C x_Ya_carry_103 ?_
          refine z_dup2 C x_Ya_carry_104 rfl rfl ?_
          obtain ⟨c19, h⟩ := chk_e h
          obtain ⟨v20, ev20, h⟩ := blet_e h
          refine z_iald C x_Ya_carry_105 nk_70 ck_70 c19 ev20 ?_
          refine z_iload_n C 4 x_Ya_carry_106 rfl ?_
          refine z_isub C x_Ya_carry_107 ?_
          obtain ⟨c21, h⟩ := chk_e h
          obtain ⟨M22, eM22, h⟩ := blet_e h
          refine z_iast C x_Ya_carry_108 nk_70 ck_70 c21 eM22 ?_
          exact z_sub [2, 3, 4, 0, 5] rfl (z_Ya_carry_109 C hlev hR16 h)
  · refine z_icmp_ge_t (tgt := 115) C x_Ya_carry_19 rfl c1 ?_
    exact z_vret C x_Ya_carry_115 h
theorem zl_Ya_carry_16 (C : Cx p s m args meth c G b_Ya_carry 7 "PrairiePool$Yard" none) (hlev : 0 ≤ lev) {r : Int × Mem}  : ∀ (n : Nat) (a2 a3 a4 a5 : Int) (M : Mem), fix (fun _ _ _ _ _ => none) (k_Ya_carry_16) n a2 a3 a4 a5 M = some r → Z p l e lev s m args below meth c G 7 (MQ below (Qm G 0 r) args s 0 0 (Ab G)) M 16 [(0, .ref (G.1 + 62)), (2, vi a2), (3, vi a3), (4, vi a4), (5, vi a5)] [] := by
  intro n
  induction n with
  | zero => intro a2 a3 a4 a5 M h; exact nomatch (show (none : Res) = some r from h)
  | succ n ih => intro a2 a3 a4 a5 M h; exact z_Ya_carry_16 C hlev ih h
def d_Ya_carry (a1 a2 a3 : Int) (M : Mem) : Res := chk (0 ≤ w32 a1 ∧ w32 a1 < 4) <| blet (M 68 (ix a1)) fun v2 => chk (0 ≤ w32 a1 ∧ w32 a1 < 4) <| blet (sto M 68 (ix a1) (v2 - a3)) fun M4 => fix (fun _ _ _ _ _ => none) (k_Ya_carry_16) FU a2 a3 a1 0 M4
theorem t_Ya_carry (l : Launch) (G : GX) {lev : Nat} (hlev : 0 ≤ lev) {a1 a2 a3 : Int} {M : Mem} {r : Int × Mem} (h : d_Ya_carry a1 a2 a3 M = some r) : Mt l G y_Ya_carry b_Ya_carry 7 none lev 0 [.ref (G.1 + 62), vi a1, vi a2, vi a3] M r := by
  refine Mt.of (by decide) (i_le rfl) ?_
  intro p e s m args below meth c C
  have C : Cx p s m args meth c G b_Ya_carry 7 "PrairiePool$Yard" none := C
  unfold d_Ya_carry at h
  refine z_sub (lv' := [(0, .ref (G.1 + 62)), (1, vi a1), (2, vi a2), (3, vi a3)]) [0, 1, 2, 3] rfl ?_
  refine z_aload_n C 0 x_Ya_carry_0 rfl ?_
  refine z_getR (j := 6) C x_Ya_carry_1 nk_62 ck_62 cw_10 (i_lt rfl) rfl rf_62_6 rfl fl_Ya_27 ?_
  refine z_iload_n C 1 x_Ya_carry_4 rfl ?_
  refine z_dup2 C x_Ya_carry_5 rfl rfl ?_
  obtain ⟨c1, h⟩ := chk_e h
  obtain ⟨v2, ev2, h⟩ := blet_e h
  refine z_iald C x_Ya_carry_6 nk_68 ck_68 c1 ev2 ?_
  refine z_iload_n C 3 x_Ya_carry_7 rfl ?_
  refine z_isub C x_Ya_carry_8 ?_
  obtain ⟨c3, h⟩ := chk_e h
  obtain ⟨M4, eM4, h⟩ := blet_e h
  refine z_iast C x_Ya_carry_9 nk_68 ck_68 c3 eM4 ?_
  refine z_iload_n C 1 x_Ya_carry_10 rfl ?_
  refine z_istore (lv' := [(4, vi a1), (0, .ref (G.1 + 62)), (1, vi a1), (2, vi a2), (3, vi a3)]) C rfl x_Ya_carry_11 (i_lt rfl) rfl ?_
  refine z_iconst C x_Ya_carry_13 ?_
  refine z_istore (lv' := [(5, vi 0), (4, vi a1), (0, .ref (G.1 + 62)), (1, vi a1), (2, vi a2), (3, vi a3)]) C rfl x_Ya_carry_14 (i_lt rfl) rfl ?_
  exact z_sub [2, 4, 5, 1, 0] rfl (zl_Ya_carry_16 C hlev FU a2 a3 a1 0 M4 h)
theorem x_Ya_leastCost_0 : DC b_Ya_leastCost 0 (.aload_n 0) 1 1 := ⟨by decide +kernel, rfl⟩
theorem x_Ya_leastCost_1 : DC b_Ya_leastCost 1 (.getfield 33) 3 4 := ⟨by decide +kernel, rfl⟩
theorem x_Ya_leastCost_4 : DC b_Ya_leastCost 4 (.iconst 0) 1 5 := ⟨by decide +kernel, rfl⟩
theorem x_Ya_leastCost_5 : DC b_Ya_leastCost 5 (.invokestatic 71) 3 8 := ⟨by decide +kernel, rfl⟩
theorem x_Ya_leastCost_8 : DC b_Ya_leastCost 8 (.iconst 0) 1 9 := ⟨by decide +kernel, rfl⟩
theorem x_Ya_leastCost_9 : DC b_Ya_leastCost 9 (.istore_n 3) 1 10 := ⟨by decide +kernel, rfl⟩
theorem x_Ya_leastCost_10 : DC b_Ya_leastCost 10 (.iload_n 3) 1 11 := ⟨by decide +kernel, rfl⟩
theorem x_Ya_leastCost_11 : DC b_Ya_leastCost 11 (.bipush 120) 2 13 := ⟨by decide +kernel, rfl⟩
theorem x_Ya_leastCost_13 : DC b_Ya_leastCost 13 (.if_icmp .ge 45) 3 16 := ⟨by decide +kernel, rfl⟩
theorem x_Ya_leastCost_16 : DC b_Ya_leastCost 16 (.aload_n 0) 1 17 := ⟨by decide +kernel, rfl⟩
theorem x_Ya_leastCost_17 : DC b_Ya_leastCost 17 (.iload_n 1) 1 18 := ⟨by decide +kernel, rfl⟩
theorem x_Ya_leastCost_18 : DC b_Ya_leastCost 18 (.iload_n 2) 1 19 := ⟨by decide +kernel, rfl⟩
theorem x_Ya_leastCost_19 : DC b_Ya_leastCost 19 (.invokevirtual 77) 3 22 := ⟨by decide +kernel, rfl⟩
theorem x_Ya_leastCost_22 : DC b_Ya_leastCost 22 (.aload_n 0) 1 23 := ⟨by decide +kernel, rfl⟩
theorem x_Ya_leastCost_23 : DC b_Ya_leastCost 23 (.iload_n 2) 1 24 := ⟨by decide +kernel, rfl⟩
theorem x_Ya_leastCost_24 : DC b_Ya_leastCost 24 (.invokevirtual 81) 3 27 := ⟨by decide +kernel, rfl⟩
theorem x_Ya_leastCost_27 : DC b_Ya_leastCost 27 (.istore 4) 2 29 := ⟨by decide +kernel, rfl⟩
theorem x_Ya_leastCost_29 : DC b_Ya_leastCost 29 (.iload 4) 2 31 := ⟨by decide +kernel, rfl⟩
theorem x_Ya_leastCost_31 : DC b_Ya_leastCost 31 (.iconst (-1)) 1 32 := ⟨by decide +kernel, rfl⟩
theorem x_Ya_leastCost_32 : DC b_Ya_leastCost 32 (.if_icmp .ne 6) 3 35 := ⟨by decide +kernel, rfl⟩
theorem x_Ya_leastCost_35 : DC b_Ya_leastCost 35 (.goto 23) 3 38 := ⟨by decide +kernel, rfl⟩
theorem x_Ya_leastCost_38 : DC b_Ya_leastCost 38 (.aload_n 0) 1 39 := ⟨by decide +kernel, rfl⟩
theorem x_Ya_leastCost_39 : DC b_Ya_leastCost 39 (.iload 4) 2 41 := ⟨by decide +kernel, rfl⟩
theorem x_Ya_leastCost_41 : DC b_Ya_leastCost 41 (.iload_n 2) 1 42 := ⟨by decide +kernel, rfl⟩
theorem x_Ya_leastCost_42 : DC b_Ya_leastCost 42 (.aload_n 0) 1 43 := ⟨by decide +kernel, rfl⟩
theorem x_Ya_leastCost_43 : DC b_Ya_leastCost 43 (.iload 4) 2 45 := ⟨by decide +kernel, rfl⟩
theorem x_Ya_leastCost_45 : DC b_Ya_leastCost 45 (.iload_n 2) 1 46 := ⟨by decide +kernel, rfl⟩
theorem x_Ya_leastCost_46 : DC b_Ya_leastCost 46 (.invokevirtual 84) 3 49 := ⟨by decide +kernel, rfl⟩
theorem x_Ya_leastCost_49 : DC b_Ya_leastCost 49 (.invokevirtual 87) 3 52 := ⟨by decide +kernel, rfl⟩
theorem x_Ya_leastCost_52 : DC b_Ya_leastCost 52 (.iinc 3 1) 3 55 := ⟨by decide +kernel, rfl⟩
theorem x_Ya_leastCost_55 : DC b_Ya_leastCost 55 (.goto (-45)) 3 58 := ⟨by decide +kernel, rfl⟩
theorem x_Ya_leastCost_58 : DC b_Ya_leastCost 58 (.iconst 0) 1 59 := ⟨by decide +kernel, rfl⟩
theorem x_Ya_leastCost_59 : DC b_Ya_leastCost 59 (.istore_n 3) 1 60 := ⟨by decide +kernel, rfl⟩
theorem x_Ya_leastCost_60 : DC b_Ya_leastCost 60 (.iconst 0) 1 61 := ⟨by decide +kernel, rfl⟩
theorem x_Ya_leastCost_61 : DC b_Ya_leastCost 61 (.istore 4) 2 63 := ⟨by decide +kernel, rfl⟩
theorem x_Ya_leastCost_63 : DC b_Ya_leastCost 63 (.iload 4) 2 65 := ⟨by decide +kernel, rfl⟩
theorem x_Ya_leastCost_65 : DC b_Ya_leastCost 65 (.iload_n 1) 1 66 := ⟨by decide +kernel, rfl⟩
theorem x_Ya_leastCost_66 : DC b_Ya_leastCost 66 (.iload_n 2) 1 67 := ⟨by decide +kernel, rfl⟩
theorem x_Ya_leastCost_67 : DC b_Ya_leastCost 67 (.imul) 1 68 := ⟨by decide +kernel, rfl⟩
theorem x_Ya_leastCost_68 : DC b_Ya_leastCost 68 (.if_icmp .ge 27) 3 71 := ⟨by decide +kernel, rfl⟩
theorem x_Ya_leastCost_71 : DC b_Ya_leastCost 71 (.iload_n 3) 1 72 := ⟨by decide +kernel, rfl⟩
theorem x_Ya_leastCost_72 : DC b_Ya_leastCost 72 (.aload_n 0) 1 73 := ⟨by decide +kernel, rfl⟩
theorem x_Ya_leastCost_73 : DC b_Ya_leastCost 73 (.getfield 33) 3 76 := ⟨by decide +kernel, rfl⟩
theorem x_Ya_leastCost_76 : DC b_Ya_leastCost 76 (.iload 4) 2 78 := ⟨by decide +kernel, rfl⟩
theorem x_Ya_leastCost_78 : DC b_Ya_leastCost 78 (.iaload) 1 79 := ⟨by decide +kernel, rfl⟩
theorem x_Ya_leastCost_79 : DC b_Ya_leastCost 79 (.aload_n 0) 1 80 := ⟨by decide +kernel, rfl⟩
theorem x_Ya_leastCost_80 : DC b_Ya_leastCost 80 (.getfield 30) 3 83 := ⟨by decide +kernel, rfl⟩
theorem x_Ya_leastCost_83 : DC b_Ya_leastCost 83 (.iload 4) 2 85 := ⟨by decide +kernel, rfl⟩
theorem x_Ya_leastCost_85 : DC b_Ya_leastCost 85 (.iaload) 1 86 := ⟨by decide +kernel, rfl⟩
theorem x_Ya_leastCost_86 : DC b_Ya_leastCost 86 (.imul) 1 87 := ⟨by decide +kernel, rfl⟩
theorem x_Ya_leastCost_87 : DC b_Ya_leastCost 87 (.iadd) 1 88 := ⟨by decide +kernel, rfl⟩
theorem x_Ya_leastCost_88 : DC b_Ya_leastCost 88 (.istore_n 3) 1 89 := ⟨by decide +kernel, rfl⟩
theorem x_Ya_leastCost_89 : DC b_Ya_leastCost 89 (.iinc 4 1) 3 92 := ⟨by decide +kernel, rfl⟩
theorem x_Ya_leastCost_92 : DC b_Ya_leastCost 92 (.goto (-29)) 3 95 := ⟨by decide +kernel, rfl⟩
theorem x_Ya_leastCost_95 : DC b_Ya_leastCost 95 (.iload_n 3) 1 96 := ⟨by decide +kernel, rfl⟩
theorem x_Ya_leastCost_96 : DC b_Ya_leastCost 96 (.ireturn) 1 97 := ⟨by decide +kernel, rfl⟩
def k_Ya_leastCost_63 (R63 : Int → Int → Int → Int → Mem → Res) (a1 a2 a3 a4 : Int) (M : Mem) : Res := if w32 a4 < w32 (a1 * a2) then (chk (0 ≤ w32 a4 ∧ w32 a4 < 20) <| blet (M 70 (ix a4)) fun v3 => chk (0 ≤ w32 a4 ∧ w32 a4 < 20) <| blet (M 69 (ix a4)) fun v5 => blet (a3 + (v3 * v5)) fun v6 => blet (a4 + 1) fun v7 => R63 a1 a2 v6 v7 M) else (some (a3, M))
theorem z_Ya_leastCost_63 (C : Cx p s m args meth c G b_Ya_leastCost 5 "PrairiePool$Yard" (some .int)) (hlev : 2 ≤ lev) {r : Int × Mem} {R63 : Int → Int → Int → Int → Mem → Res} (hR63 : ∀ (a1 a2 a3 a4 : Int) (M : Mem), R63 a1 a2 a3 a4 M = some r → Z p l e lev s m args below meth c G 5 (MQ below (Qm G 1 r) args s 0 0 (Ab G)) M 63 [(0, .ref (G.1 + 62)), (1, vi a1), (2, vi a2), (3, vi a3), (4, vi a4)] []) {a1 a2 a3 a4 : Int} {M : Mem} (h : k_Ya_leastCost_63 R63 a1 a2 a3 a4 M = some r) : Z p l e lev s m args below meth c G 5 (MQ below (Qm G 1 r) args s 0 0 (Ab G)) M 63 [(0, .ref (G.1 + 62)), (1, vi a1), (2, vi a2), (3, vi a3), (4, vi a4)] [] := by
  unfold k_Ya_leastCost_63 at h
  refine z_iload C 4 x_Ya_leastCost_63 rfl ?_
  refine z_iload_n C 1 x_Ya_leastCost_65 rfl ?_
  refine z_iload_n C 2 x_Ya_leastCost_66 rfl ?_
  refine z_imul C x_Ya_leastCost_67 ?_
  rcases ite_e h with ⟨c1, h⟩ | ⟨c1, h⟩
  · refine z_icmp_ge_f (tgt := 95) C x_Ya_leastCost_68 rfl c1 ?_
    refine z_iload_n C 3 x_Ya_leastCost_71 rfl ?_
    refine z_aload_n C 0 x_Ya_leastCost_72 rfl ?_
    refine z_getR (j := 8) C x_Ya_leastCost_73 nk_62 ck_62 cw_10 (i_lt rfl) rfl rf_62_8 rfl fl_Ya_33 ?_
    refine z_iload C 4 x_Ya_leastCost_76 rfl ?_
    obtain ⟨c2, h⟩ := chk_e h
    obtain ⟨v3, ev3, h⟩ := blet_e h
    refine z_iald C x_Ya_leastCost_78 nk_70 ck_70 c2 ev3 ?_
    refine z_aload_n C 0 x_Ya_leastCost_79 rfl ?_
    refine z_getR (j := 7) C x_Ya_leastCost_80 nk_62 ck_62 cw_10 (i_lt rfl) rfl rf_62_7 rfl fl_Ya_30 ?_
    refine z_iload C 4 x_Ya_leastCost_83 rfl ?_
    obtain ⟨c4, h⟩ := chk_e h
    obtain ⟨v5, ev5, h⟩ := blet_e h
    refine z_iald C x_Ya_leastCost_85 nk_69 ck_69 c4 ev5 ?_
    refine z_imul C x_Ya_leastCost_86 ?_
    refine z_iadd C x_Ya_leastCost_87 ?_
    obtain ⟨v6, ev6, h⟩ := blet_e h
    refine z_istore_n (lv' := [(3, vi v6), (0, .ref (G.1 + 62)), (1, vi a1), (2, vi a2), (4, vi a4)]) C ev6 x_Ya_leastCost_88 (i_lt rfl) rfl ?_
    obtain ⟨v7, ev7, h⟩ := blet_e h
    refine z_iinc (lv' := [(4, vi v7), (3, vi v6), (0, .ref (G.1 + 62)), (1, vi a1), (2, vi a2)]) C 4 ev7 x_Ya_leastCost_89 rfl (i_lt rfl) rfl ?_
    refine z_goto (tgt := 63) C x_Ya_leastCost_92 rfl ?_
    exact z_sub [2, 3, 4, 1, 0] rfl (hR63 a1 a2 v6 v7 M h)
  · refine z_icmp_ge_t (tgt := 95) C x_Ya_leastCost_68 rfl c1 ?_
    refine z_iload_n C 3 x_Ya_leastCost_95 rfl ?_
    exact z_iret C x_Ya_leastCost_96 h
theorem zl_Ya_leastCost_63 (C : Cx p s m args meth c G b_Ya_leastCost 5 "PrairiePool$Yard" (some .int)) (hlev : 2 ≤ lev) {r : Int × Mem}  : ∀ (n : Nat) (a1 a2 a3 a4 : Int) (M : Mem), fix (fun _ _ _ _ _ => none) (k_Ya_leastCost_63) n a1 a2 a3 a4 M = some r → Z p l e lev s m args below meth c G 5 (MQ below (Qm G 1 r) args s 0 0 (Ab G)) M 63 [(0, .ref (G.1 + 62)), (1, vi a1), (2, vi a2), (3, vi a3), (4, vi a4)] [] := by
  intro n
  induction n with
  | zero => intro a1 a2 a3 a4 M h; exact nomatch (show (none : Res) = some r from h)
  | succ n ih => intro a1 a2 a3 a4 M h; exact z_Ya_leastCost_63 C hlev ih h
def k_Ya_leastCost_58 (a1 a2 : Int) (M : Mem) : Res := fix (fun _ _ _ _ _ => none) (k_Ya_leastCost_63) FU a1 a2 0 0 M
theorem z_Ya_leastCost_58 (C : Cx p s m args meth c G b_Ya_leastCost 5 "PrairiePool$Yard" (some .int)) (hlev : 2 ≤ lev) {r : Int × Mem}  {a1 a2 : Int} {M : Mem} (h : k_Ya_leastCost_58 a1 a2 M = some r) : Z p l e lev s m args below meth c G 5 (MQ below (Qm G 1 r) args s 0 0 (Ab G)) M 58 [(0, .ref (G.1 + 62)), (1, vi a1), (2, vi a2)] [] := by
  unfold k_Ya_leastCost_58 at h
  refine z_iconst C x_Ya_leastCost_58 ?_
  refine z_istore_n (lv' := [(3, vi 0), (0, .ref (G.1 + 62)), (1, vi a1), (2, vi a2)]) C rfl x_Ya_leastCost_59 (i_lt rfl) rfl ?_
  refine z_iconst C x_Ya_leastCost_60 ?_
  refine z_istore (lv' := [(4, vi 0), (3, vi 0), (0, .ref (G.1 + 62)), (1, vi a1), (2, vi a2)]) C rfl x_Ya_leastCost_61 (i_lt rfl) rfl ?_
  exact z_sub [2, 3, 4, 1, 0] rfl (zl_Ya_leastCost_63 C hlev FU a1 a2 0 0 M h)
def k_Ya_leastCost_10 (R10 : Int → Int → Int → Mem → Res) (a1 a2 a3 : Int) (M : Mem) : Res := if w32 a3 < 120 then (bcall (d_Ya_findWays a1 a2 M) fun v2 M3 => bcall (d_Ya_cheapestOrder a2 M3) fun v4 M5 => if w32 v4 = (-1) then (k_Ya_leastCost_58 a1 a2 M5) else (bcall (d_Ya_greatestLoad v4 a2 M5) fun v7 M8 => bcall (d_Ya_carry v4 a2 v7 M8) fun v9 M10 => blet (a3 + 1) fun v11 => R10 a1 a2 v11 M10)) else (k_Ya_leastCost_58 a1 a2 M)
theorem z_Ya_leastCost_10 (C : Cx p s m args meth c G b_Ya_leastCost 5 "PrairiePool$Yard" (some .int)) (hlev : 2 ≤ lev) {r : Int × Mem} {R10 : Int → Int → Int → Mem → Res} (hR10 : ∀ (a1 a2 a3 : Int) (M : Mem), R10 a1 a2 a3 M = some r → Z p l e lev s m args below meth c G 5 (MQ below (Qm G 1 r) args s 0 0 (Ab G)) M 10 [(0, .ref (G.1 + 62)), (1, vi a1), (2, vi a2), (3, vi a3)] []) {a1 a2 a3 : Int} {M : Mem} (h : k_Ya_leastCost_10 R10 a1 a2 a3 M = some r) : Z p l e lev s m args below meth c G 5 (MQ below (Qm G 1 r) args s 0 0 (Ab G)) M 10 [(0, .ref (G.1 + 62)), (1, vi a1), (2, vi a2), (3, vi a3)] [] := by
  unfold k_Ya_leastCost_10 at h
  refine z_iload_n C 3 x_Ya_leastCost_10 rfl ?_
  refine z_bipush C rfl x_Ya_leastCost_11 ?_
  rcases ite_e h with ⟨c1, h⟩ | ⟨c1, h⟩
  · refine z_icmp_ge_f (tgt := 58) C x_Ya_leastCost_13 rfl c1 ?_
    refine z_aload_n C 0 x_Ya_leastCost_16 rfl ?_
    refine z_iload_n C 1 x_Ya_leastCost_17 rfl ?_
    refine z_iload_n C 2 x_Ya_leastCost_18 rfl ?_
    obtain ⟨v2, M3, fv2, h⟩ := bcall_e h
    refine z_callVv (k := 62) C x_Ya_leastCost_19 cv_Ya_77 (t_Ya_findWays (lev := lev - 1) l G (by omega) fv2) nk_62 ck_62 rfl (by omega) rfl (i_le rfl) rfl ?_
    refine z_aload_n C 0 x_Ya_leastCost_22 rfl ?_
    refine z_iload_n C 2 x_Ya_leastCost_23 rfl ?_
    obtain ⟨v4, M5, fv4, h⟩ := bcall_e h
    refine z_callVi (k := 62) C x_Ya_leastCost_24 cv_Ya_81 (t_Ya_cheapestOrder (lev := lev - 1) l G (by omega) fv4) nk_62 ck_62 rfl (by omega) rfl (i_le rfl) rfl ?_
    refine z_istore (lv' := [(4, vi v4), (0, .ref (G.1 + 62)), (1, vi a1), (2, vi a2), (3, vi a3)]) C rfl x_Ya_leastCost_27 (i_lt rfl) rfl ?_
    refine z_iload C 0 x_Ya_leastCost_29 rfl ?_
    refine z_iconst C x_Ya_leastCost_31 ?_
    rcases ite_e h with ⟨c6, h⟩ | ⟨c6, h⟩
    · refine z_icmp_ne_f (tgt := 38) C x_Ya_leastCost_32 rfl c6 ?_
      refine z_goto (tgt := 58) C x_Ya_leastCost_35 rfl ?_
      exact z_sub [1, 2, 3] rfl (z_Ya_leastCost_58 C hlev h)
    · refine z_icmp_ne_t (tgt := 38) C x_Ya_leastCost_32 rfl c6 ?_
      refine z_aload_n C 1 x_Ya_leastCost_38 rfl ?_
      refine z_iload C 0 x_Ya_leastCost_39 rfl ?_
      refine z_iload_n C 3 x_Ya_leastCost_41 rfl ?_
      refine z_aload_n C 1 x_Ya_leastCost_42 rfl ?_
      refine z_iload C 0 x_Ya_leastCost_43 rfl ?_
      refine z_iload_n C 3 x_Ya_leastCost_45 rfl ?_
      obtain ⟨v7, M8, fv7, h⟩ := bcall_e h
      refine z_callVi (k := 62) C x_Ya_leastCost_46 cv_Ya_84 (t_Ya_greatestLoad (lev := lev - 1) l G (by omega) fv7) nk_62 ck_62 rfl (by omega) rfl (i_le rfl) rfl ?_
      obtain ⟨v9, M10, fv9, h⟩ := bcall_e h
      refine z_callVv (k := 62) C x_Ya_leastCost_49 cv_Ya_87 (t_Ya_carry (lev := lev - 1) l G (by omega) fv9) nk_62 ck_62 rfl (by omega) rfl (i_le rfl) rfl ?_
      obtain ⟨v11, ev11, h⟩ := blet_e h
      refine z_iinc (lv' := [(3, vi v11), (4, vi v4), (0, .ref (G.1 + 62)), (1, vi a1), (2, vi a2)]) C 4 ev11 x_Ya_leastCost_52 rfl (i_lt rfl) rfl ?_
      refine z_goto (tgt := 10) C x_Ya_leastCost_55 rfl ?_
      exact z_sub [2, 3, 4, 0] rfl (hR10 a1 a2 v11 M10 h)
  · refine z_icmp_ge_t (tgt := 58) C x_Ya_leastCost_13 rfl c1 ?_
    exact z_sub [0, 1, 2] rfl (z_Ya_leastCost_58 C hlev h)
theorem zl_Ya_leastCost_10 (C : Cx p s m args meth c G b_Ya_leastCost 5 "PrairiePool$Yard" (some .int)) (hlev : 2 ≤ lev) {r : Int × Mem}  : ∀ (n : Nat) (a1 a2 a3 : Int) (M : Mem), fix (fun _ _ _ _ => none) (k_Ya_leastCost_10) n a1 a2 a3 M = some r → Z p l e lev s m args below meth c G 5 (MQ below (Qm G 1 r) args s 0 0 (Ab G)) M 10 [(0, .ref (G.1 + 62)), (1, vi a1), (2, vi a2), (3, vi a3)] [] := by
  intro n
  induction n with
  | zero => intro a1 a2 a3 M h; exact nomatch (show (none : Res) = some r from h)
  | succ n ih => intro a1 a2 a3 M h; exact z_Ya_leastCost_10 C hlev ih h
def d_Ya_leastCost (a1 a2 : Int) (M : Mem) : Res := bcall (d_Ar_fill1 70 20 0 M) fun v1 M2 => fix (fun _ _ _ _ => none) (k_Ya_leastCost_10) FU a1 a2 0 M2
theorem t_Ya_leastCost (l : Launch) (G : GX) {lev : Nat} (hlev : 2 ≤ lev) {a1 a2 : Int} {M : Mem} {r : Int × Mem} (h : d_Ya_leastCost a1 a2 M = some r) : Mt l G y_Ya_leastCost b_Ya_leastCost 5 (some .int) lev 1 [.ref (G.1 + 62), vi a1, vi a2] M r := by
  refine Mt.of (by decide) (i_le rfl) ?_
  intro p e s m args below meth c C
  have C : Cx p s m args meth c G b_Ya_leastCost 5 "PrairiePool$Yard" (some .int) := C
  unfold d_Ya_leastCost at h
  refine z_sub (lv' := [(0, .ref (G.1 + 62)), (1, vi a1), (2, vi a2)]) [0, 1, 2] rfl ?_
  refine z_aload_n C 0 x_Ya_leastCost_0 rfl ?_
  refine z_getR (j := 8) C x_Ya_leastCost_1 nk_62 ck_62 cw_10 (i_lt rfl) rfl rf_62_8 rfl fl_Ya_33 ?_
  refine z_iconst C x_Ya_leastCost_4 ?_
  obtain ⟨v1, M2, fv1, h⟩ := bcall_e h
  refine z_callSv C x_Ya_leastCost_5 cs_Ya_71 (t_Ar_fill1 (lev := lev - 1) l G (by omega) nk_70 ck_70 fv1) (by omega) rfl (i_le rfl) rfl ?_
  refine z_iconst C x_Ya_leastCost_8 ?_
  refine z_istore_n (lv' := [(3, vi 0), (0, .ref (G.1 + 62)), (1, vi a1), (2, vi a2)]) C rfl x_Ya_leastCost_9 (i_lt rfl) rfl ?_
  exact z_sub [1, 2, 3, 0] rfl (zl_Ya_leastCost_10 C hlev FU a1 a2 0 M2 h)
end
