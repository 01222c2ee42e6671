section
variable {p : Program} {l : Launch} {e : Env} {lev : Nat} {s : State} {m : MethodId} {args : Array Value} {below : List Frame} {meth : Method} {c : Code} {G : GX}
theorem x_As_begin_0 : DC b_As_begin 0 (.aload_n 0) 1 1 := ⟨by decide +kernel, rfl⟩
theorem x_As_begin_1 : DC b_As_begin 1 (.getfield 21) 3 4 := ⟨by decide +kernel, rfl⟩
theorem x_As_begin_4 : DC b_As_begin 4 (.lconst 0) 1 5 := ⟨by decide +kernel, rfl⟩
theorem x_As_begin_5 : DC b_As_begin 5 (.invokestatic 49) 3 8 := ⟨by decide +kernel, rfl⟩
theorem x_As_begin_8 : DC b_As_begin 8 (.aload_n 0) 1 9 := ⟨by decide +kernel, rfl⟩
theorem x_As_begin_9 : DC b_As_begin 9 (.iconst (-1)) 1 10 := ⟨by decide +kernel, rfl⟩
theorem x_As_begin_10 : DC b_As_begin 10 (.putfield 17) 3 13 := ⟨by decide +kernel, rfl⟩
theorem x_As_begin_13 : DC b_As_begin 13 (.iconst 0) 1 14 := ⟨by decide +kernel, rfl⟩
theorem x_As_begin_14 : DC b_As_begin 14 (.istore_n 2) 1 15 := ⟨by decide +kernel, rfl⟩
theorem x_As_begin_15 : DC b_As_begin 15 (.iload_n 2) 1 16 := ⟨by decide +kernel, rfl⟩
theorem x_As_begin_16 : DC b_As_begin 16 (.aload_n 0) 1 17 := ⟨by decide +kernel, rfl⟩
theorem x_As_begin_17 : DC b_As_begin 17 (.getfield 39) 3 20 := ⟨by decide +kernel, rfl⟩
theorem x_As_begin_20 : DC b_As_begin 20 (.if_icmp .ge 69) 3 23 := ⟨by decide +kernel, rfl⟩
theorem x_As_begin_23 : DC b_As_begin 23 (.aload_n 0) 1 24 := ⟨by decide +kernel, rfl⟩
theorem x_As_begin_24 : DC b_As_begin 24 (.getfield 13) 3 27 := ⟨by decide +kernel, rfl⟩
theorem x_As_begin_27 : DC b_As_begin 27 (.iload_n 2) 1 28 := ⟨by decide +kernel, rfl⟩
theorem x_As_begin_28 : DC b_As_begin 28 (.aaload) 1 29 := ⟨by decide +kernel, rfl⟩
theorem x_As_begin_29 : DC b_As_begin 29 (.getfield 46) 3 32 := ⟨by decide +kernel, rfl⟩
theorem x_As_begin_32 : DC b_As_begin 32 (.iload_n 1) 1 33 := ⟨by decide +kernel, rfl⟩
theorem x_As_begin_33 : DC b_As_begin 33 (.if_icmp .gt 7) 3 36 := ⟨by decide +kernel, rfl⟩
theorem x_As_begin_36 : DC b_As_begin 36 (.iconst 1) 1 37 := ⟨by decide +kernel, rfl⟩
theorem x_As_begin_37 : DC b_As_begin 37 (.goto 4) 3 40 := ⟨by decide +kernel, rfl⟩
theorem x_As_begin_40 : DC b_As_begin 40 (.iconst 0) 1 41 := ⟨by decide +kernel, rfl⟩
theorem x_As_begin_41 : DC b_As_begin 41 (.istore_n 3) 1 42 := ⟨by decide +kernel, rfl⟩
theorem x_As_begin_42 : DC b_As_begin 42 (.iload_n 3) 1 43 := ⟨by decide +kernel, rfl⟩
theorem x_As_begin_43 : DC b_As_begin 43 (.ifCond .eq 40) 3 46 := ⟨by decide +kernel, rfl⟩
theorem x_As_begin_46 : DC b_As_begin 46 (.aload_n 0) 1 47 := ⟨by decide +kernel, rfl⟩
theorem x_As_begin_47 : DC b_As_begin 47 (.getfield 17) 3 50 := ⟨by decide +kernel, rfl⟩
theorem x_As_begin_50 : DC b_As_begin 50 (.iconst (-1)) 1 51 := ⟨by decide +kernel, rfl⟩
theorem x_As_begin_51 : DC b_As_begin 51 (.if_icmp .eq 27) 3 54 := ⟨by decide +kernel, rfl⟩
theorem x_As_begin_54 : DC b_As_begin 54 (.aload_n 0) 1 55 := ⟨by decide +kernel, rfl⟩
theorem x_As_begin_55 : DC b_As_begin 55 (.getfield 13) 3 58 := ⟨by decide +kernel, rfl⟩
theorem x_As_begin_58 : DC b_As_begin 58 (.iload_n 2) 1 59 := ⟨by decide +kernel, rfl⟩
theorem x_As_begin_59 : DC b_As_begin 59 (.aaload) 1 60 := ⟨by decide +kernel, rfl⟩
theorem x_As_begin_60 : DC b_As_begin 60 (.getfield 46) 3 63 := ⟨by decide +kernel, rfl⟩
theorem x_As_begin_63 : DC b_As_begin 63 (.aload_n 0) 1 64 := ⟨by decide +kernel, rfl⟩
theorem x_As_begin_64 : DC b_As_begin 64 (.getfield 13) 3 67 := ⟨by decide +kernel, rfl⟩
theorem x_As_begin_67 : DC b_As_begin 67 (.aload_n 0) 1 68 := ⟨by decide +kernel, rfl⟩
theorem x_As_begin_68 : DC b_As_begin 68 (.getfield 17) 3 71 := ⟨by decide +kernel, rfl⟩
theorem x_As_begin_71 : DC b_As_begin 71 (.aaload) 1 72 := ⟨by decide +kernel, rfl⟩
theorem x_As_begin_72 : DC b_As_begin 72 (.getfield 46) 3 75 := ⟨by decide +kernel, rfl⟩
theorem x_As_begin_75 : DC b_As_begin 75 (.if_icmp .lt 8) 3 78 := ⟨by decide +kernel, rfl⟩
theorem x_As_begin_78 : DC b_As_begin 78 (.aload_n 0) 1 79 := ⟨by decide +kernel, rfl⟩
theorem x_As_begin_79 : DC b_As_begin 79 (.iload_n 2) 1 80 := ⟨by decide +kernel, rfl⟩
theorem x_As_begin_80 : DC b_As_begin 80 (.putfield 17) 3 83 := ⟨by decide +kernel, rfl⟩
theorem x_As_begin_83 : DC b_As_begin 83 (.iinc 2 1) 3 86 := ⟨by decide +kernel, rfl⟩
theorem x_As_begin_86 : DC b_As_begin 86 (.goto (-71)) 3 89 := ⟨by decide +kernel, rfl⟩
theorem x_As_begin_89 : DC b_As_begin 89 (.return_) 1 90 := ⟨by decide +kernel, rfl⟩
def k_As_begin_83 (R15 : Int → Int → Mem → Res) (a1 a2 : Int) (M : Mem) : Res := blet (a2 + 1) fun v1 => R15 a1 v1 M
theorem z_As_begin_83 (C : Cx p s m args meth c G b_As_begin 4 "PrairiePool$Asker" none) (hlev : 1 ≤ lev) {r : Int × Mem} {R15 : Int → Int → Mem → Res} (hR15 : ∀ (a1 a2 : Int) (M : Mem), R15 a1 a2 M = some r → Z p l e lev s m args below meth c G 4 (MQ below (Qm G 0 r) args s 0 0 (Ab G)) M 15 [(0, .ref (G.1 + 32)), (1, vi a1), (2, vi a2)] []) {a1 a2 : Int} {M : Mem} (h : k_As_begin_83 R15 a1 a2 M = some r) : Z p l e lev s m args below meth c G 4 (MQ below (Qm G 0 r) args s 0 0 (Ab G)) M 83 [(0, .ref (G.1 + 32)), (1, vi a1), (2, vi a2)] [] := by
  unfold k_As_begin_83 at h
  obtain ⟨v1, ev1, h⟩ := blet_e h
  refine z_iinc (lv' := [(2, vi v1), (0, .ref (G.1 + 32)), (1, vi a1)]) C 2 ev1 x_As_begin_83 rfl (i_lt rfl) rfl ?_
  refine z_goto (tgt := 15) C x_As_begin_86 rfl ?_
  exact z_sub [1, 2, 0] rfl (hR15 a1 v1 M h)
def k_As_begin_78 (R15 : Int → Int → Mem → Res) (a1 a2 : Int) (M : Mem) : Res := blet (sto M 32 2 a2) fun M1 => k_As_begin_83 R15 a1 a2 M1
theorem z_As_begin_78 (C : Cx p s m args meth c G b_As_begin 4 "PrairiePool$Asker" none) (hlev : 1 ≤ lev) {r : Int × Mem} {R15 : Int → Int → Mem → Res} (hR15 : ∀ (a1 a2 : Int) (M : Mem), R15 a1 a2 M = some r → Z p l e lev s m args below meth c G 4 (MQ below (Qm G 0 r) args s 0 0 (Ab G)) M 15 [(0, .ref (G.1 + 32)), (1, vi a1), (2, vi a2)] []) {a1 a2 : Int} {M : Mem} (h : k_As_begin_78 R15 a1 a2 M = some r) : Z p l e lev s m args below meth c G 4 (MQ below (Qm G 0 r) args s 0 0 (Ab G)) M 78 [(0, .ref (G.1 + 32)), (1, vi a1), (2, vi a2)] [] := by
  unfold k_As_begin_78 at h
  refine z_aload_n C 0 x_As_begin_78 rfl ?_
  refine z_iload_n C 2 x_As_begin_79 rfl ?_
  obtain ⟨M1, eM1, h⟩ := blet_e h
  refine z_putI (j := 2) C x_As_begin_80 nk_32 ck_32 cw_0 (i_lt rfl) rfl rfl rfl rfl fl_As_17 eM1 ?_
  exact z_sub [0, 1, 2] rfl (z_As_begin_83 C hlev hR15 h)
def k_As_begin_41 (R15 : Int → Int → Mem → Res) (a1 a2 s0 : Int) (M : Mem) : Res := if w32 s0 = 0 then (k_As_begin_83 R15 a1 a2 M) else (blet (M 32 2) fun v2 => if w32 v2 = (-1) then (k_As_begin_78 R15 a1 a2 M) else (chk (0 ≤ w32 a2 ∧ w32 a2 < 4) <| blet (M (39 + 4 * (ix a2)) 0) fun v5 => blet (M 32 2) fun v6 => chk (0 ≤ w32 v6 ∧ w32 v6 < 4) <| blet (M (39 + 4 * (ix v6)) 0) fun v8 => if w32 v5 < w32 v8 then (k_As_begin_83 R15 a1 a2 M) else (k_As_begin_78 R15 a1 a2 M)))
theorem z_As_begin_41 (C : Cx p s m args meth c G b_As_begin 4 "PrairiePool$Asker" none) (hlev : 1 ≤ lev) {r : Int × Mem} {R15 : Int → Int → Mem → Res} (hR15 : ∀ (a1 a2 : Int) (M : Mem), R15 a1 a2 M = some r → Z p l e lev s m args below meth c G 4 (MQ below (Qm G 0 r) args s 0 0 (Ab G)) M 15 [(0, .ref (G.1 + 32)), (1, vi a1), (2, vi a2)] []) {a1 a2 s0 : Int} {M : Mem} (h : k_As_begin_41 R15 a1 a2 s0 M = some r) : Z p l e lev s m args below meth c G 4 (MQ below (Qm G 0 r) args s 0 0 (Ab G)) M 41 [(0, .ref (G.1 + 32)), (1, vi a1), (2, vi a2)] [vi s0] := by
  unfold k_As_begin_41 at h
  refine z_istore_n (lv' := [(3, vi s0), (0, .ref (G.1 + 32)), (1, vi a1), (2, vi a2)]) C rfl x_As_begin_41 (i_lt rfl) rfl ?_
  refine z_iload_n C 0 x_As_begin_42 rfl ?_
  rcases ite_e h with ⟨c1, h⟩ | ⟨c1, h⟩
  · refine z_if_eq_t (tgt := 83) C x_As_begin_43 rfl c1 ?_
    exact z_sub [1, 2, 3] rfl (z_As_begin_83 C hlev hR15 h)
  · refine z_if_eq_f (tgt := 83) C x_As_begin_43 rfl c1 ?_
    refine z_aload_n C 1 x_As_begin_46 rfl ?_
    obtain ⟨v2, ev2, h⟩ := blet_e h
    refine z_getI (j := 2) C x_As_begin_47 nk_32 ck_32 cw_0 (i_lt rfl) rfl rfl fl_As_17 ev2 ?_
    refine z_iconst C x_As_begin_50 ?_
    rcases ite_e h with ⟨c3, h⟩ | ⟨c3, h⟩
    · refine z_icmp_eq_t (tgt := 78) C x_As_begin_51 rfl c3 ?_
      exact z_sub [1, 2, 3] rfl (z_As_begin_78 C hlev hR15 h)
    · refine z_icmp_eq_f (tgt := 78) C x_As_begin_51 rfl c3 ?_
      refine z_aload_n C 1 x_As_begin_54 rfl ?_
      refine z_getR (j := 1) C x_As_begin_55 nk_32 ck_32 cw_0 (i_lt rfl) rfl rf_32_1 rfl fl_As_13 ?_
      refine z_iload_n C 3 x_As_begin_58 rfl ?_
      obtain ⟨c4, h⟩ := chk_e h
      refine z_aaldT C x_As_begin_59 c4 ?_
      obtain ⟨v5, ev5, h⟩ := blet_e h
      refine z_getI (j := 0) C x_As_begin_60 (it_tx c4).k0 (it_tx c4).c0 cw_8 (i_lt rfl) rfl rfl fl_As_46 ev5 ?_
      refine z_aload_n C 1 x_As_begin_63 rfl ?_
      refine z_getR (j := 1) C x_As_begin_64 nk_32 ck_32 cw_0 (i_lt rfl) rfl rf_32_1 rfl fl_As_13 ?_
      refine z_aload_n C 1 x_As_begin_67 rfl ?_
      obtain ⟨v6, ev6, h⟩ := blet_e h
      refine z_getI (j := 2) C x_As_begin_68 nk_32 ck_32 cw_0 (i_lt rfl) rfl rfl fl_As_17 ev6 ?_
      obtain ⟨c7, h⟩ := chk_e h
      refine z_aaldT C x_As_begin_71 c7 ?_
      obtain ⟨v8, ev8, h⟩ := blet_e h
      refine z_getI (j := 0) C x_As_begin_72 (it_tx c7).k0 (it_tx c7).c0 cw_8 (i_lt rfl) rfl rfl fl_As_46 ev8 ?_
      rcases ite_e h with ⟨c9, h⟩ | ⟨c9, h⟩
      · refine z_icmp_lt_t (tgt := 83) C x_As_begin_75 rfl c9 ?_
        exact z_sub [1, 2, 3] rfl (z_As_begin_83 C hlev hR15 h)
      · refine z_icmp_lt_f (tgt := 83) C x_As_begin_75 rfl c9 ?_
        exact z_sub [1, 2, 3] rfl (z_As_begin_78 C hlev hR15 h)
def k_As_begin_15 (R15 : Int → Int → Mem → Res) (a1 a2 : Int) (M : Mem) : Res := blet (M 32 0) fun v1 => if w32 a2 < w32 v1 then (chk (0 ≤ w32 a2 ∧ w32 a2 < 4) <| blet (M (39 + 4 * (ix a2)) 0) fun v4 => if w32 a1 < w32 v4 then (k_As_begin_41 R15 a1 a2 0 M) else (k_As_begin_41 R15 a1 a2 1 M)) else (some (0, M))
theorem z_As_begin_15 (C : Cx p s m args meth c G b_As_begin 4 "PrairiePool$Asker" none) (hlev : 1 ≤ lev) {r : Int × Mem} {R15 : Int → Int → Mem → Res} (hR15 : ∀ (a1 a2 : Int) (M : Mem), R15 a1 a2 M = some r → Z p l e lev s m args below meth c G 4 (MQ below (Qm G 0 r) args s 0 0 (Ab G)) M 15 [(0, .ref (G.1 + 32)), (1, vi a1), (2, vi a2)] []) {a1 a2 : Int} {M : Mem} (h : k_As_begin_15 R15 a1 a2 M = some r) : Z p l e lev s m args below meth c G 4 (MQ below (Qm G 0 r) args s 0 0 (Ab G)) M 15 [(0, .ref (G.1 + 32)), (1, vi a1), (2, vi a2)] [] := by
  unfold k_As_begin_15 at h
  refine z_iload_n C 2 x_As_begin_15 rfl ?_
  refine z_aload_n C 0 x_As_begin_16 rfl ?_
  obtain ⟨v1, ev1, h⟩ := blet_e h
  refine z_getI (j := 0) C x_As_begin_17 nk_32 ck_32 cw_0 (i_lt rfl) rfl rfl fl_As_39 ev1 ?_
  rcases ite_e h with ⟨c2, h⟩ | ⟨c2, h⟩
  · refine z_icmp_ge_f (tgt := 89) C x_As_begin_20 rfl c2 ?_
    refine z_aload_n C 0 x_As_begin_23 rfl ?_
    refine z_getR (j := 1) C x_As_begin_24 nk_32 ck_32 cw_0 (i_lt rfl) rfl rf_32_1 rfl fl_As_13 ?_
    refine z_iload_n C 2 x_As_begin_27 rfl ?_
    obtain ⟨c3, h⟩ := chk_e h
    refine z_aaldT C x_As_begin_28 c3 ?_
    obtain ⟨v4, ev4, h⟩ := blet_e h
    refine z_getI (j := 0) C x_As_begin_29 (it_tx c3).k0 (it_tx c3).c0 cw_8 (i_lt rfl) rfl rfl fl_As_46 ev4 ?_
    refine z_iload_n C 1 x_As_begin_32 rfl ?_
    rcases ite_e h with ⟨c5, h⟩ | ⟨c5, h⟩
    · refine z_icmp_gt_t (tgt := 40) C x_As_begin_33 rfl c5 ?_
      refine z_iconst C x_As_begin_40 ?_
      exact z_sub [0, 1, 2] rfl (z_As_begin_41 C hlev hR15 h)
    · refine z_icmp_gt_f (tgt := 40) C x_As_begin_33 rfl c5 ?_
      refine z_iconst C x_As_begin_36 ?_
      refine z_goto (tgt := 41) C x_As_begin_37 rfl ?_
      exact z_sub [0, 1, 2] rfl (z_As_begin_41 C hlev hR15 h)
  · refine z_icmp_ge_t (tgt := 89) C x_As_begin_20 rfl c2 ?_
    exact z_vret C x_As_begin_89 h
theorem zl_As_begin_15 (C : Cx p s m args meth c G b_As_begin 4 "PrairiePool$Asker" none) (hlev : 1 ≤ lev) {r : Int × Mem}  : ∀ (n : Nat) (a1 a2 : Int) (M : Mem), fix (fun _ _ _ => none) (k_As_begin_15) n a1 a2 M = some r → Z p l e lev s m args below meth c G 4 (MQ below (Qm G 0 r) args s 0 0 (Ab G)) M 15 [(0, .ref (G.1 + 32)), (1, vi a1), (2, vi a2)] [] := by
  intro n
  induction n with
  | zero => intro a1 a2 M h; exact nomatch (show (none : Res) = some r from h)
  | succ n ih => intro a1 a2 M h; exact z_As_begin_15 C hlev ih h
def d_As_begin (a1 : Int) (M : Mem) : Res := bcall (d_Ar_fill0 34 11 0 M) fun v1 M2 => blet (sto M2 32 2 (-1)) fun M3 => fix (fun _ _ _ => none) (k_As_begin_15) FU a1 0 M3
theorem t_As_begin (l : Launch) (G : GX) {lev : Nat} (hlev : 1 ≤ lev) {a1 : Int} {M : Mem} {r : Int × Mem} (h : d_As_begin a1 M = some r) : Mt l G y_As_begin b_As_begin 4 none lev 0 [.ref (G.1 + 32), vi a1] M r := by
  refine Mt.of (by decide) (i_le rfl) ?_
  intro p e s m args below meth c C
  have C : Cx p s m args meth c G b_As_begin 4 "PrairiePool$Asker" none := C
  unfold d_As_begin at h
  refine z_sub (lv' := [(0, .ref (G.1 + 32)), (1, vi a1)]) [0, 1] rfl ?_
  refine z_aload_n C 0 x_As_begin_0 rfl ?_
  refine z_getR (j := 3) C x_As_begin_1 nk_32 ck_32 cw_0 (i_lt rfl) rfl rf_32_3 rfl fl_As_21 ?_
  refine z_lconst0 C x_As_begin_4 ?_
  obtain ⟨v1, M2, fv1, h⟩ := bcall_e h
  refine z_callSv C x_As_begin_5 cs_As_49 (t_Ar_fill0 (lev := lev - 1) l G (by omega) nk_34 ck_34 fv1) (by omega) rfl (i_le rfl) rfl ?_
  refine z_aload_n C 0 x_As_begin_8 rfl ?_
  refine z_iconst C x_As_begin_9 ?_
  obtain ⟨M3, eM3, h⟩ := blet_e h
  refine z_putI (j := 2) C x_As_begin_10 nk_32 ck_32 cw_0 (i_lt rfl) rfl rfl rfl rfl fl_As_17 eM3 ?_
  refine z_iconst C x_As_begin_13 ?_
  refine z_istore_n (lv' := [(2, vi 0), (0, .ref (G.1 + 32)), (1, vi a1)]) C rfl x_As_begin_14 (i_lt rfl) rfl ?_
  exact z_sub [1, 2, 0] rfl (zl_As_begin_15 C hlev FU a1 0 M3 h)
theorem x_As_tellWeek_0 : DC b_As_tellWeek 0 (.aload_n 0) 1 1 := ⟨by decide +kernel, rfl⟩
theorem x_As_tellWeek_1 : DC b_As_tellWeek 1 (.getfield 21) 3 4 := ⟨by decide +kernel, rfl⟩
theorem x_As_tellWeek_4 : DC b_As_tellWeek 4 (.iconst 2) 1 5 := ⟨by decide +kernel, rfl⟩
theorem x_As_tellWeek_5 : DC b_As_tellWeek 5 (.iload_n 1) 1 6 := ⟨by decide +kernel, rfl⟩
theorem x_As_tellWeek_6 : DC b_As_tellWeek 6 (.i2l) 1 7 := ⟨by decide +kernel, rfl⟩
theorem x_As_tellWeek_7 : DC b_As_tellWeek 7 (.lastore) 1 8 := ⟨by decide +kernel, rfl⟩
theorem x_As_tellWeek_8 : DC b_As_tellWeek 8 (.aload_n 0) 1 9 := ⟨by decide +kernel, rfl⟩
theorem x_As_tellWeek_9 : DC b_As_tellWeek 9 (.getfield 21) 3 12 := ⟨by decide +kernel, rfl⟩
theorem x_As_tellWeek_12 : DC b_As_tellWeek 12 (.iconst 3) 1 13 := ⟨by decide +kernel, rfl⟩
theorem x_As_tellWeek_13 : DC b_As_tellWeek 13 (.iload_n 1) 1 14 := ⟨by decide +kernel, rfl⟩
theorem x_As_tellWeek_14 : DC b_As_tellWeek 14 (.bipush 52) 2 16 := ⟨by decide +kernel, rfl⟩
theorem x_As_tellWeek_16 : DC b_As_tellWeek 16 (.idiv) 1 17 := ⟨by decide +kernel, rfl⟩
theorem x_As_tellWeek_17 : DC b_As_tellWeek 17 (.i2l) 1 18 := ⟨by decide +kernel, rfl⟩
theorem x_As_tellWeek_18 : DC b_As_tellWeek 18 (.lastore) 1 19 := ⟨by decide +kernel, rfl⟩
theorem x_As_tellWeek_19 : DC b_As_tellWeek 19 (.return_) 1 20 := ⟨by decide +kernel, rfl⟩
def d_As_tellWeek (a1 : Int) (M : Mem) : Res := blet (sto M 34 2 (w32 a1)) fun M1 => blet (sto M1 34 3 (w32 (dv32 a1 52))) fun M2 => some (0, M2)
theorem t_As_tellWeek (l : Launch) (G : GX) {lev : Nat} (hlev : 0 ≤ lev) {a1 : Int} {M : Mem} {r : Int × Mem} (h : d_As_tellWeek a1 M = some r) : Mt l G y_As_tellWeek b_As_tellWeek 2 none lev 0 [.ref (G.1 + 32), vi a1] M r := by
  refine Mt.of (by decide) (i_le rfl) ?_
  intro p e s m args below meth c C
  have C : Cx p s m args meth c G b_As_tellWeek 2 "PrairiePool$Asker" none := C
  unfold d_As_tellWeek at h
  refine z_sub (lv' := [(0, .ref (G.1 + 32)), (1, vi a1)]) [0, 1] rfl ?_
  refine z_aload_n C 0 x_As_tellWeek_0 rfl ?_
  refine z_getR (j := 3) C x_As_tellWeek_1 nk_32 ck_32 cw_0 (i_lt rfl) rfl rf_32_3 rfl fl_As_21 ?_
  refine z_iconst C x_As_tellWeek_4 ?_
  refine z_iload_n C 1 x_As_tellWeek_5 rfl ?_
  refine z_i2l C x_As_tellWeek_6 ?_
  obtain ⟨M1, eM1, h⟩ := blet_e h
  refine z_last C x_As_tellWeek_7 nk_34 ck_34 (by decide) eM1 ?_
  refine z_aload_n C 0 x_As_tellWeek_8 rfl ?_
  refine z_getR (j := 3) C x_As_tellWeek_9 nk_32 ck_32 cw_0 (i_lt rfl) rfl rf_32_3 rfl fl_As_21 ?_
  refine z_iconst C x_As_tellWeek_12 ?_
  refine z_iload_n C 1 x_As_tellWeek_13 rfl ?_
  refine z_bipush C rfl x_As_tellWeek_14 ?_
  refine z_idiv C (by decide) x_As_tellWeek_16 ?_
  refine z_i2l C x_As_tellWeek_17 ?_
  obtain ⟨M2, eM2, h⟩ := blet_e h
  refine z_last C x_As_tellWeek_18 nk_34 ck_34 (by decide) eM2 ?_
  exact z_vret C x_As_tellWeek_19 h
theorem x_As_tell_0 : DC b_As_tell 0 (.aload_n 0) 1 1 := ⟨by decide +kernel, rfl⟩
theorem x_As_tell_1 : DC b_As_tell 1 (.getfield 21) 3 4 := ⟨by decide +kernel, rfl⟩
theorem x_As_tell_4 : DC b_As_tell 4 (.iload_n 1) 1 5 := ⟨by decide +kernel, rfl⟩
theorem x_As_tell_5 : DC b_As_tell 5 (.lload_n 2) 1 6 := ⟨by decide +kernel, rfl⟩
theorem x_As_tell_6 : DC b_As_tell 6 (.lastore) 1 7 := ⟨by decide +kernel, rfl⟩
theorem x_As_tell_7 : DC b_As_tell 7 (.return_) 1 8 := ⟨by decide +kernel, rfl⟩
def d_As_tell (a1 a2 : Int) (M : Mem) : Res := chk (0 ≤ w32 a1 ∧ w32 a1 < 11) <| blet (sto M 34 (ix a1) a2) fun M2 => some (0, M2)
theorem t_As_tell (l : Launch) (G : GX) {lev : Nat} (hlev : 0 ≤ lev) {a1 a2 : Int} {M : Mem} {r : Int × Mem} (h : d_As_tell a1 a2 M = some r) : Mt l G y_As_tell b_As_tell 4 none lev 0 [.ref (G.1 + 32), vi a1, vl a2] M r := by
  refine Mt.of (by decide) (i_le rfl) ?_
  intro p e s m args below meth c C
  have C : Cx p s m args meth c G b_As_tell 4 "PrairiePool$Asker" none := C
  unfold d_As_tell at h
  refine z_sub (lv' := [(0, .ref (G.1 + 32)), (1, vi a1), (2, vl a2)]) [0, 1, 2] rfl ?_
  refine z_aload_n C 0 x_As_tell_0 rfl ?_
  refine z_getR (j := 3) C x_As_tell_1 nk_32 ck_32 cw_0 (i_lt rfl) rfl rf_32_3 rfl fl_As_21 ?_
  refine z_iload_n C 1 x_As_tell_4 rfl ?_
  refine z_lload_n C 2 x_As_tell_5 rfl ?_
  obtain ⟨c1, h⟩ := chk_e h
  obtain ⟨M2, eM2, h⟩ := blet_e h
  refine z_last C x_As_tell_6 nk_34 ck_34 c1 eM2 ?_
  exact z_vret C x_As_tell_7 h
theorem x_Tx_startOf_0 : DC b_Tx_startOf 0 (.iload_n 1) 1 1 := ⟨by decide +kernel, rfl⟩
theorem x_Tx_startOf_1 : DC b_Tx_startOf 1 (.ifCond .ne 7) 3 4 := ⟨by decide +kernel, rfl⟩
theorem x_Tx_startOf_4 : DC b_Tx_startOf 4 (.iconst 0) 1 5 := ⟨by decide +kernel, rfl⟩
theorem x_Tx_startOf_5 : DC b_Tx_startOf 5 (.goto 11) 3 8 := ⟨by decide +kernel, rfl⟩
theorem x_Tx_startOf_8 : DC b_Tx_startOf 8 (.aload_n 0) 1 9 := ⟨by decide +kernel, rfl⟩
theorem x_Tx_startOf_9 : DC b_Tx_startOf 9 (.getfield 15) 3 12 := ⟨by decide +kernel, rfl⟩
theorem x_Tx_startOf_12 : DC b_Tx_startOf 12 (.iload_n 1) 1 13 := ⟨by decide +kernel, rfl⟩
theorem x_Tx_startOf_13 : DC b_Tx_startOf 13 (.iconst 1) 1 14 := ⟨by decide +kernel, rfl⟩
theorem x_Tx_startOf_14 : DC b_Tx_startOf 14 (.isub) 1 15 := ⟨by decide +kernel, rfl⟩
theorem x_Tx_startOf_15 : DC b_Tx_startOf 15 (.iaload) 1 16 := ⟨by decide +kernel, rfl⟩
theorem x_Tx_startOf_16 : DC b_Tx_startOf 16 (.ireturn) 1 17 := ⟨by decide +kernel, rfl⟩
def d_Tx_startOf (K : Nat) (a1 : Int) (M : Mem) : Res := if w32 a1 = 0 then (some (0, M)) else (chk (0 ≤ w32 (a1 - 1) ∧ w32 (a1 - 1) < 10) <| blet (M (K + 2) (ix (a1 - 1))) fun v3 => some (v3, M))
theorem t_Tx_startOf (l : Launch) (G : GX) {lev : Nat} (hlev : 0 ≤ lev) {K : Nat} (hT : IsText K) {a1 : Int} {M : Mem} {r : Int × Mem} (h : d_Tx_startOf K a1 M = some r) : Mt l G y_Tx_startOf b_Tx_startOf 2 (some .int) lev 1 [.ref (G.1 + K), vi a1] M r := by
  refine Mt.of (by decide) (i_le rfl) ?_
  intro p e s m args below meth c C
  have C : Cx p s m args meth c G b_Tx_startOf 2 "PrairiePool$Text" (some .int) := C
  unfold d_Tx_startOf at h
  refine z_sub (lv' := [(0, .ref (G.1 + K)), (1, vi a1)]) [0, 1] rfl ?_
  refine z_iload_n C 1 x_Tx_startOf_0 rfl ?_
  rcases ite_e h with ⟨c1, h⟩ | ⟨c1, h⟩
  · refine z_if_ne_f (tgt := 8) C x_Tx_startOf_1 rfl c1 ?_
    refine z_iconst C x_Tx_startOf_4 ?_
    refine z_goto (tgt := 16) C x_Tx_startOf_5 rfl ?_
    exact z_iret C x_Tx_startOf_16 h
  · refine z_if_ne_t (tgt := 8) C x_Tx_startOf_1 rfl c1 ?_
    refine z_aload_n C 0 x_Tx_startOf_8 rfl ?_
    refine z_getR (j := 4) C x_Tx_startOf_9 (hT).k0 (hT).c0 cw_8 (i_lt rfl) rfl (hT).r4 rfl fl_Tx_15 ?_
    refine z_iload_n C 1 x_Tx_startOf_12 rfl ?_
    refine z_iconst C x_Tx_startOf_13 ?_
    refine z_isub C x_Tx_startOf_14 ?_
    obtain ⟨c2, h⟩ := chk_e h
    obtain ⟨v3, ev3, h⟩ := blet_e h
    refine z_iald C x_Tx_startOf_15 (hT).k2 (hT).c2 c2 ev3 ?_
    exact z_iret C x_Tx_startOf_16 h
theorem x_Tx_stepAt_0 : DC b_Tx_stepAt 0 (.aload_n 0) 1 1 := ⟨by decide +kernel, rfl⟩
theorem x_Tx_stepAt_1 : DC b_Tx_stepAt 1 (.getfield 11) 3 4 := ⟨by decide +kernel, rfl⟩
theorem x_Tx_stepAt_4 : DC b_Tx_stepAt 4 (.iload_n 1) 1 5 := ⟨by decide +kernel, rfl⟩
theorem x_Tx_stepAt_5 : DC b_Tx_stepAt 5 (.iaload) 1 6 := ⟨by decide +kernel, rfl⟩
theorem x_Tx_stepAt_6 : DC b_Tx_stepAt 6 (.bipush 20) 2 8 := ⟨by decide +kernel, rfl⟩
theorem x_Tx_stepAt_8 : DC b_Tx_stepAt 8 (.iushr) 1 9 := ⟨by decide +kernel, rfl⟩
theorem x_Tx_stepAt_9 : DC b_Tx_stepAt 9 (.ireturn) 1 10 := ⟨by decide +kernel, rfl⟩
def d_Tx_stepAt (K : Nat) (a1 : Int) (M : Mem) : Res := chk (0 ≤ w32 a1 ∧ w32 a1 < 500) <| blet (M (K + 1) (ix a1)) fun v2 => some (ur32 v2 20, M)
theorem t_Tx_stepAt (l : Launch) (G : GX) {lev : Nat} (hlev : 0 ≤ lev) {K : Nat} (hT : IsText K) {a1 : Int} {M : Mem} {r : Int × Mem} (h : d_Tx_stepAt K a1 M = some r) : Mt l G y_Tx_stepAt b_Tx_stepAt 2 (some .int) lev 1 [.ref (G.1 + K), vi a1] M r := by
  refine Mt.of (by decide) (i_le rfl) ?_
  intro p e s m args below meth c C
  have C : Cx p s m args meth c G b_Tx_stepAt 2 "PrairiePool$Text" (some .int) := C
  unfold d_Tx_stepAt at h
  refine z_sub (lv' := [(0, .ref (G.1 + K)), (1, vi a1)]) [0, 1] rfl ?_
  refine z_aload_n C 0 x_Tx_stepAt_0 rfl ?_
  refine z_getR (j := 3) C x_Tx_stepAt_1 (hT).k0 (hT).c0 cw_8 (i_lt rfl) rfl (hT).r3 rfl fl_Tx_11 ?_
  refine z_iload_n C 1 x_Tx_stepAt_4 rfl ?_
  obtain ⟨c1, h⟩ := chk_e h
  obtain ⟨v2, ev2, h⟩ := blet_e h
  refine z_iald C x_Tx_stepAt_5 (hT).k1 (hT).c1 c1 ev2 ?_
  refine z_bipush C rfl x_Tx_stepAt_6 ?_
  refine z_iushr C x_Tx_stepAt_8 ?_
  exact z_iret C x_Tx_stepAt_9 h
theorem x_Tx_numberAt_0 : DC b_Tx_numberAt 0 (.aload_n 0) 1 1 := ⟨by decide +kernel, rfl⟩
theorem x_Tx_numberAt_1 : DC b_Tx_numberAt 1 (.getfield 11) 3 4 := ⟨by decide +kernel, rfl⟩
theorem x_Tx_numberAt_4 : DC b_Tx_numberAt 4 (.iload_n 1) 1 5 := ⟨by decide +kernel, rfl⟩
theorem x_Tx_numberAt_5 : DC b_Tx_numberAt 5 (.iaload) 1 6 := ⟨by decide +kernel, rfl⟩
theorem x_Tx_numberAt_6 : DC b_Tx_numberAt 6 (.ldc 40) 2 8 := ⟨by decide +kernel, rfl⟩
theorem x_Tx_numberAt_8 : DC b_Tx_numberAt 8 (.iand) 1 9 := ⟨by decide +kernel, rfl⟩
theorem x_Tx_numberAt_9 : DC b_Tx_numberAt 9 (.ireturn) 1 10 := ⟨by decide +kernel, rfl⟩
def d_Tx_numberAt (K : Nat) (a1 : Int) (M : Mem) : Res := chk (0 ≤ w32 a1 ∧ w32 a1 < 500) <| blet (M (K + 1) (ix a1)) fun v2 => some (an32 v2 1048575, M)
theorem t_Tx_numberAt (l : Launch) (G : GX) {lev : Nat} (hlev : 0 ≤ lev) {K : Nat} (hT : IsText K) {a1 : Int} {M : Mem} {r : Int × Mem} (h : d_Tx_numberAt K a1 M = some r) : Mt l G y_Tx_numberAt b_Tx_numberAt 2 (some .int) lev 1 [.ref (G.1 + K), vi a1] M r := by
  refine Mt.of (by decide) (i_le rfl) ?_
  intro p e s m args below meth c C
  have C : Cx p s m args meth c G b_Tx_numberAt 2 "PrairiePool$Text" (some .int) := C
  unfold d_Tx_numberAt at h
  refine z_sub (lv' := [(0, .ref (G.1 + K)), (1, vi a1)]) [0, 1] rfl ?_
  refine z_aload_n C 0 x_Tx_numberAt_0 rfl ?_
  refine z_getR (j := 3) C x_Tx_numberAt_1 (hT).k0 (hT).c0 cw_8 (i_lt rfl) rfl (hT).r3 rfl fl_Tx_11 ?_
  refine z_iload_n C 1 x_Tx_numberAt_4 rfl ?_
  obtain ⟨c1, h⟩ := chk_e h
  obtain ⟨v2, ev2, h⟩ := blet_e h
  refine z_iald C x_Tx_numberAt_5 (hT).k1 (hT).c1 c1 ev2 ?_
  refine z_ldc C kc_Tx_40 x_Tx_numberAt_6 ?_
  refine z_iand C x_Tx_numberAt_8 ?_
  exact z_iret C x_Tx_numberAt_9 h
theorem x_As_push_0 : DC b_As_push 0 (.aload_n 0) 1 1 := ⟨by decide +kernel, rfl⟩
theorem x_As_push_1 : DC b_As_push 1 (.getfield 81) 3 4 := ⟨by decide +kernel, rfl⟩
theorem x_As_push_4 : DC b_As_push 4 (.bipush 64) 2 6 := ⟨by decide +kernel, rfl⟩
theorem x_As_push_6 : DC b_As_push 6 (.if_icmp .ge 33) 3 9 := ⟨by decide +kernel, rfl⟩
theorem x_As_push_9 : DC b_As_push 9 (.aload_n 0) 1 10 := ⟨by decide +kernel, rfl⟩
theorem x_As_push_10 : DC b_As_push 10 (.getfield 32) 3 13 := ⟨by decide +kernel, rfl⟩
theorem x_As_push_13 : DC b_As_push 13 (.aload_n 0) 1 14 := ⟨by decide +kernel, rfl⟩
theorem x_As_push_14 : DC b_As_push 14 (.getfield 81) 3 17 := ⟨by decide +kernel, rfl⟩
theorem x_As_push_17 : DC b_As_push 17 (.lload_n 1) 1 18 := ⟨by decide +kernel, rfl⟩
theorem x_As_push_18 : DC b_As_push 18 (.lastore) 1 19 := ⟨by decide +kernel, rfl⟩
theorem x_As_push_19 : DC b_As_push 19 (.aload_n 0) 1 20 := ⟨by decide +kernel, rfl⟩
theorem x_As_push_20 : DC b_As_push 20 (.getfield 35) 3 23 := ⟨by decide +kernel, rfl⟩
theorem x_As_push_23 : DC b_As_push 23 (.aload_n 0) 1 24 := ⟨by decide +kernel, rfl⟩
theorem x_As_push_24 : DC b_As_push 24 (.getfield 81) 3 27 := ⟨by decide +kernel, rfl⟩
theorem x_As_push_27 : DC b_As_push 27 (.iload_n 3) 1 28 := ⟨by decide +kernel, rfl⟩
theorem x_As_push_28 : DC b_As_push 28 (.bastore) 1 29 := ⟨by decide +kernel, rfl⟩
theorem x_As_push_29 : DC b_As_push 29 (.aload_n 0) 1 30 := ⟨by decide +kernel, rfl⟩
theorem x_As_push_30 : DC b_As_push 30 (.dup) 1 31 := ⟨by decide +kernel, rfl⟩
theorem x_As_push_31 : DC b_As_push 31 (.getfield 81) 3 34 := ⟨by decide +kernel, rfl⟩
theorem x_As_push_34 : DC b_As_push 34 (.iconst 1) 1 35 := ⟨by decide +kernel, rfl⟩
theorem x_As_push_35 : DC b_As_push 35 (.iadd) 1 36 := ⟨by decide +kernel, rfl⟩
theorem x_As_push_36 : DC b_As_push 36 (.putfield 81) 3 39 := ⟨by decide +kernel, rfl⟩
theorem x_As_push_39 : DC b_As_push 39 (.return_) 1 40 := ⟨by decide +kernel, rfl⟩
def d_As_push (a1 a3 : Int) (M : Mem) : Res := blet (M 32 8) fun v1 => if w32 v1 < 64 then (blet (M 32 8) fun v3 => chk (0 ≤ w32 v3 ∧ w32 v3 < 64) <| blet (sto M 37 (ix v3) a1) fun M5 => blet (M5 32 8) fun v6 => chk (0 ≤ w32 v6 ∧ w32 v6 < 64) <| blet (sto M5 38 (ix v6) a3) fun M8 => blet (M8 32 8) fun v9 => blet (sto M8 32 8 (v9 + 1)) fun M10 => some (0, M10)) else (some (0, M))
theorem t_As_push (l : Launch) (G : GX) {lev : Nat} (hlev : 0 ≤ lev) {a1 a3 : Int} {M : Mem} {r : Int × Mem} (h : d_As_push a1 a3 M = some r) : Mt l G y_As_push b_As_push 4 none lev 0 [.ref (G.1 + 32), vl a1, vi a3] M r := by
  refine Mt.of (by decide) (i_le rfl) ?_
  intro p e s m args below meth c C
  have C : Cx p s m args meth c G b_As_push 4 "PrairiePool$Asker" none := C
  unfold d_As_push at h
  refine z_sub (lv' := [(0, .ref (G.1 + 32)), (1, vl a1), (3, vi a3)]) [0, 1, 2] rfl ?_
  refine z_aload_n C 0 x_As_push_0 rfl ?_
  obtain ⟨v1, ev1, h⟩ := blet_e h
  refine z_getI (j := 8) C x_As_push_1 nk_32 ck_32 cw_0 (i_lt rfl) rfl rfl fl_As_81 ev1 ?_
  refine z_bipush C rfl x_As_push_4 ?_
  rcases ite_e h with ⟨c2, h⟩ | ⟨c2, h⟩
  · refine z_icmp_ge_f (tgt := 39) C x_As_push_6 rfl c2 ?_
    refine z_aload_n C 0 x_As_push_9 rfl ?_
    refine z_getR (j := 6) C x_As_push_10 nk_32 ck_32 cw_0 (i_lt rfl) rfl rf_32_6 rfl fl_As_32 ?_
    refine z_aload_n C 0 x_As_push_13 rfl ?_
    obtain ⟨v3, ev3, h⟩ := blet_e h
    refine z_getI (j := 8) C x_As_push_14 nk_32 ck_32 cw_0 (i_lt rfl) rfl rfl fl_As_81 ev3 ?_
    refine z_lload_n C 1 x_As_push_17 rfl ?_
    obtain ⟨c4, h⟩ := chk_e h
    obtain ⟨M5, eM5, h⟩ := blet_e h
    refine z_last C x_As_push_18 nk_37 ck_37 c4 eM5 ?_
    refine z_aload_n C 0 x_As_push_19 rfl ?_
    refine z_getR (j := 7) C x_As_push_20 nk_32 ck_32 cw_0 (i_lt rfl) rfl rf_32_7 rfl fl_As_35 ?_
    refine z_aload_n C 0 x_As_push_23 rfl ?_
    obtain ⟨v6, ev6, h⟩ := blet_e h
    refine z_getI (j := 8) C x_As_push_24 nk_32 ck_32 cw_0 (i_lt rfl) rfl rfl fl_As_81 ev6 ?_
    refine z_iload_n C 2 x_As_push_27 rfl ?_
    obtain ⟨c7, h⟩ := chk_e h
    obtain ⟨M8, eM8, h⟩ := blet_e h
    refine z_zast C x_As_push_28 nk_38 ck_38 c7 eM8 ?_
    refine z_aload_n C 0 x_As_push_29 rfl ?_
    refine z_dup C x_As_push_30 rfl ?_
    obtain ⟨v9, ev9, h⟩ := blet_e h
    refine z_getI (j := 8) C x_As_push_31 nk_32 ck_32 cw_0 (i_lt rfl) rfl rfl fl_As_81 ev9 ?_
    refine z_iconst C x_As_push_34 ?_
    refine z_iadd C x_As_push_35 ?_
    obtain ⟨M10, eM10, h⟩ := blet_e h
    refine z_putI (j := 8) C x_As_push_36 nk_32 ck_32 cw_0 (i_lt rfl) rfl rfl rfl rfl fl_As_81 eM10 ?_
    exact z_vret C x_As_push_39 h
  · refine z_icmp_ge_t (tgt := 39) C x_As_push_6 rfl c2 ?_
    exact z_vret C x_As_push_39 h
theorem x_As_choose_0 : DC b_As_choose 0 (.aload_n 0) 1 1 := ⟨by decide +kernel, rfl⟩
theorem x_As_choose_1 : DC b_As_choose 1 (.getfield 81) 3 4 := ⟨by decide +kernel, rfl⟩
theorem x_As_choose_4 : DC b_As_choose 4 (.iconst 3) 1 5 := ⟨by decide +kernel, rfl⟩
theorem x_As_choose_5 : DC b_As_choose 5 (.if_icmp .ge 4) 3 8 := ⟨by decide +kernel, rfl⟩
theorem x_As_choose_8 : DC b_As_choose 8 (.return_) 1 9 := ⟨by decide +kernel, rfl⟩
theorem x_As_choose_9 : DC b_As_choose 9 (.aload_n 0) 1 10 := ⟨by decide +kernel, rfl⟩
theorem x_As_choose_10 : DC b_As_choose 10 (.dup) 1 11 := ⟨by decide +kernel, rfl⟩
theorem x_As_choose_11 : DC b_As_choose 11 (.getfield 81) 3 14 := ⟨by decide +kernel, rfl⟩
theorem x_As_choose_14 : DC b_As_choose 14 (.iconst 2) 1 15 := ⟨by decide +kernel, rfl⟩
theorem x_As_choose_15 : DC b_As_choose 15 (.isub) 1 16 := ⟨by decide +kernel, rfl⟩
theorem x_As_choose_16 : DC b_As_choose 16 (.putfield 81) 3 19 := ⟨by decide +kernel, rfl⟩
theorem x_As_choose_19 : DC b_As_choose 19 (.aload_n 0) 1 20 := ⟨by decide +kernel, rfl⟩
theorem x_As_choose_20 : DC b_As_choose 20 (.getfield 32) 3 23 := ⟨by decide +kernel, rfl⟩
theorem x_As_choose_23 : DC b_As_choose 23 (.aload_n 0) 1 24 := ⟨by decide +kernel, rfl⟩
theorem x_As_choose_24 : DC b_As_choose 24 (.getfield 81) 3 27 := ⟨by decide +kernel, rfl⟩
theorem x_As_choose_27 : DC b_As_choose 27 (.iconst 1) 1 28 := ⟨by decide +kernel, rfl⟩
theorem x_As_choose_28 : DC b_As_choose 28 (.isub) 1 29 := ⟨by decide +kernel, rfl⟩
theorem x_As_choose_29 : DC b_As_choose 29 (.laload) 1 30 := ⟨by decide +kernel, rfl⟩
theorem x_As_choose_30 : DC b_As_choose 30 (.lconst 0) 1 31 := ⟨by decide +kernel, rfl⟩
theorem x_As_choose_31 : DC b_As_choose 31 (.lcmp) 1 32 := ⟨by decide +kernel, rfl⟩
theorem x_As_choose_32 : DC b_As_choose 32 (.ifCond .eq 10) 3 35 := ⟨by decide +kernel, rfl⟩
theorem x_As_choose_35 : DC b_As_choose 35 (.aload_n 0) 1 36 := ⟨by decide +kernel, rfl⟩
theorem x_As_choose_36 : DC b_As_choose 36 (.getfield 81) 3 39 := ⟨by decide +kernel, rfl⟩
theorem x_As_choose_39 : DC b_As_choose 39 (.goto 9) 3 42 := ⟨by decide +kernel, rfl⟩
theorem x_As_choose_42 : DC b_As_choose 42 (.aload_n 0) 1 43 := ⟨by decide +kernel, rfl⟩
theorem x_As_choose_43 : DC b_As_choose 43 (.getfield 81) 3 46 := ⟨by decide +kernel, rfl⟩
theorem x_As_choose_46 : DC b_As_choose 46 (.iconst 1) 1 47 := ⟨by decide +kernel, rfl⟩
theorem x_As_choose_47 : DC b_As_choose 47 (.iadd) 1 48 := ⟨by decide +kernel, rfl⟩
theorem x_As_choose_48 : DC b_As_choose 48 (.istore_n 1) 1 49 := ⟨by decide +kernel, rfl⟩
theorem x_As_choose_49 : DC b_As_choose 49 (.aload_n 0) 1 50 := ⟨by decide +kernel, rfl⟩
theorem x_As_choose_50 : DC b_As_choose 50 (.getfield 32) 3 53 := ⟨by decide +kernel, rfl⟩
theorem x_As_choose_53 : DC b_As_choose 53 (.aload_n 0) 1 54 := ⟨by decide +kernel, rfl⟩
theorem x_As_choose_54 : DC b_As_choose 54 (.getfield 81) 3 57 := ⟨by decide +kernel, rfl⟩
theorem x_As_choose_57 : DC b_As_choose 57 (.iconst 1) 1 58 := ⟨by decide +kernel, rfl⟩
theorem x_As_choose_58 : DC b_As_choose 58 (.isub) 1 59 := ⟨by decide +kernel, rfl⟩
theorem x_As_choose_59 : DC b_As_choose 59 (.aload_n 0) 1 60 := ⟨by decide +kernel, rfl⟩
theorem x_As_choose_60 : DC b_As_choose 60 (.getfield 32) 3 63 := ⟨by decide +kernel, rfl⟩
theorem x_As_choose_63 : DC b_As_choose 63 (.iload_n 1) 1 64 := ⟨by decide +kernel, rfl⟩
theorem x_As_choose_64 : DC b_As_choose 64 (.laload) 1 65 := ⟨by decide +kernel, rfl⟩
theorem x_As_choose_65 : DC b_As_choose 65 (.lastore) 1 66 := ⟨by decide +kernel, rfl⟩
theorem x_As_choose_66 : DC b_As_choose 66 (.aload_n 0) 1 67 := ⟨by decide +kernel, rfl⟩
theorem x_As_choose_67 : DC b_As_choose 67 (.getfield 35) 3 70 := ⟨by decide +kernel, rfl⟩
theorem x_As_choose_70 : DC b_As_choose 70 (.aload_n 0) 1 71 := ⟨by decide +kernel, rfl⟩
theorem x_As_choose_71 : DC b_As_choose 71 (.getfield 81) 3 74 := ⟨by decide +kernel, rfl⟩
theorem x_As_choose_74 : DC b_As_choose 74 (.iconst 1) 1 75 := ⟨by decide +kernel, rfl⟩
theorem x_As_choose_75 : DC b_As_choose 75 (.isub) 1 76 := ⟨by decide +kernel, rfl⟩
theorem x_As_choose_76 : DC b_As_choose 76 (.aload_n 0) 1 77 := ⟨by decide +kernel, rfl⟩
theorem x_As_choose_77 : DC b_As_choose 77 (.getfield 35) 3 80 := ⟨by decide +kernel, rfl⟩
theorem x_As_choose_80 : DC b_As_choose 80 (.iload_n 1) 1 81 := ⟨by decide +kernel, rfl⟩
theorem x_As_choose_81 : DC b_As_choose 81 (.baload) 1 82 := ⟨by decide +kernel, rfl⟩
theorem x_As_choose_82 : DC b_As_choose 82 (.bastore) 1 83 := ⟨by decide +kernel, rfl⟩
theorem x_As_choose_83 : DC b_As_choose 83 (.return_) 1 84 := ⟨by decide +kernel, rfl⟩
def k_As_choose_48 (s0 : Int) (M : Mem) : Res := blet (M 32 8) fun v1 => chk (0 ≤ w32 s0 ∧ w32 s0 < 64) <| blet (M 37 (ix s0)) fun v3 => chk (0 ≤ w32 (v1 - 1) ∧ w32 (v1 - 1) < 64) <| blet (sto M 37 (ix (v1 - 1)) v3) fun M5 => blet (M5 32 8) fun v6 => chk (0 ≤ w32 s0 ∧ w32 s0 < 64) <| blet (M5 38 (ix s0) % 2) fun v8 => chk (0 ≤ w32 (v6 - 1) ∧ w32 (v6 - 1) < 64) <| blet (sto M5 38 (ix (v6 - 1)) v8) fun M10 => some (0, M10)
theorem z_As_choose_48 (C : Cx p s m args meth c G b_As_choose 2 "PrairiePool$Asker" none) (hlev : 0 ≤ lev) {r : Int × Mem}  {s0 : Int} {M : Mem} (h : k_As_choose_48 s0 M = some r) : Z p l e lev s m args below meth c G 2 (MQ below (Qm G 0 r) args s 0 0 (Ab G)) M 48 [(0, .ref (G.1 + 32))] [vi s0] := by
  unfold k_As_choose_48 at h
  refine z_istore_n (lv' := [(1, vi s0), (0, .ref (G.1 + 32))]) C rfl x_As_choose_48 (i_lt rfl) rfl ?_
  refine z_aload_n C 1 x_As_choose_49 rfl ?_
  refine z_getR (j := 6) C x_As_choose_50 nk_32 ck_32 cw_0 (i_lt rfl) rfl rf_32_6 rfl fl_As_32 ?_
  refine z_aload_n C 1 x_As_choose_53 rfl ?_
  obtain ⟨v1, ev1, h⟩ := blet_e h
  refine z_getI (j := 8) C x_As_choose_54 nk_32 ck_32 cw_0 (i_lt rfl) rfl rfl fl_As_81 ev1 ?_
  refine z_iconst C x_As_choose_57 ?_
  refine z_isub C x_As_choose_58 ?_
  refine z_aload_n C 1 x_As_choose_59 rfl ?_
  refine z_getR (j := 6) C x_As_choose_60 nk_32 ck_32 cw_0 (i_lt rfl) rfl rf_32_6 rfl fl_As_32 ?_
  refine z_iload_n C 0 x_As_choose_63 rfl ?_
  obtain ⟨c2, h⟩ := chk_e h
  obtain ⟨v3, ev3, h⟩ := blet_e h
  refine z_lald C x_As_choose_64 nk_37 ck_37 c2 ev3 ?_
  obtain ⟨c4, h⟩ := chk_e h
  obtain ⟨M5, eM5, h⟩ := blet_e h
  refine z_last C x_As_choose_65 nk_37 ck_37 c4 eM5 ?_
  refine z_aload_n C 1 x_As_choose_66 rfl ?_
  refine z_getR (j := 7) C x_As_choose_67 nk_32 ck_32 cw_0 (i_lt rfl) rfl rf_32_7 rfl fl_As_35 ?_
  refine z_aload_n C 1 x_As_choose_70 rfl ?_
  obtain ⟨v6, ev6, h⟩ := blet_e h
  refine z_getI (j := 8) C x_As_choose_71 nk_32 ck_32 cw_0 (i_lt rfl) rfl rfl fl_As_81 ev6 ?_
  refine z_iconst C x_As_choose_74 ?_
  refine z_isub C x_As_choose_75 ?_
  refine z_aload_n C 1 x_As_choose_76 rfl ?_
  refine z_getR (j := 7) C x_As_choose_77 nk_32 ck_32 cw_0 (i_lt rfl) rfl rf_32_7 rfl fl_As_35 ?_
  refine z_iload_n C 0 x_As_choose_80 rfl ?_
  obtain ⟨c7, h⟩ := chk_e h
  obtain ⟨v8, ev8, h⟩ := blet_e h
  refine z_zald C x_As_choose_81 nk_38 ck_38 c7 ev8 ?_
  obtain ⟨c9, h⟩ := chk_e h
  obtain ⟨M10, eM10, h⟩ := blet_e h
  refine z_zast C x_As_choose_82 nk_38 ck_38 c9 eM10 ?_
  exact z_vret C x_As_choose_83 h
def d_As_choose (M : Mem) : Res := blet (M 32 8) fun v1 => if w32 v1 < 3 then (some (0, M)) else (blet (M 32 8) fun v3 => blet (sto M 32 8 (v3 - 2)) fun M4 => blet (M4 32 8) fun v5 => chk (0 ≤ w32 (v5 - 1) ∧ w32 (v5 - 1) < 64) <| blet (M4 37 (ix (v5 - 1))) fun v7 => if w64 v7 = 0 then (blet (M4 32 8) fun v9 => k_As_choose_48 (v9 + 1) M4) else (blet (M4 32 8) fun v10 => k_As_choose_48 v10 M4))
theorem t_As_choose (l : Launch) (G : GX) {lev : Nat} (hlev : 0 ≤ lev) {M : Mem} {r : Int × Mem} (h : d_As_choose M = some r) : Mt l G y_As_choose b_As_choose 2 none lev 0 [.ref (G.1 + 32)] M r := by
  refine Mt.of (by decide) (i_le rfl) ?_
  intro p e s m args below meth c C
  have C : Cx p s m args meth c G b_As_choose 2 "PrairiePool$Asker" none := C
  unfold d_As_choose at h
  refine z_sub (lv' := [(0, .ref (G.1 + 32))]) [0] rfl ?_
  refine z_aload_n C 0 x_As_choose_0 rfl ?_
  obtain ⟨v1, ev1, h⟩ := blet_e h
  refine z_getI (j := 8) C x_As_choose_1 nk_32 ck_32 cw_0 (i_lt rfl) rfl rfl fl_As_81 ev1 ?_
  refine z_iconst C x_As_choose_4 ?_
  rcases ite_e h with ⟨c2, h⟩ | ⟨c2, h⟩
  · refine z_icmp_ge_f (tgt := 9) C x_As_choose_5 rfl c2 ?_
    exact z_vret C x_As_choose_8 h
  · refine z_icmp_ge_t (tgt := 9) C x_As_choose_5 rfl c2 ?_
    refine z_aload_n C 0 x_As_choose_9 rfl ?_
    refine z_dup C x_As_choose_10 rfl ?_
    obtain ⟨v3, ev3, h⟩ := blet_e h
    refine z_getI (j := 8) C x_As_choose_11 nk_32 ck_32 cw_0 (i_lt rfl) rfl rfl fl_As_81 ev3 ?_
    refine z_iconst C x_As_choose_14 ?_
    refine z_isub C x_As_choose_15 ?_
    obtain ⟨M4, eM4, h⟩ := blet_e h
    refine z_putI (j := 8) C x_As_choose_16 nk_32 ck_32 cw_0 (i_lt rfl) rfl rfl rfl rfl fl_As_81 eM4 ?_
    refine z_aload_n C 0 x_As_choose_19 rfl ?_
    refine z_getR (j := 6) C x_As_choose_20 nk_32 ck_32 cw_0 (i_lt rfl) rfl rf_32_6 rfl fl_As_32 ?_
    refine z_aload_n C 0 x_As_choose_23 rfl ?_
    obtain ⟨v5, ev5, h⟩ := blet_e h
    refine z_getI (j := 8) C x_As_choose_24 nk_32 ck_32 cw_0 (i_lt rfl) rfl rfl fl_As_81 ev5 ?_
    refine z_iconst C x_As_choose_27 ?_
    refine z_isub C x_As_choose_28 ?_
    obtain ⟨c6, h⟩ := chk_e h
    obtain ⟨v7, ev7, h⟩ := blet_e h
    refine z_lald C x_As_choose_29 nk_37 ck_37 c6 ev7 ?_
    refine z_lconst0 C x_As_choose_30 ?_
    refine z_lcmp C x_As_choose_31 ?_
    rcases ite_e h with ⟨c8, h⟩ | ⟨c8, h⟩
    · refine z_if_eq_t (tgt := 42) C x_As_choose_32 rfl (cm_eqz.mpr c8) ?_
      refine z_aload_n C 0 x_As_choose_42 rfl ?_
      obtain ⟨v9, ev9, h⟩ := blet_e h
      refine z_getI (j := 8) C x_As_choose_43 nk_32 ck_32 cw_0 (i_lt rfl) rfl rfl fl_As_81 ev9 ?_
      refine z_iconst C x_As_choose_46 ?_
      refine z_iadd C x_As_choose_47 ?_
      exact z_sub [0] rfl (z_As_choose_48 C hlev h)
    · refine z_if_eq_f (tgt := 42) C x_As_choose_32 rfl (fun q => c8 (cm_eqz.mp q)) ?_
      refine z_aload_n C 0 x_As_choose_35 rfl ?_
      obtain ⟨v10, ev10, h⟩ := blet_e h
      refine z_getI (j := 8) C x_As_choose_36 nk_32 ck_32 cw_0 (i_lt rfl) rfl rfl fl_As_81 ev10 ?_
      refine z_goto (tgt := 48) C x_As_choose_39 rfl ?_
      exact z_sub [0] rfl (z_As_choose_48 C hlev h)
theorem x_As_joinTests_0 : DC b_As_joinTests 0 (.aload_n 0) 1 1 := ⟨by decide +kernel, rfl⟩
theorem x_As_joinTests_1 : DC b_As_joinTests 1 (.getfield 81) 3 4 := ⟨by decide +kernel, rfl⟩
theorem x_As_joinTests_4 : DC b_As_joinTests 4 (.iconst 2) 1 5 := ⟨by decide +kernel, rfl⟩
theorem x_As_joinTests_5 : DC b_As_joinTests 5 (.if_icmp .ge 4) 3 8 := ⟨by decide +kernel, rfl⟩
theorem x_As_joinTests_8 : DC b_As_joinTests 8 (.return_) 1 9 := ⟨by decide +kernel, rfl⟩
theorem x_As_joinTests_9 : DC b_As_joinTests 9 (.aload_n 0) 1 10 := ⟨by decide +kernel, rfl⟩
theorem x_As_joinTests_10 : DC b_As_joinTests 10 (.dup) 1 11 := ⟨by decide +kernel, rfl⟩
theorem x_As_joinTests_11 : DC b_As_joinTests 11 (.getfield 81) 3 14 := ⟨by decide +kernel, rfl⟩
theorem x_As_joinTests_14 : DC b_As_joinTests 14 (.iconst 1) 1 15 := ⟨by decide +kernel, rfl⟩
theorem x_As_joinTests_15 : DC b_As_joinTests 15 (.isub) 1 16 := ⟨by decide +kernel, rfl⟩
theorem x_As_joinTests_16 : DC b_As_joinTests 16 (.putfield 81) 3 19 := ⟨by decide +kernel, rfl⟩
theorem x_As_joinTests_19 : DC b_As_joinTests 19 (.aload_n 0) 1 20 := ⟨by decide +kernel, rfl⟩
theorem x_As_joinTests_20 : DC b_As_joinTests 20 (.getfield 32) 3 23 := ⟨by decide +kernel, rfl⟩
theorem x_As_joinTests_23 : DC b_As_joinTests 23 (.aload_n 0) 1 24 := ⟨by decide +kernel, rfl⟩
theorem x_As_joinTests_24 : DC b_As_joinTests 24 (.getfield 81) 3 27 := ⟨by decide +kernel, rfl⟩
theorem x_As_joinTests_27 : DC b_As_joinTests 27 (.iconst 1) 1 28 := ⟨by decide +kernel, rfl⟩
theorem x_As_joinTests_28 : DC b_As_joinTests 28 (.isub) 1 29 := ⟨by decide +kernel, rfl⟩
theorem x_As_joinTests_29 : DC b_As_joinTests 29 (.laload) 1 30 := ⟨by decide +kernel, rfl⟩
theorem x_As_joinTests_30 : DC b_As_joinTests 30 (.lstore_n 2) 1 31 := ⟨by decide +kernel, rfl⟩
theorem x_As_joinTests_31 : DC b_As_joinTests 31 (.aload_n 0) 1 32 := ⟨by decide +kernel, rfl⟩
theorem x_As_joinTests_32 : DC b_As_joinTests 32 (.getfield 32) 3 35 := ⟨by decide +kernel, rfl⟩
theorem x_As_joinTests_35 : DC b_As_joinTests 35 (.aload_n 0) 1 36 := ⟨by decide +kernel, rfl⟩
theorem x_As_joinTests_36 : DC b_As_joinTests 36 (.getfield 81) 3 39 := ⟨by decide +kernel, rfl⟩
theorem x_As_joinTests_39 : DC b_As_joinTests 39 (.laload) 1 40 := ⟨by decide +kernel, rfl⟩
theorem x_As_joinTests_40 : DC b_As_joinTests 40 (.lstore 4) 2 42 := ⟨by decide +kernel, rfl⟩
theorem x_As_joinTests_42 : DC b_As_joinTests 42 (.aload_n 0) 1 43 := ⟨by decide +kernel, rfl⟩
theorem x_As_joinTests_43 : DC b_As_joinTests 43 (.getfield 32) 3 46 := ⟨by decide +kernel, rfl⟩
theorem x_As_joinTests_46 : DC b_As_joinTests 46 (.aload_n 0) 1 47 := ⟨by decide +kernel, rfl⟩
theorem x_As_joinTests_47 : DC b_As_joinTests 47 (.getfield 81) 3 50 := ⟨by decide +kernel, rfl⟩
theorem x_As_joinTests_50 : DC b_As_joinTests 50 (.iconst 1) 1 51 := ⟨by decide +kernel, rfl⟩
theorem x_As_joinTests_51 : DC b_As_joinTests 51 (.isub) 1 52 := ⟨by decide +kernel, rfl⟩
theorem x_As_joinTests_52 : DC b_As_joinTests 52 (.iload_n 1) 1 53 := ⟨by decide +kernel, rfl⟩
theorem x_As_joinTests_53 : DC b_As_joinTests 53 (.bipush 11) 2 55 := ⟨by decide +kernel, rfl⟩
theorem x_As_joinTests_55 : DC b_As_joinTests 55 (.if_icmp .ne 10) 3 58 := ⟨by decide +kernel, rfl⟩
theorem x_As_joinTests_58 : DC b_As_joinTests 58 (.lload_n 2) 1 59 := ⟨by decide +kernel, rfl⟩
theorem x_As_joinTests_59 : DC b_As_joinTests 59 (.lload 4) 2 61 := ⟨by decide +kernel, rfl⟩
theorem x_As_joinTests_61 : DC b_As_joinTests 61 (.land) 1 62 := ⟨by decide +kernel, rfl⟩
theorem x_As_joinTests_62 : DC b_As_joinTests 62 (.goto 7) 3 65 := ⟨by decide +kernel, rfl⟩
theorem x_As_joinTests_65 : DC b_As_joinTests 65 (.lload_n 2) 1 66 := ⟨by decide +kernel, rfl⟩
theorem x_As_joinTests_66 : DC b_As_joinTests 66 (.lload 4) 2 68 := ⟨by decide +kernel, rfl⟩
theorem x_As_joinTests_68 : DC b_As_joinTests 68 (.lor) 1 69 := ⟨by decide +kernel, rfl⟩
theorem x_As_joinTests_69 : DC b_As_joinTests 69 (.lastore) 1 70 := ⟨by decide +kernel, rfl⟩
theorem x_As_joinTests_70 : DC b_As_joinTests 70 (.return_) 1 71 := ⟨by decide +kernel, rfl⟩
def k_As_joinTests_69 (s1 s2 : Int) (M : Mem) : Res := chk (0 ≤ w32 s1 ∧ w32 s1 < 64) <| blet (sto M 37 (ix s1) s2) fun M2 => some (0, M2)
theorem z_As_joinTests_69 (C : Cx p s m args meth c G b_As_joinTests 6 "PrairiePool$Asker" none) (hlev : 0 ≤ lev) {r : Int × Mem}  {s1 s2 : Int} {M : Mem} (h : k_As_joinTests_69 s1 s2 M = some r) : Z p l e lev s m args below meth c G 6 (MQ below (Qm G 0 r) args s 0 0 (Ab G)) M 69 [] [vl s2, vi s1, .ref (G.1 + 37)] := by
  unfold k_As_joinTests_69 at h
  obtain ⟨c1, h⟩ := chk_e h
  obtain ⟨M2, eM2, h⟩ := blet_e h
  refine z_last C x_As_joinTests_69 nk_37 ck_37 c1 eM2 ?_
  exact z_vret C x_As_joinTests_70 h
def d_As_joinTests (a1 : Int) (M : Mem) : Res := blet (M 32 8) fun v1 => if w32 v1 < 2 then (some (0, M)) else (blet (M 32 8) fun v3 => blet (sto M 32 8 (v3 - 1)) fun M4 => blet (M4 32 8) fun v5 => chk (0 ≤ w32 (v5 - 1) ∧ w32 (v5 - 1) < 64) <| blet (M4 37 (ix (v5 - 1))) fun v7 => blet (M4 32 8) fun v8 => chk (0 ≤ w32 v8 ∧ w32 v8 < 64) <| blet (M4 37 (ix v8)) fun v10 => blet (M4 32 8) fun v11 => if w32 a1 = 11 then (k_As_joinTests_69 (v11 - 1) (an64 v7 v10) M4) else (k_As_joinTests_69 (v11 - 1) (or64 v7 v10) M4))
theorem t_As_joinTests (l : Launch) (G : GX) {lev : Nat} (hlev : 0 ≤ lev) {a1 : Int} {M : Mem} {r : Int × Mem} (h : d_As_joinTests a1 M = some r) : Mt l G y_As_joinTests b_As_joinTests 6 none lev 0 [.ref (G.1 + 32), vi a1] M r := by
  refine Mt.of (by decide) (i_le rfl) ?_
  intro p e s m args below meth c C
  have C : Cx p s m args meth c G b_As_joinTests 6 "PrairiePool$Asker" none := C
  unfold d_As_joinTests at h
  refine z_sub (lv' := [(0, .ref (G.1 + 32)), (1, vi a1)]) [0, 1] rfl ?_
  refine z_aload_n C 0 x_As_joinTests_0 rfl ?_
  obtain ⟨v1, ev1, h⟩ := blet_e h
  refine z_getI (j := 8) C x_As_joinTests_1 nk_32 ck_32 cw_0 (i_lt rfl) rfl rfl fl_As_81 ev1 ?_
  refine z_iconst C x_As_joinTests_4 ?_
  rcases ite_e h with ⟨c2, h⟩ | ⟨c2, h⟩
  · refine z_icmp_ge_f (tgt := 9) C x_As_joinTests_5 rfl c2 ?_
    exact z_vret C x_As_joinTests_8 h
  · refine z_icmp_ge_t (tgt := 9) C x_As_joinTests_5 rfl c2 ?_
    refine z_aload_n C 0 x_As_joinTests_9 rfl ?_
    refine z_dup C x_As_joinTests_10 rfl ?_
    obtain ⟨v3, ev3, h⟩ := blet_e h
    refine z_getI (j := 8) C x_As_joinTests_11 nk_32 ck_32 cw_0 (i_lt rfl) rfl rfl fl_As_81 ev3 ?_
    refine z_iconst C x_As_joinTests_14 ?_
    refine z_isub C x_As_joinTests_15 ?_
    obtain ⟨M4, eM4, h⟩ := blet_e h
    refine z_putI (j := 8) C x_As_joinTests_16 nk_32 ck_32 cw_0 (i_lt rfl) rfl rfl rfl rfl fl_As_81 eM4 ?_
    refine z_aload_n C 0 x_As_joinTests_19 rfl ?_
    refine z_getR (j := 6) C x_As_joinTests_20 nk_32 ck_32 cw_0 (i_lt rfl) rfl rf_32_6 rfl fl_As_32 ?_
    refine z_aload_n C 0 x_As_joinTests_23 rfl ?_
    obtain ⟨v5, ev5, h⟩ := blet_e h
    refine z_getI (j := 8) C x_As_joinTests_24 nk_32 ck_32 cw_0 (i_lt rfl) rfl rfl fl_As_81 ev5 ?_
    refine z_iconst C x_As_joinTests_27 ?_
    refine z_isub C x_As_joinTests_28 ?_
    obtain ⟨c6, h⟩ := chk_e h
    obtain ⟨v7, ev7, h⟩ := blet_e h
    refine z_lald C x_As_joinTests_29 nk_37 ck_37 c6 ev7 ?_
    refine z_lstore_n (lv' := [(2, vl v7), (0, .ref (G.1 + 32)), (1, vi a1)]) C rfl x_As_joinTests_30 (i_lt rfl) rfl ?_
    refine z_aload_n C 1 x_As_joinTests_31 rfl ?_
    refine z_getR (j := 6) C x_As_joinTests_32 nk_32 ck_32 cw_0 (i_lt rfl) rfl rf_32_6 rfl fl_As_32 ?_
    refine z_aload_n C 1 x_As_joinTests_35 rfl ?_
    obtain ⟨v8, ev8, h⟩ := blet_e h
    refine z_getI (j := 8) C x_As_joinTests_36 nk_32 ck_32 cw_0 (i_lt rfl) rfl rfl fl_As_81 ev8 ?_
    obtain ⟨c9, h⟩ := chk_e h
    obtain ⟨v10, ev10, h⟩ := blet_e h
    refine z_lald C x_As_joinTests_39 nk_37 ck_37 c9 ev10 ?_
    refine z_lstore (lv' := [(4, vl v10), (2, vl v7), (0, .ref (G.1 + 32)), (1, vi a1)]) C rfl x_As_joinTests_40 (i_lt rfl) rfl ?_
    refine z_aload_n C 2 x_As_joinTests_42 rfl ?_
    refine z_getR (j := 6) C x_As_joinTests_43 nk_32 ck_32 cw_0 (i_lt rfl) rfl rf_32_6 rfl fl_As_32 ?_
    refine z_aload_n C 2 x_As_joinTests_46 rfl ?_
    obtain ⟨v11, ev11, h⟩ := blet_e h
    refine z_getI (j := 8) C x_As_joinTests_47 nk_32 ck_32 cw_0 (i_lt rfl) rfl rfl fl_As_81 ev11 ?_
    refine z_iconst C x_As_joinTests_50 ?_
    refine z_isub C x_As_joinTests_51 ?_
    refine z_iload_n C 3 x_As_joinTests_52 rfl ?_
    refine z_bipush C rfl x_As_joinTests_53 ?_
    rcases ite_e h with ⟨c12, h⟩ | ⟨c12, h⟩
    · refine z_icmp_ne_f (tgt := 65) C x_As_joinTests_55 rfl c12 ?_
      refine z_lload_n C 1 x_As_joinTests_58 rfl ?_
      refine z_lload C 0 x_As_joinTests_59 rfl ?_
      refine z_land C x_As_joinTests_61 ?_
      refine z_goto (tgt := 69) C x_As_joinTests_62 rfl ?_
      exact z_sub [] rfl (z_As_joinTests_69 C hlev h)
    · refine z_icmp_ne_t (tgt := 65) C x_As_joinTests_55 rfl c12 ?_
      refine z_lload_n C 1 x_As_joinTests_65 rfl ?_
      refine z_lload C 0 x_As_joinTests_66 rfl ?_
      refine z_lor C x_As_joinTests_68 ?_
      exact z_sub [] rfl (z_As_joinTests_69 C hlev h)
theorem x_As_compare_0 : DC b_As_compare 0 (.aload_n 0) 1 1 := ⟨by decide +kernel, rfl⟩
theorem x_As_compare_1 : DC b_As_compare 1 (.getfield 81) 3 4 := ⟨by decide +kernel, rfl⟩
theorem x_As_compare_4 : DC b_As_compare 4 (.iconst 2) 1 5 := ⟨by decide +kernel, rfl⟩
theorem x_As_compare_5 : DC b_As_compare 5 (.if_icmp .ge 4) 3 8 := ⟨by decide +kernel, rfl⟩
theorem x_As_compare_8 : DC b_As_compare 8 (.return_) 1 9 := ⟨by decide +kernel, rfl⟩
theorem x_As_compare_9 : DC b_As_compare 9 (.aload_n 0) 1 10 := ⟨by decide +kernel, rfl⟩
theorem x_As_compare_10 : DC b_As_compare 10 (.dup) 1 11 := ⟨by decide +kernel, rfl⟩
theorem x_As_compare_11 : DC b_As_compare 11 (.getfield 81) 3 14 := ⟨by decide +kernel, rfl⟩
theorem x_As_compare_14 : DC b_As_compare 14 (.iconst 1) 1 15 := ⟨by decide +kernel, rfl⟩
theorem x_As_compare_15 : DC b_As_compare 15 (.isub) 1 16 := ⟨by decide +kernel, rfl⟩
theorem x_As_compare_16 : DC b_As_compare 16 (.putfield 81) 3 19 := ⟨by decide +kernel, rfl⟩
theorem x_As_compare_19 : DC b_As_compare 19 (.aload_n 0) 1 20 := ⟨by decide +kernel, rfl⟩
theorem x_As_compare_20 : DC b_As_compare 20 (.getfield 35) 3 23 := ⟨by decide +kernel, rfl⟩
theorem x_As_compare_23 : DC b_As_compare 23 (.aload_n 0) 1 24 := ⟨by decide +kernel, rfl⟩
theorem x_As_compare_24 : DC b_As_compare 24 (.getfield 81) 3 27 := ⟨by decide +kernel, rfl⟩
theorem x_As_compare_27 : DC b_As_compare 27 (.iconst 1) 1 28 := ⟨by decide +kernel, rfl⟩
theorem x_As_compare_28 : DC b_As_compare 28 (.isub) 1 29 := ⟨by decide +kernel, rfl⟩
theorem x_As_compare_29 : DC b_As_compare 29 (.baload) 1 30 := ⟨by decide +kernel, rfl⟩
theorem x_As_compare_30 : DC b_As_compare 30 (.ifCond .ne 15) 3 33 := ⟨by decide +kernel, rfl⟩
theorem x_As_compare_33 : DC b_As_compare 33 (.aload_n 0) 1 34 := ⟨by decide +kernel, rfl⟩
theorem x_As_compare_34 : DC b_As_compare 34 (.getfield 35) 3 37 := ⟨by decide +kernel, rfl⟩
theorem x_As_compare_37 : DC b_As_compare 37 (.aload_n 0) 1 38 := ⟨by decide +kernel, rfl⟩
theorem x_As_compare_38 : DC b_As_compare 38 (.getfield 81) 3 41 := ⟨by decide +kernel, rfl⟩
theorem x_As_compare_41 : DC b_As_compare 41 (.baload) 1 42 := ⟨by decide +kernel, rfl⟩
theorem x_As_compare_42 : DC b_As_compare 42 (.ifCond .eq 7) 3 45 := ⟨by decide +kernel, rfl⟩
theorem x_As_compare_45 : DC b_As_compare 45 (.iconst 1) 1 46 := ⟨by decide +kernel, rfl⟩
theorem x_As_compare_46 : DC b_As_compare 46 (.goto 4) 3 49 := ⟨by decide +kernel, rfl⟩
theorem x_As_compare_49 : DC b_As_compare 49 (.iconst 0) 1 50 := ⟨by decide +kernel, rfl⟩
theorem x_As_compare_50 : DC b_As_compare 50 (.istore_n 3) 1 51 := ⟨by decide +kernel, rfl⟩
theorem x_As_compare_51 : DC b_As_compare 51 (.aload_n 0) 1 52 := ⟨by decide +kernel, rfl⟩
theorem x_As_compare_52 : DC b_As_compare 52 (.getfield 32) 3 55 := ⟨by decide +kernel, rfl⟩
theorem x_As_compare_55 : DC b_As_compare 55 (.aload_n 0) 1 56 := ⟨by decide +kernel, rfl⟩
theorem x_As_compare_56 : DC b_As_compare 56 (.getfield 81) 3 59 := ⟨by decide +kernel, rfl⟩
theorem x_As_compare_59 : DC b_As_compare 59 (.iconst 1) 1 60 := ⟨by decide +kernel, rfl⟩
theorem x_As_compare_60 : DC b_As_compare 60 (.isub) 1 61 := ⟨by decide +kernel, rfl⟩
theorem x_As_compare_61 : DC b_As_compare 61 (.laload) 1 62 := ⟨by decide +kernel, rfl⟩
theorem x_As_compare_62 : DC b_As_compare 62 (.aload_n 0) 1 63 := ⟨by decide +kernel, rfl⟩
theorem x_As_compare_63 : DC b_As_compare 63 (.getfield 32) 3 66 := ⟨by decide +kernel, rfl⟩
theorem x_As_compare_66 : DC b_As_compare 66 (.aload_n 0) 1 67 := ⟨by decide +kernel, rfl⟩
theorem x_As_compare_67 : DC b_As_compare 67 (.getfield 81) 3 70 := ⟨by decide +kernel, rfl⟩
theorem x_As_compare_70 : DC b_As_compare 70 (.laload) 1 71 := ⟨by decide +kernel, rfl⟩
theorem x_As_compare_71 : DC b_As_compare 71 (.invokestatic 119) 3 74 := ⟨by decide +kernel, rfl⟩
theorem x_As_compare_74 : DC b_As_compare 74 (.istore 4) 2 76 := ⟨by decide +kernel, rfl⟩
theorem x_As_compare_76 : DC b_As_compare 76 (.iload_n 1) 1 77 := ⟨by decide +kernel, rfl⟩
theorem x_As_compare_77 : DC b_As_compare 77 (.bipush 13) 2 79 := ⟨by decide +kernel, rfl⟩
theorem x_As_compare_79 : DC b_As_compare 79 (.if_icmp .ne 16) 3 82 := ⟨by decide +kernel, rfl⟩
theorem x_As_compare_82 : DC b_As_compare 82 (.iload 4) 2 84 := ⟨by decide +kernel, rfl⟩
theorem x_As_compare_84 : DC b_As_compare 84 (.ifCond .ge 7) 3 87 := ⟨by decide +kernel, rfl⟩
theorem x_As_compare_87 : DC b_As_compare 87 (.iconst 1) 1 88 := ⟨by decide +kernel, rfl⟩
theorem x_As_compare_88 : DC b_As_compare 88 (.goto 36) 3 91 := ⟨by decide +kernel, rfl⟩
theorem x_As_compare_91 : DC b_As_compare 91 (.iconst 0) 1 92 := ⟨by decide +kernel, rfl⟩
theorem x_As_compare_92 : DC b_As_compare 92 (.goto 32) 3 95 := ⟨by decide +kernel, rfl⟩
theorem x_As_compare_95 : DC b_As_compare 95 (.iload_n 1) 1 96 := ⟨by decide +kernel, rfl⟩
theorem x_As_compare_96 : DC b_As_compare 96 (.bipush 14) 2 98 := ⟨by decide +kernel, rfl⟩
theorem x_As_compare_98 : DC b_As_compare 98 (.if_icmp .ne 16) 3 101 := ⟨by decide +kernel, rfl⟩
theorem x_As_compare_101 : DC b_As_compare 101 (.iload 4) 2 103 := ⟨by decide +kernel, rfl⟩
theorem x_As_compare_103 : DC b_As_compare 103 (.ifCond .le 7) 3 106 := ⟨by decide +kernel, rfl⟩
theorem x_As_compare_106 : DC b_As_compare 106 (.iconst 1) 1 107 := ⟨by decide +kernel, rfl⟩
theorem x_As_compare_107 : DC b_As_compare 107 (.goto 17) 3 110 := ⟨by decide +kernel, rfl⟩
theorem x_As_compare_110 : DC b_As_compare 110 (.iconst 0) 1 111 := ⟨by decide +kernel, rfl⟩
theorem x_As_compare_111 : DC b_As_compare 111 (.goto 13) 3 114 := ⟨by decide +kernel, rfl⟩
theorem x_As_compare_114 : DC b_As_compare 114 (.iload 4) 2 116 := ⟨by decide +kernel, rfl⟩
theorem x_As_compare_116 : DC b_As_compare 116 (.ifCond .ne 7) 3 119 := ⟨by decide +kernel, rfl⟩
theorem x_As_compare_119 : DC b_As_compare 119 (.iconst 1) 1 120 := ⟨by decide +kernel, rfl⟩
theorem x_As_compare_120 : DC b_As_compare 120 (.goto 4) 3 123 := ⟨by decide +kernel, rfl⟩
theorem x_As_compare_123 : DC b_As_compare 123 (.iconst 0) 1 124 := ⟨by decide +kernel, rfl⟩
theorem x_As_compare_124 : DC b_As_compare 124 (.istore 5) 2 126 := ⟨by decide +kernel, rfl⟩
theorem x_As_compare_126 : DC b_As_compare 126 (.aload_n 0) 1 127 := ⟨by decide +kernel, rfl⟩
theorem x_As_compare_127 : DC b_As_compare 127 (.getfield 32) 3 130 := ⟨by decide +kernel, rfl⟩
theorem x_As_compare_130 : DC b_As_compare 130 (.aload_n 0) 1 131 := ⟨by decide +kernel, rfl⟩
theorem x_As_compare_131 : DC b_As_compare 131 (.getfield 81) 3 134 := ⟨by decide +kernel, rfl⟩
theorem x_As_compare_134 : DC b_As_compare 134 (.iconst 1) 1 135 := ⟨by decide +kernel, rfl⟩
theorem x_As_compare_135 : DC b_As_compare 135 (.isub) 1 136 := ⟨by decide +kernel, rfl⟩
theorem x_As_compare_136 : DC b_As_compare 136 (.iload_n 3) 1 137 := ⟨by decide +kernel, rfl⟩
theorem x_As_compare_137 : DC b_As_compare 137 (.ifCond .ne 13) 3 140 := ⟨by decide +kernel, rfl⟩
theorem x_As_compare_140 : DC b_As_compare 140 (.iload 5) 2 142 := ⟨by decide +kernel, rfl⟩
theorem x_As_compare_142 : DC b_As_compare 142 (.iload_n 2) 1 143 := ⟨by decide +kernel, rfl⟩
theorem x_As_compare_143 : DC b_As_compare 143 (.if_icmp .eq 7) 3 146 := ⟨by decide +kernel, rfl⟩
theorem x_As_compare_146 : DC b_As_compare 146 (.lconst 1) 1 147 := ⟨by decide +kernel, rfl⟩
theorem x_As_compare_147 : DC b_As_compare 147 (.goto 4) 3 150 := ⟨by decide +kernel, rfl⟩
theorem x_As_compare_150 : DC b_As_compare 150 (.lconst 0) 1 151 := ⟨by decide +kernel, rfl⟩
theorem x_As_compare_151 : DC b_As_compare 151 (.lastore) 1 152 := ⟨by decide +kernel, rfl⟩
theorem x_As_compare_152 : DC b_As_compare 152 (.aload_n 0) 1 153 := ⟨by decide +kernel, rfl⟩
theorem x_As_compare_153 : DC b_As_compare 153 (.getfield 35) 3 156 := ⟨by decide +kernel, rfl⟩
theorem x_As_compare_156 : DC b_As_compare 156 (.aload_n 0) 1 157 := ⟨by decide +kernel, rfl⟩
theorem x_As_compare_157 : DC b_As_compare 157 (.getfield 81) 3 160 := ⟨by decide +kernel, rfl⟩
theorem x_As_compare_160 : DC b_As_compare 160 (.iconst 1) 1 161 := ⟨by decide +kernel, rfl⟩
theorem x_As_compare_161 : DC b_As_compare 161 (.isub) 1 162 := ⟨by decide +kernel, rfl⟩
theorem x_As_compare_162 : DC b_As_compare 162 (.iconst 0) 1 163 := ⟨by decide +kernel, rfl⟩
theorem x_As_compare_163 : DC b_As_compare 163 (.bastore) 1 164 := ⟨by decide +kernel, rfl⟩
theorem x_As_compare_164 : DC b_As_compare 164 (.return_) 1 165 := ⟨by decide +kernel, rfl⟩
def k_As_compare_151 (s1 s2 : Int) (M : Mem) : Res := chk (0 ≤ w32 s1 ∧ w32 s1 < 64) <| blet (sto M 37 (ix s1) s2) fun M2 => blet (M2 32 8) fun v3 => chk (0 ≤ w32 (v3 - 1) ∧ w32 (v3 - 1) < 64) <| blet (sto M2 38 (ix (v3 - 1)) 0) fun M5 => some (0, M5)
theorem z_As_compare_151 (C : Cx p s m args meth c G b_As_compare 6 "PrairiePool$Asker" none) (hlev : 1 ≤ lev) {r : Int × Mem}  {s1 s2 : Int} {M : Mem} (h : k_As_compare_151 s1 s2 M = some r) : Z p l e lev s m args below meth c G 6 (MQ below (Qm G 0 r) args s 0 0 (Ab G)) M 151 [(0, .ref (G.1 + 32))] [vl s2, vi s1, .ref (G.1 + 37)] := by
  unfold k_As_compare_151 at h
  obtain ⟨c1, h⟩ := chk_e h
  obtain ⟨M2, eM2, h⟩ := blet_e h
  refine z_last C x_As_compare_151 nk_37 ck_37 c1 eM2 ?_
  refine z_aload_n C 0 x_As_compare_152 rfl ?_
  refine z_getR (j := 7) C x_As_compare_153 nk_32 ck_32 cw_0 (i_lt rfl) rfl rf_32_7 rfl fl_As_35 ?_
  refine z_aload_n C 0 x_As_compare_156 rfl ?_
  obtain ⟨v3, ev3, h⟩ := blet_e h
  refine z_getI (j := 8) C x_As_compare_157 nk_32 ck_32 cw_0 (i_lt rfl) rfl rfl fl_As_81 ev3 ?_
  refine z_iconst C x_As_compare_160 ?_
  refine z_isub C x_As_compare_161 ?_
  refine z_iconst C x_As_compare_162 ?_
  obtain ⟨c4, h⟩ := chk_e h
  obtain ⟨M5, eM5, h⟩ := blet_e h
  refine z_zast C x_As_compare_163 nk_38 ck_38 c4 eM5 ?_
  exact z_vret C x_As_compare_164 h
def k_As_compare_150 (s1 : Int) (M : Mem) : Res := k_As_compare_151 s1 0 M
theorem z_As_compare_150 (C : Cx p s m args meth c G b_As_compare 6 "PrairiePool$Asker" none) (hlev : 1 ≤ lev) {r : Int × Mem}  {s1 : Int} {M : Mem} (h : k_As_compare_150 s1 M = some r) : Z p l e lev s m args below meth c G 6 (MQ below (Qm G 0 r) args s 0 0 (Ab G)) M 150 [(0, .ref (G.1 + 32))] [vi s1, .ref (G.1 + 37)] := by
  unfold k_As_compare_150 at h
  refine z_lconst0 C x_As_compare_150 ?_
  exact z_sub [0] rfl (z_As_compare_151 C hlev h)
def k_As_compare_124 (a2 a3 s0 : Int) (M : Mem) : Res := blet (M 32 8) fun v1 => if w32 a3 = 0 then (if w32 s0 = w32 a2 then (k_As_compare_150 (v1 - 1) M) else (k_As_compare_151 (v1 - 1) 1 M)) else (k_As_compare_150 (v1 - 1) M)
theorem z_As_compare_124 (C : Cx p s m args meth c G b_As_compare 6 "PrairiePool$Asker" none) (hlev : 1 ≤ lev) {r : Int × Mem}  {a2 a3 s0 : Int} {M : Mem} (h : k_As_compare_124 a2 a3 s0 M = some r) : Z p l e lev s m args below meth c G 6 (MQ below (Qm G 0 r) args s 0 0 (Ab G)) M 124 [(0, .ref (G.1 + 32)), (2, vi a2), (3, vi a3)] [vi s0] := by
  unfold k_As_compare_124 at h
  refine z_istore (lv' := [(5, vi s0), (0, .ref (G.1 + 32)), (2, vi a2), (3, vi a3)]) C rfl x_As_compare_124 (i_lt rfl) rfl ?_
  refine z_aload_n C 1 x_As_compare_126 rfl ?_
  refine z_getR (j := 6) C x_As_compare_127 nk_32 ck_32 cw_0 (i_lt rfl) rfl rf_32_6 rfl fl_As_32 ?_
  refine z_aload_n C 1 x_As_compare_130 rfl ?_
  obtain ⟨v1, ev1, h⟩ := blet_e h
  refine z_getI (j := 8) C x_As_compare_131 nk_32 ck_32 cw_0 (i_lt rfl) rfl rfl fl_As_81 ev1 ?_
  refine z_iconst C x_As_compare_134 ?_
  refine z_isub C x_As_compare_135 ?_
  refine z_iload_n C 3 x_As_compare_136 rfl ?_
  rcases ite_e h with ⟨c2, h⟩ | ⟨c2, h⟩
  · refine z_if_ne_f (tgt := 150) C x_As_compare_137 rfl c2 ?_
    refine z_iload C 0 x_As_compare_140 rfl ?_
    refine z_iload_n C 2 x_As_compare_142 rfl ?_
    rcases ite_e h with ⟨c3, h⟩ | ⟨c3, h⟩
    · refine z_icmp_eq_t (tgt := 150) C x_As_compare_143 rfl c3 ?_
      exact z_sub [1] rfl (z_As_compare_150 C hlev h)
    · refine z_icmp_eq_f (tgt := 150) C x_As_compare_143 rfl c3 ?_
      refine z_lconst1 C x_As_compare_146 ?_
      refine z_goto (tgt := 151) C x_As_compare_147 rfl ?_
      exact z_sub [1] rfl (z_As_compare_151 C hlev h)
  · refine z_if_ne_t (tgt := 150) C x_As_compare_137 rfl c2 ?_
    exact z_sub [1] rfl (z_As_compare_150 C hlev h)
def k_As_compare_50 (a1 a2 s0 : Int) (M : Mem) : Res := blet (M 32 8) fun v1 => chk (0 ≤ w32 (v1 - 1) ∧ w32 (v1 - 1) < 64) <| blet (M 37 (ix (v1 - 1))) fun v3 => blet (M 32 8) fun v4 => chk (0 ≤ w32 v4 ∧ w32 v4 < 64) <| blet (M 37 (ix v4)) fun v6 => bcall (d_Lo_compare v3 v6 M) fun v7 M8 => if w32 a1 = 13 then (if w32 v7 < 0 then (k_As_compare_124 a2 s0 1 M8) else (k_As_compare_124 a2 s0 0 M8)) else (if w32 a1 = 14 then (if 0 < w32 v7 then (k_As_compare_124 a2 s0 1 M8) else (k_As_compare_124 a2 s0 0 M8)) else (if w32 v7 = 0 then (k_As_compare_124 a2 s0 1 M8) else (k_As_compare_124 a2 s0 0 M8)))
theorem z_As_compare_50 (C : Cx p s m args meth c G b_As_compare 6 "PrairiePool$Asker" none) (hlev : 1 ≤ lev) {r : Int × Mem}  {a1 a2 s0 : Int} {M : Mem} (h : k_As_compare_50 a1 a2 s0 M = some r) : Z p l e lev s m args below meth c G 6 (MQ below (Qm G 0 r) args s 0 0 (Ab G)) M 50 [(0, .ref (G.1 + 32)), (1, vi a1), (2, vi a2)] [vi s0] := by
  unfold k_As_compare_50 at h
  refine z_istore_n (lv' := [(3, vi s0), (0, .ref (G.1 + 32)), (1, vi a1), (2, vi a2)]) C rfl x_As_compare_50 (i_lt rfl) rfl ?_
  refine z_aload_n C 1 x_As_compare_51 rfl ?_
  refine z_getR (j := 6) C x_As_compare_52 nk_32 ck_32 cw_0 (i_lt rfl) rfl rf_32_6 rfl fl_As_32 ?_
  refine z_aload_n C 1 x_As_compare_55 rfl ?_
  obtain ⟨v1, ev1, h⟩ := blet_e h
  refine z_getI (j := 8) C x_As_compare_56 nk_32 ck_32 cw_0 (i_lt rfl) rfl rfl fl_As_81 ev1 ?_
  refine z_iconst C x_As_compare_59 ?_
  refine z_isub C x_As_compare_60 ?_
  obtain ⟨c2, h⟩ := chk_e h
  obtain ⟨v3, ev3, h⟩ := blet_e h
  refine z_lald C x_As_compare_61 nk_37 ck_37 c2 ev3 ?_
  refine z_aload_n C 1 x_As_compare_62 rfl ?_
  refine z_getR (j := 6) C x_As_compare_63 nk_32 ck_32 cw_0 (i_lt rfl) rfl rf_32_6 rfl fl_As_32 ?_
  refine z_aload_n C 1 x_As_compare_66 rfl ?_
  obtain ⟨v4, ev4, h⟩ := blet_e h
  refine z_getI (j := 8) C x_As_compare_67 nk_32 ck_32 cw_0 (i_lt rfl) rfl rfl fl_As_81 ev4 ?_
  obtain ⟨c5, h⟩ := chk_e h
  obtain ⟨v6, ev6, h⟩ := blet_e h
  refine z_lald C x_As_compare_70 nk_37 ck_37 c5 ev6 ?_
  obtain ⟨v7, M8, fv7, h⟩ := bcall_e h
  refine z_callSi C x_As_compare_71 cs_As_119 (t_Lo_compare (lev := lev - 1) l G (by omega) fv7) (by omega) rfl (i_le rfl) rfl ?_
  refine z_istore (lv' := [(4, vi v7), (3, vi s0), (0, .ref (G.1 + 32)), (1, vi a1), (2, vi a2)]) C rfl x_As_compare_74 (i_lt rfl) rfl ?_
  refine z_iload_n C 3 x_As_compare_76 rfl ?_
  refine z_bipush C rfl x_As_compare_77 ?_
  rcases ite_e h with ⟨c9, h⟩ | ⟨c9, h⟩
  · refine z_icmp_ne_f (tgt := 95) C x_As_compare_79 rfl c9 ?_
    refine z_iload C 0 x_As_compare_82 rfl ?_
    rcases ite_e h with ⟨c10, h⟩ | ⟨c10, h⟩
    · refine z_if_ge_f (tgt := 91) C x_As_compare_84 rfl c10 ?_
      refine z_iconst C x_As_compare_87 ?_
      refine z_goto (tgt := 124) C x_As_compare_88 rfl ?_
      exact z_sub [2, 4, 1] rfl (z_As_compare_124 C hlev h)
    · refine z_if_ge_t (tgt := 91) C x_As_compare_84 rfl c10 ?_
      refine z_iconst C x_As_compare_91 ?_
      refine z_goto (tgt := 124) C x_As_compare_92 rfl ?_
      exact z_sub [2, 4, 1] rfl (z_As_compare_124 C hlev h)
  · refine z_icmp_ne_t (tgt := 95) C x_As_compare_79 rfl c9 ?_
    refine z_iload_n C 3 x_As_compare_95 rfl ?_
    refine z_bipush C rfl x_As_compare_96 ?_
    rcases ite_e h with ⟨c11, h⟩ | ⟨c11, h⟩
    · refine z_icmp_ne_f (tgt := 114) C x_As_compare_98 rfl c11 ?_
      refine z_iload C 0 x_As_compare_101 rfl ?_
      rcases ite_e h with ⟨c12, h⟩ | ⟨c12, h⟩
      · refine z_if_le_f (tgt := 110) C x_As_compare_103 rfl c12 ?_
        refine z_iconst C x_As_compare_106 ?_
        refine z_goto (tgt := 124) C x_As_compare_107 rfl ?_
        exact z_sub [2, 4, 1] rfl (z_As_compare_124 C hlev h)
      · refine z_if_le_t (tgt := 110) C x_As_compare_103 rfl c12 ?_
        refine z_iconst C x_As_compare_110 ?_
        refine z_goto (tgt := 124) C x_As_compare_111 rfl ?_
        exact z_sub [2, 4, 1] rfl (z_As_compare_124 C hlev h)
    · refine z_icmp_ne_t (tgt := 114) C x_As_compare_98 rfl c11 ?_
      refine z_iload C 0 x_As_compare_114 rfl ?_
      rcases ite_e h with ⟨c13, h⟩ | ⟨c13, h⟩
      · refine z_if_ne_f (tgt := 123) C x_As_compare_116 rfl c13 ?_
        refine z_iconst C x_As_compare_119 ?_
        refine z_goto (tgt := 124) C x_As_compare_120 rfl ?_
        exact z_sub [2, 4, 1] rfl (z_As_compare_124 C hlev h)
      · refine z_if_ne_t (tgt := 123) C x_As_compare_116 rfl c13 ?_
        refine z_iconst C x_As_compare_123 ?_
        exact z_sub [2, 4, 1] rfl (z_As_compare_124 C hlev h)
def k_As_compare_45 (a1 a2 : Int) (M : Mem) : Res := k_As_compare_50 a1 a2 1 M
theorem z_As_compare_45 (C : Cx p s m args meth c G b_As_compare 6 "PrairiePool$Asker" none) (hlev : 1 ≤ lev) {r : Int × Mem}  {a1 a2 : Int} {M : Mem} (h : k_As_compare_45 a1 a2 M = some r) : Z p l e lev s m args below meth c G 6 (MQ below (Qm G 0 r) args s 0 0 (Ab G)) M 45 [(0, .ref (G.1 + 32)), (1, vi a1), (2, vi a2)] [] := by
  unfold k_As_compare_45 at h
  refine z_iconst C x_As_compare_45 ?_
  refine z_goto (tgt := 50) C x_As_compare_46 rfl ?_
  exact z_sub [0, 1, 2] rfl (z_As_compare_50 C hlev h)
def d_As_compare (a1 a2 : Int) (M : Mem) : Res := blet (M 32 8) fun v1 => if w32 v1 < 2 then (some (0, M)) else (blet (M 32 8) fun v3 => blet (sto M 32 8 (v3 - 1)) fun M4 => blet (M4 32 8) fun v5 => chk (0 ≤ w32 (v5 - 1) ∧ w32 (v5 - 1) < 64) <| blet (M4 38 (ix (v5 - 1)) % 2) fun v7 => if w32 v7 = 0 then (blet (M4 32 8) fun v9 => chk (0 ≤ w32 v9 ∧ w32 v9 < 64) <| blet (M4 38 (ix v9) % 2) fun v11 => if w32 v11 = 0 then (k_As_compare_50 a1 a2 0 M4) else (k_As_compare_45 a1 a2 M4)) else (k_As_compare_45 a1 a2 M4))
theorem t_As_compare (l : Launch) (G : GX) {lev : Nat} (hlev : 1 ≤ lev) {a1 a2 : Int} {M : Mem} {r : Int × Mem} (h : d_As_compare a1 a2 M = some r) : Mt l G y_As_compare b_As_compare 6 none lev 0 [.ref (G.1 + 32), vi a1, vi a2] M r := by
  refine Mt.of (by decide) (i_le rfl) ?_
  intro p e s m args below meth c C
  have C : Cx p s m args meth c G b_As_compare 6 "PrairiePool$Asker" none := C
  unfold d_As_compare at h
  refine z_sub (lv' := [(0, .ref (G.1 + 32)), (1, vi a1), (2, vi a2)]) [0, 1, 2] rfl ?_
  refine z_aload_n C 0 x_As_compare_0 rfl ?_
  obtain ⟨v1, ev1, h⟩ := blet_e h
  refine z_getI (j := 8) C x_As_compare_1 nk_32 ck_32 cw_0 (i_lt rfl) rfl rfl fl_As_81 ev1 ?_
  refine z_iconst C x_As_compare_4 ?_
  rcases ite_e h with ⟨c2, h⟩ | ⟨c2, h⟩
  · refine z_icmp_ge_f (tgt := 9) C x_As_compare_5 rfl c2 ?_
    exact z_vret C x_As_compare_8 h
  · refine z_icmp_ge_t (tgt := 9) C x_As_compare_5 rfl c2 ?_
    refine z_aload_n C 0 x_As_compare_9 rfl ?_
    refine z_dup C x_As_compare_10 rfl ?_
    obtain ⟨v3, ev3, h⟩ := blet_e h
    refine z_getI (j := 8) C x_As_compare_11 nk_32 ck_32 cw_0 (i_lt rfl) rfl rfl fl_As_81 ev3 ?_
    refine z_iconst C x_As_compare_14 ?_
    refine z_isub C x_As_compare_15 ?_
    obtain ⟨M4, eM4, h⟩ := blet_e h
    refine z_putI (j := 8) C x_As_compare_16 nk_32 ck_32 cw_0 (i_lt rfl) rfl rfl rfl rfl fl_As_81 eM4 ?_
    refine z_aload_n C 0 x_As_compare_19 rfl ?_
    refine z_getR (j := 7) C x_As_compare_20 nk_32 ck_32 cw_0 (i_lt rfl) rfl rf_32_7 rfl fl_As_35 ?_
    refine z_aload_n C 0 x_As_compare_23 rfl ?_
    obtain ⟨v5, ev5, h⟩ := blet_e h
    refine z_getI (j := 8) C x_As_compare_24 nk_32 ck_32 cw_0 (i_lt rfl) rfl rfl fl_As_81 ev5 ?_
    refine z_iconst C x_As_compare_27 ?_
    refine z_isub C x_As_compare_28 ?_
    obtain ⟨c6, h⟩ := chk_e h
    obtain ⟨v7, ev7, h⟩ := blet_e h
    refine z_zald C x_As_compare_29 nk_38 ck_38 c6 ev7 ?_
    rcases ite_e h with ⟨c8, h⟩ | ⟨c8, h⟩
    · refine z_if_ne_f (tgt := 45) C x_As_compare_30 rfl c8 ?_
      refine z_aload_n C 0 x_As_compare_33 rfl ?_
      refine z_getR (j := 7) C x_As_compare_34 nk_32 ck_32 cw_0 (i_lt rfl) rfl rf_32_7 rfl fl_As_35 ?_
      refine z_aload_n C 0 x_As_compare_37 rfl ?_
      obtain ⟨v9, ev9, h⟩ := blet_e h
      refine z_getI (j := 8) C x_As_compare_38 nk_32 ck_32 cw_0 (i_lt rfl) rfl rfl fl_As_81 ev9 ?_
      obtain ⟨c10, h⟩ := chk_e h
      obtain ⟨v11, ev11, h⟩ := blet_e h
      refine z_zald C x_As_compare_41 nk_38 ck_38 c10 ev11 ?_
      rcases ite_e h with ⟨c12, h⟩ | ⟨c12, h⟩
      · refine z_if_eq_t (tgt := 49) C x_As_compare_42 rfl c12 ?_
        refine z_iconst C x_As_compare_49 ?_
        exact z_sub [0, 1, 2] rfl (z_As_compare_50 C hlev h)
      · refine z_if_eq_f (tgt := 49) C x_As_compare_42 rfl c12 ?_
        exact z_sub [0, 1, 2] rfl (z_As_compare_45 C hlev h)
    · refine z_if_ne_t (tgt := 45) C x_As_compare_30 rfl c8 ?_
      exact z_sub [0, 1, 2] rfl (z_As_compare_45 C hlev h)
theorem x_As_joined_0 : DC b_As_joined 0 (.iload_n 0) 1 1 := ⟨by decide +kernel, rfl⟩
theorem x_As_joined_1 : DC b_As_joined 1 (.tableswitch 91 4 9 #[39, 43, 47, 51, 65, 79]) 39 40 := ⟨by decide +kernel, rfl⟩
theorem x_As_joined_40 : DC b_As_joined 40 (.lload_n 1) 1 41 := ⟨by decide +kernel, rfl⟩
theorem x_As_joined_41 : DC b_As_joined 41 (.lload_n 3) 1 42 := ⟨by decide +kernel, rfl⟩
theorem x_As_joined_42 : DC b_As_joined 42 (.ladd) 1 43 := ⟨by decide +kernel, rfl⟩
theorem x_As_joined_43 : DC b_As_joined 43 (.lreturn) 1 44 := ⟨by decide +kernel, rfl⟩
theorem x_As_joined_44 : DC b_As_joined 44 (.lload_n 1) 1 45 := ⟨by decide +kernel, rfl⟩
theorem x_As_joined_45 : DC b_As_joined 45 (.lload_n 3) 1 46 := ⟨by decide +kernel, rfl⟩
theorem x_As_joined_46 : DC b_As_joined 46 (.lsub) 1 47 := ⟨by decide +kernel, rfl⟩
theorem x_As_joined_47 : DC b_As_joined 47 (.lreturn) 1 48 := ⟨by decide +kernel, rfl⟩
theorem x_As_joined_48 : DC b_As_joined 48 (.lload_n 1) 1 49 := ⟨by decide +kernel, rfl⟩
theorem x_As_joined_49 : DC b_As_joined 49 (.lload_n 3) 1 50 := ⟨by decide +kernel, rfl⟩
theorem x_As_joined_50 : DC b_As_joined 50 (.lmul) 1 51 := ⟨by decide +kernel, rfl⟩
theorem x_As_joined_51 : DC b_As_joined 51 (.lreturn) 1 52 := ⟨by decide +kernel, rfl⟩
theorem x_As_joined_52 : DC b_As_joined 52 (.lload_n 3) 1 53 := ⟨by decide +kernel, rfl⟩
theorem x_As_joined_53 : DC b_As_joined 53 (.lconst 0) 1 54 := ⟨by decide +kernel, rfl⟩
theorem x_As_joined_54 : DC b_As_joined 54 (.lcmp) 1 55 := ⟨by decide +kernel, rfl⟩
theorem x_As_joined_55 : DC b_As_joined 55 (.ifCond .ne 7) 3 58 := ⟨by decide +kernel, rfl⟩
theorem x_As_joined_58 : DC b_As_joined 58 (.lconst 0) 1 59 := ⟨by decide +kernel, rfl⟩
theorem x_As_joined_59 : DC b_As_joined 59 (.goto 6) 3 62 := ⟨by decide +kernel, rfl⟩
theorem x_As_joined_62 : DC b_As_joined 62 (.lload_n 1) 1 63 := ⟨by decide +kernel, rfl⟩
theorem x_As_joined_63 : DC b_As_joined 63 (.lload_n 3) 1 64 := ⟨by decide +kernel, rfl⟩
theorem x_As_joined_64 : DC b_As_joined 64 (.ldiv) 1 65 := ⟨by decide +kernel, rfl⟩
theorem x_As_joined_65 : DC b_As_joined 65 (.lreturn) 1 66 := ⟨by decide +kernel, rfl⟩
theorem x_As_joined_66 : DC b_As_joined 66 (.lload_n 3) 1 67 := ⟨by decide +kernel, rfl⟩
theorem x_As_joined_67 : DC b_As_joined 67 (.lconst 0) 1 68 := ⟨by decide +kernel, rfl⟩
theorem x_As_joined_68 : DC b_As_joined 68 (.lcmp) 1 69 := ⟨by decide +kernel, rfl⟩
theorem x_As_joined_69 : DC b_As_joined 69 (.ifCond .ne 7) 3 72 := ⟨by decide +kernel, rfl⟩
theorem x_As_joined_72 : DC b_As_joined 72 (.lconst 0) 1 73 := ⟨by decide +kernel, rfl⟩
theorem x_As_joined_73 : DC b_As_joined 73 (.goto 6) 3 76 := ⟨by decide +kernel, rfl⟩
theorem x_As_joined_76 : DC b_As_joined 76 (.lload_n 1) 1 77 := ⟨by decide +kernel, rfl⟩
theorem x_As_joined_77 : DC b_As_joined 77 (.lload_n 3) 1 78 := ⟨by decide +kernel, rfl⟩
theorem x_As_joined_78 : DC b_As_joined 78 (.lrem) 1 79 := ⟨by decide +kernel, rfl⟩
theorem x_As_joined_79 : DC b_As_joined 79 (.lreturn) 1 80 := ⟨by decide +kernel, rfl⟩
theorem x_As_joined_80 : DC b_As_joined 80 (.lload_n 1) 1 81 := ⟨by decide +kernel, rfl⟩
theorem x_As_joined_81 : DC b_As_joined 81 (.lload_n 3) 1 82 := ⟨by decide +kernel, rfl⟩
theorem x_As_joined_82 : DC b_As_joined 82 (.lcmp) 1 83 := ⟨by decide +kernel, rfl⟩
theorem x_As_joined_83 : DC b_As_joined 83 (.ifCond .ge 7) 3 86 := ⟨by decide +kernel, rfl⟩
theorem x_As_joined_86 : DC b_As_joined 86 (.lload_n 1) 1 87 := ⟨by decide +kernel, rfl⟩
theorem x_As_joined_87 : DC b_As_joined 87 (.goto 4) 3 90 := ⟨by decide +kernel, rfl⟩
theorem x_As_joined_90 : DC b_As_joined 90 (.lload_n 3) 1 91 := ⟨by decide +kernel, rfl⟩
theorem x_As_joined_91 : DC b_As_joined 91 (.lreturn) 1 92 := ⟨by decide +kernel, rfl⟩
theorem x_As_joined_92 : DC b_As_joined 92 (.lload_n 1) 1 93 := ⟨by decide +kernel, rfl⟩
theorem x_As_joined_93 : DC b_As_joined 93 (.lload_n 3) 1 94 := ⟨by decide +kernel, rfl⟩
theorem x_As_joined_94 : DC b_As_joined 94 (.lcmp) 1 95 := ⟨by decide +kernel, rfl⟩
theorem x_As_joined_95 : DC b_As_joined 95 (.ifCond .le 7) 3 98 := ⟨by decide +kernel, rfl⟩
theorem x_As_joined_98 : DC b_As_joined 98 (.lload_n 1) 1 99 := ⟨by decide +kernel, rfl⟩
theorem x_As_joined_99 : DC b_As_joined 99 (.goto 4) 3 102 := ⟨by decide +kernel, rfl⟩
theorem x_As_joined_102 : DC b_As_joined 102 (.lload_n 3) 1 103 := ⟨by decide +kernel, rfl⟩
theorem x_As_joined_103 : DC b_As_joined 103 (.lreturn) 1 104 := ⟨by decide +kernel, rfl⟩
def d_As_joined (a0 a1 a3 : Int) (M : Mem) : Res := if w32 a0 = 4 then (some (a1 + a3, M)) else (if w32 a0 = 5 then (some (a1 - a3, M)) else (if w32 a0 = 6 then (some (a1 * a3, M)) else (if w32 a0 = 7 then (if w64 a3 = 0 then (some (0, M)) else (chk (¬ w64 a3 = 0) <| some (dv64 a1 a3, M))) else (if w32 a0 = 8 then (if w64 a3 = 0 then (some (0, M)) else (chk (¬ w64 a3 = 0) <| some (rm64 a1 a3, M))) else (if w32 a0 = 9 then (if w64 a1 < w64 a3 then (some (a1, M)) else (some (a3, M))) else (if w64 a3 < w64 a1 then (some (a1, M)) else (some (a3, M))))))))
theorem t_As_joined (l : Launch) (G : GX) {lev : Nat} (hlev : 0 ≤ lev) {a0 a1 a3 : Int} {M : Mem} {r : Int × Mem} (h : d_As_joined a0 a1 a3 M = some r) : Mt l G y_As_joined b_As_joined 5 (some .long) lev 2 [vi a0, vl a1, vl a3] M r := by
  refine Mt.of (by decide) (i_le rfl) ?_
  intro p e s m args below meth c C
  have C : Cx p s m args meth c G b_As_joined 5 "PrairiePool$Asker" (some .long) := C
  unfold d_As_joined at h
  refine z_sub (lv' := [(0, vi a0), (1, vl a1), (3, vl a3)]) [0, 1, 2] rfl ?_
  refine z_iload_n C 0 x_As_joined_0 rfl ?_
  rcases ite_e h with ⟨c1, h⟩ | ⟨c1, h⟩
  · refine z_tableIn (tgt := 40) C x_As_joined_1 c1 (by decide) rfl rfl ?_
    refine z_lload_n C 1 x_As_joined_40 rfl ?_
    refine z_lload_n C 2 x_As_joined_41 rfl ?_
    refine z_ladd C x_As_joined_42 ?_
    exact z_lret C x_As_joined_43 h
  · rcases ite_e h with ⟨c2, h⟩ | ⟨c2, h⟩
    · refine z_tableIn (tgt := 44) C x_As_joined_1 c2 (by decide) rfl rfl ?_
      refine z_lload_n C 1 x_As_joined_44 rfl ?_
      refine z_lload_n C 2 x_As_joined_45 rfl ?_
      refine z_lsub C x_As_joined_46 ?_
      exact z_lret C x_As_joined_47 h
    · rcases ite_e h with ⟨c3, h⟩ | ⟨c3, h⟩
      · refine z_tableIn (tgt := 48) C x_As_joined_1 c3 (by decide) rfl rfl ?_
        refine z_lload_n C 1 x_As_joined_48 rfl ?_
        refine z_lload_n C 2 x_As_joined_49 rfl ?_
        refine z_lmul C x_As_joined_50 ?_
        exact z_lret C x_As_joined_51 h
      · rcases ite_e h with ⟨c4, h⟩ | ⟨c4, h⟩
        · refine z_tableIn (tgt := 52) C x_As_joined_1 c4 (by decide) rfl rfl ?_
          refine z_lload_n C 2 x_As_joined_52 rfl ?_
          refine z_lconst0 C x_As_joined_53 ?_
          refine z_lcmp C x_As_joined_54 ?_
          rcases ite_e h with ⟨c5, h⟩ | ⟨c5, h⟩
          · refine z_if_ne_f (tgt := 62) C x_As_joined_55 rfl (cm_eqz.mpr c5) ?_
            refine z_lconst0 C x_As_joined_58 ?_
            refine z_goto (tgt := 65) C x_As_joined_59 rfl ?_
            exact z_lret C x_As_joined_65 h
          · refine z_if_ne_t (tgt := 62) C x_As_joined_55 rfl (fun q => c5 (cm_eqz.mp q)) ?_
            refine z_lload_n C 1 x_As_joined_62 rfl ?_
            refine z_lload_n C 2 x_As_joined_63 rfl ?_
            obtain ⟨c6, h⟩ := chk_e h
            refine z_ldiv C c6 x_As_joined_64 ?_
            exact z_lret C x_As_joined_65 h
        · rcases ite_e h with ⟨c7, h⟩ | ⟨c7, h⟩
          · refine z_tableIn (tgt := 66) C x_As_joined_1 c7 (by decide) rfl rfl ?_
            refine z_lload_n C 2 x_As_joined_66 rfl ?_
            refine z_lconst0 C x_As_joined_67 ?_
            refine z_lcmp C x_As_joined_68 ?_
            rcases ite_e h with ⟨c8, h⟩ | ⟨c8, h⟩
            · refine z_if_ne_f (tgt := 76) C x_As_joined_69 rfl (cm_eqz.mpr c8) ?_
              refine z_lconst0 C x_As_joined_72 ?_
              refine z_goto (tgt := 79) C x_As_joined_73 rfl ?_
              exact z_lret C x_As_joined_79 h
            · refine z_if_ne_t (tgt := 76) C x_As_joined_69 rfl (fun q => c8 (cm_eqz.mp q)) ?_
              refine z_lload_n C 1 x_As_joined_76 rfl ?_
              refine z_lload_n C 2 x_As_joined_77 rfl ?_
              obtain ⟨c9, h⟩ := chk_e h
              refine z_lrem C c9 x_As_joined_78 ?_
              exact z_lret C x_As_joined_79 h
          · rcases ite_e h with ⟨c10, h⟩ | ⟨c10, h⟩
            · refine z_tableIn (tgt := 80) C x_As_joined_1 c10 (by decide) rfl rfl ?_
              refine z_lload_n C 1 x_As_joined_80 rfl ?_
              refine z_lload_n C 2 x_As_joined_81 rfl ?_
              refine z_lcmp C x_As_joined_82 ?_
              rcases ite_e h with ⟨c11, h⟩ | ⟨c11, h⟩
              · refine z_if_ge_f (tgt := 90) C x_As_joined_83 rfl (cm_lt.mpr c11) ?_
                refine z_lload_n C 1 x_As_joined_86 rfl ?_
                refine z_goto (tgt := 91) C x_As_joined_87 rfl ?_
                exact z_lret C x_As_joined_91 h
              · refine z_if_ge_t (tgt := 90) C x_As_joined_83 rfl (fun q => c11 (cm_lt.mp q)) ?_
                refine z_lload_n C 2 x_As_joined_90 rfl ?_
                exact z_lret C x_As_joined_91 h
            · refine z_tableOut (tgt := 92) C x_As_joined_1 (by omega) rfl ?_
              refine z_lload_n C 1 x_As_joined_92 rfl ?_
              refine z_lload_n C 2 x_As_joined_93 rfl ?_
              refine z_lcmp C x_As_joined_94 ?_
              rcases ite_e h with ⟨c12, h⟩ | ⟨c12, h⟩
              · refine z_if_le_f (tgt := 102) C x_As_joined_95 rfl (cm_gt.mpr c12) ?_
                refine z_lload_n C 1 x_As_joined_98 rfl ?_
                refine z_goto (tgt := 103) C x_As_joined_99 rfl ?_
                exact z_lret C x_As_joined_103 h
              · refine z_if_le_t (tgt := 102) C x_As_joined_95 rfl (fun q => c12 (cm_gt.mp q)) ?_
                refine z_lload_n C 2 x_As_joined_102 rfl ?_
                exact z_lret C x_As_joined_103 h
theorem x_As_joinNumbers_0 : DC b_As_joinNumbers 0 (.aload_n 0) 1 1 := ⟨by decide +kernel, rfl⟩
theorem x_As_joinNumbers_1 : DC b_As_joinNumbers 1 (.getfield 81) 3 4 := ⟨by decide +kernel, rfl⟩
theorem x_As_joinNumbers_4 : DC b_As_joinNumbers 4 (.iconst 2) 1 5 := ⟨by decide +kernel, rfl⟩
theorem x_As_joinNumbers_5 : DC b_As_joinNumbers 5 (.if_icmp .ge 4) 3 8 := ⟨by decide +kernel, rfl⟩
theorem x_As_joinNumbers_8 : DC b_As_joinNumbers 8 (.return_) 1 9 := ⟨by decide +kernel, rfl⟩
theorem x_As_joinNumbers_9 : DC b_As_joinNumbers 9 (.aload_n 0) 1 10 := ⟨by decide +kernel, rfl⟩
theorem x_As_joinNumbers_10 : DC b_As_joinNumbers 10 (.dup) 1 11 := ⟨by decide +kernel, rfl⟩
theorem x_As_joinNumbers_11 : DC b_As_joinNumbers 11 (.getfield 81) 3 14 := ⟨by decide +kernel, rfl⟩
theorem x_As_joinNumbers_14 : DC b_As_joinNumbers 14 (.iconst 1) 1 15 := ⟨by decide +kernel, rfl⟩
theorem x_As_joinNumbers_15 : DC b_As_joinNumbers 15 (.isub) 1 16 := ⟨by decide +kernel, rfl⟩
theorem x_As_joinNumbers_16 : DC b_As_joinNumbers 16 (.putfield 81) 3 19 := ⟨by decide +kernel, rfl⟩
theorem x_As_joinNumbers_19 : DC b_As_joinNumbers 19 (.aload_n 0) 1 20 := ⟨by decide +kernel, rfl⟩
theorem x_As_joinNumbers_20 : DC b_As_joinNumbers 20 (.getfield 32) 3 23 := ⟨by decide +kernel, rfl⟩
theorem x_As_joinNumbers_23 : DC b_As_joinNumbers 23 (.aload_n 0) 1 24 := ⟨by decide +kernel, rfl⟩
theorem x_As_joinNumbers_24 : DC b_As_joinNumbers 24 (.getfield 81) 3 27 := ⟨by decide +kernel, rfl⟩
theorem x_As_joinNumbers_27 : DC b_As_joinNumbers 27 (.laload) 1 28 := ⟨by decide +kernel, rfl⟩
theorem x_As_joinNumbers_28 : DC b_As_joinNumbers 28 (.lstore_n 2) 1 29 := ⟨by decide +kernel, rfl⟩
theorem x_As_joinNumbers_29 : DC b_As_joinNumbers 29 (.lload_n 2) 1 30 := ⟨by decide +kernel, rfl⟩
theorem x_As_joinNumbers_30 : DC b_As_joinNumbers 30 (.lconst 0) 1 31 := ⟨by decide +kernel, rfl⟩
theorem x_As_joinNumbers_31 : DC b_As_joinNumbers 31 (.lcmp) 1 32 := ⟨by decide +kernel, rfl⟩
theorem x_As_joinNumbers_32 : DC b_As_joinNumbers 32 (.ifCond .ne 19) 3 35 := ⟨by decide +kernel, rfl⟩
theorem x_As_joinNumbers_35 : DC b_As_joinNumbers 35 (.iload_n 1) 1 36 := ⟨by decide +kernel, rfl⟩
theorem x_As_joinNumbers_36 : DC b_As_joinNumbers 36 (.bipush 7) 2 38 := ⟨by decide +kernel, rfl⟩
theorem x_As_joinNumbers_38 : DC b_As_joinNumbers 38 (.if_icmp .eq 9) 3 41 := ⟨by decide +kernel, rfl⟩
theorem x_As_joinNumbers_41 : DC b_As_joinNumbers 41 (.iload_n 1) 1 42 := ⟨by decide +kernel, rfl⟩
theorem x_As_joinNumbers_42 : DC b_As_joinNumbers 42 (.bipush 8) 2 44 := ⟨by decide +kernel, rfl⟩
theorem x_As_joinNumbers_44 : DC b_As_joinNumbers 44 (.if_icmp .ne 7) 3 47 := ⟨by decide +kernel, rfl⟩
theorem x_As_joinNumbers_47 : DC b_As_joinNumbers 47 (.iconst 1) 1 48 := ⟨by decide +kernel, rfl⟩
theorem x_As_joinNumbers_48 : DC b_As_joinNumbers 48 (.goto 4) 3 51 := ⟨by decide +kernel, rfl⟩
theorem x_As_joinNumbers_51 : DC b_As_joinNumbers 51 (.iconst 0) 1 52 := ⟨by decide +kernel, rfl⟩
theorem x_As_joinNumbers_52 : DC b_As_joinNumbers 52 (.istore 4) 2 54 := ⟨by decide +kernel, rfl⟩
theorem x_As_joinNumbers_54 : DC b_As_joinNumbers 54 (.aload_n 0) 1 55 := ⟨by decide +kernel, rfl⟩
theorem x_As_joinNumbers_55 : DC b_As_joinNumbers 55 (.getfield 35) 3 58 := ⟨by decide +kernel, rfl⟩
theorem x_As_joinNumbers_58 : DC b_As_joinNumbers 58 (.aload_n 0) 1 59 := ⟨by decide +kernel, rfl⟩
theorem x_As_joinNumbers_59 : DC b_As_joinNumbers 59 (.getfield 81) 3 62 := ⟨by decide +kernel, rfl⟩
theorem x_As_joinNumbers_62 : DC b_As_joinNumbers 62 (.iconst 1) 1 63 := ⟨by decide +kernel, rfl⟩
theorem x_As_joinNumbers_63 : DC b_As_joinNumbers 63 (.isub) 1 64 := ⟨by decide +kernel, rfl⟩
theorem x_As_joinNumbers_64 : DC b_As_joinNumbers 64 (.baload) 1 65 := ⟨by decide +kernel, rfl⟩
theorem x_As_joinNumbers_65 : DC b_As_joinNumbers 65 (.ifCond .ne 20) 3 68 := ⟨by decide +kernel, rfl⟩
theorem x_As_joinNumbers_68 : DC b_As_joinNumbers 68 (.aload_n 0) 1 69 := ⟨by decide +kernel, rfl⟩
theorem x_As_joinNumbers_69 : DC b_As_joinNumbers 69 (.getfield 35) 3 72 := ⟨by decide +kernel, rfl⟩
theorem x_As_joinNumbers_72 : DC b_As_joinNumbers 72 (.aload_n 0) 1 73 := ⟨by decide +kernel, rfl⟩
theorem x_As_joinNumbers_73 : DC b_As_joinNumbers 73 (.getfield 81) 3 76 := ⟨by decide +kernel, rfl⟩
theorem x_As_joinNumbers_76 : DC b_As_joinNumbers 76 (.baload) 1 77 := ⟨by decide +kernel, rfl⟩
theorem x_As_joinNumbers_77 : DC b_As_joinNumbers 77 (.ifCond .ne 8) 3 80 := ⟨by decide +kernel, rfl⟩
theorem x_As_joinNumbers_80 : DC b_As_joinNumbers 80 (.iload 4) 2 82 := ⟨by decide +kernel, rfl⟩
theorem x_As_joinNumbers_82 : DC b_As_joinNumbers 82 (.ifCond .eq 7) 3 85 := ⟨by decide +kernel, rfl⟩
theorem x_As_joinNumbers_85 : DC b_As_joinNumbers 85 (.iconst 1) 1 86 := ⟨by decide +kernel, rfl⟩
theorem x_As_joinNumbers_86 : DC b_As_joinNumbers 86 (.goto 4) 3 89 := ⟨by decide +kernel, rfl⟩
theorem x_As_joinNumbers_89 : DC b_As_joinNumbers 89 (.iconst 0) 1 90 := ⟨by decide +kernel, rfl⟩
theorem x_As_joinNumbers_90 : DC b_As_joinNumbers 90 (.istore 5) 2 92 := ⟨by decide +kernel, rfl⟩
theorem x_As_joinNumbers_92 : DC b_As_joinNumbers 92 (.aload_n 0) 1 93 := ⟨by decide +kernel, rfl⟩
theorem x_As_joinNumbers_93 : DC b_As_joinNumbers 93 (.getfield 35) 3 96 := ⟨by decide +kernel, rfl⟩
theorem x_As_joinNumbers_96 : DC b_As_joinNumbers 96 (.aload_n 0) 1 97 := ⟨by decide +kernel, rfl⟩
theorem x_As_joinNumbers_97 : DC b_As_joinNumbers 97 (.getfield 81) 3 100 := ⟨by decide +kernel, rfl⟩
theorem x_As_joinNumbers_100 : DC b_As_joinNumbers 100 (.iconst 1) 1 101 := ⟨by decide +kernel, rfl⟩
theorem x_As_joinNumbers_101 : DC b_As_joinNumbers 101 (.isub) 1 102 := ⟨by decide +kernel, rfl⟩
theorem x_As_joinNumbers_102 : DC b_As_joinNumbers 102 (.iload 5) 2 104 := ⟨by decide +kernel, rfl⟩
theorem x_As_joinNumbers_104 : DC b_As_joinNumbers 104 (.bastore) 1 105 := ⟨by decide +kernel, rfl⟩
theorem x_As_joinNumbers_105 : DC b_As_joinNumbers 105 (.aload_n 0) 1 106 := ⟨by decide +kernel, rfl⟩
theorem x_As_joinNumbers_106 : DC b_As_joinNumbers 106 (.getfield 32) 3 109 := ⟨by decide +kernel, rfl⟩
theorem x_As_joinNumbers_109 : DC b_As_joinNumbers 109 (.aload_n 0) 1 110 := ⟨by decide +kernel, rfl⟩
theorem x_As_joinNumbers_110 : DC b_As_joinNumbers 110 (.getfield 81) 3 113 := ⟨by decide +kernel, rfl⟩
theorem x_As_joinNumbers_113 : DC b_As_joinNumbers 113 (.iconst 1) 1 114 := ⟨by decide +kernel, rfl⟩
theorem x_As_joinNumbers_114 : DC b_As_joinNumbers 114 (.isub) 1 115 := ⟨by decide +kernel, rfl⟩
theorem x_As_joinNumbers_115 : DC b_As_joinNumbers 115 (.iload 5) 2 117 := ⟨by decide +kernel, rfl⟩
theorem x_As_joinNumbers_117 : DC b_As_joinNumbers 117 (.ifCond .eq 7) 3 120 := ⟨by decide +kernel, rfl⟩
theorem x_As_joinNumbers_120 : DC b_As_joinNumbers 120 (.lconst 0) 1 121 := ⟨by decide +kernel, rfl⟩
theorem x_As_joinNumbers_121 : DC b_As_joinNumbers 121 (.goto 19) 3 124 := ⟨by decide +kernel, rfl⟩
theorem x_As_joinNumbers_124 : DC b_As_joinNumbers 124 (.iload_n 1) 1 125 := ⟨by decide +kernel, rfl⟩
theorem x_As_joinNumbers_125 : DC b_As_joinNumbers 125 (.aload_n 0) 1 126 := ⟨by decide +kernel, rfl⟩
theorem x_As_joinNumbers_126 : DC b_As_joinNumbers 126 (.getfield 32) 3 129 := ⟨by decide +kernel, rfl⟩
theorem x_As_joinNumbers_129 : DC b_As_joinNumbers 129 (.aload_n 0) 1 130 := ⟨by decide +kernel, rfl⟩
theorem x_As_joinNumbers_130 : DC b_As_joinNumbers 130 (.getfield 81) 3 133 := ⟨by decide +kernel, rfl⟩
theorem x_As_joinNumbers_133 : DC b_As_joinNumbers 133 (.iconst 1) 1 134 := ⟨by decide +kernel, rfl⟩
theorem x_As_joinNumbers_134 : DC b_As_joinNumbers 134 (.isub) 1 135 := ⟨by decide +kernel, rfl⟩
theorem x_As_joinNumbers_135 : DC b_As_joinNumbers 135 (.laload) 1 136 := ⟨by decide +kernel, rfl⟩
theorem x_As_joinNumbers_136 : DC b_As_joinNumbers 136 (.lload_n 2) 1 137 := ⟨by decide +kernel, rfl⟩
theorem x_As_joinNumbers_137 : DC b_As_joinNumbers 137 (.invokestatic 124) 3 140 := ⟨by decide +kernel, rfl⟩
theorem x_As_joinNumbers_140 : DC b_As_joinNumbers 140 (.lastore) 1 141 := ⟨by decide +kernel, rfl⟩
theorem x_As_joinNumbers_141 : DC b_As_joinNumbers 141 (.return_) 1 142 := ⟨by decide +kernel, rfl⟩
def k_As_joinNumbers_140 (s1 s2 : Int) (M : Mem) : Res := chk (0 ≤ w32 s1 ∧ w32 s1 < 64) <| blet (sto M 37 (ix s1) s2) fun M2 => some (0, M2)
theorem z_As_joinNumbers_140 (C : Cx p s m args meth c G b_As_joinNumbers 6 "PrairiePool$Asker" none) (hlev : 1 ≤ lev) {r : Int × Mem}  {s1 s2 : Int} {M : Mem} (h : k_As_joinNumbers_140 s1 s2 M = some r) : Z p l e lev s m args below meth c G 6 (MQ below (Qm G 0 r) args s 0 0 (Ab G)) M 140 [] [vl s2, vi s1, .ref (G.1 + 37)] := by
  unfold k_As_joinNumbers_140 at h
  obtain ⟨c1, h⟩ := chk_e h
  obtain ⟨M2, eM2, h⟩ := blet_e h
  refine z_last C x_As_joinNumbers_140 nk_37 ck_37 c1 eM2 ?_
  exact z_vret C x_As_joinNumbers_141 h
def k_As_joinNumbers_90 (a1 a2 s0 : Int) (M : Mem) : Res := blet (M 32 8) fun v1 => chk (0 ≤ w32 (v1 - 1) ∧ w32 (v1 - 1) < 64) <| blet (sto M 38 (ix (v1 - 1)) s0) fun M3 => blet (M3 32 8) fun v4 => if w32 s0 = 0 then (blet (M3 32 8) fun v6 => chk (0 ≤ w32 (v6 - 1) ∧ w32 (v6 - 1) < 64) <| blet (M3 37 (ix (v6 - 1))) fun v8 => bcall (d_As_joined a1 v8 a2 M3) fun v9 M10 => k_As_joinNumbers_140 (v4 - 1) v9 M10) else (k_As_joinNumbers_140 (v4 - 1) 0 M3)
theorem z_As_joinNumbers_90 (C : Cx p s m args meth c G b_As_joinNumbers 6 "PrairiePool$Asker" none) (hlev : 1 ≤ lev) {r : Int × Mem}  {a1 a2 s0 : Int} {M : Mem} (h : k_As_joinNumbers_90 a1 a2 s0 M = some r) : Z p l e lev s m args below meth c G 6 (MQ below (Qm G 0 r) args s 0 0 (Ab G)) M 90 [(0, .ref (G.1 + 32)), (1, vi a1), (2, vl a2)] [vi s0] := by
  unfold k_As_joinNumbers_90 at h
  refine z_istore (lv' := [(5, vi s0), (0, .ref (G.1 + 32)), (1, vi a1), (2, vl a2)]) C rfl x_As_joinNumbers_90 (i_lt rfl) rfl ?_
  refine z_aload_n C 1 x_As_joinNumbers_92 rfl ?_
  refine z_getR (j := 7) C x_As_joinNumbers_93 nk_32 ck_32 cw_0 (i_lt rfl) rfl rf_32_7 rfl fl_As_35 ?_
  refine z_aload_n C 1 x_As_joinNumbers_96 rfl ?_
  obtain ⟨v1, ev1, h⟩ := blet_e h
  refine z_getI (j := 8) C x_As_joinNumbers_97 nk_32 ck_32 cw_0 (i_lt rfl) rfl rfl fl_As_81 ev1 ?_
  refine z_iconst C x_As_joinNumbers_100 ?_
  refine z_isub C x_As_joinNumbers_101 ?_
  refine z_iload C 0 x_As_joinNumbers_102 rfl ?_
  obtain ⟨c2, h⟩ := chk_e h
  obtain ⟨M3, eM3, h⟩ := blet_e h
  refine z_zast C x_As_joinNumbers_104 nk_38 ck_38 c2 eM3 ?_
  refine z_aload_n C 1 x_As_joinNumbers_105 rfl ?_
  refine z_getR (j := 6) C x_As_joinNumbers_106 nk_32 ck_32 cw_0 (i_lt rfl) rfl rf_32_6 rfl fl_As_32 ?_
  refine z_aload_n C 1 x_As_joinNumbers_109 rfl ?_
  obtain ⟨v4, ev4, h⟩ := blet_e h
  refine z_getI (j := 8) C x_As_joinNumbers_110 nk_32 ck_32 cw_0 (i_lt rfl) rfl rfl fl_As_81 ev4 ?_
  refine z_iconst C x_As_joinNumbers_113 ?_
  refine z_isub C x_As_joinNumbers_114 ?_
  refine z_iload C 0 x_As_joinNumbers_115 rfl ?_
  rcases ite_e h with ⟨c5, h⟩ | ⟨c5, h⟩
  · refine z_if_eq_t (tgt := 124) C x_As_joinNumbers_117 rfl c5 ?_
    refine z_iload_n C 2 x_As_joinNumbers_124 rfl ?_
    refine z_aload_n C 1 x_As_joinNumbers_125 rfl ?_
    refine z_getR (j := 6) C x_As_joinNumbers_126 nk_32 ck_32 cw_0 (i_lt rfl) rfl rf_32_6 rfl fl_As_32 ?_
    refine z_aload_n C 1 x_As_joinNumbers_129 rfl ?_
    obtain ⟨v6, ev6, h⟩ := blet_e h
    refine z_getI (j := 8) C x_As_joinNumbers_130 nk_32 ck_32 cw_0 (i_lt rfl) rfl rfl fl_As_81 ev6 ?_
    refine z_iconst C x_As_joinNumbers_133 ?_
    refine z_isub C x_As_joinNumbers_134 ?_
    obtain ⟨c7, h⟩ := chk_e h
    obtain ⟨v8, ev8, h⟩ := blet_e h
    refine z_lald C x_As_joinNumbers_135 nk_37 ck_37 c7 ev8 ?_
    refine z_lload_n C 3 x_As_joinNumbers_136 rfl ?_
    obtain ⟨v9, M10, fv9, h⟩ := bcall_e h
    refine z_callSl C x_As_joinNumbers_137 cs_As_124 (t_As_joined (lev := lev - 1) l G (by omega) fv9) (by omega) rfl (i_le rfl) rfl ?_
    exact z_sub [] rfl (z_As_joinNumbers_140 C hlev h)
  · refine z_if_eq_f (tgt := 124) C x_As_joinNumbers_117 rfl c5 ?_
    refine z_lconst0 C x_As_joinNumbers_120 ?_
    refine z_goto (tgt := 140) C x_As_joinNumbers_121 rfl ?_
    exact z_sub [] rfl (z_As_joinNumbers_140 C hlev h)
def k_As_joinNumbers_85 (a1 a2 : Int) (M : Mem) : Res := k_As_joinNumbers_90 a1 a2 1 M
theorem z_As_joinNumbers_85 (C : Cx p s m args meth c G b_As_joinNumbers 6 "PrairiePool$Asker" none) (hlev : 1 ≤ lev) {r : Int × Mem}  {a1 a2 : Int} {M : Mem} (h : k_As_joinNumbers_85 a1 a2 M = some r) : Z p l e lev s m args below meth c G 6 (MQ below (Qm G 0 r) args s 0 0 (Ab G)) M 85 [(0, .ref (G.1 + 32)), (1, vi a1), (2, vl a2)] [] := by
  unfold k_As_joinNumbers_85 at h
  refine z_iconst C x_As_joinNumbers_85 ?_
  refine z_goto (tgt := 90) C x_As_joinNumbers_86 rfl ?_
  exact z_sub [0, 1, 2] rfl (z_As_joinNumbers_90 C hlev h)
def k_As_joinNumbers_52 (a1 a2 s0 : Int) (M : Mem) : Res := blet (M 32 8) fun v1 => chk (0 ≤ w32 (v1 - 1) ∧ w32 (v1 - 1) < 64) <| blet (M 38 (ix (v1 - 1)) % 2) fun v3 => if w32 v3 = 0 then (blet (M 32 8) fun v5 => chk (0 ≤ w32 v5 ∧ w32 v5 < 64) <| blet (M 38 (ix v5) % 2) fun v7 => if w32 v7 = 0 then (if w32 s0 = 0 then (k_As_joinNumbers_90 a1 a2 0 M) else (k_As_joinNumbers_85 a1 a2 M)) else (k_As_joinNumbers_85 a1 a2 M)) else (k_As_joinNumbers_85 a1 a2 M)
theorem z_As_joinNumbers_52 (C : Cx p s m args meth c G b_As_joinNumbers 6 "PrairiePool$Asker" none) (hlev : 1 ≤ lev) {r : Int × Mem}  {a1 a2 s0 : Int} {M : Mem} (h : k_As_joinNumbers_52 a1 a2 s0 M = some r) : Z p l e lev s m args below meth c G 6 (MQ below (Qm G 0 r) args s 0 0 (Ab G)) M 52 [(0, .ref (G.1 + 32)), (1, vi a1), (2, vl a2)] [vi s0] := by
  unfold k_As_joinNumbers_52 at h
  refine z_istore (lv' := [(4, vi s0), (0, .ref (G.1 + 32)), (1, vi a1), (2, vl a2)]) C rfl x_As_joinNumbers_52 (i_lt rfl) rfl ?_
  refine z_aload_n C 1 x_As_joinNumbers_54 rfl ?_
  refine z_getR (j := 7) C x_As_joinNumbers_55 nk_32 ck_32 cw_0 (i_lt rfl) rfl rf_32_7 rfl fl_As_35 ?_
  refine z_aload_n C 1 x_As_joinNumbers_58 rfl ?_
  obtain ⟨v1, ev1, h⟩ := blet_e h
  refine z_getI (j := 8) C x_As_joinNumbers_59 nk_32 ck_32 cw_0 (i_lt rfl) rfl rfl fl_As_81 ev1 ?_
  refine z_iconst C x_As_joinNumbers_62 ?_
  refine z_isub C x_As_joinNumbers_63 ?_
  obtain ⟨c2, h⟩ := chk_e h
  obtain ⟨v3, ev3, h⟩ := blet_e h
  refine z_zald C x_As_joinNumbers_64 nk_38 ck_38 c2 ev3 ?_
  rcases ite_e h with ⟨c4, h⟩ | ⟨c4, h⟩
  · refine z_if_ne_f (tgt := 85) C x_As_joinNumbers_65 rfl c4 ?_
    refine z_aload_n C 1 x_As_joinNumbers_68 rfl ?_
    refine z_getR (j := 7) C x_As_joinNumbers_69 nk_32 ck_32 cw_0 (i_lt rfl) rfl rf_32_7 rfl fl_As_35 ?_
    refine z_aload_n C 1 x_As_joinNumbers_72 rfl ?_
    obtain ⟨v5, ev5, h⟩ := blet_e h
    refine z_getI (j := 8) C x_As_joinNumbers_73 nk_32 ck_32 cw_0 (i_lt rfl) rfl rfl fl_As_81 ev5 ?_
    obtain ⟨c6, h⟩ := chk_e h
    obtain ⟨v7, ev7, h⟩ := blet_e h
    refine z_zald C x_As_joinNumbers_76 nk_38 ck_38 c6 ev7 ?_
    rcases ite_e h with ⟨c8, h⟩ | ⟨c8, h⟩
    · refine z_if_ne_f (tgt := 85) C x_As_joinNumbers_77 rfl c8 ?_
      refine z_iload C 0 x_As_joinNumbers_80 rfl ?_
      rcases ite_e h with ⟨c9, h⟩ | ⟨c9, h⟩
      · refine z_if_eq_t (tgt := 89) C x_As_joinNumbers_82 rfl c9 ?_
        refine z_iconst C x_As_joinNumbers_89 ?_
        exact z_sub [1, 2, 3] rfl (z_As_joinNumbers_90 C hlev h)
      · refine z_if_eq_f (tgt := 89) C x_As_joinNumbers_82 rfl c9 ?_
        exact z_sub [1, 2, 3] rfl (z_As_joinNumbers_85 C hlev h)
    · refine z_if_ne_t (tgt := 85) C x_As_joinNumbers_77 rfl c8 ?_
      exact z_sub [1, 2, 3] rfl (z_As_joinNumbers_85 C hlev h)
  · refine z_if_ne_t (tgt := 85) C x_As_joinNumbers_65 rfl c4 ?_
    exact z_sub [1, 2, 3] rfl (z_As_joinNumbers_85 C hlev h)
def k_As_joinNumbers_51 (a1 a2 : Int) (M : Mem) : Res := k_As_joinNumbers_52 a1 a2 0 M
theorem z_As_joinNumbers_51 (C : Cx p s m args meth c G b_As_joinNumbers 6 "PrairiePool$Asker" none) (hlev : 1 ≤ lev) {r : Int × Mem}  {a1 a2 : Int} {M : Mem} (h : k_As_joinNumbers_51 a1 a2 M = some r) : Z p l e lev s m args below meth c G 6 (MQ below (Qm G 0 r) args s 0 0 (Ab G)) M 51 [(0, .ref (G.1 + 32)), (1, vi a1), (2, vl a2)] [] := by
  unfold k_As_joinNumbers_51 at h
  refine z_iconst C x_As_joinNumbers_51 ?_
  exact z_sub [0, 1, 2] rfl (z_As_joinNumbers_52 C hlev h)
def k_As_joinNumbers_47 (a1 a2 : Int) (M : Mem) : Res := k_As_joinNumbers_52 a1 a2 1 M
theorem z_As_joinNumbers_47 (C : Cx p s m args meth c G b_As_joinNumbers 6 "PrairiePool$Asker" none) (hlev : 1 ≤ lev) {r : Int × Mem}  {a1 a2 : Int} {M : Mem} (h : k_As_joinNumbers_47 a1 a2 M = some r) : Z p l e lev s m args below meth c G 6 (MQ below (Qm G 0 r) args s 0 0 (Ab G)) M 47 [(0, .ref (G.1 + 32)), (1, vi a1), (2, vl a2)] [] := by
  unfold k_As_joinNumbers_47 at h
  refine z_iconst C x_As_joinNumbers_47 ?_
  refine z_goto (tgt := 52) C x_As_joinNumbers_48 rfl ?_
  exact z_sub [0, 1, 2] rfl (z_As_joinNumbers_52 C hlev h)
def d_As_joinNumbers (a1 : Int) (M : Mem) : Res := blet (M 32 8) fun v1 => if w32 v1 < 2 then (some (0, M)) else (blet (M 32 8) fun v3 => blet (sto M 32 8 (v3 - 1)) fun M4 => blet (M4 32 8) fun v5 => chk (0 ≤ w32 v5 ∧ w32 v5 < 64) <| blet (M4 37 (ix v5)) fun v7 => if w64 v7 = 0 then (if w32 a1 = 7 then (k_As_joinNumbers_47 a1 v7 M4) else (if w32 a1 = 8 then (k_As_joinNumbers_47 a1 v7 M4) else (k_As_joinNumbers_51 a1 v7 M4))) else (k_As_joinNumbers_51 a1 v7 M4))
theorem t_As_joinNumbers (l : Launch) (G : GX) {lev : Nat} (hlev : 1 ≤ lev) {a1 : Int} {M : Mem} {r : Int × Mem} (h : d_As_joinNumbers a1 M = some r) : Mt l G y_As_joinNumbers b_As_joinNumbers 6 none lev 0 [.ref (G.1 + 32), vi a1] M r := by
  refine Mt.of (by decide) (i_le rfl) ?_
  intro p e s m args below meth c C
  have C : Cx p s m args meth c G b_As_joinNumbers 6 "PrairiePool$Asker" none := C
  unfold d_As_joinNumbers at h
  refine z_sub (lv' := [(0, .ref (G.1 + 32)), (1, vi a1)]) [0, 1] rfl ?_
  refine z_aload_n C 0 x_As_joinNumbers_0 rfl ?_
  obtain ⟨v1, ev1, h⟩ := blet_e h
  refine z_getI (j := 8) C x_As_joinNumbers_1 nk_32 ck_32 cw_0 (i_lt rfl) rfl rfl fl_As_81 ev1 ?_
  refine z_iconst C x_As_joinNumbers_4 ?_
  rcases ite_e h with ⟨c2, h⟩ | ⟨c2, h⟩
  · refine z_icmp_ge_f (tgt := 9) C x_As_joinNumbers_5 rfl c2 ?_
    exact z_vret C x_As_joinNumbers_8 h
  · refine z_icmp_ge_t (tgt := 9) C x_As_joinNumbers_5 rfl c2 ?_
    refine z_aload_n C 0 x_As_joinNumbers_9 rfl ?_
    refine z_dup C x_As_joinNumbers_10 rfl ?_
    obtain ⟨v3, ev3, h⟩ := blet_e h
    refine z_getI (j := 8) C x_As_joinNumbers_11 nk_32 ck_32 cw_0 (i_lt rfl) rfl rfl fl_As_81 ev3 ?_
    refine z_iconst C x_As_joinNumbers_14 ?_
    refine z_isub C x_As_joinNumbers_15 ?_
    obtain ⟨M4, eM4, h⟩ := blet_e h
    refine z_putI (j := 8) C x_As_joinNumbers_16 nk_32 ck_32 cw_0 (i_lt rfl) rfl rfl rfl rfl fl_As_81 eM4 ?_
    refine z_aload_n C 0 x_As_joinNumbers_19 rfl ?_
    refine z_getR (j := 6) C x_As_joinNumbers_20 nk_32 ck_32 cw_0 (i_lt rfl) rfl rf_32_6 rfl fl_As_32 ?_
    refine z_aload_n C 0 x_As_joinNumbers_23 rfl ?_
    obtain ⟨v5, ev5, h⟩ := blet_e h
    refine z_getI (j := 8) C x_As_joinNumbers_24 nk_32 ck_32 cw_0 (i_lt rfl) rfl rfl fl_As_81 ev5 ?_
    obtain ⟨c6, h⟩ := chk_e h
    obtain ⟨v7, ev7, h⟩ := blet_e h
    refine z_lald C x_As_joinNumbers_27 nk_37 ck_37 c6 ev7 ?_
    refine z_lstore_n (lv' := [(2, vl v7), (0, .ref (G.1 + 32)), (1, vi a1)]) C rfl x_As_joinNumbers_28 (i_lt rfl) rfl ?_
    refine z_lload_n C 0 x_As_joinNumbers_29 rfl ?_
    refine z_lconst0 C x_As_joinNumbers_30 ?_
    refine z_lcmp C x_As_joinNumbers_31 ?_
    rcases ite_e h with ⟨c8, h⟩ | ⟨c8, h⟩
    · refine z_if_ne_f (tgt := 51) C x_As_joinNumbers_32 rfl (cm_eqz.mpr c8) ?_
      refine z_iload_n C 2 x_As_joinNumbers_35 rfl ?_
      refine z_bipush C rfl x_As_joinNumbers_36 ?_
      rcases ite_e h with ⟨c9, h⟩ | ⟨c9, h⟩
      · refine z_icmp_eq_t (tgt := 47) C x_As_joinNumbers_38 rfl c9 ?_
        exact z_sub [1, 2, 0] rfl (z_As_joinNumbers_47 C hlev h)
      · refine z_icmp_eq_f (tgt := 47) C x_As_joinNumbers_38 rfl c9 ?_
        refine z_iload_n C 2 x_As_joinNumbers_41 rfl ?_
        refine z_bipush C rfl x_As_joinNumbers_42 ?_
        rcases ite_e h with ⟨c10, h⟩ | ⟨c10, h⟩
        · refine z_icmp_ne_f (tgt := 51) C x_As_joinNumbers_44 rfl c10 ?_
          exact z_sub [1, 2, 0] rfl (z_As_joinNumbers_47 C hlev h)
        · refine z_icmp_ne_t (tgt := 51) C x_As_joinNumbers_44 rfl c10 ?_
          exact z_sub [1, 2, 0] rfl (z_As_joinNumbers_51 C hlev h)
    · refine z_if_ne_t (tgt := 51) C x_As_joinNumbers_32 rfl (fun q => c8 (cm_eqz.mp q)) ?_
      exact z_sub [1, 2, 0] rfl (z_As_joinNumbers_51 C hlev h)
theorem x_As_playStep_0 : DC b_As_playStep 0 (.iload_n 1) 1 1 := ⟨by decide +kernel, rfl⟩
theorem x_As_playStep_1 : DC b_As_playStep 1 (.tableswitch 155 0 15 #[79, 89, 103, 122, 155, 155, 155, 155, 155, 155, 155, 129, 129, 137, 137, 137]) 79 80 := ⟨by decide +kernel, rfl⟩
theorem x_As_playStep_80 : DC b_As_playStep 80 (.aload_n 0) 1 81 := ⟨by decide +kernel, rfl⟩
theorem x_As_playStep_81 : DC b_As_playStep 81 (.iload_n 2) 1 82 := ⟨by decide +kernel, rfl⟩
theorem x_As_playStep_82 : DC b_As_playStep 82 (.i2l) 1 83 := ⟨by decide +kernel, rfl⟩
theorem x_As_playStep_83 : DC b_As_playStep 83 (.iconst 0) 1 84 := ⟨by decide +kernel, rfl⟩
theorem x_As_playStep_84 : DC b_As_playStep 84 (.invokevirtual 101) 3 87 := ⟨by decide +kernel, rfl⟩
theorem x_As_playStep_87 : DC b_As_playStep 87 (.goto 74) 3 90 := ⟨by decide +kernel, rfl⟩
theorem x_As_playStep_90 : DC b_As_playStep 90 (.aload_n 0) 1 91 := ⟨by decide +kernel, rfl⟩
theorem x_As_playStep_91 : DC b_As_playStep 91 (.aload_n 0) 1 92 := ⟨by decide +kernel, rfl⟩
theorem x_As_playStep_92 : DC b_As_playStep 92 (.getfield 21) 3 95 := ⟨by decide +kernel, rfl⟩
theorem x_As_playStep_95 : DC b_As_playStep 95 (.iload_n 2) 1 96 := ⟨by decide +kernel, rfl⟩
theorem x_As_playStep_96 : DC b_As_playStep 96 (.laload) 1 97 := ⟨by decide +kernel, rfl⟩
theorem x_As_playStep_97 : DC b_As_playStep 97 (.iconst 0) 1 98 := ⟨by decide +kernel, rfl⟩
theorem x_As_playStep_98 : DC b_As_playStep 98 (.invokevirtual 101) 3 101 := ⟨by decide +kernel, rfl⟩
theorem x_As_playStep_101 : DC b_As_playStep 101 (.goto 60) 3 104 := ⟨by decide +kernel, rfl⟩
theorem x_As_playStep_104 : DC b_As_playStep 104 (.aload_n 0) 1 105 := ⟨by decide +kernel, rfl⟩
theorem x_As_playStep_105 : DC b_As_playStep 105 (.aload_n 0) 1 106 := ⟨by decide +kernel, rfl⟩
theorem x_As_playStep_106 : DC b_As_playStep 106 (.getfield 25) 3 109 := ⟨by decide +kernel, rfl⟩
theorem x_As_playStep_109 : DC b_As_playStep 109 (.iload_n 2) 1 110 := ⟨by decide +kernel, rfl⟩
theorem x_As_playStep_110 : DC b_As_playStep 110 (.laload) 1 111 := ⟨by decide +kernel, rfl⟩
theorem x_As_playStep_111 : DC b_As_playStep 111 (.aload_n 0) 1 112 := ⟨by decide +kernel, rfl⟩
theorem x_As_playStep_112 : DC b_As_playStep 112 (.getfield 28) 3 115 := ⟨by decide +kernel, rfl⟩
theorem x_As_playStep_115 : DC b_As_playStep 115 (.iload_n 2) 1 116 := ⟨by decide +kernel, rfl⟩
theorem x_As_playStep_116 : DC b_As_playStep 116 (.baload) 1 117 := ⟨by decide +kernel, rfl⟩
theorem x_As_playStep_117 : DC b_As_playStep 117 (.invokevirtual 101) 3 120 := ⟨by decide +kernel, rfl⟩
theorem x_As_playStep_120 : DC b_As_playStep 120 (.goto 41) 3 123 := ⟨by decide +kernel, rfl⟩
theorem x_As_playStep_123 : DC b_As_playStep 123 (.aload_n 0) 1 124 := ⟨by decide +kernel, rfl⟩
theorem x_As_playStep_124 : DC b_As_playStep 124 (.invokevirtual 105) 3 127 := ⟨by decide +kernel, rfl⟩
theorem x_As_playStep_127 : DC b_As_playStep 127 (.goto 34) 3 130 := ⟨by decide +kernel, rfl⟩
theorem x_As_playStep_130 : DC b_As_playStep 130 (.aload_n 0) 1 131 := ⟨by decide +kernel, rfl⟩
theorem x_As_playStep_131 : DC b_As_playStep 131 (.iload_n 1) 1 132 := ⟨by decide +kernel, rfl⟩
theorem x_As_playStep_132 : DC b_As_playStep 132 (.invokevirtual 108) 3 135 := ⟨by decide +kernel, rfl⟩
theorem x_As_playStep_135 : DC b_As_playStep 135 (.goto 26) 3 138 := ⟨by decide +kernel, rfl⟩
theorem x_As_playStep_138 : DC b_As_playStep 138 (.aload_n 0) 1 139 := ⟨by decide +kernel, rfl⟩
theorem x_As_playStep_139 : DC b_As_playStep 139 (.iload_n 1) 1 140 := ⟨by decide +kernel, rfl⟩
theorem x_As_playStep_140 : DC b_As_playStep 140 (.iload_n 2) 1 141 := ⟨by decide +kernel, rfl⟩
theorem x_As_playStep_141 : DC b_As_playStep 141 (.iconst 1) 1 142 := ⟨by decide +kernel, rfl⟩
theorem x_As_playStep_142 : DC b_As_playStep 142 (.if_icmp .ne 7) 3 145 := ⟨by decide +kernel, rfl⟩
theorem x_As_playStep_145 : DC b_As_playStep 145 (.iconst 1) 1 146 := ⟨by decide +kernel, rfl⟩
theorem x_As_playStep_146 : DC b_As_playStep 146 (.goto 4) 3 149 := ⟨by decide +kernel, rfl⟩
theorem x_As_playStep_149 : DC b_As_playStep 149 (.iconst 0) 1 150 := ⟨by decide +kernel, rfl⟩
theorem x_As_playStep_150 : DC b_As_playStep 150 (.invokevirtual 112) 3 153 := ⟨by decide +kernel, rfl⟩
theorem x_As_playStep_153 : DC b_As_playStep 153 (.goto 8) 3 156 := ⟨by decide +kernel, rfl⟩
theorem x_As_playStep_156 : DC b_As_playStep 156 (.aload_n 0) 1 157 := ⟨by decide +kernel, rfl⟩
theorem x_As_playStep_157 : DC b_As_playStep 157 (.iload_n 1) 1 158 := ⟨by decide +kernel, rfl⟩
theorem x_As_playStep_158 : DC b_As_playStep 158 (.invokevirtual 116) 3 161 := ⟨by decide +kernel, rfl⟩
theorem x_As_playStep_161 : DC b_As_playStep 161 (.return_) 1 162 := ⟨by decide +kernel, rfl⟩
def k_As_playStep_150 (s1 s2 : Int) (M : Mem) : Res := bcall (d_As_compare s1 s2 M) fun v1 M2 => some (0, M2)
theorem z_As_playStep_150 (C : Cx p s m args meth c G b_As_playStep 3 "PrairiePool$Asker" none) (hlev : 2 ≤ lev) {r : Int × Mem}  {s1 s2 : Int} {M : Mem} (h : k_As_playStep_150 s1 s2 M = some r) : Z p l e lev s m args below meth c G 3 (MQ below (Qm G 0 r) args s 0 0 (Ab G)) M 150 [] [vi s2, vi s1, .ref (G.1 + 32)] := by
  unfold k_As_playStep_150 at h
  obtain ⟨v1, M2, fv1, h⟩ := bcall_e h
  refine z_callVv (k := 32) C x_As_playStep_150 cv_As_112 (t_As_compare (lev := lev - 1) l G (by omega) fv1) nk_32 ck_32 rfl (by omega) rfl (i_le rfl) rfl ?_
  refine z_goto (tgt := 161) C x_As_playStep_153 rfl ?_
  exact z_vret C x_As_playStep_161 h
def d_As_playStep (a1 a2 : Int) (M : Mem) : Res := if w32 a1 = 0 then (bcall (d_As_push (w32 a2) 0 M) fun v2 M3 => some (0, M3)) else (if w32 a1 = 1 then (chk (0 ≤ w32 a2 ∧ w32 a2 < 11) <| blet (M 34 (ix a2)) fun v6 => bcall (d_As_push v6 0 M) fun v7 M8 => some (0, M8)) else (if w32 a1 = 2 then (chk (0 ≤ w32 a2 ∧ w32 a2 < 10) <| blet (M 35 (ix a2)) fun v11 => chk (0 ≤ w32 a2 ∧ w32 a2 < 10) <| blet (M 36 (ix a2) % 2) fun v13 => bcall (d_As_push v11 v13 M) fun v14 M15 => some (0, M15)) else (if w32 a1 = 3 then (bcall (d_As_choose M) fun v17 M18 => some (0, M18)) else (if w32 a1 = 4 then (bcall (d_As_joinNumbers a1 M) fun v20 M21 => some (0, M21)) else (if w32 a1 = 5 then (bcall (d_As_joinNumbers a1 M) fun v23 M24 => some (0, M24)) else (if w32 a1 = 6 then (bcall (d_As_joinNumbers a1 M) fun v26 M27 => some (0, M27)) else (if w32 a1 = 7 then (bcall (d_As_joinNumbers a1 M) fun v29 M30 => some (0, M30)) else (if w32 a1 = 8 then (bcall (d_As_joinNumbers a1 M) fun v32 M33 => some (0, M33)) else (if w32 a1 = 9 then (bcall (d_As_joinNumbers a1 M) fun v35 M36 => some (0, M36)) else (if w32 a1 = 10 then (bcall (d_As_joinNumbers a1 M) fun v38 M39 => some (0, M39)) else (if w32 a1 = 11 then (bcall (d_As_joinTests a1 M) fun v41 M42 => some (0, M42)) else (if w32 a1 = 12 then (bcall (d_As_joinTests a1 M) fun v44 M45 => some (0, M45)) else (if w32 a1 = 13 then (if w32 a2 = 1 then (k_As_playStep_150 a1 1 M) else (k_As_playStep_150 a1 0 M)) else (if w32 a1 = 14 then (if w32 a2 = 1 then (k_As_playStep_150 a1 1 M) else (k_As_playStep_150 a1 0 M)) else (if w32 a1 = 15 then (if w32 a2 = 1 then (k_As_playStep_150 a1 1 M) else (k_As_playStep_150 a1 0 M)) else (bcall (d_As_joinNumbers a1 M) fun v52 M53 => some (0, M53)))))))))))))))))
theorem t_As_playStep (l : Launch) (G : GX) {lev : Nat} (hlev : 2 ≤ lev) {a1 a2 : Int} {M : Mem} {r : Int × Mem} (h : d_As_playStep a1 a2 M = some r) : Mt l G y_As_playStep b_As_playStep 3 none lev 0 [.ref (G.1 + 32), vi a1, vi a2] M r := by
  refine Mt.of (by decide) (i_le rfl) ?_
  intro p e s m args below meth c C
  have C : Cx p s m args meth c G b_As_playStep 3 "PrairiePool$Asker" none := C
  unfold d_As_playStep at h
  refine z_sub (lv' := [(0, .ref (G.1 + 32)), (1, vi a1), (2, vi a2)]) [0, 1, 2] rfl ?_
  refine z_iload_n C 1 x_As_playStep_0 rfl ?_
  rcases ite_e h with ⟨c1, h⟩ | ⟨c1, h⟩
  · refine z_tableIn (tgt := 80) C x_As_playStep_1 c1 (by decide) rfl rfl ?_
    refine z_aload_n C 0 x_As_playStep_80 rfl ?_
    refine z_iload_n C 2 x_As_playStep_81 rfl ?_
    refine z_i2l C x_As_playStep_82 ?_
    refine z_iconst C x_As_playStep_83 ?_
    obtain ⟨v2, M3, fv2, h⟩ := bcall_e h
    refine z_callVv (k := 32) C x_As_playStep_84 cv_As_101 (t_As_push (lev := lev - 1) l G (by omega) fv2) nk_32 ck_32 rfl (by omega) rfl (i_le rfl) rfl ?_
    refine z_goto (tgt := 161) C x_As_playStep_87 rfl ?_
    exact z_vret C x_As_playStep_161 h
  · rcases ite_e h with ⟨c4, h⟩ | ⟨c4, h⟩
    · refine z_tableIn (tgt := 90) C x_As_playStep_1 c4 (by decide) rfl rfl ?_
      refine z_aload_n C 0 x_As_playStep_90 rfl ?_
      refine z_aload_n C 0 x_As_playStep_91 rfl ?_
      refine z_getR (j := 3) C x_As_playStep_92 nk_32 ck_32 cw_0 (i_lt rfl) rfl rf_32_3 rfl fl_As_21 ?_
      refine z_iload_n C 2 x_As_playStep_95 rfl ?_
      obtain ⟨c5, h⟩ := chk_e h
      obtain ⟨v6, ev6, h⟩ := blet_e h
      refine z_lald C x_As_playStep_96 nk_34 ck_34 c5 ev6 ?_
      refine z_iconst C x_As_playStep_97 ?_
      obtain ⟨v7, M8, fv7, h⟩ := bcall_e h
      refine z_callVv (k := 32) C x_As_playStep_98 cv_As_101 (t_As_push (lev := lev - 1) l G (by omega) fv7) nk_32 ck_32 rfl (by omega) rfl (i_le rfl) rfl ?_
      refine z_goto (tgt := 161) C x_As_playStep_101 rfl ?_
      exact z_vret C x_As_playStep_161 h
    · rcases ite_e h with ⟨c9, h⟩ | ⟨c9, h⟩
      · refine z_tableIn (tgt := 104) C x_As_playStep_1 c9 (by decide) rfl rfl ?_
        refine z_aload_n C 0 x_As_playStep_104 rfl ?_
        refine z_aload_n C 0 x_As_playStep_105 rfl ?_
        refine z_getR (j := 4) C x_As_playStep_106 nk_32 ck_32 cw_0 (i_lt rfl) rfl rf_32_4 rfl fl_As_25 ?_
        refine z_iload_n C 2 x_As_playStep_109 rfl ?_
        obtain ⟨c10, h⟩ := chk_e h
        obtain ⟨v11, ev11, h⟩ := blet_e h
        refine z_lald C x_As_playStep_110 nk_35 ck_35 c10 ev11 ?_
        refine z_aload_n C 0 x_As_playStep_111 rfl ?_
        refine z_getR (j := 5) C x_As_playStep_112 nk_32 ck_32 cw_0 (i_lt rfl) rfl rf_32_5 rfl fl_As_28 ?_
        refine z_iload_n C 2 x_As_playStep_115 rfl ?_
        obtain ⟨c12, h⟩ := chk_e h
        obtain ⟨v13, ev13, h⟩ := blet_e h
        refine z_zald C x_As_playStep_116 nk_36 ck_36 c12 ev13 ?_
        obtain ⟨v14, M15, fv14, h⟩ := bcall_e h
        refine z_callVv (k := 32) C x_As_playStep_117 cv_As_101 (t_As_push (lev := lev - 1) l G (by omega) fv14) nk_32 ck_32 rfl (by omega) rfl (i_le rfl) rfl ?_
        refine z_goto (tgt := 161) C x_As_playStep_120 rfl ?_
        exact z_vret C x_As_playStep_161 h
      · rcases ite_e h with ⟨c16, h⟩ | ⟨c16, h⟩
        · refine z_tableIn (tgt := 123) C x_As_playStep_1 c16 (by decide) rfl rfl ?_
          refine z_aload_n C 0 x_As_playStep_123 rfl ?_
          obtain ⟨v17, M18, fv17, h⟩ := bcall_e h
          refine z_callVv (k := 32) C x_As_playStep_124 cv_As_105 (t_As_choose (lev := lev - 1) l G (by omega) fv17) nk_32 ck_32 rfl (by omega) rfl (i_le rfl) rfl ?_
          refine z_goto (tgt := 161) C x_As_playStep_127 rfl ?_
          exact z_vret C x_As_playStep_161 h
        · rcases ite_e h with ⟨c19, h⟩ | ⟨c19, h⟩
          · refine z_tableIn (tgt := 156) C x_As_playStep_1 c19 (by decide) rfl rfl ?_
            refine z_aload_n C 0 x_As_playStep_156 rfl ?_
            refine z_iload_n C 1 x_As_playStep_157 rfl ?_
            obtain ⟨v20, M21, fv20, h⟩ := bcall_e h
            refine z_callVv (k := 32) C x_As_playStep_158 cv_As_116 (t_As_joinNumbers (lev := lev - 1) l G (by omega) fv20) nk_32 ck_32 rfl (by omega) rfl (i_le rfl) rfl ?_
            exact z_vret C x_As_playStep_161 h
          · rcases ite_e h with ⟨c22, h⟩ | ⟨c22, h⟩
            · refine z_tableIn (tgt := 156) C x_As_playStep_1 c22 (by decide) rfl rfl ?_
              refine z_aload_n C 0 x_As_playStep_156 rfl ?_
              refine z_iload_n C 1 x_As_playStep_157 rfl ?_
              obtain ⟨v23, M24, fv23, h⟩ := bcall_e h
              refine z_callVv (k := 32) C x_As_playStep_158 cv_As_116 (t_As_joinNumbers (lev := lev - 1) l G (by omega) fv23) nk_32 ck_32 rfl (by omega) rfl (i_le rfl) rfl ?_
              exact z_vret C x_As_playStep_161 h
            · rcases ite_e h with ⟨c25, h⟩ | ⟨c25, h⟩
              · refine z_tableIn (tgt := 156) C x_As_playStep_1 c25 (by decide) rfl rfl ?_
                refine z_aload_n C 0 x_As_playStep_156 rfl ?_
                refine z_iload_n C 1 x_As_playStep_157 rfl ?_
                obtain ⟨v26, M27, fv26, h⟩ := bcall_e h
                refine z_callVv (k := 32) C x_As_playStep_158 cv_As_116 (t_As_joinNumbers (lev := lev - 1) l G (by omega) fv26) nk_32 ck_32 rfl (by omega) rfl (i_le rfl) rfl ?_
                exact z_vret C x_As_playStep_161 h
              · rcases ite_e h with ⟨c28, h⟩ | ⟨c28, h⟩
                · refine z_tableIn (tgt := 156) C x_As_playStep_1 c28 (by decide) rfl rfl ?_
                  refine z_aload_n C 0 x_As_playStep_156 rfl ?_
                  refine z_iload_n C 1 x_As_playStep_157 rfl ?_
                  obtain ⟨v29, M30, fv29, h⟩ := bcall_e h
                  refine z_callVv (k := 32) C x_As_playStep_158 cv_As_116 (t_As_joinNumbers (lev := lev - 1) l G (by omega) fv29) nk_32 ck_32 rfl (by omega) rfl (i_le rfl) rfl ?_
                  exact z_vret C x_As_playStep_161 h
                · rcases ite_e h with ⟨c31, h⟩ | ⟨c31, h⟩
                  · refine z_tableIn (tgt := 156) C x_As_playStep_1 c31 (by decide) rfl rfl ?_
                    refine z_aload_n C 0 x_As_playStep_156 rfl ?_
                    refine z_iload_n C 1 x_As_playStep_157 rfl ?_
                    obtain ⟨v32, M33, fv32, h⟩ := bcall_e h
                    refine z_callVv (k := 32) C x_As_playStep_158 cv_As_116 (t_As_joinNumbers (lev := lev - 1) l G (by omega) fv32) nk_32 ck_32 rfl (by omega) rfl (i_le rfl) rfl ?_
                    exact z_vret C x_As_playStep_161 h
                  · rcases ite_e h with ⟨c34, h⟩ | ⟨c34, h⟩
                    · refine z_tableIn (tgt := 156) C x_As_playStep_1 c34 (by decide) rfl rfl ?_
                      refine z_aload_n C 0 x_As_playStep_156 rfl ?_
                      refine z_iload_n C 1 x_As_playStep_157 rfl ?_
                      obtain ⟨v35, M36, fv35, h⟩ := bcall_e h
                      refine z_callVv (k := 32) C x_As_playStep_158 cv_As_116 (t_As_joinNumbers (lev := lev - 1) l G (by omega) fv35) nk_32 ck_32 rfl (by omega) rfl (i_le rfl) rfl ?_
                      exact z_vret C x_As_playStep_161 h
                    · rcases ite_e h with ⟨c37, h⟩ | ⟨c37, h⟩
                      · refine z_tableIn (tgt := 156) C x_As_playStep_1 c37 (by decide) rfl rfl ?_
                        refine z_aload_n C 0 x_As_playStep_156 rfl ?_
                        refine z_iload_n C 1 x_As_playStep_157 rfl ?_
                        obtain ⟨v38, M39, fv38, h⟩ := bcall_e h
                        refine z_callVv (k := 32) C x_As_playStep_158 cv_As_116 (t_As_joinNumbers (lev := lev - 1) l G (by omega) fv38) nk_32 ck_32 rfl (by omega) rfl (i_le rfl) rfl ?_
                        exact z_vret C x_As_playStep_161 h
                      · rcases ite_e h with ⟨c40, h⟩ | ⟨c40, h⟩
                        · refine z_tableIn (tgt := 130) C x_As_playStep_1 c40 (by decide) rfl rfl ?_
                          refine z_aload_n C 0 x_As_playStep_130 rfl ?_
                          refine z_iload_n C 1 x_As_playStep_131 rfl ?_
                          obtain ⟨v41, M42, fv41, h⟩ := bcall_e h
                          refine z_callVv (k := 32) C x_As_playStep_132 cv_As_108 (t_As_joinTests (lev := lev - 1) l G (by omega) fv41) nk_32 ck_32 rfl (by omega) rfl (i_le rfl) rfl ?_
                          refine z_goto (tgt := 161) C x_As_playStep_135 rfl ?_
                          exact z_vret C x_As_playStep_161 h
                        · rcases ite_e h with ⟨c43, h⟩ | ⟨c43, h⟩
                          · refine z_tableIn (tgt := 130) C x_As_playStep_1 c43 (by decide) rfl rfl ?_
                            refine z_aload_n C 0 x_As_playStep_130 rfl ?_
                            refine z_iload_n C 1 x_As_playStep_131 rfl ?_
                            obtain ⟨v44, M45, fv44, h⟩ := bcall_e h
                            refine z_callVv (k := 32) C x_As_playStep_132 cv_As_108 (t_As_joinTests (lev := lev - 1) l G (by omega) fv44) nk_32 ck_32 rfl (by omega) rfl (i_le rfl) rfl ?_
                            refine z_goto (tgt := 161) C x_As_playStep_135 rfl ?_
                            exact z_vret C x_As_playStep_161 h
                          · rcases ite_e h with ⟨c46, h⟩ | ⟨c46, h⟩
                            · refine z_tableIn (tgt := 138) C x_As_playStep_1 c46 (by decide) rfl rfl ?_
                              refine z_aload_n C 0 x_As_playStep_138 rfl ?_
                              refine z_iload_n C 1 x_As_playStep_139 rfl ?_
                              refine z_iload_n C 2 x_As_playStep_140 rfl ?_
                              refine z_iconst C x_As_playStep_141 ?_
                              rcases ite_e h with ⟨c47, h⟩ | ⟨c47, h⟩
                              · refine z_icmp_ne_f (tgt := 149) C x_As_playStep_142 rfl c47 ?_
                                refine z_iconst C x_As_playStep_145 ?_
                                refine z_goto (tgt := 150) C x_As_playStep_146 rfl ?_
                                exact z_sub [] rfl (z_As_playStep_150 C hlev h)
                              · refine z_icmp_ne_t (tgt := 149) C x_As_playStep_142 rfl c47 ?_
                                refine z_iconst C x_As_playStep_149 ?_
                                exact z_sub [] rfl (z_As_playStep_150 C hlev h)
                            · rcases ite_e h with ⟨c48, h⟩ | ⟨c48, h⟩
                              · refine z_tableIn (tgt := 138) C x_As_playStep_1 c48 (by decide) rfl rfl ?_
                                refine z_aload_n C 0 x_As_playStep_138 rfl ?_
                                refine z_iload_n C 1 x_As_playStep_139 rfl ?_
                                refine z_iload_n C 2 x_As_playStep_140 rfl ?_
                                refine z_iconst C x_As_playStep_141 ?_
                                rcases ite_e h with ⟨c49, h⟩ | ⟨c49, h⟩
                                · refine z_icmp_ne_f (tgt := 149) C x_As_playStep_142 rfl c49 ?_
                                  refine z_iconst C x_As_playStep_145 ?_
                                  refine z_goto (tgt := 150) C x_As_playStep_146 rfl ?_
                                  exact z_sub [] rfl (z_As_playStep_150 C hlev h)
                                · refine z_icmp_ne_t (tgt := 149) C x_As_playStep_142 rfl c49 ?_
                                  refine z_iconst C x_As_playStep_149 ?_
                                  exact z_sub [] rfl (z_As_playStep_150 C hlev h)
                              · rcases ite_e h with ⟨c50, h⟩ | ⟨c50, h⟩
                                · refine z_tableIn (tgt := 138) C x_As_playStep_1 c50 (by decide) rfl rfl ?_
                                  refine z_aload_n C 0 x_As_playStep_138 rfl ?_
                                  refine z_iload_n C 1 x_As_playStep_139 rfl ?_
                                  refine z_iload_n C 2 x_As_playStep_140 rfl ?_
                                  refine z_iconst C x_As_playStep_141 ?_
                                  rcases ite_e h with ⟨c51, h⟩ | ⟨c51, h⟩
                                  · refine z_icmp_ne_f (tgt := 149) C x_As_playStep_142 rfl c51 ?_
                                    refine z_iconst C x_As_playStep_145 ?_
                                    refine z_goto (tgt := 150) C x_As_playStep_146 rfl ?_
                                    exact z_sub [] rfl (z_As_playStep_150 C hlev h)
                                  · refine z_icmp_ne_t (tgt := 149) C x_As_playStep_142 rfl c51 ?_
                                    refine z_iconst C x_As_playStep_149 ?_
                                    exact z_sub [] rfl (z_As_playStep_150 C hlev h)
                                · refine z_tableOut (tgt := 156) C x_As_playStep_1 (by omega) rfl ?_
                                  refine z_aload_n C 0 x_As_playStep_156 rfl ?_
                                  refine z_iload_n C 1 x_As_playStep_157 rfl ?_
                                  obtain ⟨v52, M53, fv52, h⟩ := bcall_e h
                                  refine z_callVv (k := 32) C x_As_playStep_158 cv_As_116 (t_As_joinNumbers (lev := lev - 1) l G (by omega) fv52) nk_32 ck_32 rfl (by omega) rfl (i_le rfl) rfl ?_
                                  exact z_vret C x_As_playStep_161 h
theorem x_As_reckonDefs_0 : DC b_As_reckonDefs 0 (.iconst 0) 1 1 := ⟨by decide +kernel, rfl⟩
theorem x_As_reckonDefs_1 : DC b_As_reckonDefs 1 (.istore_n 3) 1 2 := ⟨by decide +kernel, rfl⟩
theorem x_As_reckonDefs_2 : DC b_As_reckonDefs 2 (.iload_n 3) 1 3 := ⟨by decide +kernel, rfl⟩
theorem x_As_reckonDefs_3 : DC b_As_reckonDefs 3 (.iload_n 2) 1 4 := ⟨by decide +kernel, rfl⟩
theorem x_As_reckonDefs_4 : DC b_As_reckonDefs 4 (.if_icmp .gt 78) 3 7 := ⟨by decide +kernel, rfl⟩
theorem x_As_reckonDefs_7 : DC b_As_reckonDefs 7 (.aload_n 0) 1 8 := ⟨by decide +kernel, rfl⟩
theorem x_As_reckonDefs_8 : DC b_As_reckonDefs 8 (.iconst 0) 1 9 := ⟨by decide +kernel, rfl⟩
theorem x_As_reckonDefs_9 : DC b_As_reckonDefs 9 (.putfield 81) 3 12 := ⟨by decide +kernel, rfl⟩
theorem x_As_reckonDefs_12 : DC b_As_reckonDefs 12 (.aload_n 1) 1 13 := ⟨by decide +kernel, rfl⟩
theorem x_As_reckonDefs_13 : DC b_As_reckonDefs 13 (.iload_n 3) 1 14 := ⟨by decide +kernel, rfl⟩
theorem x_As_reckonDefs_14 : DC b_As_reckonDefs 14 (.invokevirtual 84) 3 17 := ⟨by decide +kernel, rfl⟩
theorem x_As_reckonDefs_17 : DC b_As_reckonDefs 17 (.istore 4) 2 19 := ⟨by decide +kernel, rfl⟩
theorem x_As_reckonDefs_19 : DC b_As_reckonDefs 19 (.iload 4) 2 21 := ⟨by decide +kernel, rfl⟩
theorem x_As_reckonDefs_21 : DC b_As_reckonDefs 21 (.aload_n 1) 1 22 := ⟨by decide +kernel, rfl⟩
theorem x_As_reckonDefs_22 : DC b_As_reckonDefs 22 (.getfield 88) 3 25 := ⟨by decide +kernel, rfl⟩
theorem x_As_reckonDefs_25 : DC b_As_reckonDefs 25 (.iload_n 3) 1 26 := ⟨by decide +kernel, rfl⟩
theorem x_As_reckonDefs_26 : DC b_As_reckonDefs 26 (.iaload) 1 27 := ⟨by decide +kernel, rfl⟩
theorem x_As_reckonDefs_27 : DC b_As_reckonDefs 27 (.if_icmp .ge 25) 3 30 := ⟨by decide +kernel, rfl⟩
theorem x_As_reckonDefs_30 : DC b_As_reckonDefs 30 (.aload_n 0) 1 31 := ⟨by decide +kernel, rfl⟩
theorem x_As_reckonDefs_31 : DC b_As_reckonDefs 31 (.aload_n 1) 1 32 := ⟨by decide +kernel, rfl⟩
theorem x_As_reckonDefs_32 : DC b_As_reckonDefs 32 (.iload 4) 2 34 := ⟨by decide +kernel, rfl⟩
theorem x_As_reckonDefs_34 : DC b_As_reckonDefs 34 (.invokevirtual 91) 3 37 := ⟨by decide +kernel, rfl⟩
theorem x_As_reckonDefs_37 : DC b_As_reckonDefs 37 (.aload_n 1) 1 38 := ⟨by decide +kernel, rfl⟩
theorem x_As_reckonDefs_38 : DC b_As_reckonDefs 38 (.iload 4) 2 40 := ⟨by decide +kernel, rfl⟩
theorem x_As_reckonDefs_40 : DC b_As_reckonDefs 40 (.invokevirtual 94) 3 43 := ⟨by decide +kernel, rfl⟩
theorem x_As_reckonDefs_43 : DC b_As_reckonDefs 43 (.invokevirtual 97) 3 46 := ⟨by decide +kernel, rfl⟩
theorem x_As_reckonDefs_46 : DC b_As_reckonDefs 46 (.iinc 4 1) 3 49 := ⟨by decide +kernel, rfl⟩
theorem x_As_reckonDefs_49 : DC b_As_reckonDefs 49 (.goto (-30)) 3 52 := ⟨by decide +kernel, rfl⟩
theorem x_As_reckonDefs_52 : DC b_As_reckonDefs 52 (.aload_n 0) 1 53 := ⟨by decide +kernel, rfl⟩
theorem x_As_reckonDefs_53 : DC b_As_reckonDefs 53 (.getfield 25) 3 56 := ⟨by decide +kernel, rfl⟩
theorem x_As_reckonDefs_56 : DC b_As_reckonDefs 56 (.iload_n 3) 1 57 := ⟨by decide +kernel, rfl⟩
theorem x_As_reckonDefs_57 : DC b_As_reckonDefs 57 (.aload_n 0) 1 58 := ⟨by decide +kernel, rfl⟩
theorem x_As_reckonDefs_58 : DC b_As_reckonDefs 58 (.getfield 32) 3 61 := ⟨by decide +kernel, rfl⟩
theorem x_As_reckonDefs_61 : DC b_As_reckonDefs 61 (.iconst 0) 1 62 := ⟨by decide +kernel, rfl⟩
theorem x_As_reckonDefs_62 : DC b_As_reckonDefs 62 (.laload) 1 63 := ⟨by decide +kernel, rfl⟩
theorem x_As_reckonDefs_63 : DC b_As_reckonDefs 63 (.lastore) 1 64 := ⟨by decide +kernel, rfl⟩
theorem x_As_reckonDefs_64 : DC b_As_reckonDefs 64 (.aload_n 0) 1 65 := ⟨by decide +kernel, rfl⟩
theorem x_As_reckonDefs_65 : DC b_As_reckonDefs 65 (.getfield 28) 3 68 := ⟨by decide +kernel, rfl⟩
theorem x_As_reckonDefs_68 : DC b_As_reckonDefs 68 (.iload_n 3) 1 69 := ⟨by decide +kernel, rfl⟩
theorem x_As_reckonDefs_69 : DC b_As_reckonDefs 69 (.aload_n 0) 1 70 := ⟨by decide +kernel, rfl⟩
theorem x_As_reckonDefs_70 : DC b_As_reckonDefs 70 (.getfield 35) 3 73 := ⟨by decide +kernel, rfl⟩
theorem x_As_reckonDefs_73 : DC b_As_reckonDefs 73 (.iconst 0) 1 74 := ⟨by decide +kernel, rfl⟩
theorem x_As_reckonDefs_74 : DC b_As_reckonDefs 74 (.baload) 1 75 := ⟨by decide +kernel, rfl⟩
theorem x_As_reckonDefs_75 : DC b_As_reckonDefs 75 (.bastore) 1 76 := ⟨by decide +kernel, rfl⟩
theorem x_As_reckonDefs_76 : DC b_As_reckonDefs 76 (.iinc 3 1) 3 79 := ⟨by decide +kernel, rfl⟩
theorem x_As_reckonDefs_79 : DC b_As_reckonDefs 79 (.goto (-77)) 3 82 := ⟨by decide +kernel, rfl⟩
theorem x_As_reckonDefs_82 : DC b_As_reckonDefs 82 (.return_) 1 83 := ⟨by decide +kernel, rfl⟩
def k_As_reckonDefs_19 (K : Nat) (R2 : Int → Int → Mem → Res) (R19 : Int → Int → Int → Mem → Res) (a2 a3 a4 : Int) (M : Mem) : Res := chk (0 ≤ w32 a3 ∧ w32 a3 < 10) <| blet (M (K + 2) (ix a3)) fun v2 => if w32 a4 < w32 v2 then (bcall (d_Tx_stepAt K a4 M) fun v4 M5 => bcall (d_Tx_numberAt K a4 M5) fun v6 M7 => bcall (d_As_playStep v4 v6 M7) fun v8 M9 => blet (a4 + 1) fun v10 => R19 a2 a3 v10 M9) else (blet (M 37 0) fun v11 => chk (0 ≤ w32 a3 ∧ w32 a3 < 10) <| blet (sto M 35 (ix a3) v11) fun M13 => blet (M13 38 0 % 2) fun v14 => chk (0 ≤ w32 a3 ∧ w32 a3 < 10) <| blet (sto M13 36 (ix a3) v14) fun M16 => blet (a3 + 1) fun v17 => R2 a2 v17 M16)
theorem z_As_reckonDefs_19 (C : Cx p s m args meth c G b_As_reckonDefs 5 "PrairiePool$Asker" none) (hlev : 3 ≤ lev) {K : Nat} (hT : IsText K) {r : Int × Mem} {R2 : Int → Int → Mem → Res} {R19 : Int → Int → Int → Mem → Res} (hR2 : ∀ (a2 a3 : Int) (M : Mem), R2 a2 a3 M = some r → Z p l e lev s m args below meth c G 5 (MQ below (Qm G 0 r) args s 0 0 (Ab G)) M 2 [(0, .ref (G.1 + 32)), (1, .ref (G.1 + K)), (2, vi a2), (3, vi a3)] []) (hR19 : ∀ (a2 a3 a4 : Int) (M : Mem), R19 a2 a3 a4 M = some r → Z p l e lev s m args below meth c G 5 (MQ below (Qm G 0 r) args s 0 0 (Ab G)) M 19 [(0, .ref (G.1 + 32)), (1, .ref (G.1 + K)), (2, vi a2), (3, vi a3), (4, vi a4)] []) {a2 a3 a4 : Int} {M : Mem} (h : k_As_reckonDefs_19 K R2 R19 a2 a3 a4 M = some r) : Z p l e lev s m args below meth c G 5 (MQ below (Qm G 0 r) args s 0 0 (Ab G)) M 19 [(0, .ref (G.1 + 32)), (1, .ref (G.1 + K)), (2, vi a2), (3, vi a3), (4, vi a4)] [] := by
  unfold k_As_reckonDefs_19 at h
  refine z_iload C 4 x_As_reckonDefs_19 rfl ?_
  refine z_aload_n C 1 x_As_reckonDefs_21 rfl ?_
  refine z_getR (j := 4) C x_As_reckonDefs_22 (hT).k0 (hT).c0 cw_8 (i_lt rfl) rfl (hT).r4 rfl fl_As_88 ?_
  refine z_iload_n C 3 x_As_reckonDefs_25 rfl ?_
  obtain ⟨c1, h⟩ := chk_e h
  obtain ⟨v2, ev2, h⟩ := blet_e h
  refine z_iald C x_As_reckonDefs_26 (hT).k2 (hT).c2 c1 ev2 ?_
  rcases ite_e h with ⟨c3, h⟩ | ⟨c3, h⟩
  · refine z_icmp_ge_f (tgt := 52) C x_As_reckonDefs_27 rfl c3 ?_
    refine z_aload_n C 0 x_As_reckonDefs_30 rfl ?_
    refine z_aload_n C 1 x_As_reckonDefs_31 rfl ?_
    refine z_iload C 4 x_As_reckonDefs_32 rfl ?_
    obtain ⟨v4, M5, fv4, h⟩ := bcall_e h
    refine z_callVi (k := K) C x_As_reckonDefs_34 cv_As_91 (t_Tx_stepAt (lev := lev - 1) l G (by omega) hT fv4) (hT).k0 (hT).c0 rfl (by omega) rfl (i_le rfl) rfl ?_
    refine z_aload_n C 1 x_As_reckonDefs_37 rfl ?_
    refine z_iload C 4 x_As_reckonDefs_38 rfl ?_
    obtain ⟨v6, M7, fv6, h⟩ := bcall_e h
    refine z_callVi (k := K) C x_As_reckonDefs_40 cv_As_94 (t_Tx_numberAt (lev := lev - 1) l G (by omega) hT fv6) (hT).k0 (hT).c0 rfl (by omega) rfl (i_le rfl) rfl ?_
    obtain ⟨v8, M9, fv8, h⟩ := bcall_e h
    refine z_callVv (k := 32) C x_As_reckonDefs_43 cv_As_97 (t_As_playStep (lev := lev - 1) l G (by omega) fv8) nk_32 ck_32 rfl (by omega) rfl (i_le rfl) rfl ?_
    obtain ⟨v10, ev10, h⟩ := blet_e h
    refine z_iinc (lv' := [(4, vi v10), (0, .ref (G.1 + 32)), (1, .ref (G.1 + K)), (2, vi a2), (3, vi a3)]) C 4 ev10 x_As_reckonDefs_46 rfl (i_lt rfl) rfl ?_
    refine z_goto (tgt := 19) C x_As_reckonDefs_49 rfl ?_
    exact z_sub [1, 2, 3, 4, 0] rfl (hR19 a2 a3 v10 M9 h)
  · refine z_icmp_ge_t (tgt := 52) C x_As_reckonDefs_27 rfl c3 ?_
    refine z_aload_n C 0 x_As_reckonDefs_52 rfl ?_
    refine z_getR (j := 4) C x_As_reckonDefs_53 nk_32 ck_32 cw_0 (i_lt rfl) rfl rf_32_4 rfl fl_As_25 ?_
    refine z_iload_n C 3 x_As_reckonDefs_56 rfl ?_
    refine z_aload_n C 0 x_As_reckonDefs_57 rfl ?_
    refine z_getR (j := 6) C x_As_reckonDefs_58 nk_32 ck_32 cw_0 (i_lt rfl) rfl rf_32_6 rfl fl_As_32 ?_
    refine z_iconst C x_As_reckonDefs_61 ?_
    obtain ⟨v11, ev11, h⟩ := blet_e h
    refine z_lald C x_As_reckonDefs_62 nk_37 ck_37 (by decide) ev11 ?_
    obtain ⟨c12, h⟩ := chk_e h
    obtain ⟨M13, eM13, h⟩ := blet_e h
    refine z_last C x_As_reckonDefs_63 nk_35 ck_35 c12 eM13 ?_
    refine z_aload_n C 0 x_As_reckonDefs_64 rfl ?_
    refine z_getR (j := 5) C x_As_reckonDefs_65 nk_32 ck_32 cw_0 (i_lt rfl) rfl rf_32_5 rfl fl_As_28 ?_
    refine z_iload_n C 3 x_As_reckonDefs_68 rfl ?_
    refine z_aload_n C 0 x_As_reckonDefs_69 rfl ?_
    refine z_getR (j := 7) C x_As_reckonDefs_70 nk_32 ck_32 cw_0 (i_lt rfl) rfl rf_32_7 rfl fl_As_35 ?_
    refine z_iconst C x_As_reckonDefs_73 ?_
    obtain ⟨v14, ev14, h⟩ := blet_e h
    refine z_zald C x_As_reckonDefs_74 nk_38 ck_38 (by decide) ev14 ?_
    obtain ⟨c15, h⟩ := chk_e h
    obtain ⟨M16, eM16, h⟩ := blet_e h
    refine z_zast C x_As_reckonDefs_75 nk_36 ck_36 c15 eM16 ?_
    obtain ⟨v17, ev17, h⟩ := blet_e h
    refine z_iinc (lv' := [(3, vi v17), (0, .ref (G.1 + 32)), (1, .ref (G.1 + K)), (2, vi a2), (4, vi a4)]) C 3 ev17 x_As_reckonDefs_76 rfl (i_lt rfl) rfl ?_
    refine z_goto (tgt := 2) C x_As_reckonDefs_79 rfl ?_
    exact z_sub [1, 2, 3, 0] rfl (hR2 a2 v17 M16 h)
theorem zl_As_reckonDefs_19 (C : Cx p s m args meth c G b_As_reckonDefs 5 "PrairiePool$Asker" none) (hlev : 3 ≤ lev) {K : Nat} (hT : IsText K) {r : Int × Mem} {R2 : Int → Int → Mem → Res} (hR2 : ∀ (a2 a3 : Int) (M : Mem), R2 a2 a3 M = some r → Z p l e lev s m args below meth c G 5 (MQ below (Qm G 0 r) args s 0 0 (Ab G)) M 2 [(0, .ref (G.1 + 32)), (1, .ref (G.1 + K)), (2, vi a2), (3, vi a3)] []) : ∀ (n : Nat) (a2 a3 a4 : Int) (M : Mem), fix (fun _ _ _ _ => none) (k_As_reckonDefs_19 K R2) n a2 a3 a4 M = some r → Z p l e lev s m args below meth c G 5 (MQ below (Qm G 0 r) args s 0 0 (Ab G)) M 19 [(0, .ref (G.1 + 32)), (1, .ref (G.1 + K)), (2, vi a2), (3, vi a3), (4, vi a4)] [] := by
  intro n
  induction n with
  | zero => intro a2 a3 a4 M h; exact nomatch (show (none : Res) = some r from h)
  | succ n ih => intro a2 a3 a4 M h; exact z_As_reckonDefs_19 C hlev hT hR2 ih h
def k_As_reckonDefs_2 (K : Nat) (R2 : Int → Int → Mem → Res) (a2 a3 : Int) (M : Mem) : Res := if w32 a2 < w32 a3 then (some (0, M)) else (blet (sto M 32 8 0) fun M2 => bcall (d_Tx_startOf K a3 M2) fun v3 M4 => fix (fun _ _ _ _ => none) (k_As_reckonDefs_19 K R2) FU a2 a3 v3 M4)
theorem z_As_reckonDefs_2 (C : Cx p s m args meth c G b_As_reckonDefs 5 "PrairiePool$Asker" none) (hlev : 3 ≤ lev) {K : Nat} (hT : IsText K) {r : Int × Mem} {R2 : Int → Int → Mem → Res} (hR2 : ∀ (a2 a3 : Int) (M : Mem), R2 a2 a3 M = some r → Z p l e lev s m args below meth c G 5 (MQ below (Qm G 0 r) args s 0 0 (Ab G)) M 2 [(0, .ref (G.1 + 32)), (1, .ref (G.1 + K)), (2, vi a2), (3, vi a3)] []) {a2 a3 : Int} {M : Mem} (h : k_As_reckonDefs_2 K R2 a2 a3 M = some r) : Z p l e lev s m args below meth c G 5 (MQ below (Qm G 0 r) args s 0 0 (Ab G)) M 2 [(0, .ref (G.1 + 32)), (1, .ref (G.1 + K)), (2, vi a2), (3, vi a3)] [] := by
  unfold k_As_reckonDefs_2 at h
  refine z_iload_n C 3 x_As_reckonDefs_2 rfl ?_
  refine z_iload_n C 2 x_As_reckonDefs_3 rfl ?_
  rcases ite_e h with ⟨c1, h⟩ | ⟨c1, h⟩
  · refine z_icmp_gt_t (tgt := 82) C x_As_reckonDefs_4 rfl c1 ?_
    exact z_vret C x_As_reckonDefs_82 h
  · refine z_icmp_gt_f (tgt := 82) C x_As_reckonDefs_4 rfl c1 ?_
    refine z_aload_n C 0 x_As_reckonDefs_7 rfl ?_
    refine z_iconst C x_As_reckonDefs_8 ?_
    obtain ⟨M2, eM2, h⟩ := blet_e h
    refine z_putI (j := 8) C x_As_reckonDefs_9 nk_32 ck_32 cw_0 (i_lt rfl) rfl rfl rfl rfl fl_As_81 eM2 ?_
    refine z_aload_n C 1 x_As_reckonDefs_12 rfl ?_
    refine z_iload_n C 3 x_As_reckonDefs_13 rfl ?_
    obtain ⟨v3, M4, fv3, h⟩ := bcall_e h
    refine z_callVi (k := K) C x_As_reckonDefs_14 cv_As_84 (t_Tx_startOf (lev := lev - 1) l G (by omega) hT fv3) (hT).k0 (hT).c0 rfl (by omega) rfl (i_le rfl) rfl ?_
    refine z_istore (lv' := [(4, vi v3), (0, .ref (G.1 + 32)), (1, .ref (G.1 + K)), (2, vi a2), (3, vi a3)]) C rfl x_As_reckonDefs_17 (i_lt rfl) rfl ?_
    exact z_sub [1, 2, 3, 4, 0] rfl (zl_As_reckonDefs_19 C hlev hT hR2 FU a2 a3 v3 M4 h)
theorem zl_As_reckonDefs_2 (C : Cx p s m args meth c G b_As_reckonDefs 5 "PrairiePool$Asker" none) (hlev : 3 ≤ lev) {K : Nat} (hT : IsText K) {r : Int × Mem}  : ∀ (n : Nat) (a2 a3 : Int) (M : Mem), fix (fun _ _ _ => none) (k_As_reckonDefs_2 K) n a2 a3 M = some r → Z p l e lev s m args below meth c G 5 (MQ below (Qm G 0 r) args s 0 0 (Ab G)) M 2 [(0, .ref (G.1 + 32)), (1, .ref (G.1 + K)), (2, vi a2), (3, vi a3)] [] := by
  intro n
  induction n with
  | zero => intro a2 a3 M h; exact nomatch (show (none : Res) = some r from h)
  | succ n ih => intro a2 a3 M h; exact z_As_reckonDefs_2 C hlev hT ih h
def d_As_reckonDefs (K : Nat) (a2 : Int) (M : Mem) : Res := fix (fun _ _ _ => none) (k_As_reckonDefs_2 K) FU a2 0 M
theorem t_As_reckonDefs (l : Launch) (G : GX) {lev : Nat} (hlev : 3 ≤ lev) {K : Nat} (hT : IsText K) {a2 : Int} {M : Mem} {r : Int × Mem} (h : d_As_reckonDefs K a2 M = some r) : Mt l G y_As_reckonDefs b_As_reckonDefs 5 none lev 0 [.ref (G.1 + 32), .ref (G.1 + K), vi a2] M r := by
  refine Mt.of (by decide) (i_le rfl) ?_
  intro p e s m args below meth c C
  have C : Cx p s m args meth c G b_As_reckonDefs 5 "PrairiePool$Asker" none := C
  unfold d_As_reckonDefs at h
  refine z_sub (lv' := [(0, .ref (G.1 + 32)), (1, .ref (G.1 + K)), (2, vi a2)]) [0, 1, 2] rfl ?_
  refine z_iconst C x_As_reckonDefs_0 ?_
  refine z_istore_n (lv' := [(3, vi 0), (0, .ref (G.1 + 32)), (1, .ref (G.1 + K)), (2, vi a2)]) C rfl x_As_reckonDefs_1 (i_lt rfl) rfl ?_
  exact z_sub [1, 2, 3, 0] rfl (zl_As_reckonDefs_2 C hlev hT FU a2 0 M h)
theorem x_As_ask_0 : DC b_As_ask 0 (.getstatic 55) 3 3 := ⟨by decide +kernel, rfl⟩
theorem x_As_ask_3 : DC b_As_ask 3 (.iload_n 1) 1 4 := ⟨by decide +kernel, rfl⟩
theorem x_As_ask_4 : DC b_As_ask 4 (.iaload) 1 5 := ⟨by decide +kernel, rfl⟩
theorem x_As_ask_5 : DC b_As_ask 5 (.i2l) 1 6 := ⟨by decide +kernel, rfl⟩
theorem x_As_ask_6 : DC b_As_ask 6 (.lstore_n 2) 1 7 := ⟨by decide +kernel, rfl⟩
theorem x_As_ask_7 : DC b_As_ask 7 (.aload_n 0) 1 8 := ⟨by decide +kernel, rfl⟩
theorem x_As_ask_8 : DC b_As_ask 8 (.getfield 17) 3 11 := ⟨by decide +kernel, rfl⟩
theorem x_As_ask_11 : DC b_As_ask 11 (.iconst (-1)) 1 12 := ⟨by decide +kernel, rfl⟩
theorem x_As_ask_12 : DC b_As_ask 12 (.if_icmp .ne 7) 3 15 := ⟨by decide +kernel, rfl⟩
theorem x_As_ask_15 : DC b_As_ask 15 (.iconst (-1)) 1 16 := ⟨by decide +kernel, rfl⟩
theorem x_As_ask_16 : DC b_As_ask 16 (.goto 17) 3 19 := ⟨by decide +kernel, rfl⟩
theorem x_As_ask_19 : DC b_As_ask 19 (.aload_n 0) 1 20 := ⟨by decide +kernel, rfl⟩
theorem x_As_ask_20 : DC b_As_ask 20 (.getfield 13) 3 23 := ⟨by decide +kernel, rfl⟩
theorem x_As_ask_23 : DC b_As_ask 23 (.aload_n 0) 1 24 := ⟨by decide +kernel, rfl⟩
theorem x_As_ask_24 : DC b_As_ask 24 (.getfield 17) 3 27 := ⟨by decide +kernel, rfl⟩
theorem x_As_ask_27 : DC b_As_ask 27 (.aaload) 1 28 := ⟨by decide +kernel, rfl⟩
theorem x_As_ask_28 : DC b_As_ask 28 (.getfield 59) 3 31 := ⟨by decide +kernel, rfl⟩
theorem x_As_ask_31 : DC b_As_ask 31 (.iload_n 1) 1 32 := ⟨by decide +kernel, rfl⟩
theorem x_As_ask_32 : DC b_As_ask 32 (.iaload) 1 33 := ⟨by decide +kernel, rfl⟩
theorem x_As_ask_33 : DC b_As_ask 33 (.istore 4) 2 35 := ⟨by decide +kernel, rfl⟩
theorem x_As_ask_35 : DC b_As_ask 35 (.iload 4) 2 37 := ⟨by decide +kernel, rfl⟩
theorem x_As_ask_37 : DC b_As_ask 37 (.iconst (-1)) 1 38 := ⟨by decide +kernel, rfl⟩
theorem x_As_ask_38 : DC b_As_ask 38 (.if_icmp .eq 40) 3 41 := ⟨by decide +kernel, rfl⟩
theorem x_As_ask_41 : DC b_As_ask 41 (.aload_n 0) 1 42 := ⟨by decide +kernel, rfl⟩
theorem x_As_ask_42 : DC b_As_ask 42 (.aload_n 0) 1 43 := ⟨by decide +kernel, rfl⟩
theorem x_As_ask_43 : DC b_As_ask 43 (.getfield 13) 3 46 := ⟨by decide +kernel, rfl⟩
theorem x_As_ask_46 : DC b_As_ask 46 (.aload_n 0) 1 47 := ⟨by decide +kernel, rfl⟩
theorem x_As_ask_47 : DC b_As_ask 47 (.getfield 17) 3 50 := ⟨by decide +kernel, rfl⟩
theorem x_As_ask_50 : DC b_As_ask 50 (.aaload) 1 51 := ⟨by decide +kernel, rfl⟩
theorem x_As_ask_51 : DC b_As_ask 51 (.iload 4) 2 53 := ⟨by decide +kernel, rfl⟩
theorem x_As_ask_53 : DC b_As_ask 53 (.invokevirtual 62) 3 56 := ⟨by decide +kernel, rfl⟩
theorem x_As_ask_56 : DC b_As_ask 56 (.aload_n 0) 1 57 := ⟨by decide +kernel, rfl⟩
theorem x_As_ask_57 : DC b_As_ask 57 (.getfield 28) 3 60 := ⟨by decide +kernel, rfl⟩
theorem x_As_ask_60 : DC b_As_ask 60 (.iload 4) 2 62 := ⟨by decide +kernel, rfl⟩
theorem x_As_ask_62 : DC b_As_ask 62 (.baload) 1 63 := ⟨by decide +kernel, rfl⟩
theorem x_As_ask_63 : DC b_As_ask 63 (.ifCond .eq 7) 3 66 := ⟨by decide +kernel, rfl⟩
theorem x_As_ask_66 : DC b_As_ask 66 (.lload_n 2) 1 67 := ⟨by decide +kernel, rfl⟩
theorem x_As_ask_67 : DC b_As_ask 67 (.goto 10) 3 70 := ⟨by decide +kernel, rfl⟩
theorem x_As_ask_70 : DC b_As_ask 70 (.aload_n 0) 1 71 := ⟨by decide +kernel, rfl⟩
theorem x_As_ask_71 : DC b_As_ask 71 (.getfield 25) 3 74 := ⟨by decide +kernel, rfl⟩
theorem x_As_ask_74 : DC b_As_ask 74 (.iload 4) 2 76 := ⟨by decide +kernel, rfl⟩
theorem x_As_ask_76 : DC b_As_ask 76 (.laload) 1 77 := ⟨by decide +kernel, rfl⟩
theorem x_As_ask_77 : DC b_As_ask 77 (.lstore_n 2) 1 78 := ⟨by decide +kernel, rfl⟩
theorem x_As_ask_78 : DC b_As_ask 78 (.getstatic 66) 3 81 := ⟨by decide +kernel, rfl⟩
theorem x_As_ask_81 : DC b_As_ask 81 (.iload_n 1) 1 82 := ⟨by decide +kernel, rfl⟩
theorem x_As_ask_82 : DC b_As_ask 82 (.iaload) 1 83 := ⟨by decide +kernel, rfl⟩
theorem x_As_ask_83 : DC b_As_ask 83 (.i2l) 1 84 := ⟨by decide +kernel, rfl⟩
theorem x_As_ask_84 : DC b_As_ask 84 (.getstatic 69) 3 87 := ⟨by decide +kernel, rfl⟩
theorem x_As_ask_87 : DC b_As_ask 87 (.iload_n 1) 1 88 := ⟨by decide +kernel, rfl⟩
theorem x_As_ask_88 : DC b_As_ask 88 (.iaload) 1 89 := ⟨by decide +kernel, rfl⟩
theorem x_As_ask_89 : DC b_As_ask 89 (.i2l) 1 90 := ⟨by decide +kernel, rfl⟩
theorem x_As_ask_90 : DC b_As_ask 90 (.lload_n 2) 1 91 := ⟨by decide +kernel, rfl⟩
theorem x_As_ask_91 : DC b_As_ask 91 (.invokestatic 72) 3 94 := ⟨by decide +kernel, rfl⟩
theorem x_As_ask_94 : DC b_As_ask 94 (.invokestatic 78) 3 97 := ⟨by decide +kernel, rfl⟩
theorem x_As_ask_97 : DC b_As_ask 97 (.l2i) 1 98 := ⟨by decide +kernel, rfl⟩
theorem x_As_ask_98 : DC b_As_ask 98 (.ireturn) 1 99 := ⟨by decide +kernel, rfl⟩
def k_As_ask_78 (a1 a2 : Int) (M : Mem) : Res := chk (0 ≤ w32 a1 ∧ w32 a1 < 7) <| blet (sti 1 (ix a1)) fun v2 => chk (0 ≤ w32 a1 ∧ w32 a1 < 7) <| blet (sti 2 (ix a1)) fun v4 => some (mx64 (w32 v2) (mn64 (w32 v4) a2), M)
theorem z_As_ask_78 (C : Cx p s m args meth c G b_As_ask 5 "PrairiePool$Asker" (some .int)) (hlev : 4 ≤ lev) {r : Int × Mem}  {a1 a2 : Int} {M : Mem} (h : k_As_ask_78 a1 a2 M = some r) : Z p l e lev s m args below meth c G 5 (MQ below (Qm G 1 r) args s 0 0 (Ab G)) M 78 [(1, vi a1), (2, vl a2)] [] := by
  unfold k_As_ask_78 at h
  refine z_getX (i := 1) C x_As_ask_78 (by decide) fl_As_66 ?_
  refine z_iload_n C 0 x_As_ask_81 rfl ?_
  obtain ⟨c1, h⟩ := chk_e h
  obtain ⟨v2, ev2, h⟩ := blet_e h
  refine z_ialdX C x_As_ask_82 (by decide) c1 ev2 ?_
  refine z_i2l C x_As_ask_83 ?_
  refine z_getX (i := 2) C x_As_ask_84 (by decide) fl_As_69 ?_
  refine z_iload_n C 0 x_As_ask_87 rfl ?_
  obtain ⟨c3, h⟩ := chk_e h
  obtain ⟨v4, ev4, h⟩ := blet_e h
  refine z_ialdX C x_As_ask_88 (by decide) c3 ev4 ?_
  refine z_i2l C x_As_ask_89 ?_
  refine z_lload_n C 1 x_As_ask_90 rfl ?_
  refine z_mn64 C x_As_ask_91 cs_As_72 (by omega) (i_le rfl) ?_
  refine z_mx64 C x_As_ask_94 cs_As_78 (by omega) (i_le rfl) ?_
  refine z_l2i C x_As_ask_97 ?_
  exact z_iret C x_As_ask_98 h
def k_As_ask_77 (a1 s0 : Int) (M : Mem) : Res := k_As_ask_78 a1 s0 M
theorem z_As_ask_77 (C : Cx p s m args meth c G b_As_ask 5 "PrairiePool$Asker" (some .int)) (hlev : 4 ≤ lev) {r : Int × Mem}  {a1 s0 : Int} {M : Mem} (h : k_As_ask_77 a1 s0 M = some r) : Z p l e lev s m args below meth c G 5 (MQ below (Qm G 1 r) args s 0 0 (Ab G)) M 77 [(1, vi a1)] [vl s0] := by
  unfold k_As_ask_77 at h
  refine z_lstore_n (lv' := [(2, vl s0), (1, vi a1)]) C rfl x_As_ask_77 (i_lt rfl) rfl ?_
  exact z_sub [1, 0] rfl (z_As_ask_78 C hlev h)
def k_As_ask_33 (a1 a2 s0 : Int) (M : Mem) : Res := if w32 s0 = (-1) then (k_As_ask_78 a1 a2 M) else (blet (M 32 2) fun v2 => chk (0 ≤ w32 v2 ∧ w32 v2 < 4) <| bcall (d_As_reckonDefs (39 + 4 * (ix v2)) s0 M) fun v4 M5 => chk (0 ≤ w32 s0 ∧ w32 s0 < 10) <| blet (M5 36 (ix s0) % 2) fun v7 => if w32 v7 = 0 then (chk (0 ≤ w32 s0 ∧ w32 s0 < 10) <| blet (M5 35 (ix s0)) fun v10 => k_As_ask_77 a1 v10 M5) else (k_As_ask_77 a1 a2 M5))
theorem z_As_ask_33 (C : Cx p s m args meth c G b_As_ask 5 "PrairiePool$Asker" (some .int)) (hlev : 4 ≤ lev) {r : Int × Mem}  {a1 a2 s0 : Int} {M : Mem} (h : k_As_ask_33 a1 a2 s0 M = some r) : Z p l e lev s m args below meth c G 5 (MQ below (Qm G 1 r) args s 0 0 (Ab G)) M 33 [(0, .ref (G.1 + 32)), (1, vi a1), (2, vl a2)] [vi s0] := by
  unfold k_As_ask_33 at h
  refine z_istore (lv' := [(4, vi s0), (0, .ref (G.1 + 32)), (1, vi a1), (2, vl a2)]) C rfl x_As_ask_33 (i_lt rfl) rfl ?_
  refine z_iload C 0 x_As_ask_35 rfl ?_
  refine z_iconst C x_As_ask_37 ?_
  rcases ite_e h with ⟨c1, h⟩ | ⟨c1, h⟩
  · refine z_icmp_eq_t (tgt := 78) C x_As_ask_38 rfl c1 ?_
    exact z_sub [2, 3] rfl (z_As_ask_78 C hlev h)
  · refine z_icmp_eq_f (tgt := 78) C x_As_ask_38 rfl c1 ?_
    refine z_aload_n C 1 x_As_ask_41 rfl ?_
    refine z_aload_n C 1 x_As_ask_42 rfl ?_
    refine z_getR (j := 1) C x_As_ask_43 nk_32 ck_32 cw_0 (i_lt rfl) rfl rf_32_1 rfl fl_As_13 ?_
    refine z_aload_n C 1 x_As_ask_46 rfl ?_
    obtain ⟨v2, ev2, h⟩ := blet_e h
    refine z_getI (j := 2) C x_As_ask_47 nk_32 ck_32 cw_0 (i_lt rfl) rfl rfl fl_As_17 ev2 ?_
    obtain ⟨c3, h⟩ := chk_e h
    refine z_aaldT C x_As_ask_50 c3 ?_
    refine z_iload C 0 x_As_ask_51 rfl ?_
    obtain ⟨v4, M5, fv4, h⟩ := bcall_e h
    refine z_callVv (k := 32) C x_As_ask_53 cv_As_62 (t_As_reckonDefs (lev := lev - 1) l G (by omega) (it_tx c3) fv4) nk_32 ck_32 rfl (by omega) rfl (i_le rfl) rfl ?_
    refine z_aload_n C 1 x_As_ask_56 rfl ?_
    refine z_getR (j := 5) C x_As_ask_57 nk_32 ck_32 cw_0 (i_lt rfl) rfl rf_32_5 rfl fl_As_28 ?_
    refine z_iload C 0 x_As_ask_60 rfl ?_
    obtain ⟨c6, h⟩ := chk_e h
    obtain ⟨v7, ev7, h⟩ := blet_e h
    refine z_zald C x_As_ask_62 nk_36 ck_36 c6 ev7 ?_
    rcases ite_e h with ⟨c8, h⟩ | ⟨c8, h⟩
    · refine z_if_eq_t (tgt := 70) C x_As_ask_63 rfl c8 ?_
      refine z_aload_n C 1 x_As_ask_70 rfl ?_
      refine z_getR (j := 4) C x_As_ask_71 nk_32 ck_32 cw_0 (i_lt rfl) rfl rf_32_4 rfl fl_As_25 ?_
      refine z_iload C 0 x_As_ask_74 rfl ?_
      obtain ⟨c9, h⟩ := chk_e h
      obtain ⟨v10, ev10, h⟩ := blet_e h
      refine z_lald C x_As_ask_76 nk_35 ck_35 c9 ev10 ?_
      exact z_sub [2] rfl (z_As_ask_77 C hlev h)
    · refine z_if_eq_f (tgt := 70) C x_As_ask_63 rfl c8 ?_
      refine z_lload_n C 3 x_As_ask_66 rfl ?_
      refine z_goto (tgt := 77) C x_As_ask_67 rfl ?_
      exact z_sub [2] rfl (z_As_ask_77 C hlev h)
def d_As_ask (a1 : Int) (M : Mem) : Res := chk (0 ≤ w32 a1 ∧ w32 a1 < 7) <| blet (sti 0 (ix a1)) fun v2 => blet (w32 v2) fun v3 => blet (M 32 2) fun v4 => if w32 v4 = (-1) then (k_As_ask_33 a1 v3 (-1) M) else (blet (M 32 2) fun v6 => chk (0 ≤ w32 v6 ∧ w32 v6 < 4) <| chk (0 ≤ w32 a1 ∧ w32 a1 < 7) <| blet (M ((39 + 4 * (ix v6)) + 3) (ix a1)) fun v9 => k_As_ask_33 a1 v3 v9 M)
theorem t_As_ask (l : Launch) (G : GX) {lev : Nat} (hlev : 4 ≤ lev) {a1 : Int} {M : Mem} {r : Int × Mem} (h : d_As_ask a1 M = some r) : Mt l G y_As_ask b_As_ask 5 (some .int) lev 1 [.ref (G.1 + 32), vi a1] M r := by
  refine Mt.of (by decide) (i_le rfl) ?_
  intro p e s m args below meth c C
  have C : Cx p s m args meth c G b_As_ask 5 "PrairiePool$Asker" (some .int) := C
  unfold d_As_ask at h
  refine z_sub (lv' := [(0, .ref (G.1 + 32)), (1, vi a1)]) [0, 1] rfl ?_
  refine z_getX (i := 0) C x_As_ask_0 (by decide) fl_As_55 ?_
  refine z_iload_n C 1 x_As_ask_3 rfl ?_
  obtain ⟨c1, h⟩ := chk_e h
  obtain ⟨v2, ev2, h⟩ := blet_e h
  refine z_ialdX C x_As_ask_4 (by decide) c1 ev2 ?_
  refine z_i2l C x_As_ask_5 ?_
  obtain ⟨v3, ev3, h⟩ := blet_e h
  refine z_lstore_n (lv' := [(2, vl v3), (0, .ref (G.1 + 32)), (1, vi a1)]) C ev3 x_As_ask_6 (i_lt rfl) rfl ?_
  refine z_aload_n C 1 x_As_ask_7 rfl ?_
  obtain ⟨v4, ev4, h⟩ := blet_e h
  refine z_getI (j := 2) C x_As_ask_8 nk_32 ck_32 cw_0 (i_lt rfl) rfl rfl fl_As_17 ev4 ?_
  refine z_iconst C x_As_ask_11 ?_
  rcases ite_e h with ⟨c5, h⟩ | ⟨c5, h⟩
  · refine z_icmp_ne_f (tgt := 19) C x_As_ask_12 rfl c5 ?_
    refine z_iconst C x_As_ask_15 ?_
    refine z_goto (tgt := 33) C x_As_ask_16 rfl ?_
    exact z_sub [1, 2, 0] rfl (z_As_ask_33 C hlev h)
  · refine z_icmp_ne_t (tgt := 19) C x_As_ask_12 rfl c5 ?_
    refine z_aload_n C 1 x_As_ask_19 rfl ?_
    refine z_getR (j := 1) C x_As_ask_20 nk_32 ck_32 cw_0 (i_lt rfl) rfl rf_32_1 rfl fl_As_13 ?_
    refine z_aload_n C 1 x_As_ask_23 rfl ?_
    obtain ⟨v6, ev6, h⟩ := blet_e h
    refine z_getI (j := 2) C x_As_ask_24 nk_32 ck_32 cw_0 (i_lt rfl) rfl rfl fl_As_17 ev6 ?_
    obtain ⟨c7, h⟩ := chk_e h
    refine z_aaldT C x_As_ask_27 c7 ?_
    refine z_getR (j := 5) C x_As_ask_28 (it_tx c7).k0 (it_tx c7).c0 cw_8 (i_lt rfl) rfl (it_tx c7).r5 rfl fl_As_59 ?_
    refine z_iload_n C 2 x_As_ask_31 rfl ?_
    obtain ⟨c8, h⟩ := chk_e h
    obtain ⟨v9, ev9, h⟩ := blet_e h
    refine z_iald C x_As_ask_32 (it_tx c7).k3 (it_tx c7).c3 c8 ev9 ?_
    exact z_sub [1, 2, 0] rfl (z_As_ask_33 C hlev h)
theorem x_Tx_empty_0 : DC b_Tx_empty 0 (.aload_n 0) 1 1 := ⟨by decide +kernel, rfl⟩
theorem x_Tx_empty_1 : DC b_Tx_empty 1 (.iconst 0) 1 2 := ⟨by decide +kernel, rfl⟩
theorem x_Tx_empty_2 : DC b_Tx_empty 2 (.putfield 21) 3 5 := ⟨by decide +kernel, rfl⟩
theorem x_Tx_empty_5 : DC b_Tx_empty 5 (.aload_n 0) 1 6 := ⟨by decide +kernel, rfl⟩
theorem x_Tx_empty_6 : DC b_Tx_empty 6 (.iconst 0) 1 7 := ⟨by decide +kernel, rfl⟩
theorem x_Tx_empty_7 : DC b_Tx_empty 7 (.putfield 25) 3 10 := ⟨by decide +kernel, rfl⟩
theorem x_Tx_empty_10 : DC b_Tx_empty 10 (.aload_n 0) 1 11 := ⟨by decide +kernel, rfl⟩
theorem x_Tx_empty_11 : DC b_Tx_empty 11 (.getfield 18) 3 14 := ⟨by decide +kernel, rfl⟩
theorem x_Tx_empty_14 : DC b_Tx_empty 14 (.iconst (-1)) 1 15 := ⟨by decide +kernel, rfl⟩
theorem x_Tx_empty_15 : DC b_Tx_empty 15 (.invokestatic 28) 3 18 := ⟨by decide +kernel, rfl⟩
theorem x_Tx_empty_18 : DC b_Tx_empty 18 (.return_) 1 19 := ⟨by decide +kernel, rfl⟩
def d_Tx_empty (K : Nat) (M : Mem) : Res := blet (sto M K 1 0) fun M1 => blet (sto M1 K 2 0) fun M2 => bcall (d_Ar_fill1 (K + 3) 7 (-1) M2) fun v3 M4 => some (0, M4)
theorem t_Tx_empty (l : Launch) (G : GX) {lev : Nat} (hlev : 1 ≤ lev) {K : Nat} (hT : IsText K) {M : Mem} {r : Int × Mem} (h : d_Tx_empty K M = some r) : Mt l G y_Tx_empty b_Tx_empty 1 none lev 0 [.ref (G.1 + K)] M r := by
  refine Mt.of (by decide) (i_le rfl) ?_
  intro p e s m args below meth c C
  have C : Cx p s m args meth c G b_Tx_empty 1 "PrairiePool$Text" none := C
  unfold d_Tx_empty at h
  refine z_sub (lv' := [(0, .ref (G.1 + K))]) [0] rfl ?_
  refine z_aload_n C 0 x_Tx_empty_0 rfl ?_
  refine z_iconst C x_Tx_empty_1 ?_
  obtain ⟨M1, eM1, h⟩ := blet_e h
  refine z_putI (j := 1) C x_Tx_empty_2 (hT).k0 (hT).c0 cw_8 (i_lt rfl) rfl rfl rfl rfl fl_Tx_21 eM1 ?_
  refine z_aload_n C 0 x_Tx_empty_5 rfl ?_
  refine z_iconst C x_Tx_empty_6 ?_
  obtain ⟨M2, eM2, h⟩ := blet_e h
  refine z_putI (j := 2) C x_Tx_empty_7 (hT).k0 (hT).c0 cw_8 (i_lt rfl) rfl rfl rfl rfl fl_Tx_25 eM2 ?_
  refine z_aload_n C 0 x_Tx_empty_10 rfl ?_
  refine z_getR (j := 5) C x_Tx_empty_11 (hT).k0 (hT).c0 cw_8 (i_lt rfl) rfl (hT).r5 rfl fl_Tx_18 ?_
  refine z_iconst C x_Tx_empty_14 ?_
  obtain ⟨v3, M4, fv3, h⟩ := bcall_e h
  refine z_callSv C x_Tx_empty_15 cs_Tx_28 (t_Ar_fill1 (lev := lev - 1) l G (by omega) (hT).k3 (hT).c3 fv3) (by omega) rfl (i_le rfl) rfl ?_
  exact z_vret C x_Tx_empty_18 h
theorem x_Tx_add_0 : DC b_Tx_add 0 (.aload_n 0) 1 1 := ⟨by decide +kernel, rfl⟩
theorem x_Tx_add_1 : DC b_Tx_add 1 (.getfield 25) 3 4 := ⟨by decide +kernel, rfl⟩
theorem x_Tx_add_4 : DC b_Tx_add 4 (.sipush 500) 3 7 := ⟨by decide +kernel, rfl⟩
theorem x_Tx_add_7 : DC b_Tx_add 7 (.if_icmp .ge 28) 3 10 := ⟨by decide +kernel, rfl⟩
theorem x_Tx_add_10 : DC b_Tx_add 10 (.aload_n 0) 1 11 := ⟨by decide +kernel, rfl⟩
theorem x_Tx_add_11 : DC b_Tx_add 11 (.getfield 11) 3 14 := ⟨by decide +kernel, rfl⟩
theorem x_Tx_add_14 : DC b_Tx_add 14 (.aload_n 0) 1 15 := ⟨by decide +kernel, rfl⟩
theorem x_Tx_add_15 : DC b_Tx_add 15 (.getfield 25) 3 18 := ⟨by decide +kernel, rfl⟩
theorem x_Tx_add_18 : DC b_Tx_add 18 (.iload_n 1) 1 19 := ⟨by decide +kernel, rfl⟩
theorem x_Tx_add_19 : DC b_Tx_add 19 (.bipush 20) 2 21 := ⟨by decide +kernel, rfl⟩
theorem x_Tx_add_21 : DC b_Tx_add 21 (.ishl) 1 22 := ⟨by decide +kernel, rfl⟩
theorem x_Tx_add_22 : DC b_Tx_add 22 (.iload_n 2) 1 23 := ⟨by decide +kernel, rfl⟩
theorem x_Tx_add_23 : DC b_Tx_add 23 (.ior) 1 24 := ⟨by decide +kernel, rfl⟩
theorem x_Tx_add_24 : DC b_Tx_add 24 (.iastore) 1 25 := ⟨by decide +kernel, rfl⟩
theorem x_Tx_add_25 : DC b_Tx_add 25 (.aload_n 0) 1 26 := ⟨by decide +kernel, rfl⟩
theorem x_Tx_add_26 : DC b_Tx_add 26 (.dup) 1 27 := ⟨by decide +kernel, rfl⟩
theorem x_Tx_add_27 : DC b_Tx_add 27 (.getfield 25) 3 30 := ⟨by decide +kernel, rfl⟩
theorem x_Tx_add_30 : DC b_Tx_add 30 (.iconst 1) 1 31 := ⟨by decide +kernel, rfl⟩
theorem x_Tx_add_31 : DC b_Tx_add 31 (.iadd) 1 32 := ⟨by decide +kernel, rfl⟩
theorem x_Tx_add_32 : DC b_Tx_add 32 (.putfield 25) 3 35 := ⟨by decide +kernel, rfl⟩
theorem x_Tx_add_35 : DC b_Tx_add 35 (.return_) 1 36 := ⟨by decide +kernel, rfl⟩
def d_Tx_add (K : Nat) (a1 a2 : Int) (M : Mem) : Res := blet (M K 2) fun v1 => if w32 v1 < 500 then (blet (M K 2) fun v3 => chk (0 ≤ w32 v3 ∧ w32 v3 < 500) <| blet (sto M (K + 1) (ix v3) (or32 (sl32 a1 20) a2)) fun M5 => blet (M5 K 2) fun v6 => blet (sto M5 K 2 (v6 + 1)) fun M7 => some (0, M7)) else (some (0, M))
theorem t_Tx_add (l : Launch) (G : GX) {lev : Nat} (hlev : 0 ≤ lev) {K : Nat} (hT : IsText K) {a1 a2 : Int} {M : Mem} {r : Int × Mem} (h : d_Tx_add K a1 a2 M = some r) : Mt l G y_Tx_add b_Tx_add 3 none lev 0 [.ref (G.1 + K), vi a1, vi a2] M r := by
  refine Mt.of (by decide) (i_le rfl) ?_
  intro p e s m args below meth c C
  have C : Cx p s m args meth c G b_Tx_add 3 "PrairiePool$Text" none := C
  unfold d_Tx_add at h
  refine z_sub (lv' := [(0, .ref (G.1 + K)), (1, vi a1), (2, vi a2)]) [0, 1, 2] rfl ?_
  refine z_aload_n C 0 x_Tx_add_0 rfl ?_
  obtain ⟨v1, ev1, h⟩ := blet_e h
  refine z_getI (j := 2) C x_Tx_add_1 (hT).k0 (hT).c0 cw_8 (i_lt rfl) rfl rfl fl_Tx_25 ev1 ?_
  refine z_sipush C rfl x_Tx_add_4 ?_
  rcases ite_e h with ⟨c2, h⟩ | ⟨c2, h⟩
  · refine z_icmp_ge_f (tgt := 35) C x_Tx_add_7 rfl c2 ?_
    refine z_aload_n C 0 x_Tx_add_10 rfl ?_
    refine z_getR (j := 3) C x_Tx_add_11 (hT).k0 (hT).c0 cw_8 (i_lt rfl) rfl (hT).r3 rfl fl_Tx_11 ?_
    refine z_aload_n C 0 x_Tx_add_14 rfl ?_
    obtain ⟨v3, ev3, h⟩ := blet_e h
    refine z_getI (j := 2) C x_Tx_add_15 (hT).k0 (hT).c0 cw_8 (i_lt rfl) rfl rfl fl_Tx_25 ev3 ?_
    refine z_iload_n C 1 x_Tx_add_18 rfl ?_
    refine z_bipush C rfl x_Tx_add_19 ?_
    refine z_ishl C x_Tx_add_21 ?_
    refine z_iload_n C 2 x_Tx_add_22 rfl ?_
    refine z_ior C x_Tx_add_23 ?_
    obtain ⟨c4, h⟩ := chk_e h
    obtain ⟨M5, eM5, h⟩ := blet_e h
    refine z_iast C x_Tx_add_24 (hT).k1 (hT).c1 c4 eM5 ?_
    refine z_aload_n C 0 x_Tx_add_25 rfl ?_
    refine z_dup C x_Tx_add_26 rfl ?_
    obtain ⟨v6, ev6, h⟩ := blet_e h
    refine z_getI (j := 2) C x_Tx_add_27 (hT).k0 (hT).c0 cw_8 (i_lt rfl) rfl rfl fl_Tx_25 ev6 ?_
    refine z_iconst C x_Tx_add_30 ?_
    refine z_iadd C x_Tx_add_31 ?_
    obtain ⟨M7, eM7, h⟩ := blet_e h
    refine z_putI (j := 2) C x_Tx_add_32 (hT).k0 (hT).c0 cw_8 (i_lt rfl) rfl rfl rfl rfl fl_Tx_25 eM7 ?_
    exact z_vret C x_Tx_add_35 h
  · refine z_icmp_ge_t (tgt := 35) C x_Tx_add_7 rfl c2 ?_
    exact z_vret C x_Tx_add_35 h
theorem x_Tx_endDef_0 : DC b_Tx_endDef 0 (.aload_n 0) 1 1 := ⟨by decide +kernel, rfl⟩
theorem x_Tx_endDef_1 : DC b_Tx_endDef 1 (.getfield 21) 3 4 := ⟨by decide +kernel, rfl⟩
theorem x_Tx_endDef_4 : DC b_Tx_endDef 4 (.bipush 10) 2 6 := ⟨by decide +kernel, rfl⟩
theorem x_Tx_endDef_6 : DC b_Tx_endDef 6 (.if_icmp .ge 26) 3 9 := ⟨by decide +kernel, rfl⟩
theorem x_Tx_endDef_9 : DC b_Tx_endDef 9 (.aload_n 0) 1 10 := ⟨by decide +kernel, rfl⟩
theorem x_Tx_endDef_10 : DC b_Tx_endDef 10 (.getfield 15) 3 13 := ⟨by decide +kernel, rfl⟩
theorem x_Tx_endDef_13 : DC b_Tx_endDef 13 (.aload_n 0) 1 14 := ⟨by decide +kernel, rfl⟩
theorem x_Tx_endDef_14 : DC b_Tx_endDef 14 (.getfield 21) 3 17 := ⟨by decide +kernel, rfl⟩
theorem x_Tx_endDef_17 : DC b_Tx_endDef 17 (.aload_n 0) 1 18 := ⟨by decide +kernel, rfl⟩
theorem x_Tx_endDef_18 : DC b_Tx_endDef 18 (.getfield 25) 3 21 := ⟨by decide +kernel, rfl⟩
theorem x_Tx_endDef_21 : DC b_Tx_endDef 21 (.iastore) 1 22 := ⟨by decide +kernel, rfl⟩
theorem x_Tx_endDef_22 : DC b_Tx_endDef 22 (.aload_n 0) 1 23 := ⟨by decide +kernel, rfl⟩
theorem x_Tx_endDef_23 : DC b_Tx_endDef 23 (.dup) 1 24 := ⟨by decide +kernel, rfl⟩
theorem x_Tx_endDef_24 : DC b_Tx_endDef 24 (.getfield 21) 3 27 := ⟨by decide +kernel, rfl⟩
theorem x_Tx_endDef_27 : DC b_Tx_endDef 27 (.iconst 1) 1 28 := ⟨by decide +kernel, rfl⟩
theorem x_Tx_endDef_28 : DC b_Tx_endDef 28 (.iadd) 1 29 := ⟨by decide +kernel, rfl⟩
theorem x_Tx_endDef_29 : DC b_Tx_endDef 29 (.putfield 21) 3 32 := ⟨by decide +kernel, rfl⟩
theorem x_Tx_endDef_32 : DC b_Tx_endDef 32 (.return_) 1 33 := ⟨by decide +kernel, rfl⟩
def d_Tx_endDef (K : Nat) (M : Mem) : Res := blet (M K 1) fun v1 => if w32 v1 < 10 then (blet (M K 1) fun v3 => blet (M K 2) fun v4 => chk (0 ≤ w32 v3 ∧ w32 v3 < 10) <| blet (sto M (K + 2) (ix v3) v4) fun M6 => blet (M6 K 1) fun v7 => blet (sto M6 K 1 (v7 + 1)) fun M8 => some (0, M8)) else (some (0, M))
theorem t_Tx_endDef (l : Launch) (G : GX) {lev : Nat} (hlev : 0 ≤ lev) {K : Nat} (hT : IsText K) {M : Mem} {r : Int × Mem} (h : d_Tx_endDef K M = some r) : Mt l G y_Tx_endDef b_Tx_endDef 1 none lev 0 [.ref (G.1 + K)] M r := by
  refine Mt.of (by decide) (i_le rfl) ?_
  intro p e s m args below meth c C
  have C : Cx p s m args meth c G b_Tx_endDef 1 "PrairiePool$Text" none := C
  unfold d_Tx_endDef at h
  refine z_sub (lv' := [(0, .ref (G.1 + K))]) [0] rfl ?_
  refine z_aload_n C 0 x_Tx_endDef_0 rfl ?_
  obtain ⟨v1, ev1, h⟩ := blet_e h
  refine z_getI (j := 1) C x_Tx_endDef_1 (hT).k0 (hT).c0 cw_8 (i_lt rfl) rfl rfl fl_Tx_21 ev1 ?_
  refine z_bipush C rfl x_Tx_endDef_4 ?_
  rcases ite_e h with ⟨c2, h⟩ | ⟨c2, h⟩
  · refine z_icmp_ge_f (tgt := 32) C x_Tx_endDef_6 rfl c2 ?_
    refine z_aload_n C 0 x_Tx_endDef_9 rfl ?_
    refine z_getR (j := 4) C x_Tx_endDef_10 (hT).k0 (hT).c0 cw_8 (i_lt rfl) rfl (hT).r4 rfl fl_Tx_15 ?_
    refine z_aload_n C 0 x_Tx_endDef_13 rfl ?_
    obtain ⟨v3, ev3, h⟩ := blet_e h
    refine z_getI (j := 1) C x_Tx_endDef_14 (hT).k0 (hT).c0 cw_8 (i_lt rfl) rfl rfl fl_Tx_21 ev3 ?_
    refine z_aload_n C 0 x_Tx_endDef_17 rfl ?_
    obtain ⟨v4, ev4, h⟩ := blet_e h
    refine z_getI (j := 2) C x_Tx_endDef_18 (hT).k0 (hT).c0 cw_8 (i_lt rfl) rfl rfl fl_Tx_25 ev4 ?_
    obtain ⟨c5, h⟩ := chk_e h
    obtain ⟨M6, eM6, h⟩ := blet_e h
    refine z_iast C x_Tx_endDef_21 (hT).k2 (hT).c2 c5 eM6 ?_
    refine z_aload_n C 0 x_Tx_endDef_22 rfl ?_
    refine z_dup C x_Tx_endDef_23 rfl ?_
    obtain ⟨v7, ev7, h⟩ := blet_e h
    refine z_getI (j := 1) C x_Tx_endDef_24 (hT).k0 (hT).c0 cw_8 (i_lt rfl) rfl rfl fl_Tx_21 ev7 ?_
    refine z_iconst C x_Tx_endDef_27 ?_
    refine z_iadd C x_Tx_endDef_28 ?_
    obtain ⟨M8, eM8, h⟩ := blet_e h
    refine z_putI (j := 1) C x_Tx_endDef_29 (hT).k0 (hT).c0 cw_8 (i_lt rfl) rfl rfl rfl rfl fl_Tx_21 eM8 ?_
    exact z_vret C x_Tx_endDef_32 h
  · refine z_icmp_ge_t (tgt := 32) C x_Tx_endDef_6 rfl c2 ?_
    exact z_vret C x_Tx_endDef_32 h
theorem x_Tx_copyFrom_0 : DC b_Tx_copyFrom 0 (.aload_n 0) 1 1 := ⟨by decide +kernel, rfl⟩
theorem x_Tx_copyFrom_1 : DC b_Tx_copyFrom 1 (.aload_n 1) 1 2 := ⟨by decide +kernel, rfl⟩
theorem x_Tx_copyFrom_2 : DC b_Tx_copyFrom 2 (.getfield 21) 3 5 := ⟨by decide +kernel, rfl⟩
theorem x_Tx_copyFrom_5 : DC b_Tx_copyFrom 5 (.putfield 21) 3 8 := ⟨by decide +kernel, rfl⟩
theorem x_Tx_copyFrom_8 : DC b_Tx_copyFrom 8 (.aload_n 0) 1 9 := ⟨by decide +kernel, rfl⟩
theorem x_Tx_copyFrom_9 : DC b_Tx_copyFrom 9 (.aload_n 1) 1 10 := ⟨by decide +kernel, rfl⟩
theorem x_Tx_copyFrom_10 : DC b_Tx_copyFrom 10 (.getfield 25) 3 13 := ⟨by decide +kernel, rfl⟩
theorem x_Tx_copyFrom_13 : DC b_Tx_copyFrom 13 (.putfield 25) 3 16 := ⟨by decide +kernel, rfl⟩
theorem x_Tx_copyFrom_16 : DC b_Tx_copyFrom 16 (.aload_n 1) 1 17 := ⟨by decide +kernel, rfl⟩
theorem x_Tx_copyFrom_17 : DC b_Tx_copyFrom 17 (.getfield 11) 3 20 := ⟨by decide +kernel, rfl⟩
theorem x_Tx_copyFrom_20 : DC b_Tx_copyFrom 20 (.iconst 0) 1 21 := ⟨by decide +kernel, rfl⟩
theorem x_Tx_copyFrom_21 : DC b_Tx_copyFrom 21 (.aload_n 0) 1 22 := ⟨by decide +kernel, rfl⟩
theorem x_Tx_copyFrom_22 : DC b_Tx_copyFrom 22 (.getfield 11) 3 25 := ⟨by decide +kernel, rfl⟩
theorem x_Tx_copyFrom_25 : DC b_Tx_copyFrom 25 (.iconst 0) 1 26 := ⟨by decide +kernel, rfl⟩
theorem x_Tx_copyFrom_26 : DC b_Tx_copyFrom 26 (.sipush 500) 3 29 := ⟨by decide +kernel, rfl⟩
theorem x_Tx_copyFrom_29 : DC b_Tx_copyFrom 29 (.invokestatic 34) 3 32 := ⟨by decide +kernel, rfl⟩
theorem x_Tx_copyFrom_32 : DC b_Tx_copyFrom 32 (.aload_n 1) 1 33 := ⟨by decide +kernel, rfl⟩
theorem x_Tx_copyFrom_33 : DC b_Tx_copyFrom 33 (.getfield 15) 3 36 := ⟨by decide +kernel, rfl⟩
theorem x_Tx_copyFrom_36 : DC b_Tx_copyFrom 36 (.iconst 0) 1 37 := ⟨by decide +kernel, rfl⟩
theorem x_Tx_copyFrom_37 : DC b_Tx_copyFrom 37 (.aload_n 0) 1 38 := ⟨by decide +kernel, rfl⟩
theorem x_Tx_copyFrom_38 : DC b_Tx_copyFrom 38 (.getfield 15) 3 41 := ⟨by decide +kernel, rfl⟩
theorem x_Tx_copyFrom_41 : DC b_Tx_copyFrom 41 (.iconst 0) 1 42 := ⟨by decide +kernel, rfl⟩
theorem x_Tx_copyFrom_42 : DC b_Tx_copyFrom 42 (.bipush 10) 2 44 := ⟨by decide +kernel, rfl⟩
theorem x_Tx_copyFrom_44 : DC b_Tx_copyFrom 44 (.invokestatic 34) 3 47 := ⟨by decide +kernel, rfl⟩
theorem x_Tx_copyFrom_47 : DC b_Tx_copyFrom 47 (.aload_n 1) 1 48 := ⟨by decide +kernel, rfl⟩
theorem x_Tx_copyFrom_48 : DC b_Tx_copyFrom 48 (.getfield 18) 3 51 := ⟨by decide +kernel, rfl⟩
theorem x_Tx_copyFrom_51 : DC b_Tx_copyFrom 51 (.iconst 0) 1 52 := ⟨by decide +kernel, rfl⟩
theorem x_Tx_copyFrom_52 : DC b_Tx_copyFrom 52 (.aload_n 0) 1 53 := ⟨by decide +kernel, rfl⟩
theorem x_Tx_copyFrom_53 : DC b_Tx_copyFrom 53 (.getfield 18) 3 56 := ⟨by decide +kernel, rfl⟩
theorem x_Tx_copyFrom_56 : DC b_Tx_copyFrom 56 (.iconst 0) 1 57 := ⟨by decide +kernel, rfl⟩
theorem x_Tx_copyFrom_57 : DC b_Tx_copyFrom 57 (.bipush 7) 2 59 := ⟨by decide +kernel, rfl⟩
theorem x_Tx_copyFrom_59 : DC b_Tx_copyFrom 59 (.invokestatic 34) 3 62 := ⟨by decide +kernel, rfl⟩
theorem x_Tx_copyFrom_62 : DC b_Tx_copyFrom 62 (.return_) 1 63 := ⟨by decide +kernel, rfl⟩
def d_Tx_copyFrom (K : Nat) (K2 : Nat) (M : Mem) : Res := blet (M K2 1) fun v1 => blet (sto M K 1 v1) fun M2 => blet (M2 K2 2) fun v3 => blet (sto M2 K 2 v3) fun M4 => blet (cpy M4 (K2 + 1) 0 (K + 1) 0 500) fun M5 => blet (cpy M5 (K2 + 2) 0 (K + 2) 0 10) fun M6 => blet (cpy M6 (K2 + 3) 0 (K + 3) 0 7) fun M7 => some (0, M7)
theorem t_Tx_copyFrom (l : Launch) (G : GX) {lev : Nat} (hlev : 1 ≤ lev) {K : Nat} {K2 : Nat} (hT : IsText K) (hT2 : IsText K2) {M : Mem} {r : Int × Mem} (h : d_Tx_copyFrom K K2 M = some r) : Mt l G y_Tx_copyFrom b_Tx_copyFrom 2 none lev 0 [.ref (G.1 + K), .ref (G.1 + K2)] M r := by
  refine Mt.of (by decide) (i_le rfl) ?_
  intro p e s m args below meth c C
  have C : Cx p s m args meth c G b_Tx_copyFrom 2 "PrairiePool$Text" none := C
  unfold d_Tx_copyFrom at h
  refine z_sub (lv' := [(0, .ref (G.1 + K)), (1, .ref (G.1 + K2))]) [0, 1] rfl ?_
  refine z_aload_n C 0 x_Tx_copyFrom_0 rfl ?_
  refine z_aload_n C 1 x_Tx_copyFrom_1 rfl ?_
  obtain ⟨v1, ev1, h⟩ := blet_e h
  refine z_getI (j := 1) C x_Tx_copyFrom_2 (hT2).k0 (hT2).c0 cw_8 (i_lt rfl) rfl rfl fl_Tx_21 ev1 ?_
  obtain ⟨M2, eM2, h⟩ := blet_e h
  refine z_putI (j := 1) C x_Tx_copyFrom_5 (hT).k0 (hT).c0 cw_8 (i_lt rfl) rfl rfl rfl rfl fl_Tx_21 eM2 ?_
  refine z_aload_n C 0 x_Tx_copyFrom_8 rfl ?_
  refine z_aload_n C 1 x_Tx_copyFrom_9 rfl ?_
  obtain ⟨v3, ev3, h⟩ := blet_e h
  refine z_getI (j := 2) C x_Tx_copyFrom_10 (hT2).k0 (hT2).c0 cw_8 (i_lt rfl) rfl rfl fl_Tx_25 ev3 ?_
  obtain ⟨M4, eM4, h⟩ := blet_e h
  refine z_putI (j := 2) C x_Tx_copyFrom_13 (hT).k0 (hT).c0 cw_8 (i_lt rfl) rfl rfl rfl rfl fl_Tx_25 eM4 ?_
  refine z_aload_n C 1 x_Tx_copyFrom_16 rfl ?_
  refine z_getR (j := 3) C x_Tx_copyFrom_17 (hT2).k0 (hT2).c0 cw_8 (i_lt rfl) rfl (hT2).r3 rfl fl_Tx_11 ?_
  refine z_iconst C x_Tx_copyFrom_20 ?_
  refine z_aload_n C 0 x_Tx_copyFrom_21 rfl ?_
  refine z_getR (j := 3) C x_Tx_copyFrom_22 (hT).k0 (hT).c0 cw_8 (i_lt rfl) rfl (hT).r3 rfl fl_Tx_11 ?_
  refine z_iconst C x_Tx_copyFrom_25 ?_
  refine z_sipush C rfl x_Tx_copyFrom_26 ?_
  obtain ⟨M5, eM5, h⟩ := blet_e h
  refine z_copyI C x_Tx_copyFrom_29 ca_Tx_34 (hT2).k1 (hT2).c1 (hT).k1 (hT).c1 (by decide) (by omega) (i_le rfl) eM5 ?_
  refine z_aload_n C 1 x_Tx_copyFrom_32 rfl ?_
  refine z_getR (j := 4) C x_Tx_copyFrom_33 (hT2).k0 (hT2).c0 cw_8 (i_lt rfl) rfl (hT2).r4 rfl fl_Tx_15 ?_
  refine z_iconst C x_Tx_copyFrom_36 ?_
  refine z_aload_n C 0 x_Tx_copyFrom_37 rfl ?_
  refine z_getR (j := 4) C x_Tx_copyFrom_38 (hT).k0 (hT).c0 cw_8 (i_lt rfl) rfl (hT).r4 rfl fl_Tx_15 ?_
  refine z_iconst C x_Tx_copyFrom_41 ?_
  refine z_bipush C rfl x_Tx_copyFrom_42 ?_
  obtain ⟨M6, eM6, h⟩ := blet_e h
  refine z_copyI C x_Tx_copyFrom_44 ca_Tx_34 (hT2).k2 (hT2).c2 (hT).k2 (hT).c2 (by decide) (by omega) (i_le rfl) eM6 ?_
  refine z_aload_n C 1 x_Tx_copyFrom_47 rfl ?_
  refine z_getR (j := 5) C x_Tx_copyFrom_48 (hT2).k0 (hT2).c0 cw_8 (i_lt rfl) rfl (hT2).r5 rfl fl_Tx_18 ?_
  refine z_iconst C x_Tx_copyFrom_51 ?_
  refine z_aload_n C 0 x_Tx_copyFrom_52 rfl ?_
  refine z_getR (j := 5) C x_Tx_copyFrom_53 (hT).k0 (hT).c0 cw_8 (i_lt rfl) rfl (hT).r5 rfl fl_Tx_18 ?_
  refine z_iconst C x_Tx_copyFrom_56 ?_
  refine z_bipush C rfl x_Tx_copyFrom_57 ?_
  obtain ⟨M7, eM7, h⟩ := blet_e h
  refine z_copyI C x_Tx_copyFrom_59 ca_Tx_34 (hT2).k3 (hT2).c3 (hT).k3 (hT).c3 (by decide) (by omega) (i_le rfl) eM7 ?_
  exact z_vret C x_Tx_copyFrom_62 h
theorem x_As_adopt_0 : DC b_As_adopt 0 (.aload_n 0) 1 1 := ⟨by decide +kernel, rfl⟩
theorem x_As_adopt_1 : DC b_As_adopt 1 (.getfield 13) 3 4 := ⟨by decide +kernel, rfl⟩
theorem x_As_adopt_4 : DC b_As_adopt 4 (.aload_n 0) 1 5 := ⟨by decide +kernel, rfl⟩
theorem x_As_adopt_5 : DC b_As_adopt 5 (.getfield 39) 3 8 := ⟨by decide +kernel, rfl⟩
theorem x_As_adopt_8 : DC b_As_adopt 8 (.aaload) 1 9 := ⟨by decide +kernel, rfl⟩
theorem x_As_adopt_9 : DC b_As_adopt 9 (.aload_n 1) 1 10 := ⟨by decide +kernel, rfl⟩
theorem x_As_adopt_10 : DC b_As_adopt 10 (.invokevirtual 42) 3 13 := ⟨by decide +kernel, rfl⟩
theorem x_As_adopt_13 : DC b_As_adopt 13 (.aload_n 0) 1 14 := ⟨by decide +kernel, rfl⟩
theorem x_As_adopt_14 : DC b_As_adopt 14 (.getfield 13) 3 17 := ⟨by decide +kernel, rfl⟩
theorem x_As_adopt_17 : DC b_As_adopt 17 (.aload_n 0) 1 18 := ⟨by decide +kernel, rfl⟩
theorem x_As_adopt_18 : DC b_As_adopt 18 (.getfield 39) 3 21 := ⟨by decide +kernel, rfl⟩
theorem x_As_adopt_21 : DC b_As_adopt 21 (.aaload) 1 22 := ⟨by decide +kernel, rfl⟩
theorem x_As_adopt_22 : DC b_As_adopt 22 (.iload_n 2) 1 23 := ⟨by decide +kernel, rfl⟩
theorem x_As_adopt_23 : DC b_As_adopt 23 (.putfield 46) 3 26 := ⟨by decide +kernel, rfl⟩
theorem x_As_adopt_26 : DC b_As_adopt 26 (.aload_n 0) 1 27 := ⟨by decide +kernel, rfl⟩
theorem x_As_adopt_27 : DC b_As_adopt 27 (.dup) 1 28 := ⟨by decide +kernel, rfl⟩
theorem x_As_adopt_28 : DC b_As_adopt 28 (.getfield 39) 3 31 := ⟨by decide +kernel, rfl⟩
theorem x_As_adopt_31 : DC b_As_adopt 31 (.iconst 1) 1 32 := ⟨by decide +kernel, rfl⟩
theorem x_As_adopt_32 : DC b_As_adopt 32 (.iadd) 1 33 := ⟨by decide +kernel, rfl⟩
theorem x_As_adopt_33 : DC b_As_adopt 33 (.putfield 39) 3 36 := ⟨by decide +kernel, rfl⟩
theorem x_As_adopt_36 : DC b_As_adopt 36 (.return_) 1 37 := ⟨by decide +kernel, rfl⟩
def d_As_adopt (K : Nat) (a2 : Int) (M : Mem) : Res := blet (M 32 0) fun v1 => chk (0 ≤ w32 v1 ∧ w32 v1 < 4) <| bcall (d_Tx_copyFrom (39 + 4 * (ix v1)) K M) fun v3 M4 => blet (M4 32 0) fun v5 => chk (0 ≤ w32 v5 ∧ w32 v5 < 4) <| blet (sto M4 (39 + 4 * (ix v5)) 0 a2) fun M7 => blet (M7 32 0) fun v8 => blet (sto M7 32 0 (v8 + 1)) fun M9 => some (0, M9)
theorem t_As_adopt (l : Launch) (G : GX) {lev : Nat} (hlev : 2 ≤ lev) {K : Nat} (hT : IsText K) {a2 : Int} {M : Mem} {r : Int × Mem} (h : d_As_adopt K a2 M = some r) : Mt l G y_As_adopt b_As_adopt 3 none lev 0 [.ref (G.1 + 32), .ref (G.1 + K), vi a2] M r := by
  refine Mt.of (by decide) (i_le rfl) ?_
  intro p e s m args below meth c C
  have C : Cx p s m args meth c G b_As_adopt 3 "PrairiePool$Asker" none := C
  unfold d_As_adopt at h
  refine z_sub (lv' := [(0, .ref (G.1 + 32)), (1, .ref (G.1 + K)), (2, vi a2)]) [0, 1, 2] rfl ?_
  refine z_aload_n C 0 x_As_adopt_0 rfl ?_
  refine z_getR (j := 1) C x_As_adopt_1 nk_32 ck_32 cw_0 (i_lt rfl) rfl rf_32_1 rfl fl_As_13 ?_
  refine z_aload_n C 0 x_As_adopt_4 rfl ?_
  obtain ⟨v1, ev1, h⟩ := blet_e h
  refine z_getI (j := 0) C x_As_adopt_5 nk_32 ck_32 cw_0 (i_lt rfl) rfl rfl fl_As_39 ev1 ?_
  obtain ⟨c2, h⟩ := chk_e h
  refine z_aaldT C x_As_adopt_8 c2 ?_
  refine z_aload_n C 1 x_As_adopt_9 rfl ?_
  obtain ⟨v3, M4, fv3, h⟩ := bcall_e h
  refine z_callVv (k := (39 + 4 * (ix v1))) C x_As_adopt_10 cv_As_42 (t_Tx_copyFrom (lev := lev - 1) l G (by omega) (it_tx c2) hT fv3) (it_tx c2).k0 (it_tx c2).c0 rfl (by omega) rfl (i_le rfl) rfl ?_
  refine z_aload_n C 0 x_As_adopt_13 rfl ?_
  refine z_getR (j := 1) C x_As_adopt_14 nk_32 ck_32 cw_0 (i_lt rfl) rfl rf_32_1 rfl fl_As_13 ?_
  refine z_aload_n C 0 x_As_adopt_17 rfl ?_
  obtain ⟨v5, ev5, h⟩ := blet_e h
  refine z_getI (j := 0) C x_As_adopt_18 nk_32 ck_32 cw_0 (i_lt rfl) rfl rfl fl_As_39 ev5 ?_
  obtain ⟨c6, h⟩ := chk_e h
  refine z_aaldT C x_As_adopt_21 c6 ?_
  refine z_iload_n C 2 x_As_adopt_22 rfl ?_
  obtain ⟨M7, eM7, h⟩ := blet_e h
  refine z_putI (j := 0) C x_As_adopt_23 (it_tx c6).k0 (it_tx c6).c0 cw_8 (i_lt rfl) rfl rfl rfl rfl fl_As_46 eM7 ?_
  refine z_aload_n C 0 x_As_adopt_26 rfl ?_
  refine z_dup C x_As_adopt_27 rfl ?_
  obtain ⟨v8, ev8, h⟩ := blet_e h
  refine z_getI (j := 0) C x_As_adopt_28 nk_32 ck_32 cw_0 (i_lt rfl) rfl rfl fl_As_39 ev8 ?_
  refine z_iconst C x_As_adopt_31 ?_
  refine z_iadd C x_As_adopt_32 ?_
  obtain ⟨M9, eM9, h⟩ := blet_e h
  refine z_putI (j := 0) C x_As_adopt_33 nk_32 ck_32 cw_0 (i_lt rfl) rfl rfl rfl rfl fl_As_39 eM9 ?_
  exact z_vret C x_As_adopt_36 h
theorem x_Pr_tellOf_0 : DC b_Pr_tellOf 0 (.aload_n 2) 1 1 := ⟨by decide +kernel, rfl⟩
theorem x_Pr_tellOf_1 : DC b_Pr_tellOf 1 (.iconst 5) 1 2 := ⟨by decide +kernel, rfl⟩
theorem x_Pr_tellOf_2 : DC b_Pr_tellOf 2 (.aload_n 0) 1 3 := ⟨by decide +kernel, rfl⟩
theorem x_Pr_tellOf_3 : DC b_Pr_tellOf 3 (.getfield 15) 3 6 := ⟨by decide +kernel, rfl⟩
theorem x_Pr_tellOf_6 : DC b_Pr_tellOf 6 (.iload_n 1) 1 7 := ⟨by decide +kernel, rfl⟩
theorem x_Pr_tellOf_7 : DC b_Pr_tellOf 7 (.iaload) 1 8 := ⟨by decide +kernel, rfl⟩
theorem x_Pr_tellOf_8 : DC b_Pr_tellOf 8 (.i2l) 1 9 := ⟨by decide +kernel, rfl⟩
theorem x_Pr_tellOf_9 : DC b_Pr_tellOf 9 (.invokevirtual 53) 3 12 := ⟨by decide +kernel, rfl⟩
theorem x_Pr_tellOf_12 : DC b_Pr_tellOf 12 (.aload_n 2) 1 13 := ⟨by decide +kernel, rfl⟩
theorem x_Pr_tellOf_13 : DC b_Pr_tellOf 13 (.bipush 6) 2 15 := ⟨by decide +kernel, rfl⟩
theorem x_Pr_tellOf_15 : DC b_Pr_tellOf 15 (.aload_n 0) 1 16 := ⟨by decide +kernel, rfl⟩
theorem x_Pr_tellOf_16 : DC b_Pr_tellOf 16 (.getfield 18) 3 19 := ⟨by decide +kernel, rfl⟩
theorem x_Pr_tellOf_19 : DC b_Pr_tellOf 19 (.iload_n 1) 1 20 := ⟨by decide +kernel, rfl⟩
theorem x_Pr_tellOf_20 : DC b_Pr_tellOf 20 (.iaload) 1 21 := ⟨by decide +kernel, rfl⟩
theorem x_Pr_tellOf_21 : DC b_Pr_tellOf 21 (.i2l) 1 22 := ⟨by decide +kernel, rfl⟩
theorem x_Pr_tellOf_22 : DC b_Pr_tellOf 22 (.invokevirtual 53) 3 25 := ⟨by decide +kernel, rfl⟩
theorem x_Pr_tellOf_25 : DC b_Pr_tellOf 25 (.aload_n 2) 1 26 := ⟨by decide +kernel, rfl⟩
theorem x_Pr_tellOf_26 : DC b_Pr_tellOf 26 (.bipush 7) 2 28 := ⟨by decide +kernel, rfl⟩
theorem x_Pr_tellOf_28 : DC b_Pr_tellOf 28 (.aload_n 0) 1 29 := ⟨by decide +kernel, rfl⟩
theorem x_Pr_tellOf_29 : DC b_Pr_tellOf 29 (.getfield 9) 3 32 := ⟨by decide +kernel, rfl⟩
theorem x_Pr_tellOf_32 : DC b_Pr_tellOf 32 (.iload_n 1) 1 33 := ⟨by decide +kernel, rfl⟩
theorem x_Pr_tellOf_33 : DC b_Pr_tellOf 33 (.iaload) 1 34 := ⟨by decide +kernel, rfl⟩
theorem x_Pr_tellOf_34 : DC b_Pr_tellOf 34 (.i2l) 1 35 := ⟨by decide +kernel, rfl⟩
theorem x_Pr_tellOf_35 : DC b_Pr_tellOf 35 (.invokevirtual 53) 3 38 := ⟨by decide +kernel, rfl⟩
theorem x_Pr_tellOf_38 : DC b_Pr_tellOf 38 (.return_) 1 39 := ⟨by decide +kernel, rfl⟩
def d_Pr_tellOf (a1 : Int) (M : Mem) : Res := chk (0 ≤ w32 a1 ∧ w32 a1 < 20) <| blet (M 7 (ix a1)) fun v2 => bcall (d_As_tell 5 (w32 v2) M) fun v3 M4 => chk (0 ≤ w32 a1 ∧ w32 a1 < 20) <| blet (M4 8 (ix a1)) fun v6 => bcall (d_As_tell 6 (w32 v6) M4) fun v7 M8 => chk (0 ≤ w32 a1 ∧ w32 a1 < 20) <| blet (M8 6 (ix a1)) fun v10 => bcall (d_As_tell 7 (w32 v10) M8) fun v11 M12 => some (0, M12)
theorem t_Pr_tellOf (l : Launch) (G : GX) {lev : Nat} (hlev : 1 ≤ lev) {a1 : Int} {M : Mem} {r : Int × Mem} (h : d_Pr_tellOf a1 M = some r) : Mt l G y_Pr_tellOf b_Pr_tellOf 3 none lev 0 [.ref (G.1 + 5), vi a1, .ref (G.1 + 32)] M r := by
  refine Mt.of (by decide) (i_le rfl) ?_
  intro p e s m args below meth c C
  have C : Cx p s m args meth c G b_Pr_tellOf 3 "PrairiePool$Prairie" none := C
  unfold d_Pr_tellOf at h
  refine z_sub (lv' := [(0, .ref (G.1 + 5)), (1, vi a1), (2, .ref (G.1 + 32))]) [0, 1, 2] rfl ?_
  refine z_aload_n C 2 x_Pr_tellOf_0 rfl ?_
  refine z_iconst C x_Pr_tellOf_1 ?_
  refine z_aload_n C 0 x_Pr_tellOf_2 rfl ?_
  refine z_getR (j := 2) C x_Pr_tellOf_3 nk_5 ck_5 cw_7 (i_lt rfl) rfl rf_5_2 rfl fl_Pr_15 ?_
  refine z_iload_n C 1 x_Pr_tellOf_6 rfl ?_
  obtain ⟨c1, h⟩ := chk_e h
  obtain ⟨v2, ev2, h⟩ := blet_e h
  refine z_iald C x_Pr_tellOf_7 nk_7 ck_7 c1 ev2 ?_
  refine z_i2l C x_Pr_tellOf_8 ?_
  obtain ⟨v3, M4, fv3, h⟩ := bcall_e h
  refine z_callVv (k := 32) C x_Pr_tellOf_9 cv_Pr_53 (t_As_tell (lev := lev - 1) l G (by omega) fv3) nk_32 ck_32 rfl (by omega) rfl (i_le rfl) rfl ?_
  refine z_aload_n C 2 x_Pr_tellOf_12 rfl ?_
  refine z_bipush C rfl x_Pr_tellOf_13 ?_
  refine z_aload_n C 0 x_Pr_tellOf_15 rfl ?_
  refine z_getR (j := 3) C x_Pr_tellOf_16 nk_5 ck_5 cw_7 (i_lt rfl) rfl rf_5_3 rfl fl_Pr_18 ?_
  refine z_iload_n C 1 x_Pr_tellOf_19 rfl ?_
  obtain ⟨c5, h⟩ := chk_e h
  obtain ⟨v6, ev6, h⟩ := blet_e h
  refine z_iald C x_Pr_tellOf_20 nk_8 ck_8 c5 ev6 ?_
  refine z_i2l C x_Pr_tellOf_21 ?_
  obtain ⟨v7, M8, fv7, h⟩ := bcall_e h
  refine z_callVv (k := 32) C x_Pr_tellOf_22 cv_Pr_53 (t_As_tell (lev := lev - 1) l G (by omega) fv7) nk_32 ck_32 rfl (by omega) rfl (i_le rfl) rfl ?_
  refine z_aload_n C 2 x_Pr_tellOf_25 rfl ?_
  refine z_bipush C rfl x_Pr_tellOf_26 ?_
  refine z_aload_n C 0 x_Pr_tellOf_28 rfl ?_
  refine z_getR (j := 1) C x_Pr_tellOf_29 nk_5 ck_5 cw_7 (i_lt rfl) rfl rf_5_1 rfl fl_Pr_9 ?_
  refine z_iload_n C 1 x_Pr_tellOf_32 rfl ?_
  obtain ⟨c9, h⟩ := chk_e h
  obtain ⟨v10, ev10, h⟩ := blet_e h
  refine z_iald C x_Pr_tellOf_33 nk_6 ck_6 c9 ev10 ?_
  refine z_i2l C x_Pr_tellOf_34 ?_
  obtain ⟨v11, M12, fv11, h⟩ := bcall_e h
  refine z_callVv (k := 32) C x_Pr_tellOf_35 cv_Pr_53 (t_As_tell (lev := lev - 1) l G (by omega) fv11) nk_32 ck_32 rfl (by omega) rfl (i_le rfl) rfl ?_
  exact z_vret C x_Pr_tellOf_38 h
end
