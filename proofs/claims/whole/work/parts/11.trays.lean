section
variable {p : Program} {l : Launch} {e : Env} {lev : Nat} {s : State} {m : MethodId} {args : Array Value} {below : List Frame} {meth : Method} {c : Code} {G : GX}
theorem x_Tr_make_0 : DC b_Tr_make 0 (.aload_n 0) 1 1 := ⟨by decide +kernel, rfl⟩
theorem x_Tr_make_1 : DC b_Tr_make 1 (.getfield 11) 3 4 := ⟨by decide +kernel, rfl⟩
theorem x_Tr_make_4 : DC b_Tr_make 4 (.iload_n 1) 1 5 := ⟨by decide +kernel, rfl⟩
theorem x_Tr_make_5 : DC b_Tr_make 5 (.iload_n 2) 1 6 := ⟨by decide +kernel, rfl⟩
theorem x_Tr_make_6 : DC b_Tr_make 6 (.iastore) 1 7 := ⟨by decide +kernel, rfl⟩
theorem x_Tr_make_7 : DC b_Tr_make 7 (.aload_n 0) 1 8 := ⟨by decide +kernel, rfl⟩
theorem x_Tr_make_8 : DC b_Tr_make 8 (.getfield 15) 3 11 := ⟨by decide +kernel, rfl⟩
theorem x_Tr_make_11 : DC b_Tr_make 11 (.iload_n 1) 1 12 := ⟨by decide +kernel, rfl⟩
theorem x_Tr_make_12 : DC b_Tr_make 12 (.iload_n 3) 1 13 := ⟨by decide +kernel, rfl⟩
theorem x_Tr_make_13 : DC b_Tr_make 13 (.iastore) 1 14 := ⟨by decide +kernel, rfl⟩
theorem x_Tr_make_14 : DC b_Tr_make 14 (.iconst 0) 1 15 := ⟨by decide +kernel, rfl⟩
theorem x_Tr_make_15 : DC b_Tr_make 15 (.istore 4) 2 17 := ⟨by decide +kernel, rfl⟩
theorem x_Tr_make_17 : DC b_Tr_make 17 (.iload 4) 2 19 := ⟨by decide +kernel, rfl⟩
theorem x_Tr_make_19 : DC b_Tr_make 19 (.iload_n 3) 1 20 := ⟨by decide +kernel, rfl⟩
theorem x_Tr_make_20 : DC b_Tr_make 20 (.if_icmp .ge 22) 3 23 := ⟨by decide +kernel, rfl⟩
theorem x_Tr_make_23 : DC b_Tr_make 23 (.aload_n 0) 1 24 := ⟨by decide +kernel, rfl⟩
theorem x_Tr_make_24 : DC b_Tr_make 24 (.getfield 18) 3 27 := ⟨by decide +kernel, rfl⟩
theorem x_Tr_make_27 : DC b_Tr_make 27 (.iload_n 1) 1 28 := ⟨by decide +kernel, rfl⟩
theorem x_Tr_make_28 : DC b_Tr_make 28 (.bipush 40) 2 30 := ⟨by decide +kernel, rfl⟩
theorem x_Tr_make_30 : DC b_Tr_make 30 (.imul) 1 31 := ⟨by decide +kernel, rfl⟩
theorem x_Tr_make_31 : DC b_Tr_make 31 (.iload 4) 2 33 := ⟨by decide +kernel, rfl⟩
theorem x_Tr_make_33 : DC b_Tr_make 33 (.iadd) 1 34 := ⟨by decide +kernel, rfl⟩
theorem x_Tr_make_34 : DC b_Tr_make 34 (.lconst 0) 1 35 := ⟨by decide +kernel, rfl⟩
theorem x_Tr_make_35 : DC b_Tr_make 35 (.lastore) 1 36 := ⟨by decide +kernel, rfl⟩
theorem x_Tr_make_36 : DC b_Tr_make 36 (.iinc 4 1) 3 39 := ⟨by decide +kernel, rfl⟩
theorem x_Tr_make_39 : DC b_Tr_make 39 (.goto (-22)) 3 42 := ⟨by decide +kernel, rfl⟩
theorem x_Tr_make_42 : DC b_Tr_make 42 (.return_) 1 43 := ⟨by decide +kernel, rfl⟩
def k_Tr_make_17 (R17 : Int → Int → Int → Mem → Res) (a1 a3 a4 : Int) (M : Mem) : Res := if w32 a4 < w32 a3 then (chk (0 ≤ w32 ((a1 * 40) + a4) ∧ w32 ((a1 * 40) + a4) < 160) <| blet (sto M 4 (ix ((a1 * 40) + a4)) 0) fun M3 => blet (a4 + 1) fun v4 => R17 a1 a3 v4 M3) else (some (0, M))
theorem z_Tr_make_17 (C : Cx p s m args meth c G b_Tr_make 5 "PrairiePool$Trays" none) (hlev : 0 ≤ lev) {r : Int × Mem} {R17 : Int → Int → Int → Mem → Res} (hR17 : ∀ (a1 a3 a4 : Int) (M : Mem), R17 a1 a3 a4 M = some r → Z p l e lev s m args below meth c G 5 (MQ below (Qm G 0 r) args s 0 0 (Ab G)) M 17 [(0, .ref (G.1 + 1)), (1, vi a1), (3, vi a3), (4, vi a4)] []) {a1 a3 a4 : Int} {M : Mem} (h : k_Tr_make_17 R17 a1 a3 a4 M = some r) : Z p l e lev s m args below meth c G 5 (MQ below (Qm G 0 r) args s 0 0 (Ab G)) M 17 [(0, .ref (G.1 + 1)), (1, vi a1), (3, vi a3), (4, vi a4)] [] := by
  unfold k_Tr_make_17 at h
  refine z_iload C 3 x_Tr_make_17 rfl ?_
  refine z_iload_n C 2 x_Tr_make_19 rfl ?_
  rcases ite_e h with ⟨c1, h⟩ | ⟨c1, h⟩
  · refine z_icmp_ge_f (tgt := 42) C x_Tr_make_20 rfl c1 ?_
    refine z_aload_n C 0 x_Tr_make_23 rfl ?_
    refine z_getR (j := 2) C x_Tr_make_24 nk_1 ck_1 cw_9 (i_lt rfl) rfl rf_1_2 rfl fl_Tr_18 ?_
    refine z_iload_n C 1 x_Tr_make_27 rfl ?_
    refine z_bipush C rfl x_Tr_make_28 ?_
    refine z_imul C x_Tr_make_30 ?_
    refine z_iload C 3 x_Tr_make_31 rfl ?_
    refine z_iadd C x_Tr_make_33 ?_
    refine z_lconst0 C x_Tr_make_34 ?_
    obtain ⟨c2, h⟩ := chk_e h
    obtain ⟨M3, eM3, h⟩ := blet_e h
    refine z_last C x_Tr_make_35 nk_4 ck_4 c2 eM3 ?_
    obtain ⟨v4, ev4, h⟩ := blet_e h
    refine z_iinc (lv' := [(4, vi v4), (0, .ref (G.1 + 1)), (1, vi a1), (3, vi a3)]) C 3 ev4 x_Tr_make_36 rfl (i_lt rfl) rfl ?_
    refine z_goto (tgt := 17) C x_Tr_make_39 rfl ?_
    exact z_sub [1, 2, 3, 0] rfl (hR17 a1 a3 v4 M3 h)
  · refine z_icmp_ge_t (tgt := 42) C x_Tr_make_20 rfl c1 ?_
    exact z_vret C x_Tr_make_42 h
theorem zl_Tr_make_17 (C : Cx p s m args meth c G b_Tr_make 5 "PrairiePool$Trays" none) (hlev : 0 ≤ lev) {r : Int × Mem}  : ∀ (n : Nat) (a1 a3 a4 : Int) (M : Mem), fix (fun _ _ _ _ => none) (k_Tr_make_17) n a1 a3 a4 M = some r → Z p l e lev s m args below meth c G 5 (MQ below (Qm G 0 r) args s 0 0 (Ab G)) M 17 [(0, .ref (G.1 + 1)), (1, vi a1), (3, vi a3), (4, vi a4)] [] := by
  intro n
  induction n with
  | zero => intro a1 a3 a4 M h; exact nomatch (show (none : Res) = some r from h)
  | succ n ih => intro a1 a3 a4 M h; exact z_Tr_make_17 C hlev ih h
def d_Tr_make (a1 a2 a3 : Int) (M : Mem) : Res := chk (0 ≤ w32 a1 ∧ w32 a1 < 4) <| blet (sto M 2 (ix a1) a2) fun M2 => chk (0 ≤ w32 a1 ∧ w32 a1 < 4) <| blet (sto M2 3 (ix a1) a3) fun M4 => fix (fun _ _ _ _ => none) (k_Tr_make_17) FU a1 a3 0 M4
theorem t_Tr_make (l : Launch) (G : GX) {lev : Nat} (hlev : 0 ≤ lev) {a1 a2 a3 : Int} {M : Mem} {r : Int × Mem} (h : d_Tr_make a1 a2 a3 M = some r) : Mt l G y_Tr_make b_Tr_make 5 none lev 0 [.ref (G.1 + 1), vi a1, vi a2, vi a3] M r := by
  refine Mt.of (by decide) (i_le rfl) ?_
  intro p e s m args below meth c C
  have C : Cx p s m args meth c G b_Tr_make 5 "PrairiePool$Trays" none := C
  unfold d_Tr_make at h
  refine z_sub (lv' := [(0, .ref (G.1 + 1)), (1, vi a1), (2, vi a2), (3, vi a3)]) [0, 1, 2, 3] rfl ?_
  refine z_aload_n C 0 x_Tr_make_0 rfl ?_
  refine z_getR (j := 0) C x_Tr_make_1 nk_1 ck_1 cw_9 (i_lt rfl) rfl rf_1_0 rfl fl_Tr_11 ?_
  refine z_iload_n C 1 x_Tr_make_4 rfl ?_
  refine z_iload_n C 2 x_Tr_make_5 rfl ?_
  obtain ⟨c1, h⟩ := chk_e h
  obtain ⟨M2, eM2, h⟩ := blet_e h
  refine z_iast C x_Tr_make_6 nk_2 ck_2 c1 eM2 ?_
  refine z_aload_n C 0 x_Tr_make_7 rfl ?_
  refine z_getR (j := 1) C x_Tr_make_8 nk_1 ck_1 cw_9 (i_lt rfl) rfl rf_1_1 rfl fl_Tr_15 ?_
  refine z_iload_n C 1 x_Tr_make_11 rfl ?_
  refine z_iload_n C 3 x_Tr_make_12 rfl ?_
  obtain ⟨c3, h⟩ := chk_e h
  obtain ⟨M4, eM4, h⟩ := blet_e h
  refine z_iast C x_Tr_make_13 nk_3 ck_3 c3 eM4 ?_
  refine z_iconst C x_Tr_make_14 ?_
  refine z_istore (lv' := [(4, vi 0), (0, .ref (G.1 + 1)), (1, vi a1), (2, vi a2), (3, vi a3)]) C rfl x_Tr_make_15 (i_lt rfl) rfl ?_
  exact z_sub [1, 2, 4, 0] rfl (zl_Tr_make_17 C hlev FU a1 a3 0 M4 h)
theorem x_Tr_cut_0 : DC b_Tr_cut 0 (.iload_n 2) 1 1 := ⟨by decide +kernel, rfl⟩
theorem x_Tr_cut_1 : DC b_Tr_cut 1 (.tableswitch 41 0 2 #[27, 32, 37]) 27 28 := ⟨by decide +kernel, rfl⟩
theorem x_Tr_cut_28 : DC b_Tr_cut 28 (.lload_n 0) 1 29 := ⟨by decide +kernel, rfl⟩
theorem x_Tr_cut_29 : DC b_Tr_cut 29 (.l2i) 1 30 := ⟨by decide +kernel, rfl⟩
theorem x_Tr_cut_30 : DC b_Tr_cut 30 (.i2b) 1 31 := ⟨by decide +kernel, rfl⟩
theorem x_Tr_cut_31 : DC b_Tr_cut 31 (.i2l) 1 32 := ⟨by decide +kernel, rfl⟩
theorem x_Tr_cut_32 : DC b_Tr_cut 32 (.lreturn) 1 33 := ⟨by decide +kernel, rfl⟩
theorem x_Tr_cut_33 : DC b_Tr_cut 33 (.lload_n 0) 1 34 := ⟨by decide +kernel, rfl⟩
theorem x_Tr_cut_34 : DC b_Tr_cut 34 (.l2i) 1 35 := ⟨by decide +kernel, rfl⟩
theorem x_Tr_cut_35 : DC b_Tr_cut 35 (.i2s) 1 36 := ⟨by decide +kernel, rfl⟩
theorem x_Tr_cut_36 : DC b_Tr_cut 36 (.i2l) 1 37 := ⟨by decide +kernel, rfl⟩
theorem x_Tr_cut_37 : DC b_Tr_cut 37 (.lreturn) 1 38 := ⟨by decide +kernel, rfl⟩
theorem x_Tr_cut_38 : DC b_Tr_cut 38 (.lload_n 0) 1 39 := ⟨by decide +kernel, rfl⟩
theorem x_Tr_cut_39 : DC b_Tr_cut 39 (.l2i) 1 40 := ⟨by decide +kernel, rfl⟩
theorem x_Tr_cut_40 : DC b_Tr_cut 40 (.i2l) 1 41 := ⟨by decide +kernel, rfl⟩
theorem x_Tr_cut_41 : DC b_Tr_cut 41 (.lreturn) 1 42 := ⟨by decide +kernel, rfl⟩
theorem x_Tr_cut_42 : DC b_Tr_cut 42 (.lload_n 0) 1 43 := ⟨by decide +kernel, rfl⟩
theorem x_Tr_cut_43 : DC b_Tr_cut 43 (.lreturn) 1 44 := ⟨by decide +kernel, rfl⟩
def d_Tr_cut (a0 a2 : Int) (M : Mem) : Res := if w32 a2 = 0 then (some (w32 (w8 a0), M)) else (if w32 a2 = 1 then (some (w32 (w16 a0), M)) else (if w32 a2 = 2 then (some (w32 a0, M)) else (some (a0, M))))
theorem t_Tr_cut (l : Launch) (G : GX) {lev : Nat} (hlev : 0 ≤ lev) {a0 a2 : Int} {M : Mem} {r : Int × Mem} (h : d_Tr_cut a0 a2 M = some r) : Mt l G y_Tr_cut b_Tr_cut 3 (some .long) lev 2 [vl a0, vi a2] M r := by
  refine Mt.of (by decide) (i_le rfl) ?_
  intro p e s m args below meth c C
  have C : Cx p s m args meth c G b_Tr_cut 3 "PrairiePool$Trays" (some .long) := C
  unfold d_Tr_cut at h
  refine z_sub (lv' := [(0, vl a0), (2, vi a2)]) [0, 1] rfl ?_
  refine z_iload_n C 1 x_Tr_cut_0 rfl ?_
  rcases ite_e h with ⟨c1, h⟩ | ⟨c1, h⟩
  · refine z_tableIn (tgt := 28) C x_Tr_cut_1 c1 (by decide) rfl rfl ?_
    refine z_lload_n C 0 x_Tr_cut_28 rfl ?_
    refine z_l2i C x_Tr_cut_29 ?_
    refine z_i2b C x_Tr_cut_30 ?_
    refine z_i2l C x_Tr_cut_31 ?_
    exact z_lret C x_Tr_cut_32 h
  · rcases ite_e h with ⟨c2, h⟩ | ⟨c2, h⟩
    · refine z_tableIn (tgt := 33) C x_Tr_cut_1 c2 (by decide) rfl rfl ?_
      refine z_lload_n C 0 x_Tr_cut_33 rfl ?_
      refine z_l2i C x_Tr_cut_34 ?_
      refine z_i2s C x_Tr_cut_35 ?_
      refine z_i2l C x_Tr_cut_36 ?_
      exact z_lret C x_Tr_cut_37 h
    · rcases ite_e h with ⟨c3, h⟩ | ⟨c3, h⟩
      · refine z_tableIn (tgt := 38) C x_Tr_cut_1 c3 (by decide) rfl rfl ?_
        refine z_lload_n C 0 x_Tr_cut_38 rfl ?_
        refine z_l2i C x_Tr_cut_39 ?_
        refine z_i2l C x_Tr_cut_40 ?_
        exact z_lret C x_Tr_cut_41 h
      · refine z_tableOut (tgt := 42) C x_Tr_cut_1 (by omega) rfl ?_
        refine z_lload_n C 0 x_Tr_cut_42 rfl ?_
        exact z_lret C x_Tr_cut_43 h
theorem x_Tr_put_0 : DC b_Tr_put 0 (.aload_n 0) 1 1 := ⟨by decide +kernel, rfl⟩
theorem x_Tr_put_1 : DC b_Tr_put 1 (.getfield 18) 3 4 := ⟨by decide +kernel, rfl⟩
theorem x_Tr_put_4 : DC b_Tr_put 4 (.iload_n 1) 1 5 := ⟨by decide +kernel, rfl⟩
theorem x_Tr_put_5 : DC b_Tr_put 5 (.bipush 40) 2 7 := ⟨by decide +kernel, rfl⟩
theorem x_Tr_put_7 : DC b_Tr_put 7 (.imul) 1 8 := ⟨by decide +kernel, rfl⟩
theorem x_Tr_put_8 : DC b_Tr_put 8 (.iload_n 2) 1 9 := ⟨by decide +kernel, rfl⟩
theorem x_Tr_put_9 : DC b_Tr_put 9 (.iadd) 1 10 := ⟨by decide +kernel, rfl⟩
theorem x_Tr_put_10 : DC b_Tr_put 10 (.lload_n 3) 1 11 := ⟨by decide +kernel, rfl⟩
theorem x_Tr_put_11 : DC b_Tr_put 11 (.aload_n 0) 1 12 := ⟨by decide +kernel, rfl⟩
theorem x_Tr_put_12 : DC b_Tr_put 12 (.getfield 11) 3 15 := ⟨by decide +kernel, rfl⟩
theorem x_Tr_put_15 : DC b_Tr_put 15 (.iload_n 1) 1 16 := ⟨by decide +kernel, rfl⟩
theorem x_Tr_put_16 : DC b_Tr_put 16 (.iaload) 1 17 := ⟨by decide +kernel, rfl⟩
theorem x_Tr_put_17 : DC b_Tr_put 17 (.invokestatic 22) 3 20 := ⟨by decide +kernel, rfl⟩
theorem x_Tr_put_20 : DC b_Tr_put 20 (.lastore) 1 21 := ⟨by decide +kernel, rfl⟩
theorem x_Tr_put_21 : DC b_Tr_put 21 (.return_) 1 22 := ⟨by decide +kernel, rfl⟩
def d_Tr_put (a1 a2 a3 : Int) (M : Mem) : Res := chk (0 ≤ w32 a1 ∧ w32 a1 < 4) <| blet (M 2 (ix a1)) fun v2 => bcall (d_Tr_cut a3 v2 M) fun v3 M4 => chk (0 ≤ w32 ((a1 * 40) + a2) ∧ w32 ((a1 * 40) + a2) < 160) <| blet (sto M4 4 (ix ((a1 * 40) + a2)) v3) fun M6 => some (0, M6)
theorem t_Tr_put (l : Launch) (G : GX) {lev : Nat} (hlev : 1 ≤ lev) {a1 a2 a3 : Int} {M : Mem} {r : Int × Mem} (h : d_Tr_put a1 a2 a3 M = some r) : Mt l G y_Tr_put b_Tr_put 5 none lev 0 [.ref (G.1 + 1), vi a1, vi a2, vl a3] M r := by
  refine Mt.of (by decide) (i_le rfl) ?_
  intro p e s m args below meth c C
  have C : Cx p s m args meth c G b_Tr_put 5 "PrairiePool$Trays" none := C
  unfold d_Tr_put at h
  refine z_sub (lv' := [(0, .ref (G.1 + 1)), (1, vi a1), (2, vi a2), (3, vl a3)]) [0, 1, 2, 3] rfl ?_
  refine z_aload_n C 0 x_Tr_put_0 rfl ?_
  refine z_getR (j := 2) C x_Tr_put_1 nk_1 ck_1 cw_9 (i_lt rfl) rfl rf_1_2 rfl fl_Tr_18 ?_
  refine z_iload_n C 1 x_Tr_put_4 rfl ?_
  refine z_bipush C rfl x_Tr_put_5 ?_
  refine z_imul C x_Tr_put_7 ?_
  refine z_iload_n C 2 x_Tr_put_8 rfl ?_
  refine z_iadd C x_Tr_put_9 ?_
  refine z_lload_n C 3 x_Tr_put_10 rfl ?_
  refine z_aload_n C 0 x_Tr_put_11 rfl ?_
  refine z_getR (j := 0) C x_Tr_put_12 nk_1 ck_1 cw_9 (i_lt rfl) rfl rf_1_0 rfl fl_Tr_11 ?_
  refine z_iload_n C 1 x_Tr_put_15 rfl ?_
  obtain ⟨c1, h⟩ := chk_e h
  obtain ⟨v2, ev2, h⟩ := blet_e h
  refine z_iald C x_Tr_put_16 nk_2 ck_2 c1 ev2 ?_
  obtain ⟨v3, M4, fv3, h⟩ := bcall_e h
  refine z_callSl C x_Tr_put_17 cs_Tr_22 (t_Tr_cut (lev := lev - 1) l G (by omega) fv3) (by omega) rfl (i_le rfl) rfl ?_
  obtain ⟨c5, h⟩ := chk_e h
  obtain ⟨M6, eM6, h⟩ := blet_e h
  refine z_last C x_Tr_put_20 nk_4 ck_4 c5 eM6 ?_
  exact z_vret C x_Tr_put_21 h
theorem x_Tr_get_0 : DC b_Tr_get 0 (.aload_n 0) 1 1 := ⟨by decide +kernel, rfl⟩
theorem x_Tr_get_1 : DC b_Tr_get 1 (.getfield 18) 3 4 := ⟨by decide +kernel, rfl⟩
theorem x_Tr_get_4 : DC b_Tr_get 4 (.iload_n 1) 1 5 := ⟨by decide +kernel, rfl⟩
theorem x_Tr_get_5 : DC b_Tr_get 5 (.bipush 40) 2 7 := ⟨by decide +kernel, rfl⟩
theorem x_Tr_get_7 : DC b_Tr_get 7 (.imul) 1 8 := ⟨by decide +kernel, rfl⟩
theorem x_Tr_get_8 : DC b_Tr_get 8 (.iload_n 2) 1 9 := ⟨by decide +kernel, rfl⟩
theorem x_Tr_get_9 : DC b_Tr_get 9 (.iadd) 1 10 := ⟨by decide +kernel, rfl⟩
theorem x_Tr_get_10 : DC b_Tr_get 10 (.laload) 1 11 := ⟨by decide +kernel, rfl⟩
theorem x_Tr_get_11 : DC b_Tr_get 11 (.lreturn) 1 12 := ⟨by decide +kernel, rfl⟩
def d_Tr_get (a1 a2 : Int) (M : Mem) : Res := chk (0 ≤ w32 ((a1 * 40) + a2) ∧ w32 ((a1 * 40) + a2) < 160) <| blet (M 4 (ix ((a1 * 40) + a2))) fun v2 => some (v2, M)
theorem t_Tr_get (l : Launch) (G : GX) {lev : Nat} (hlev : 0 ≤ lev) {a1 a2 : Int} {M : Mem} {r : Int × Mem} (h : d_Tr_get a1 a2 M = some r) : Mt l G y_Tr_get b_Tr_get 3 (some .long) lev 2 [.ref (G.1 + 1), vi a1, vi a2] M r := by
  refine Mt.of (by decide) (i_le rfl) ?_
  intro p e s m args below meth c C
  have C : Cx p s m args meth c G b_Tr_get 3 "PrairiePool$Trays" (some .long) := C
  unfold d_Tr_get at h
  refine z_sub (lv' := [(0, .ref (G.1 + 1)), (1, vi a1), (2, vi a2)]) [0, 1, 2] rfl ?_
  refine z_aload_n C 0 x_Tr_get_0 rfl ?_
  refine z_getR (j := 2) C x_Tr_get_1 nk_1 ck_1 cw_9 (i_lt rfl) rfl rf_1_2 rfl fl_Tr_18 ?_
  refine z_iload_n C 1 x_Tr_get_4 rfl ?_
  refine z_bipush C rfl x_Tr_get_5 ?_
  refine z_imul C x_Tr_get_7 ?_
  refine z_iload_n C 2 x_Tr_get_8 rfl ?_
  refine z_iadd C x_Tr_get_9 ?_
  obtain ⟨c1, h⟩ := chk_e h
  obtain ⟨v2, ev2, h⟩ := blet_e h
  refine z_lald C x_Tr_get_10 nk_4 ck_4 c1 ev2 ?_
  exact z_lret C x_Tr_get_11 h
theorem x_Tr_statusOfPouring_0 : DC b_Tr_statusOfPouring 0 (.aload_n 0) 1 1 := ⟨by decide +kernel, rfl⟩
theorem x_Tr_statusOfPouring_1 : DC b_Tr_statusOfPouring 1 (.getfield 11) 3 4 := ⟨by decide +kernel, rfl⟩
theorem x_Tr_statusOfPouring_4 : DC b_Tr_statusOfPouring 4 (.iload_n 1) 1 5 := ⟨by decide +kernel, rfl⟩
theorem x_Tr_statusOfPouring_5 : DC b_Tr_statusOfPouring 5 (.iaload) 1 6 := ⟨by decide +kernel, rfl⟩
theorem x_Tr_statusOfPouring_6 : DC b_Tr_statusOfPouring 6 (.aload_n 0) 1 7 := ⟨by decide +kernel, rfl⟩
theorem x_Tr_statusOfPouring_7 : DC b_Tr_statusOfPouring 7 (.getfield 11) 3 10 := ⟨by decide +kernel, rfl⟩
theorem x_Tr_statusOfPouring_10 : DC b_Tr_statusOfPouring 10 (.iload_n 3) 1 11 := ⟨by decide +kernel, rfl⟩
theorem x_Tr_statusOfPouring_11 : DC b_Tr_statusOfPouring 11 (.iaload) 1 12 := ⟨by decide +kernel, rfl⟩
theorem x_Tr_statusOfPouring_12 : DC b_Tr_statusOfPouring 12 (.if_icmp .eq 6) 3 15 := ⟨by decide +kernel, rfl⟩
theorem x_Tr_statusOfPouring_15 : DC b_Tr_statusOfPouring 15 (.bipush 11) 2 17 := ⟨by decide +kernel, rfl⟩
theorem x_Tr_statusOfPouring_17 : DC b_Tr_statusOfPouring 17 (.ireturn) 1 18 := ⟨by decide +kernel, rfl⟩
theorem x_Tr_statusOfPouring_18 : DC b_Tr_statusOfPouring 18 (.iload 5) 2 20 := ⟨by decide +kernel, rfl⟩
theorem x_Tr_statusOfPouring_20 : DC b_Tr_statusOfPouring 20 (.ifCond .ge 6) 3 23 := ⟨by decide +kernel, rfl⟩
theorem x_Tr_statusOfPouring_23 : DC b_Tr_statusOfPouring 23 (.bipush 6) 2 25 := ⟨by decide +kernel, rfl⟩
theorem x_Tr_statusOfPouring_25 : DC b_Tr_statusOfPouring 25 (.ireturn) 1 26 := ⟨by decide +kernel, rfl⟩
theorem x_Tr_statusOfPouring_26 : DC b_Tr_statusOfPouring 26 (.iload_n 2) 1 27 := ⟨by decide +kernel, rfl⟩
theorem x_Tr_statusOfPouring_27 : DC b_Tr_statusOfPouring 27 (.ifCond .lt 47) 3 30 := ⟨by decide +kernel, rfl⟩
theorem x_Tr_statusOfPouring_30 : DC b_Tr_statusOfPouring 30 (.iload_n 2) 1 31 := ⟨by decide +kernel, rfl⟩
theorem x_Tr_statusOfPouring_31 : DC b_Tr_statusOfPouring 31 (.i2l) 1 32 := ⟨by decide +kernel, rfl⟩
theorem x_Tr_statusOfPouring_32 : DC b_Tr_statusOfPouring 32 (.iload 5) 2 34 := ⟨by decide +kernel, rfl⟩
theorem x_Tr_statusOfPouring_34 : DC b_Tr_statusOfPouring 34 (.i2l) 1 35 := ⟨by decide +kernel, rfl⟩
theorem x_Tr_statusOfPouring_35 : DC b_Tr_statusOfPouring 35 (.ladd) 1 36 := ⟨by decide +kernel, rfl⟩
theorem x_Tr_statusOfPouring_36 : DC b_Tr_statusOfPouring 36 (.aload_n 0) 1 37 := ⟨by decide +kernel, rfl⟩
theorem x_Tr_statusOfPouring_37 : DC b_Tr_statusOfPouring 37 (.getfield 15) 3 40 := ⟨by decide +kernel, rfl⟩
theorem x_Tr_statusOfPouring_40 : DC b_Tr_statusOfPouring 40 (.iload_n 1) 1 41 := ⟨by decide +kernel, rfl⟩
theorem x_Tr_statusOfPouring_41 : DC b_Tr_statusOfPouring 41 (.iaload) 1 42 := ⟨by decide +kernel, rfl⟩
theorem x_Tr_statusOfPouring_42 : DC b_Tr_statusOfPouring 42 (.i2l) 1 43 := ⟨by decide +kernel, rfl⟩
theorem x_Tr_statusOfPouring_43 : DC b_Tr_statusOfPouring 43 (.lcmp) 1 44 := ⟨by decide +kernel, rfl⟩
theorem x_Tr_statusOfPouring_44 : DC b_Tr_statusOfPouring 44 (.ifCond .gt 30) 3 47 := ⟨by decide +kernel, rfl⟩
theorem x_Tr_statusOfPouring_47 : DC b_Tr_statusOfPouring 47 (.iload 4) 2 49 := ⟨by decide +kernel, rfl⟩
theorem x_Tr_statusOfPouring_49 : DC b_Tr_statusOfPouring 49 (.ifCond .lt 25) 3 52 := ⟨by decide +kernel, rfl⟩
theorem x_Tr_statusOfPouring_52 : DC b_Tr_statusOfPouring 52 (.iload 4) 2 54 := ⟨by decide +kernel, rfl⟩
theorem x_Tr_statusOfPouring_54 : DC b_Tr_statusOfPouring 54 (.i2l) 1 55 := ⟨by decide +kernel, rfl⟩
theorem x_Tr_statusOfPouring_55 : DC b_Tr_statusOfPouring 55 (.iload 5) 2 57 := ⟨by decide +kernel, rfl⟩
theorem x_Tr_statusOfPouring_57 : DC b_Tr_statusOfPouring 57 (.i2l) 1 58 := ⟨by decide +kernel, rfl⟩
theorem x_Tr_statusOfPouring_58 : DC b_Tr_statusOfPouring 58 (.ladd) 1 59 := ⟨by decide +kernel, rfl⟩
theorem x_Tr_statusOfPouring_59 : DC b_Tr_statusOfPouring 59 (.aload_n 0) 1 60 := ⟨by decide +kernel, rfl⟩
theorem x_Tr_statusOfPouring_60 : DC b_Tr_statusOfPouring 60 (.getfield 15) 3 63 := ⟨by decide +kernel, rfl⟩
theorem x_Tr_statusOfPouring_63 : DC b_Tr_statusOfPouring 63 (.iload_n 3) 1 64 := ⟨by decide +kernel, rfl⟩
theorem x_Tr_statusOfPouring_64 : DC b_Tr_statusOfPouring 64 (.iaload) 1 65 := ⟨by decide +kernel, rfl⟩
theorem x_Tr_statusOfPouring_65 : DC b_Tr_statusOfPouring 65 (.i2l) 1 66 := ⟨by decide +kernel, rfl⟩
theorem x_Tr_statusOfPouring_66 : DC b_Tr_statusOfPouring 66 (.lcmp) 1 67 := ⟨by decide +kernel, rfl⟩
theorem x_Tr_statusOfPouring_67 : DC b_Tr_statusOfPouring 67 (.ifCond .gt 7) 3 70 := ⟨by decide +kernel, rfl⟩
theorem x_Tr_statusOfPouring_70 : DC b_Tr_statusOfPouring 70 (.iconst 1) 1 71 := ⟨by decide +kernel, rfl⟩
theorem x_Tr_statusOfPouring_71 : DC b_Tr_statusOfPouring 71 (.goto 4) 3 74 := ⟨by decide +kernel, rfl⟩
theorem x_Tr_statusOfPouring_74 : DC b_Tr_statusOfPouring 74 (.iconst 0) 1 75 := ⟨by decide +kernel, rfl⟩
theorem x_Tr_statusOfPouring_75 : DC b_Tr_statusOfPouring 75 (.istore 6) 2 77 := ⟨by decide +kernel, rfl⟩
theorem x_Tr_statusOfPouring_77 : DC b_Tr_statusOfPouring 77 (.iload 6) 2 79 := ⟨by decide +kernel, rfl⟩
theorem x_Tr_statusOfPouring_79 : DC b_Tr_statusOfPouring 79 (.ifCond .eq 7) 3 82 := ⟨by decide +kernel, rfl⟩
theorem x_Tr_statusOfPouring_82 : DC b_Tr_statusOfPouring 82 (.iconst 0) 1 83 := ⟨by decide +kernel, rfl⟩
theorem x_Tr_statusOfPouring_83 : DC b_Tr_statusOfPouring 83 (.goto 4) 3 86 := ⟨by decide +kernel, rfl⟩
theorem x_Tr_statusOfPouring_86 : DC b_Tr_statusOfPouring 86 (.iconst 4) 1 87 := ⟨by decide +kernel, rfl⟩
theorem x_Tr_statusOfPouring_87 : DC b_Tr_statusOfPouring 87 (.ireturn) 1 88 := ⟨by decide +kernel, rfl⟩
def k_Tr_statusOfPouring_75 (s0 : Int) (M : Mem) : Res := if w32 s0 = 0 then (some (4, M)) else (some (0, M))
theorem z_Tr_statusOfPouring_75 (C : Cx p s m args meth c G b_Tr_statusOfPouring 7 "PrairiePool$Trays" (some .int)) (hlev : 0 ≤ lev) {r : Int × Mem}  {s0 : Int} {M : Mem} (h : k_Tr_statusOfPouring_75 s0 M = some r) : Z p l e lev s m args below meth c G 7 (MQ below (Qm G 1 r) args s 0 0 (Ab G)) M 75 [] [vi s0] := by
  unfold k_Tr_statusOfPouring_75 at h
  refine z_istore (lv' := [(6, vi s0)]) C rfl x_Tr_statusOfPouring_75 (i_lt rfl) rfl ?_
  refine z_iload C 0 x_Tr_statusOfPouring_77 rfl ?_
  rcases ite_e h with ⟨c1, h⟩ | ⟨c1, h⟩
  · refine z_if_eq_t (tgt := 86) C x_Tr_statusOfPouring_79 rfl c1 ?_
    refine z_iconst C x_Tr_statusOfPouring_86 ?_
    exact z_iret C x_Tr_statusOfPouring_87 h
  · refine z_if_eq_f (tgt := 86) C x_Tr_statusOfPouring_79 rfl c1 ?_
    refine z_iconst C x_Tr_statusOfPouring_82 ?_
    refine z_goto (tgt := 87) C x_Tr_statusOfPouring_83 rfl ?_
    exact z_iret C x_Tr_statusOfPouring_87 h
def k_Tr_statusOfPouring_74 (M : Mem) : Res := k_Tr_statusOfPouring_75 0 M
theorem z_Tr_statusOfPouring_74 (C : Cx p s m args meth c G b_Tr_statusOfPouring 7 "PrairiePool$Trays" (some .int)) (hlev : 0 ≤ lev) {r : Int × Mem}  {M : Mem} (h : k_Tr_statusOfPouring_74 M = some r) : Z p l e lev s m args below meth c G 7 (MQ below (Qm G 1 r) args s 0 0 (Ab G)) M 74 [] [] := by
  unfold k_Tr_statusOfPouring_74 at h
  refine z_iconst C x_Tr_statusOfPouring_74 ?_
  exact z_sub [] rfl (z_Tr_statusOfPouring_75 C hlev h)
def d_Tr_statusOfPouring (a1 a2 a3 a4 a5 : Int) (M : Mem) : Res := chk (0 ≤ w32 a1 ∧ w32 a1 < 4) <| blet (M 2 (ix a1)) fun v2 => chk (0 ≤ w32 a3 ∧ w32 a3 < 4) <| blet (M 2 (ix a3)) fun v4 => if w32 v2 = w32 v4 then (if w32 a5 < 0 then (some (6, M)) else (if w32 a2 < 0 then (k_Tr_statusOfPouring_74 M) else (chk (0 ≤ w32 a1 ∧ w32 a1 < 4) <| blet (M 3 (ix a1)) fun v9 => if w64 (w32 v9) < w64 ((w32 a2) + (w32 a5)) then (k_Tr_statusOfPouring_74 M) else (if w32 a4 < 0 then (k_Tr_statusOfPouring_74 M) else (chk (0 ≤ w32 a3 ∧ w32 a3 < 4) <| blet (M 3 (ix a3)) fun v13 => if w64 (w32 v13) < w64 ((w32 a4) + (w32 a5)) then (k_Tr_statusOfPouring_74 M) else (k_Tr_statusOfPouring_75 1 M)))))) else (some (11, M))
theorem t_Tr_statusOfPouring (l : Launch) (G : GX) {lev : Nat} (hlev : 0 ≤ lev) {a1 a2 a3 a4 a5 : Int} {M : Mem} {r : Int × Mem} (h : d_Tr_statusOfPouring a1 a2 a3 a4 a5 M = some r) : Mt l G y_Tr_statusOfPouring b_Tr_statusOfPouring 7 (some .int) lev 1 [.ref (G.1 + 1), vi a1, vi a2, vi a3, vi a4, vi a5] M r := by
  refine Mt.of (by decide) (i_le rfl) ?_
  intro p e s m args below meth c C
  have C : Cx p s m args meth c G b_Tr_statusOfPouring 7 "PrairiePool$Trays" (some .int) := C
  unfold d_Tr_statusOfPouring at h
  refine z_sub (lv' := [(0, .ref (G.1 + 1)), (1, vi a1), (2, vi a2), (3, vi a3), (4, vi a4), (5, vi a5)]) [0, 1, 2, 3, 4, 5] rfl ?_
  refine z_aload_n C 0 x_Tr_statusOfPouring_0 rfl ?_
  refine z_getR (j := 0) C x_Tr_statusOfPouring_1 nk_1 ck_1 cw_9 (i_lt rfl) rfl rf_1_0 rfl fl_Tr_11 ?_
  refine z_iload_n C 1 x_Tr_statusOfPouring_4 rfl ?_
  obtain ⟨c1, h⟩ := chk_e h
  obtain ⟨v2, ev2, h⟩ := blet_e h
  refine z_iald C x_Tr_statusOfPouring_5 nk_2 ck_2 c1 ev2 ?_
  refine z_aload_n C 0 x_Tr_statusOfPouring_6 rfl ?_
  refine z_getR (j := 0) C x_Tr_statusOfPouring_7 nk_1 ck_1 cw_9 (i_lt rfl) rfl rf_1_0 rfl fl_Tr_11 ?_
  refine z_iload_n C 3 x_Tr_statusOfPouring_10 rfl ?_
  obtain ⟨c3, h⟩ := chk_e h
  obtain ⟨v4, ev4, h⟩ := blet_e h
  refine z_iald C x_Tr_statusOfPouring_11 nk_2 ck_2 c3 ev4 ?_
  rcases ite_e h with ⟨c5, h⟩ | ⟨c5, h⟩
  · refine z_icmp_eq_t (tgt := 18) C x_Tr_statusOfPouring_12 rfl c5 ?_
    refine z_iload C 5 x_Tr_statusOfPouring_18 rfl ?_
    rcases ite_e h with ⟨c6, h⟩ | ⟨c6, h⟩
    · refine z_if_ge_f (tgt := 26) C x_Tr_statusOfPouring_20 rfl c6 ?_
      refine z_bipush C rfl x_Tr_statusOfPouring_23 ?_
      exact z_iret C x_Tr_statusOfPouring_25 h
    · refine z_if_ge_t (tgt := 26) C x_Tr_statusOfPouring_20 rfl c6 ?_
      refine z_iload_n C 2 x_Tr_statusOfPouring_26 rfl ?_
      rcases ite_e h with ⟨c7, h⟩ | ⟨c7, h⟩
      · refine z_if_lt_t (tgt := 74) C x_Tr_statusOfPouring_27 rfl c7 ?_
        exact z_sub [] rfl (z_Tr_statusOfPouring_74 C hlev h)
      · refine z_if_lt_f (tgt := 74) C x_Tr_statusOfPouring_27 rfl c7 ?_
        refine z_iload_n C 2 x_Tr_statusOfPouring_30 rfl ?_
        refine z_i2l C x_Tr_statusOfPouring_31 ?_
        refine z_iload C 5 x_Tr_statusOfPouring_32 rfl ?_
        refine z_i2l C x_Tr_statusOfPouring_34 ?_
        refine z_ladd C x_Tr_statusOfPouring_35 ?_
        refine z_aload_n C 0 x_Tr_statusOfPouring_36 rfl ?_
        refine z_getR (j := 1) C x_Tr_statusOfPouring_37 nk_1 ck_1 cw_9 (i_lt rfl) rfl rf_1_1 rfl fl_Tr_15 ?_
        refine z_iload_n C 1 x_Tr_statusOfPouring_40 rfl ?_
        obtain ⟨c8, h⟩ := chk_e h
        obtain ⟨v9, ev9, h⟩ := blet_e h
        refine z_iald C x_Tr_statusOfPouring_41 nk_3 ck_3 c8 ev9 ?_
        refine z_i2l C x_Tr_statusOfPouring_42 ?_
        refine z_lcmp C x_Tr_statusOfPouring_43 ?_
        rcases ite_e h with ⟨c10, h⟩ | ⟨c10, h⟩
        · refine z_if_gt_t (tgt := 74) C x_Tr_statusOfPouring_44 rfl (cm_gt.mpr c10) ?_
          exact z_sub [] rfl (z_Tr_statusOfPouring_74 C hlev h)
        · refine z_if_gt_f (tgt := 74) C x_Tr_statusOfPouring_44 rfl (fun q => c10 (cm_gt.mp q)) ?_
          refine z_iload C 4 x_Tr_statusOfPouring_47 rfl ?_
          rcases ite_e h with ⟨c11, h⟩ | ⟨c11, h⟩
          · refine z_if_lt_t (tgt := 74) C x_Tr_statusOfPouring_49 rfl c11 ?_
            exact z_sub [] rfl (z_Tr_statusOfPouring_74 C hlev h)
          · refine z_if_lt_f (tgt := 74) C x_Tr_statusOfPouring_49 rfl c11 ?_
            refine z_iload C 4 x_Tr_statusOfPouring_52 rfl ?_
            refine z_i2l C x_Tr_statusOfPouring_54 ?_
            refine z_iload C 5 x_Tr_statusOfPouring_55 rfl ?_
            refine z_i2l C x_Tr_statusOfPouring_57 ?_
            refine z_ladd C x_Tr_statusOfPouring_58 ?_
            refine z_aload_n C 0 x_Tr_statusOfPouring_59 rfl ?_
            refine z_getR (j := 1) C x_Tr_statusOfPouring_60 nk_1 ck_1 cw_9 (i_lt rfl) rfl rf_1_1 rfl fl_Tr_15 ?_
            refine z_iload_n C 3 x_Tr_statusOfPouring_63 rfl ?_
            obtain ⟨c12, h⟩ := chk_e h
            obtain ⟨v13, ev13, h⟩ := blet_e h
            refine z_iald C x_Tr_statusOfPouring_64 nk_3 ck_3 c12 ev13 ?_
            refine z_i2l C x_Tr_statusOfPouring_65 ?_
            refine z_lcmp C x_Tr_statusOfPouring_66 ?_
            rcases ite_e h with ⟨c14, h⟩ | ⟨c14, h⟩
            · refine z_if_gt_t (tgt := 74) C x_Tr_statusOfPouring_67 rfl (cm_gt.mpr c14) ?_
              exact z_sub [] rfl (z_Tr_statusOfPouring_74 C hlev h)
            · refine z_if_gt_f (tgt := 74) C x_Tr_statusOfPouring_67 rfl (fun q => c14 (cm_gt.mp q)) ?_
              refine z_iconst C x_Tr_statusOfPouring_70 ?_
              refine z_goto (tgt := 75) C x_Tr_statusOfPouring_71 rfl ?_
              exact z_sub [] rfl (z_Tr_statusOfPouring_75 C hlev h)
  · refine z_icmp_eq_f (tgt := 18) C x_Tr_statusOfPouring_12 rfl c5 ?_
    refine z_bipush C rfl x_Tr_statusOfPouring_15 ?_
    exact z_iret C x_Tr_statusOfPouring_17 h
theorem x_Tr_move_0 : DC b_Tr_move 0 (.aload_n 0) 1 1 := ⟨by decide +kernel, rfl⟩
theorem x_Tr_move_1 : DC b_Tr_move 1 (.getfield 18) 3 4 := ⟨by decide +kernel, rfl⟩
theorem x_Tr_move_4 : DC b_Tr_move 4 (.iload_n 1) 1 5 := ⟨by decide +kernel, rfl⟩
theorem x_Tr_move_5 : DC b_Tr_move 5 (.bipush 40) 2 7 := ⟨by decide +kernel, rfl⟩
theorem x_Tr_move_7 : DC b_Tr_move 7 (.imul) 1 8 := ⟨by decide +kernel, rfl⟩
theorem x_Tr_move_8 : DC b_Tr_move 8 (.iload_n 2) 1 9 := ⟨by decide +kernel, rfl⟩
theorem x_Tr_move_9 : DC b_Tr_move 9 (.iadd) 1 10 := ⟨by decide +kernel, rfl⟩
theorem x_Tr_move_10 : DC b_Tr_move 10 (.aload_n 0) 1 11 := ⟨by decide +kernel, rfl⟩
theorem x_Tr_move_11 : DC b_Tr_move 11 (.getfield 18) 3 14 := ⟨by decide +kernel, rfl⟩
theorem x_Tr_move_14 : DC b_Tr_move 14 (.iload_n 3) 1 15 := ⟨by decide +kernel, rfl⟩
theorem x_Tr_move_15 : DC b_Tr_move 15 (.bipush 40) 2 17 := ⟨by decide +kernel, rfl⟩
theorem x_Tr_move_17 : DC b_Tr_move 17 (.imul) 1 18 := ⟨by decide +kernel, rfl⟩
theorem x_Tr_move_18 : DC b_Tr_move 18 (.iload 4) 2 20 := ⟨by decide +kernel, rfl⟩
theorem x_Tr_move_20 : DC b_Tr_move 20 (.iadd) 1 21 := ⟨by decide +kernel, rfl⟩
theorem x_Tr_move_21 : DC b_Tr_move 21 (.iload 5) 2 23 := ⟨by decide +kernel, rfl⟩
theorem x_Tr_move_23 : DC b_Tr_move 23 (.invokestatic 26) 3 26 := ⟨by decide +kernel, rfl⟩
theorem x_Tr_move_26 : DC b_Tr_move 26 (.return_) 1 27 := ⟨by decide +kernel, rfl⟩
def d_Tr_move (a1 a2 a3 a4 a5 : Int) (M : Mem) : Res := chk ((0 : Int) ≤ w32 ((a1 * 40) + a2) ∧ (0 : Int) ≤ w32 ((a3 * 40) + a4) ∧ (0 : Int) ≤ w32 a5 ∧ w32 ((a1 * 40) + a2) + w32 a5 ≤ (160 : Int) ∧ w32 ((a3 * 40) + a4) + w32 a5 ≤ (160 : Int)) <| blet (cpy M 4 (ix ((a1 * 40) + a2)) 4 (ix ((a3 * 40) + a4)) (ix a5)) fun M2 => some (0, M2)
theorem t_Tr_move (l : Launch) (G : GX) {lev : Nat} (hlev : 1 ≤ lev) {a1 a2 a3 a4 a5 : Int} {M : Mem} {r : Int × Mem} (h : d_Tr_move a1 a2 a3 a4 a5 M = some r) : Mt l G y_Tr_move b_Tr_move 6 none lev 0 [.ref (G.1 + 1), vi a1, vi a2, vi a3, vi a4, vi a5] M r := by
  refine Mt.of (by decide) (i_le rfl) ?_
  intro p e s m args below meth c C
  have C : Cx p s m args meth c G b_Tr_move 6 "PrairiePool$Trays" none := C
  unfold d_Tr_move at h
  refine z_sub (lv' := [(0, .ref (G.1 + 1)), (1, vi a1), (2, vi a2), (3, vi a3), (4, vi a4), (5, vi a5)]) [0, 1, 2, 3, 4, 5] rfl ?_
  refine z_aload_n C 0 x_Tr_move_0 rfl ?_
  refine z_getR (j := 2) C x_Tr_move_1 nk_1 ck_1 cw_9 (i_lt rfl) rfl rf_1_2 rfl fl_Tr_18 ?_
  refine z_iload_n C 1 x_Tr_move_4 rfl ?_
  refine z_bipush C rfl x_Tr_move_5 ?_
  refine z_imul C x_Tr_move_7 ?_
  refine z_iload_n C 2 x_Tr_move_8 rfl ?_
  refine z_iadd C x_Tr_move_9 ?_
  refine z_aload_n C 0 x_Tr_move_10 rfl ?_
  refine z_getR (j := 2) C x_Tr_move_11 nk_1 ck_1 cw_9 (i_lt rfl) rfl rf_1_2 rfl fl_Tr_18 ?_
  refine z_iload_n C 3 x_Tr_move_14 rfl ?_
  refine z_bipush C rfl x_Tr_move_15 ?_
  refine z_imul C x_Tr_move_17 ?_
  refine z_iload C 4 x_Tr_move_18 rfl ?_
  refine z_iadd C x_Tr_move_20 ?_
  refine z_iload C 5 x_Tr_move_21 rfl ?_
  obtain ⟨c1, h⟩ := chk_e h
  obtain ⟨M2, eM2, h⟩ := blet_e h
  refine z_copyL C x_Tr_move_23 ca_Tr_26 nk_4 ck_4 nk_4 ck_4 c1 (by omega) (i_le rfl) eM2 ?_
  exact z_vret C x_Tr_move_26 h
theorem x_Tr_areIn_0 : DC b_Tr_areIn 0 (.iconst 0) 1 1 := ⟨by decide +kernel, rfl⟩
theorem x_Tr_areIn_1 : DC b_Tr_areIn 1 (.istore 7) 2 3 := ⟨by decide +kernel, rfl⟩
theorem x_Tr_areIn_3 : DC b_Tr_areIn 3 (.iload 7) 2 5 := ⟨by decide +kernel, rfl⟩
theorem x_Tr_areIn_5 : DC b_Tr_areIn 5 (.iload_n 2) 1 6 := ⟨by decide +kernel, rfl⟩
theorem x_Tr_areIn_6 : DC b_Tr_areIn 6 (.if_icmp .ge 35) 3 9 := ⟨by decide +kernel, rfl⟩
theorem x_Tr_areIn_9 : DC b_Tr_areIn 9 (.aload_n 0) 1 10 := ⟨by decide +kernel, rfl⟩
theorem x_Tr_areIn_10 : DC b_Tr_areIn 10 (.iload_n 1) 1 11 := ⟨by decide +kernel, rfl⟩
theorem x_Tr_areIn_11 : DC b_Tr_areIn 11 (.iload 7) 2 13 := ⟨by decide +kernel, rfl⟩
theorem x_Tr_areIn_13 : DC b_Tr_areIn 13 (.invokevirtual 32) 3 16 := ⟨by decide +kernel, rfl⟩
theorem x_Tr_areIn_16 : DC b_Tr_areIn 16 (.lstore 8) 2 18 := ⟨by decide +kernel, rfl⟩
theorem x_Tr_areIn_18 : DC b_Tr_areIn 18 (.lload 8) 2 20 := ⟨by decide +kernel, rfl⟩
theorem x_Tr_areIn_20 : DC b_Tr_areIn 20 (.lload_n 3) 1 21 := ⟨by decide +kernel, rfl⟩
theorem x_Tr_areIn_21 : DC b_Tr_areIn 21 (.lcmp) 1 22 := ⟨by decide +kernel, rfl⟩
theorem x_Tr_areIn_22 : DC b_Tr_areIn 22 (.ifCond .lt 11) 3 25 := ⟨by decide +kernel, rfl⟩
theorem x_Tr_areIn_25 : DC b_Tr_areIn 25 (.lload 8) 2 27 := ⟨by decide +kernel, rfl⟩
theorem x_Tr_areIn_27 : DC b_Tr_areIn 27 (.lload 5) 2 29 := ⟨by decide +kernel, rfl⟩
theorem x_Tr_areIn_29 : DC b_Tr_areIn 29 (.lcmp) 1 30 := ⟨by decide +kernel, rfl⟩
theorem x_Tr_areIn_30 : DC b_Tr_areIn 30 (.ifCond .le 5) 3 33 := ⟨by decide +kernel, rfl⟩
theorem x_Tr_areIn_33 : DC b_Tr_areIn 33 (.iconst 0) 1 34 := ⟨by decide +kernel, rfl⟩
theorem x_Tr_areIn_34 : DC b_Tr_areIn 34 (.ireturn) 1 35 := ⟨by decide +kernel, rfl⟩
theorem x_Tr_areIn_35 : DC b_Tr_areIn 35 (.iinc 7 1) 3 38 := ⟨by decide +kernel, rfl⟩
theorem x_Tr_areIn_38 : DC b_Tr_areIn 38 (.goto (-35)) 3 41 := ⟨by decide +kernel, rfl⟩
theorem x_Tr_areIn_41 : DC b_Tr_areIn 41 (.iconst 1) 1 42 := ⟨by decide +kernel, rfl⟩
theorem x_Tr_areIn_42 : DC b_Tr_areIn 42 (.ireturn) 1 43 := ⟨by decide +kernel, rfl⟩
def k_Tr_areIn_3 (R3 : Int → Int → Int → Int → Int → Mem → Res) (a1 a2 a3 a5 a7 : Int) (M : Mem) : Res := if w32 a7 < w32 a2 then (bcall (d_Tr_get a1 a7 M) fun v2 M3 => if w64 v2 < w64 a3 then (some (0, M3)) else (if w64 a5 < w64 v2 then (some (0, M3)) else (blet (a7 + 1) fun v6 => R3 a1 a2 a3 a5 v6 M3))) else (some (1, M))
theorem z_Tr_areIn_3 (C : Cx p s m args meth c G b_Tr_areIn 10 "PrairiePool$Trays" (some .boolean)) (hlev : 1 ≤ lev) {r : Int × Mem} {R3 : Int → Int → Int → Int → Int → Mem → Res} (hR3 : ∀ (a1 a2 a3 a5 a7 : Int) (M : Mem), R3 a1 a2 a3 a5 a7 M = some r → Z p l e lev s m args below meth c G 10 (MQ below (Qm G 1 r) args s 0 0 (Ab G)) M 3 [(0, .ref (G.1 + 1)), (1, vi a1), (2, vi a2), (3, vl a3), (5, vl a5), (7, vi a7)] []) {a1 a2 a3 a5 a7 : Int} {M : Mem} (h : k_Tr_areIn_3 R3 a1 a2 a3 a5 a7 M = some r) : Z p l e lev s m args below meth c G 10 (MQ below (Qm G 1 r) args s 0 0 (Ab G)) M 3 [(0, .ref (G.1 + 1)), (1, vi a1), (2, vi a2), (3, vl a3), (5, vl a5), (7, vi a7)] [] := by
  unfold k_Tr_areIn_3 at h
  refine z_iload C 5 x_Tr_areIn_3 rfl ?_
  refine z_iload_n C 2 x_Tr_areIn_5 rfl ?_
  rcases ite_e h with ⟨c1, h⟩ | ⟨c1, h⟩
  · refine z_icmp_ge_f (tgt := 41) C x_Tr_areIn_6 rfl c1 ?_
    refine z_aload_n C 0 x_Tr_areIn_9 rfl ?_
    refine z_iload_n C 1 x_Tr_areIn_10 rfl ?_
    refine z_iload C 5 x_Tr_areIn_11 rfl ?_
    obtain ⟨v2, M3, fv2, h⟩ := bcall_e h
    refine z_callVl (k := 1) C x_Tr_areIn_13 cv_Tr_32 (t_Tr_get (lev := lev - 1) l G (by omega) fv2) nk_1 ck_1 rfl (by omega) rfl (i_le rfl) rfl ?_
    refine z_lstore (lv' := [(8, vl v2), (0, .ref (G.1 + 1)), (1, vi a1), (2, vi a2), (3, vl a3), (5, vl a5), (7, vi a7)]) C rfl x_Tr_areIn_16 (i_lt rfl) rfl ?_
    refine z_lload C 0 x_Tr_areIn_18 rfl ?_
    refine z_lload_n C 4 x_Tr_areIn_20 rfl ?_
    refine z_lcmp C x_Tr_areIn_21 ?_
    rcases ite_e h with ⟨c4, h⟩ | ⟨c4, h⟩
    · refine z_if_lt_t (tgt := 33) C x_Tr_areIn_22 rfl (cm_lt.mpr c4) ?_
      refine z_iconst C x_Tr_areIn_33 ?_
      exact z_zret C x_Tr_areIn_34 (by decide) h
    · refine z_if_lt_f (tgt := 33) C x_Tr_areIn_22 rfl (fun q => c4 (cm_lt.mp q)) ?_
      refine z_lload C 0 x_Tr_areIn_25 rfl ?_
      refine z_lload C 5 x_Tr_areIn_27 rfl ?_
      refine z_lcmp C x_Tr_areIn_29 ?_
      rcases ite_e h with ⟨c5, h⟩ | ⟨c5, h⟩
      · refine z_if_le_f (tgt := 35) C x_Tr_areIn_30 rfl (cm_gt.mpr c5) ?_
        refine z_iconst C x_Tr_areIn_33 ?_
        exact z_zret C x_Tr_areIn_34 (by decide) h
      · refine z_if_le_t (tgt := 35) C x_Tr_areIn_30 rfl (fun q => c5 (cm_gt.mp q)) ?_
        obtain ⟨v6, ev6, h⟩ := blet_e h
        refine z_iinc (lv' := [(7, vi v6), (8, vl v2), (0, .ref (G.1 + 1)), (1, vi a1), (2, vi a2), (3, vl a3), (5, vl a5)]) C 6 ev6 x_Tr_areIn_35 rfl (i_lt rfl) rfl ?_
        refine z_goto (tgt := 3) C x_Tr_areIn_38 rfl ?_
        exact z_sub [2, 3, 4, 5, 6, 0] rfl (hR3 a1 a2 a3 a5 v6 M3 h)
  · refine z_icmp_ge_t (tgt := 41) C x_Tr_areIn_6 rfl c1 ?_
    refine z_iconst C x_Tr_areIn_41 ?_
    exact z_zret C x_Tr_areIn_42 (by decide) h
theorem zl_Tr_areIn_3 (C : Cx p s m args meth c G b_Tr_areIn 10 "PrairiePool$Trays" (some .boolean)) (hlev : 1 ≤ lev) {r : Int × Mem}  : ∀ (n : Nat) (a1 a2 a3 a5 a7 : Int) (M : Mem), fix (fun _ _ _ _ _ _ => none) (k_Tr_areIn_3) n a1 a2 a3 a5 a7 M = some r → Z p l e lev s m args below meth c G 10 (MQ below (Qm G 1 r) args s 0 0 (Ab G)) M 3 [(0, .ref (G.1 + 1)), (1, vi a1), (2, vi a2), (3, vl a3), (5, vl a5), (7, vi a7)] [] := by
  intro n
  induction n with
  | zero => intro a1 a2 a3 a5 a7 M h; exact nomatch (show (none : Res) = some r from h)
  | succ n ih => intro a1 a2 a3 a5 a7 M h; exact z_Tr_areIn_3 C hlev ih h
def d_Tr_areIn (a1 a2 a3 a5 : Int) (M : Mem) : Res := fix (fun _ _ _ _ _ _ => none) (k_Tr_areIn_3) FU a1 a2 a3 a5 0 M
theorem t_Tr_areIn (l : Launch) (G : GX) {lev : Nat} (hlev : 1 ≤ lev) {a1 a2 a3 a5 : Int} {M : Mem} {r : Int × Mem} (h : d_Tr_areIn a1 a2 a3 a5 M = some r) : Mt l G y_Tr_areIn b_Tr_areIn 10 (some .boolean) lev 1 [.ref (G.1 + 1), vi a1, vi a2, vl a3, vl a5] M r := by
  refine Mt.of (by decide) (i_le rfl) ?_
  intro p e s m args below meth c C
  have C : Cx p s m args meth c G b_Tr_areIn 10 "PrairiePool$Trays" (some .boolean) := C
  unfold d_Tr_areIn at h
  refine z_sub (lv' := [(0, .ref (G.1 + 1)), (1, vi a1), (2, vi a2), (3, vl a3), (5, vl a5)]) [0, 1, 2, 3, 4] rfl ?_
  refine z_iconst C x_Tr_areIn_0 ?_
  refine z_istore (lv' := [(7, vi 0), (0, .ref (G.1 + 1)), (1, vi a1), (2, vi a2), (3, vl a3), (5, vl a5)]) C rfl x_Tr_areIn_1 (i_lt rfl) rfl ?_
  exact z_sub [1, 2, 3, 4, 5, 0] rfl (zl_Tr_areIn_3 C hlev FU a1 a2 a3 a5 0 M h)
theorem x_Tr_totalOf_0 : DC b_Tr_totalOf 0 (.lconst 0) 1 1 := ⟨by decide +kernel, rfl⟩
theorem x_Tr_totalOf_1 : DC b_Tr_totalOf 1 (.lstore_n 3) 1 2 := ⟨by decide +kernel, rfl⟩
theorem x_Tr_totalOf_2 : DC b_Tr_totalOf 2 (.iconst 0) 1 3 := ⟨by decide +kernel, rfl⟩
theorem x_Tr_totalOf_3 : DC b_Tr_totalOf 3 (.istore 5) 2 5 := ⟨by decide +kernel, rfl⟩
theorem x_Tr_totalOf_5 : DC b_Tr_totalOf 5 (.iload 5) 2 7 := ⟨by decide +kernel, rfl⟩
theorem x_Tr_totalOf_7 : DC b_Tr_totalOf 7 (.iload_n 2) 1 8 := ⟨by decide +kernel, rfl⟩
theorem x_Tr_totalOf_8 : DC b_Tr_totalOf 8 (.if_icmp .ge 19) 3 11 := ⟨by decide +kernel, rfl⟩
theorem x_Tr_totalOf_11 : DC b_Tr_totalOf 11 (.lload_n 3) 1 12 := ⟨by decide +kernel, rfl⟩
theorem x_Tr_totalOf_12 : DC b_Tr_totalOf 12 (.aload_n 0) 1 13 := ⟨by decide +kernel, rfl⟩
theorem x_Tr_totalOf_13 : DC b_Tr_totalOf 13 (.iload_n 1) 1 14 := ⟨by decide +kernel, rfl⟩
theorem x_Tr_totalOf_14 : DC b_Tr_totalOf 14 (.iload 5) 2 16 := ⟨by decide +kernel, rfl⟩
theorem x_Tr_totalOf_16 : DC b_Tr_totalOf 16 (.invokevirtual 32) 3 19 := ⟨by decide +kernel, rfl⟩
theorem x_Tr_totalOf_19 : DC b_Tr_totalOf 19 (.ladd) 1 20 := ⟨by decide +kernel, rfl⟩
theorem x_Tr_totalOf_20 : DC b_Tr_totalOf 20 (.lstore_n 3) 1 21 := ⟨by decide +kernel, rfl⟩
theorem x_Tr_totalOf_21 : DC b_Tr_totalOf 21 (.iinc 5 1) 3 24 := ⟨by decide +kernel, rfl⟩
theorem x_Tr_totalOf_24 : DC b_Tr_totalOf 24 (.goto (-19)) 3 27 := ⟨by decide +kernel, rfl⟩
theorem x_Tr_totalOf_27 : DC b_Tr_totalOf 27 (.lload_n 3) 1 28 := ⟨by decide +kernel, rfl⟩
theorem x_Tr_totalOf_28 : DC b_Tr_totalOf 28 (.lreturn) 1 29 := ⟨by decide +kernel, rfl⟩
def k_Tr_totalOf_5 (R5 : Int → Int → Int → Int → Mem → Res) (a1 a2 a3 a5 : Int) (M : Mem) : Res := if w32 a5 < w32 a2 then (bcall (d_Tr_get a1 a5 M) fun v2 M3 => blet (a3 + v2) fun v4 => blet (a5 + 1) fun v5 => R5 a1 a2 v4 v5 M3) else (some (a3, M))
theorem z_Tr_totalOf_5 (C : Cx p s m args meth c G b_Tr_totalOf 6 "PrairiePool$Trays" (some .long)) (hlev : 1 ≤ lev) {r : Int × Mem} {R5 : Int → Int → Int → Int → Mem → Res} (hR5 : ∀ (a1 a2 a3 a5 : Int) (M : Mem), R5 a1 a2 a3 a5 M = some r → Z p l e lev s m args below meth c G 6 (MQ below (Qm G 2 r) args s 0 0 (Ab G)) M 5 [(0, .ref (G.1 + 1)), (1, vi a1), (2, vi a2), (3, vl a3), (5, vi a5)] []) {a1 a2 a3 a5 : Int} {M : Mem} (h : k_Tr_totalOf_5 R5 a1 a2 a3 a5 M = some r) : Z p l e lev s m args below meth c G 6 (MQ below (Qm G 2 r) args s 0 0 (Ab G)) M 5 [(0, .ref (G.1 + 1)), (1, vi a1), (2, vi a2), (3, vl a3), (5, vi a5)] [] := by
  unfold k_Tr_totalOf_5 at h
  refine z_iload C 4 x_Tr_totalOf_5 rfl ?_
  refine z_iload_n C 2 x_Tr_totalOf_7 rfl ?_
  rcases ite_e h with ⟨c1, h⟩ | ⟨c1, h⟩
  · refine z_icmp_ge_f (tgt := 27) C x_Tr_totalOf_8 rfl c1 ?_
    refine z_lload_n C 3 x_Tr_totalOf_11 rfl ?_
    refine z_aload_n C 0 x_Tr_totalOf_12 rfl ?_
    refine z_iload_n C 1 x_Tr_totalOf_13 rfl ?_
    refine z_iload C 4 x_Tr_totalOf_14 rfl ?_
    obtain ⟨v2, M3, fv2, h⟩ := bcall_e h
    refine z_callVl (k := 1) C x_Tr_totalOf_16 cv_Tr_32 (t_Tr_get (lev := lev - 1) l G (by omega) fv2) nk_1 ck_1 rfl (by omega) rfl (i_le rfl) rfl ?_
    refine z_ladd C x_Tr_totalOf_19 ?_
    obtain ⟨v4, ev4, h⟩ := blet_e h
    refine z_lstore_n (lv' := [(3, vl v4), (0, .ref (G.1 + 1)), (1, vi a1), (2, vi a2), (5, vi a5)]) C ev4 x_Tr_totalOf_20 (i_lt rfl) rfl ?_
    obtain ⟨v5, ev5, h⟩ := blet_e h
    refine z_iinc (lv' := [(5, vi v5), (3, vl v4), (0, .ref (G.1 + 1)), (1, vi a1), (2, vi a2)]) C 4 ev5 x_Tr_totalOf_21 rfl (i_lt rfl) rfl ?_
    refine z_goto (tgt := 5) C x_Tr_totalOf_24 rfl ?_
    exact z_sub [2, 3, 4, 1, 0] rfl (hR5 a1 a2 v4 v5 M3 h)
  · refine z_icmp_ge_t (tgt := 27) C x_Tr_totalOf_8 rfl c1 ?_
    refine z_lload_n C 3 x_Tr_totalOf_27 rfl ?_
    exact z_lret C x_Tr_totalOf_28 h
theorem zl_Tr_totalOf_5 (C : Cx p s m args meth c G b_Tr_totalOf 6 "PrairiePool$Trays" (some .long)) (hlev : 1 ≤ lev) {r : Int × Mem}  : ∀ (n : Nat) (a1 a2 a3 a5 : Int) (M : Mem), fix (fun _ _ _ _ _ => none) (k_Tr_totalOf_5) n a1 a2 a3 a5 M = some r → Z p l e lev s m args below meth c G 6 (MQ below (Qm G 2 r) args s 0 0 (Ab G)) M 5 [(0, .ref (G.1 + 1)), (1, vi a1), (2, vi a2), (3, vl a3), (5, vi a5)] [] := by
  intro n
  induction n with
  | zero => intro a1 a2 a3 a5 M h; exact nomatch (show (none : Res) = some r from h)
  | succ n ih => intro a1 a2 a3 a5 M h; exact z_Tr_totalOf_5 C hlev ih h
def d_Tr_totalOf (a1 a2 : Int) (M : Mem) : Res := fix (fun _ _ _ _ _ => none) (k_Tr_totalOf_5) FU a1 a2 0 0 M
theorem t_Tr_totalOf (l : Launch) (G : GX) {lev : Nat} (hlev : 1 ≤ lev) {a1 a2 : Int} {M : Mem} {r : Int × Mem} (h : d_Tr_totalOf a1 a2 M = some r) : Mt l G y_Tr_totalOf b_Tr_totalOf 6 (some .long) lev 2 [.ref (G.1 + 1), vi a1, vi a2] M r := by
  refine Mt.of (by decide) (i_le rfl) ?_
  intro p e s m args below meth c C
  have C : Cx p s m args meth c G b_Tr_totalOf 6 "PrairiePool$Trays" (some .long) := C
  unfold d_Tr_totalOf at h
  refine z_sub (lv' := [(0, .ref (G.1 + 1)), (1, vi a1), (2, vi a2)]) [0, 1, 2] rfl ?_
  refine z_lconst0 C x_Tr_totalOf_0 ?_
  refine z_lstore_n (lv' := [(3, vl 0), (0, .ref (G.1 + 1)), (1, vi a1), (2, vi a2)]) C rfl x_Tr_totalOf_1 (i_lt rfl) rfl ?_
  refine z_iconst C x_Tr_totalOf_2 ?_
  refine z_istore (lv' := [(5, vi 0), (3, vl 0), (0, .ref (G.1 + 1)), (1, vi a1), (2, vi a2)]) C rfl x_Tr_totalOf_3 (i_lt rfl) rfl ?_
  exact z_sub [2, 3, 4, 1, 0] rfl (zl_Tr_totalOf_5 C hlev FU a1 a2 0 0 M h)
theorem x_Tr_statusOfThree_0 : DC b_Tr_statusOfThree 0 (.iconst 3) 1 1 := ⟨by decide +kernel, rfl⟩
theorem x_Tr_statusOfThree_1 : DC b_Tr_statusOfThree 1 (.istore 4) 2 3 := ⟨by decide +kernel, rfl⟩
theorem x_Tr_statusOfThree_3 : DC b_Tr_statusOfThree 3 (.iload_n 1) 1 4 := ⟨by decide +kernel, rfl⟩
theorem x_Tr_statusOfThree_4 : DC b_Tr_statusOfThree 4 (.iconst 0) 1 5 := ⟨by decide +kernel, rfl⟩
theorem x_Tr_statusOfThree_5 : DC b_Tr_statusOfThree 5 (.iload 4) 2 7 := ⟨by decide +kernel, rfl⟩
theorem x_Tr_statusOfThree_7 : DC b_Tr_statusOfThree 7 (.invokestatic 40) 3 10 := ⟨by decide +kernel, rfl⟩
theorem x_Tr_statusOfThree_10 : DC b_Tr_statusOfThree 10 (.ifCond .eq 23) 3 13 := ⟨by decide +kernel, rfl⟩
theorem x_Tr_statusOfThree_13 : DC b_Tr_statusOfThree 13 (.iload_n 2) 1 14 := ⟨by decide +kernel, rfl⟩
theorem x_Tr_statusOfThree_14 : DC b_Tr_statusOfThree 14 (.iconst 0) 1 15 := ⟨by decide +kernel, rfl⟩
theorem x_Tr_statusOfThree_15 : DC b_Tr_statusOfThree 15 (.iload 4) 2 17 := ⟨by decide +kernel, rfl⟩
theorem x_Tr_statusOfThree_17 : DC b_Tr_statusOfThree 17 (.invokestatic 40) 3 20 := ⟨by decide +kernel, rfl⟩
theorem x_Tr_statusOfThree_20 : DC b_Tr_statusOfThree 20 (.ifCond .eq 13) 3 23 := ⟨by decide +kernel, rfl⟩
theorem x_Tr_statusOfThree_23 : DC b_Tr_statusOfThree 23 (.iload_n 3) 1 24 := ⟨by decide +kernel, rfl⟩
theorem x_Tr_statusOfThree_24 : DC b_Tr_statusOfThree 24 (.iconst 0) 1 25 := ⟨by decide +kernel, rfl⟩
theorem x_Tr_statusOfThree_25 : DC b_Tr_statusOfThree 25 (.iload 4) 2 27 := ⟨by decide +kernel, rfl⟩
theorem x_Tr_statusOfThree_27 : DC b_Tr_statusOfThree 27 (.invokestatic 40) 3 30 := ⟨by decide +kernel, rfl⟩
theorem x_Tr_statusOfThree_30 : DC b_Tr_statusOfThree 30 (.ifCond .ne 5) 3 33 := ⟨by decide +kernel, rfl⟩
theorem x_Tr_statusOfThree_33 : DC b_Tr_statusOfThree 33 (.iconst 1) 1 34 := ⟨by decide +kernel, rfl⟩
theorem x_Tr_statusOfThree_34 : DC b_Tr_statusOfThree 34 (.ireturn) 1 35 := ⟨by decide +kernel, rfl⟩
theorem x_Tr_statusOfThree_35 : DC b_Tr_statusOfThree 35 (.aload_n 0) 1 36 := ⟨by decide +kernel, rfl⟩
theorem x_Tr_statusOfThree_36 : DC b_Tr_statusOfThree 36 (.getfield 15) 3 39 := ⟨by decide +kernel, rfl⟩
theorem x_Tr_statusOfThree_39 : DC b_Tr_statusOfThree 39 (.iload_n 1) 1 40 := ⟨by decide +kernel, rfl⟩
theorem x_Tr_statusOfThree_40 : DC b_Tr_statusOfThree 40 (.iaload) 1 41 := ⟨by decide +kernel, rfl⟩
theorem x_Tr_statusOfThree_41 : DC b_Tr_statusOfThree 41 (.ifCond .lt 21) 3 44 := ⟨by decide +kernel, rfl⟩
theorem x_Tr_statusOfThree_44 : DC b_Tr_statusOfThree 44 (.aload_n 0) 1 45 := ⟨by decide +kernel, rfl⟩
theorem x_Tr_statusOfThree_45 : DC b_Tr_statusOfThree 45 (.getfield 15) 3 48 := ⟨by decide +kernel, rfl⟩
theorem x_Tr_statusOfThree_48 : DC b_Tr_statusOfThree 48 (.iload_n 2) 1 49 := ⟨by decide +kernel, rfl⟩
theorem x_Tr_statusOfThree_49 : DC b_Tr_statusOfThree 49 (.iaload) 1 50 := ⟨by decide +kernel, rfl⟩
theorem x_Tr_statusOfThree_50 : DC b_Tr_statusOfThree 50 (.ifCond .lt 12) 3 53 := ⟨by decide +kernel, rfl⟩
theorem x_Tr_statusOfThree_53 : DC b_Tr_statusOfThree 53 (.aload_n 0) 1 54 := ⟨by decide +kernel, rfl⟩
theorem x_Tr_statusOfThree_54 : DC b_Tr_statusOfThree 54 (.getfield 15) 3 57 := ⟨by decide +kernel, rfl⟩
theorem x_Tr_statusOfThree_57 : DC b_Tr_statusOfThree 57 (.iload_n 3) 1 58 := ⟨by decide +kernel, rfl⟩
theorem x_Tr_statusOfThree_58 : DC b_Tr_statusOfThree 58 (.iaload) 1 59 := ⟨by decide +kernel, rfl⟩
theorem x_Tr_statusOfThree_59 : DC b_Tr_statusOfThree 59 (.ifCond .ge 7) 3 62 := ⟨by decide +kernel, rfl⟩
theorem x_Tr_statusOfThree_62 : DC b_Tr_statusOfThree 62 (.iconst 1) 1 63 := ⟨by decide +kernel, rfl⟩
theorem x_Tr_statusOfThree_63 : DC b_Tr_statusOfThree 63 (.goto 4) 3 66 := ⟨by decide +kernel, rfl⟩
theorem x_Tr_statusOfThree_66 : DC b_Tr_statusOfThree 66 (.iconst 0) 1 67 := ⟨by decide +kernel, rfl⟩
theorem x_Tr_statusOfThree_67 : DC b_Tr_statusOfThree 67 (.istore 5) 2 69 := ⟨by decide +kernel, rfl⟩
theorem x_Tr_statusOfThree_69 : DC b_Tr_statusOfThree 69 (.iload 5) 2 71 := ⟨by decide +kernel, rfl⟩
theorem x_Tr_statusOfThree_71 : DC b_Tr_statusOfThree 71 (.ifCond .eq 7) 3 74 := ⟨by decide +kernel, rfl⟩
theorem x_Tr_statusOfThree_74 : DC b_Tr_statusOfThree 74 (.iconst 3) 1 75 := ⟨by decide +kernel, rfl⟩
theorem x_Tr_statusOfThree_75 : DC b_Tr_statusOfThree 75 (.goto 4) 3 78 := ⟨by decide +kernel, rfl⟩
theorem x_Tr_statusOfThree_78 : DC b_Tr_statusOfThree 78 (.iconst 0) 1 79 := ⟨by decide +kernel, rfl⟩
theorem x_Tr_statusOfThree_79 : DC b_Tr_statusOfThree 79 (.ireturn) 1 80 := ⟨by decide +kernel, rfl⟩
def k_Tr_statusOfThree_67 (s0 : Int) (M : Mem) : Res := if w32 s0 = 0 then (some (0, M)) else (some (3, M))
theorem z_Tr_statusOfThree_67 (C : Cx p s m args meth c G b_Tr_statusOfThree 6 "PrairiePool$Trays" (some .int)) (hlev : 1 ≤ lev) {r : Int × Mem}  {s0 : Int} {M : Mem} (h : k_Tr_statusOfThree_67 s0 M = some r) : Z p l e lev s m args below meth c G 6 (MQ below (Qm G 1 r) args s 0 0 (Ab G)) M 67 [] [vi s0] := by
  unfold k_Tr_statusOfThree_67 at h
  refine z_istore (lv' := [(5, vi s0)]) C rfl x_Tr_statusOfThree_67 (i_lt rfl) rfl ?_
  refine z_iload C 0 x_Tr_statusOfThree_69 rfl ?_
  rcases ite_e h with ⟨c1, h⟩ | ⟨c1, h⟩
  · refine z_if_eq_t (tgt := 78) C x_Tr_statusOfThree_71 rfl c1 ?_
    refine z_iconst C x_Tr_statusOfThree_78 ?_
    exact z_iret C x_Tr_statusOfThree_79 h
  · refine z_if_eq_f (tgt := 78) C x_Tr_statusOfThree_71 rfl c1 ?_
    refine z_iconst C x_Tr_statusOfThree_74 ?_
    refine z_goto (tgt := 79) C x_Tr_statusOfThree_75 rfl ?_
    exact z_iret C x_Tr_statusOfThree_79 h
def k_Tr_statusOfThree_62 (M : Mem) : Res := k_Tr_statusOfThree_67 1 M
theorem z_Tr_statusOfThree_62 (C : Cx p s m args meth c G b_Tr_statusOfThree 6 "PrairiePool$Trays" (some .int)) (hlev : 1 ≤ lev) {r : Int × Mem}  {M : Mem} (h : k_Tr_statusOfThree_62 M = some r) : Z p l e lev s m args below meth c G 6 (MQ below (Qm G 1 r) args s 0 0 (Ab G)) M 62 [] [] := by
  unfold k_Tr_statusOfThree_62 at h
  refine z_iconst C x_Tr_statusOfThree_62 ?_
  refine z_goto (tgt := 67) C x_Tr_statusOfThree_63 rfl ?_
  exact z_sub [] rfl (z_Tr_statusOfThree_67 C hlev h)
def d_Tr_statusOfThree (a1 a2 a3 : Int) (M : Mem) : Res := bcall (d_PP_isIn a1 0 3 M) fun v1 M2 => if w32 v1 = 0 then (some (1, M2)) else (bcall (d_PP_isIn a2 0 3 M2) fun v4 M5 => if w32 v4 = 0 then (some (1, M5)) else (bcall (d_PP_isIn a3 0 3 M5) fun v7 M8 => if w32 v7 = 0 then (some (1, M8)) else (chk (0 ≤ w32 a1 ∧ w32 a1 < 4) <| blet (M8 3 (ix a1)) fun v11 => if w32 v11 < 0 then (k_Tr_statusOfThree_62 M8) else (chk (0 ≤ w32 a2 ∧ w32 a2 < 4) <| blet (M8 3 (ix a2)) fun v14 => if w32 v14 < 0 then (k_Tr_statusOfThree_62 M8) else (chk (0 ≤ w32 a3 ∧ w32 a3 < 4) <| blet (M8 3 (ix a3)) fun v17 => if w32 v17 < 0 then (k_Tr_statusOfThree_62 M8) else (k_Tr_statusOfThree_67 0 M8))))))
theorem t_Tr_statusOfThree (l : Launch) (G : GX) {lev : Nat} (hlev : 1 ≤ lev) {a1 a2 a3 : Int} {M : Mem} {r : Int × Mem} (h : d_Tr_statusOfThree a1 a2 a3 M = some r) : Mt l G y_Tr_statusOfThree b_Tr_statusOfThree 6 (some .int) lev 1 [.ref (G.1 + 1), vi a1, vi a2, vi a3] M r := by
  refine Mt.of (by decide) (i_le rfl) ?_
  intro p e s m args below meth c C
  have C : Cx p s m args meth c G b_Tr_statusOfThree 6 "PrairiePool$Trays" (some .int) := C
  unfold d_Tr_statusOfThree at h
  refine z_sub (lv' := [(0, .ref (G.1 + 1)), (1, vi a1), (2, vi a2), (3, vi a3)]) [0, 1, 2, 3] rfl ?_
  refine z_iconst C x_Tr_statusOfThree_0 ?_
  refine z_istore (lv' := [(4, vi 3), (0, .ref (G.1 + 1)), (1, vi a1), (2, vi a2), (3, vi a3)]) C rfl x_Tr_statusOfThree_1 (i_lt rfl) rfl ?_
  refine z_iload_n C 2 x_Tr_statusOfThree_3 rfl ?_
  refine z_iconst C x_Tr_statusOfThree_4 ?_
  refine z_iload C 0 x_Tr_statusOfThree_5 rfl ?_
  obtain ⟨v1, M2, fv1, h⟩ := bcall_e h
  refine z_callNi C x_Tr_statusOfThree_7 cn_Tr_40 (t_PP_isIn (lev := lev - 1) l G (by omega) fv1) (by omega) rfl (i_le rfl) rfl ?_
  rcases ite_e h with ⟨c3, h⟩ | ⟨c3, h⟩
  · refine z_if_eq_t (tgt := 33) C x_Tr_statusOfThree_10 rfl c3 ?_
    refine z_iconst C x_Tr_statusOfThree_33 ?_
    exact z_iret C x_Tr_statusOfThree_34 h
  · refine z_if_eq_f (tgt := 33) C x_Tr_statusOfThree_10 rfl c3 ?_
    refine z_iload_n C 3 x_Tr_statusOfThree_13 rfl ?_
    refine z_iconst C x_Tr_statusOfThree_14 ?_
    refine z_iload C 0 x_Tr_statusOfThree_15 rfl ?_
    obtain ⟨v4, M5, fv4, h⟩ := bcall_e h
    refine z_callNi C x_Tr_statusOfThree_17 cn_Tr_40 (t_PP_isIn (lev := lev - 1) l G (by omega) fv4) (by omega) rfl (i_le rfl) rfl ?_
    rcases ite_e h with ⟨c6, h⟩ | ⟨c6, h⟩
    · refine z_if_eq_t (tgt := 33) C x_Tr_statusOfThree_20 rfl c6 ?_
      refine z_iconst C x_Tr_statusOfThree_33 ?_
      exact z_iret C x_Tr_statusOfThree_34 h
    · refine z_if_eq_f (tgt := 33) C x_Tr_statusOfThree_20 rfl c6 ?_
      refine z_iload_n C 4 x_Tr_statusOfThree_23 rfl ?_
      refine z_iconst C x_Tr_statusOfThree_24 ?_
      refine z_iload C 0 x_Tr_statusOfThree_25 rfl ?_
      obtain ⟨v7, M8, fv7, h⟩ := bcall_e h
      refine z_callNi C x_Tr_statusOfThree_27 cn_Tr_40 (t_PP_isIn (lev := lev - 1) l G (by omega) fv7) (by omega) rfl (i_le rfl) rfl ?_
      rcases ite_e h with ⟨c9, h⟩ | ⟨c9, h⟩
      · refine z_if_ne_f (tgt := 35) C x_Tr_statusOfThree_30 rfl c9 ?_
        refine z_iconst C x_Tr_statusOfThree_33 ?_
        exact z_iret C x_Tr_statusOfThree_34 h
      · refine z_if_ne_t (tgt := 35) C x_Tr_statusOfThree_30 rfl c9 ?_
        refine z_aload_n C 1 x_Tr_statusOfThree_35 rfl ?_
        refine z_getR (j := 1) C x_Tr_statusOfThree_36 nk_1 ck_1 cw_9 (i_lt rfl) rfl rf_1_1 rfl fl_Tr_15 ?_
        refine z_iload_n C 2 x_Tr_statusOfThree_39 rfl ?_
        obtain ⟨c10, h⟩ := chk_e h
        obtain ⟨v11, ev11, h⟩ := blet_e h
        refine z_iald C x_Tr_statusOfThree_40 nk_3 ck_3 c10 ev11 ?_
        rcases ite_e h with ⟨c12, h⟩ | ⟨c12, h⟩
        · refine z_if_lt_t (tgt := 62) C x_Tr_statusOfThree_41 rfl c12 ?_
          exact z_sub [] rfl (z_Tr_statusOfThree_62 C hlev h)
        · refine z_if_lt_f (tgt := 62) C x_Tr_statusOfThree_41 rfl c12 ?_
          refine z_aload_n C 1 x_Tr_statusOfThree_44 rfl ?_
          refine z_getR (j := 1) C x_Tr_statusOfThree_45 nk_1 ck_1 cw_9 (i_lt rfl) rfl rf_1_1 rfl fl_Tr_15 ?_
          refine z_iload_n C 3 x_Tr_statusOfThree_48 rfl ?_
          obtain ⟨c13, h⟩ := chk_e h
          obtain ⟨v14, ev14, h⟩ := blet_e h
          refine z_iald C x_Tr_statusOfThree_49 nk_3 ck_3 c13 ev14 ?_
          rcases ite_e h with ⟨c15, h⟩ | ⟨c15, h⟩
          · refine z_if_lt_t (tgt := 62) C x_Tr_statusOfThree_50 rfl c15 ?_
            exact z_sub [] rfl (z_Tr_statusOfThree_62 C hlev h)
          · refine z_if_lt_f (tgt := 62) C x_Tr_statusOfThree_50 rfl c15 ?_
            refine z_aload_n C 1 x_Tr_statusOfThree_53 rfl ?_
            refine z_getR (j := 1) C x_Tr_statusOfThree_54 nk_1 ck_1 cw_9 (i_lt rfl) rfl rf_1_1 rfl fl_Tr_15 ?_
            refine z_iload_n C 4 x_Tr_statusOfThree_57 rfl ?_
            obtain ⟨c16, h⟩ := chk_e h
            obtain ⟨v17, ev17, h⟩ := blet_e h
            refine z_iald C x_Tr_statusOfThree_58 nk_3 ck_3 c16 ev17 ?_
            rcases ite_e h with ⟨c18, h⟩ | ⟨c18, h⟩
            · refine z_if_ge_f (tgt := 66) C x_Tr_statusOfThree_59 rfl c18 ?_
              exact z_sub [] rfl (z_Tr_statusOfThree_62 C hlev h)
            · refine z_if_ge_t (tgt := 66) C x_Tr_statusOfThree_59 rfl c18 ?_
              refine z_iconst C x_Tr_statusOfThree_66 ?_
              exact z_sub [] rfl (z_Tr_statusOfThree_67 C hlev h)
theorem x_Tr_statusOfTwo_0 : DC b_Tr_statusOfTwo 0 (.aload_n 0) 1 1 := ⟨by decide +kernel, rfl⟩
theorem x_Tr_statusOfTwo_1 : DC b_Tr_statusOfTwo 1 (.iload_n 1) 1 2 := ⟨by decide +kernel, rfl⟩
theorem x_Tr_statusOfTwo_2 : DC b_Tr_statusOfTwo 2 (.iload_n 2) 1 3 := ⟨by decide +kernel, rfl⟩
theorem x_Tr_statusOfTwo_3 : DC b_Tr_statusOfTwo 3 (.iload_n 1) 1 4 := ⟨by decide +kernel, rfl⟩
theorem x_Tr_statusOfTwo_4 : DC b_Tr_statusOfTwo 4 (.invokevirtual 36) 3 7 := ⟨by decide +kernel, rfl⟩
theorem x_Tr_statusOfTwo_7 : DC b_Tr_statusOfTwo 7 (.ireturn) 1 8 := ⟨by decide +kernel, rfl⟩
def d_Tr_statusOfTwo (a1 a2 : Int) (M : Mem) : Res := bcall (d_Tr_statusOfThree a1 a2 a1 M) fun v1 M2 => some (v1, M2)
theorem t_Tr_statusOfTwo (l : Launch) (G : GX) {lev : Nat} (hlev : 2 ≤ lev) {a1 a2 : Int} {M : Mem} {r : Int × Mem} (h : d_Tr_statusOfTwo a1 a2 M = some r) : Mt l G y_Tr_statusOfTwo b_Tr_statusOfTwo 3 (some .int) lev 1 [.ref (G.1 + 1), vi a1, vi a2] M r := by
  refine Mt.of (by decide) (i_le rfl) ?_
  intro p e s m args below meth c C
  have C : Cx p s m args meth c G b_Tr_statusOfTwo 3 "PrairiePool$Trays" (some .int) := C
  unfold d_Tr_statusOfTwo at h
  refine z_sub (lv' := [(0, .ref (G.1 + 1)), (1, vi a1), (2, vi a2)]) [0, 1, 2] rfl ?_
  refine z_aload_n C 0 x_Tr_statusOfTwo_0 rfl ?_
  refine z_iload_n C 1 x_Tr_statusOfTwo_1 rfl ?_
  refine z_iload_n C 2 x_Tr_statusOfTwo_2 rfl ?_
  refine z_iload_n C 1 x_Tr_statusOfTwo_3 rfl ?_
  obtain ⟨v1, M2, fv1, h⟩ := bcall_e h
  refine z_callVi (k := 1) C x_Tr_statusOfTwo_4 cv_Tr_36 (t_Tr_statusOfThree (lev := lev - 1) l G (by omega) fv1) nk_1 ck_1 rfl (by omega) rfl (i_le rfl) rfl ?_
  exact z_iret C x_Tr_statusOfTwo_7 h
theorem x_Tr_statusOfPlace_0 : DC b_Tr_statusOfPlace 0 (.aload_n 0) 1 1 := ⟨by decide +kernel, rfl⟩
theorem x_Tr_statusOfPlace_1 : DC b_Tr_statusOfPlace 1 (.iload_n 1) 1 2 := ⟨by decide +kernel, rfl⟩
theorem x_Tr_statusOfPlace_2 : DC b_Tr_statusOfPlace 2 (.iload_n 1) 1 3 := ⟨by decide +kernel, rfl⟩
theorem x_Tr_statusOfPlace_3 : DC b_Tr_statusOfPlace 3 (.invokevirtual 44) 3 6 := ⟨by decide +kernel, rfl⟩
theorem x_Tr_statusOfPlace_6 : DC b_Tr_statusOfPlace 6 (.istore_n 3) 1 7 := ⟨by decide +kernel, rfl⟩
theorem x_Tr_statusOfPlace_7 : DC b_Tr_statusOfPlace 7 (.iload_n 3) 1 8 := ⟨by decide +kernel, rfl⟩
theorem x_Tr_statusOfPlace_8 : DC b_Tr_statusOfPlace 8 (.ifCond .eq 5) 3 11 := ⟨by decide +kernel, rfl⟩
theorem x_Tr_statusOfPlace_11 : DC b_Tr_statusOfPlace 11 (.iload_n 3) 1 12 := ⟨by decide +kernel, rfl⟩
theorem x_Tr_statusOfPlace_12 : DC b_Tr_statusOfPlace 12 (.ireturn) 1 13 := ⟨by decide +kernel, rfl⟩
theorem x_Tr_statusOfPlace_13 : DC b_Tr_statusOfPlace 13 (.iload_n 2) 1 14 := ⟨by decide +kernel, rfl⟩
theorem x_Tr_statusOfPlace_14 : DC b_Tr_statusOfPlace 14 (.iconst 0) 1 15 := ⟨by decide +kernel, rfl⟩
theorem x_Tr_statusOfPlace_15 : DC b_Tr_statusOfPlace 15 (.aload_n 0) 1 16 := ⟨by decide +kernel, rfl⟩
theorem x_Tr_statusOfPlace_16 : DC b_Tr_statusOfPlace 16 (.getfield 15) 3 19 := ⟨by decide +kernel, rfl⟩
theorem x_Tr_statusOfPlace_19 : DC b_Tr_statusOfPlace 19 (.iload_n 1) 1 20 := ⟨by decide +kernel, rfl⟩
theorem x_Tr_statusOfPlace_20 : DC b_Tr_statusOfPlace 20 (.iaload) 1 21 := ⟨by decide +kernel, rfl⟩
theorem x_Tr_statusOfPlace_21 : DC b_Tr_statusOfPlace 21 (.iconst 1) 1 22 := ⟨by decide +kernel, rfl⟩
theorem x_Tr_statusOfPlace_22 : DC b_Tr_statusOfPlace 22 (.isub) 1 23 := ⟨by decide +kernel, rfl⟩
theorem x_Tr_statusOfPlace_23 : DC b_Tr_statusOfPlace 23 (.invokestatic 40) 3 26 := ⟨by decide +kernel, rfl⟩
theorem x_Tr_statusOfPlace_26 : DC b_Tr_statusOfPlace 26 (.ifCond .eq 7) 3 29 := ⟨by decide +kernel, rfl⟩
theorem x_Tr_statusOfPlace_29 : DC b_Tr_statusOfPlace 29 (.iconst 0) 1 30 := ⟨by decide +kernel, rfl⟩
theorem x_Tr_statusOfPlace_30 : DC b_Tr_statusOfPlace 30 (.goto 4) 3 33 := ⟨by decide +kernel, rfl⟩
theorem x_Tr_statusOfPlace_33 : DC b_Tr_statusOfPlace 33 (.iconst 4) 1 34 := ⟨by decide +kernel, rfl⟩
theorem x_Tr_statusOfPlace_34 : DC b_Tr_statusOfPlace 34 (.ireturn) 1 35 := ⟨by decide +kernel, rfl⟩
def d_Tr_statusOfPlace (a1 a2 : Int) (M : Mem) : Res := bcall (d_Tr_statusOfTwo a1 a1 M) fun v1 M2 => if w32 v1 = 0 then (chk (0 ≤ w32 a1 ∧ w32 a1 < 4) <| blet (M2 3 (ix a1)) fun v5 => bcall (d_PP_isIn a2 0 (v5 - 1) M2) fun v6 M7 => if w32 v6 = 0 then (some (4, M7)) else (some (0, M7))) else (some (v1, M2))
theorem t_Tr_statusOfPlace (l : Launch) (G : GX) {lev : Nat} (hlev : 3 ≤ lev) {a1 a2 : Int} {M : Mem} {r : Int × Mem} (h : d_Tr_statusOfPlace a1 a2 M = some r) : Mt l G y_Tr_statusOfPlace b_Tr_statusOfPlace 4 (some .int) lev 1 [.ref (G.1 + 1), vi a1, vi a2] M r := by
  refine Mt.of (by decide) (i_le rfl) ?_
  intro p e s m args below meth c C
  have C : Cx p s m args meth c G b_Tr_statusOfPlace 4 "PrairiePool$Trays" (some .int) := C
  unfold d_Tr_statusOfPlace at h
  refine z_sub (lv' := [(0, .ref (G.1 + 1)), (1, vi a1), (2, vi a2)]) [0, 1, 2] rfl ?_
  refine z_aload_n C 0 x_Tr_statusOfPlace_0 rfl ?_
  refine z_iload_n C 1 x_Tr_statusOfPlace_1 rfl ?_
  refine z_iload_n C 1 x_Tr_statusOfPlace_2 rfl ?_
  obtain ⟨v1, M2, fv1, h⟩ := bcall_e h
  refine z_callVi (k := 1) C x_Tr_statusOfPlace_3 cv_Tr_44 (t_Tr_statusOfTwo (lev := lev - 1) l G (by omega) fv1) nk_1 ck_1 rfl (by omega) rfl (i_le rfl) rfl ?_
  refine z_istore_n (lv' := [(3, vi v1), (0, .ref (G.1 + 1)), (1, vi a1), (2, vi a2)]) C rfl x_Tr_statusOfPlace_6 (i_lt rfl) rfl ?_
  refine z_iload_n C 0 x_Tr_statusOfPlace_7 rfl ?_
  rcases ite_e h with ⟨c3, h⟩ | ⟨c3, h⟩
  · refine z_if_eq_t (tgt := 13) C x_Tr_statusOfPlace_8 rfl c3 ?_
    refine z_iload_n C 3 x_Tr_statusOfPlace_13 rfl ?_
    refine z_iconst C x_Tr_statusOfPlace_14 ?_
    refine z_aload_n C 1 x_Tr_statusOfPlace_15 rfl ?_
    refine z_getR (j := 1) C x_Tr_statusOfPlace_16 nk_1 ck_1 cw_9 (i_lt rfl) rfl rf_1_1 rfl fl_Tr_15 ?_
    refine z_iload_n C 2 x_Tr_statusOfPlace_19 rfl ?_
    obtain ⟨c4, h⟩ := chk_e h
    obtain ⟨v5, ev5, h⟩ := blet_e h
    refine z_iald C x_Tr_statusOfPlace_20 nk_3 ck_3 c4 ev5 ?_
    refine z_iconst C x_Tr_statusOfPlace_21 ?_
    refine z_isub C x_Tr_statusOfPlace_22 ?_
    obtain ⟨v6, M7, fv6, h⟩ := bcall_e h
    refine z_callNi C x_Tr_statusOfPlace_23 cn_Tr_40 (t_PP_isIn (lev := lev - 1) l G (by omega) fv6) (by omega) rfl (i_le rfl) rfl ?_
    rcases ite_e h with ⟨c8, h⟩ | ⟨c8, h⟩
    · refine z_if_eq_t (tgt := 33) C x_Tr_statusOfPlace_26 rfl c8 ?_
      refine z_iconst C x_Tr_statusOfPlace_33 ?_
      exact z_iret C x_Tr_statusOfPlace_34 h
    · refine z_if_eq_f (tgt := 33) C x_Tr_statusOfPlace_26 rfl c8 ?_
      refine z_iconst C x_Tr_statusOfPlace_29 ?_
      refine z_goto (tgt := 34) C x_Tr_statusOfPlace_30 rfl ?_
      exact z_iret C x_Tr_statusOfPlace_34 h
  · refine z_if_eq_f (tgt := 13) C x_Tr_statusOfPlace_8 rfl c3 ?_
    refine z_iload_n C 0 x_Tr_statusOfPlace_11 rfl ?_
    exact z_iret C x_Tr_statusOfPlace_12 h
end
