section
variable {p : Program} {l : Launch} {e : Env} {lev : Nat} {s : State} {m : MethodId} {args : Array Value} {below : List Frame} {meth : Method} {c : Code} {G : GX}
theorem x_Ar_fill0_0 : DC b_Ar_fill0 0 (.iconst 0) 1 1 := ⟨by decide +kernel, rfl⟩
theorem x_Ar_fill0_1 : DC b_Ar_fill0 1 (.istore_n 3) 1 2 := ⟨by decide +kernel, rfl⟩
theorem x_Ar_fill0_2 : DC b_Ar_fill0 2 (.aload_n 0) 1 3 := ⟨by decide +kernel, rfl⟩
theorem x_Ar_fill0_3 : DC b_Ar_fill0 3 (.arraylength) 1 4 := ⟨by decide +kernel, rfl⟩
theorem x_Ar_fill0_4 : DC b_Ar_fill0 4 (.istore 4) 2 6 := ⟨by decide +kernel, rfl⟩
theorem x_Ar_fill0_6 : DC b_Ar_fill0 6 (.iload_n 3) 1 7 := ⟨by decide +kernel, rfl⟩
theorem x_Ar_fill0_7 : DC b_Ar_fill0 7 (.iload 4) 2 9 := ⟨by decide +kernel, rfl⟩
theorem x_Ar_fill0_9 : DC b_Ar_fill0 9 (.if_icmp .ge 13) 3 12 := ⟨by decide +kernel, rfl⟩
theorem x_Ar_fill0_12 : DC b_Ar_fill0 12 (.aload_n 0) 1 13 := ⟨by decide +kernel, rfl⟩
theorem x_Ar_fill0_13 : DC b_Ar_fill0 13 (.iload_n 3) 1 14 := ⟨by decide +kernel, rfl⟩
theorem x_Ar_fill0_14 : DC b_Ar_fill0 14 (.lload_n 1) 1 15 := ⟨by decide +kernel, rfl⟩
theorem x_Ar_fill0_15 : DC b_Ar_fill0 15 (.lastore) 1 16 := ⟨by decide +kernel, rfl⟩
theorem x_Ar_fill0_16 : DC b_Ar_fill0 16 (.iinc 3 1) 3 19 := ⟨by decide +kernel, rfl⟩
theorem x_Ar_fill0_19 : DC b_Ar_fill0 19 (.goto (-13)) 3 22 := ⟨by decide +kernel, rfl⟩
theorem x_Ar_fill0_22 : DC b_Ar_fill0 22 (.return_) 1 23 := ⟨by decide +kernel, rfl⟩
def k_Ar_fill0_6 (k0 : Nat) (zk0 : Nat) (R6 : Int → Int → Int → Mem → Res) (a1 a3 a4 : Int) (M : Mem) : Res := if w32 a3 < w32 a4 then (chk (0 ≤ w32 a3 ∧ w32 a3 < zk0) <| blet (sto M k0 (ix a3) a1) fun M3 => blet (a3 + 1) fun v4 => R6 a1 v4 a4 M3) else (some (0, M))
theorem z_Ar_fill0_6 (C : Cx p s m args meth c G b_Ar_fill0 5 "java/util/Arrays" none) (hlev : 0 ≤ lev) {k0 : Nat} {zk0 : Nat} (nk0 : k0 < NC) (ck0 : ck k0 = (2, 0, zk0)) {r : Int × Mem} {R6 : Int → Int → Int → Mem → Res} (hR6 : ∀ (a1 a3 a4 : Int) (M : Mem), R6 a1 a3 a4 M = some r → Z p l e lev s m args below meth c G 5 (MQ below (Qm G 0 r) args s 0 0 (Ab G)) M 6 [(0, .ref (G.1 + k0)), (1, vl a1), (3, vi a3), (4, vi a4)] []) {a1 a3 a4 : Int} {M : Mem} (h : k_Ar_fill0_6 k0 zk0 R6 a1 a3 a4 M = some r) : Z p l e lev s m args below meth c G 5 (MQ below (Qm G 0 r) args s 0 0 (Ab G)) M 6 [(0, .ref (G.1 + k0)), (1, vl a1), (3, vi a3), (4, vi a4)] [] := by
  unfold k_Ar_fill0_6 at h
  refine z_iload_n C 2 x_Ar_fill0_6 rfl ?_
  refine z_iload C 3 x_Ar_fill0_7 rfl ?_
  rcases ite_e h with ⟨c1, h⟩ | ⟨c1, h⟩
  · refine z_icmp_ge_f (tgt := 22) C x_Ar_fill0_9 rfl c1 ?_
    refine z_aload_n C 0 x_Ar_fill0_12 rfl ?_
    refine z_iload_n C 2 x_Ar_fill0_13 rfl ?_
    refine z_lload_n C 1 x_Ar_fill0_14 rfl ?_
    obtain ⟨c2, h⟩ := chk_e h
    obtain ⟨M3, eM3, h⟩ := blet_e h
    refine z_last C x_Ar_fill0_15 nk0 ck0 c2 eM3 ?_
    obtain ⟨v4, ev4, h⟩ := blet_e h
    refine z_iinc (lv' := [(3, vi v4), (0, .ref (G.1 + k0)), (1, vl a1), (4, vi a4)]) C 2 ev4 x_Ar_fill0_16 rfl (i_lt rfl) rfl ?_
    refine z_goto (tgt := 6) C x_Ar_fill0_19 rfl ?_
    exact z_sub [1, 2, 0, 3] rfl (hR6 a1 v4 a4 M3 h)
  · refine z_icmp_ge_t (tgt := 22) C x_Ar_fill0_9 rfl c1 ?_
    exact z_vret C x_Ar_fill0_22 h
theorem zl_Ar_fill0_6 (C : Cx p s m args meth c G b_Ar_fill0 5 "java/util/Arrays" none) (hlev : 0 ≤ lev) {k0 : Nat} {zk0 : Nat} (nk0 : k0 < NC) (ck0 : ck k0 = (2, 0, zk0)) {r : Int × Mem}  : ∀ (n : Nat) (a1 a3 a4 : Int) (M : Mem), fix (fun _ _ _ _ => none) (k_Ar_fill0_6 k0 zk0) n a1 a3 a4 M = some r → Z p l e lev s m args below meth c G 5 (MQ below (Qm G 0 r) args s 0 0 (Ab G)) M 6 [(0, .ref (G.1 + k0)), (1, vl a1), (3, vi a3), (4, vi a4)] [] := by
  intro n
  induction n with
  | zero => intro a1 a3 a4 M h; exact nomatch (show (none : Res) = some r from h)
  | succ n ih => intro a1 a3 a4 M h; exact z_Ar_fill0_6 C hlev nk0 ck0 ih h
def d_Ar_fill0 (k0 : Nat) (zk0 : Nat) (a1 : Int) (M : Mem) : Res := blet ((zk0 : Int)) fun v1 => fix (fun _ _ _ _ => none) (k_Ar_fill0_6 k0 zk0) FU a1 0 v1 M
theorem t_Ar_fill0 (l : Launch) (G : GX) {lev : Nat} (hlev : 0 ≤ lev) {k0 : Nat} {zk0 : Nat} (nk0 : k0 < NC) (ck0 : ck k0 = (2, 0, zk0)) {a1 : Int} {M : Mem} {r : Int × Mem} (h : d_Ar_fill0 k0 zk0 a1 M = some r) : Mt l G y_Ar_fill0 b_Ar_fill0 5 none lev 0 [.ref (G.1 + k0), vl a1] M r := by
  refine Mt.of (by decide) (i_le rfl) ?_
  intro p e s m args below meth c C
  have C : Cx p s m args meth c G b_Ar_fill0 5 "java/util/Arrays" none := C
  unfold d_Ar_fill0 at h
  refine z_sub (lv' := [(0, .ref (G.1 + k0)), (1, vl a1)]) [0, 1] rfl ?_
  refine z_iconst C x_Ar_fill0_0 ?_
  refine z_istore_n (lv' := [(3, vi 0), (0, .ref (G.1 + k0)), (1, vl a1)]) C rfl x_Ar_fill0_1 (i_lt rfl) rfl ?_
  refine z_aload_n C 1 x_Ar_fill0_2 rfl ?_
  refine z_alen C x_Ar_fill0_3 nk0 ck0 (i_lt rfl) ?_
  obtain ⟨v1, ev1, h⟩ := blet_e h
  refine z_istore (lv' := [(4, vi v1), (3, vi 0), (0, .ref (G.1 + k0)), (1, vl a1)]) C ev1 x_Ar_fill0_4 (i_lt rfl) rfl ?_
  exact z_sub [2, 3, 1, 0] rfl (zl_Ar_fill0_6 C hlev nk0 ck0 FU a1 0 v1 M h)
theorem x_Lo_compare_0 : DC b_Lo_compare 0 (.lload_n 0) 1 1 := ⟨by decide +kernel, rfl⟩
theorem x_Lo_compare_1 : DC b_Lo_compare 1 (.lload_n 2) 1 2 := ⟨by decide +kernel, rfl⟩
theorem x_Lo_compare_2 : DC b_Lo_compare 2 (.lcmp) 1 3 := ⟨by decide +kernel, rfl⟩
theorem x_Lo_compare_3 : DC b_Lo_compare 3 (.ifCond .ge 7) 3 6 := ⟨by decide +kernel, rfl⟩
theorem x_Lo_compare_6 : DC b_Lo_compare 6 (.iconst (-1)) 1 7 := ⟨by decide +kernel, rfl⟩
theorem x_Lo_compare_7 : DC b_Lo_compare 7 (.goto 14) 3 10 := ⟨by decide +kernel, rfl⟩
theorem x_Lo_compare_10 : DC b_Lo_compare 10 (.lload_n 0) 1 11 := ⟨by decide +kernel, rfl⟩
theorem x_Lo_compare_11 : DC b_Lo_compare 11 (.lload_n 2) 1 12 := ⟨by decide +kernel, rfl⟩
theorem x_Lo_compare_12 : DC b_Lo_compare 12 (.lcmp) 1 13 := ⟨by decide +kernel, rfl⟩
theorem x_Lo_compare_13 : DC b_Lo_compare 13 (.ifCond .ne 7) 3 16 := ⟨by decide +kernel, rfl⟩
theorem x_Lo_compare_16 : DC b_Lo_compare 16 (.iconst 0) 1 17 := ⟨by decide +kernel, rfl⟩
theorem x_Lo_compare_17 : DC b_Lo_compare 17 (.goto 4) 3 20 := ⟨by decide +kernel, rfl⟩
theorem x_Lo_compare_20 : DC b_Lo_compare 20 (.iconst 1) 1 21 := ⟨by decide +kernel, rfl⟩
theorem x_Lo_compare_21 : DC b_Lo_compare 21 (.ireturn) 1 22 := ⟨by decide +kernel, rfl⟩
def d_Lo_compare (a0 a2 : Int) (M : Mem) : Res := if w64 a0 < w64 a2 then (some ((-1), M)) else (if w64 a0 = w64 a2 then (some (0, M)) else (some (1, M)))
theorem t_Lo_compare (l : Launch) (G : GX) {lev : Nat} (hlev : 0 ≤ lev) {a0 a2 : Int} {M : Mem} {r : Int × Mem} (h : d_Lo_compare a0 a2 M = some r) : Mt l G y_Lo_compare b_Lo_compare 4 (some .int) lev 1 [vl a0, vl a2] M r := by
  refine Mt.of (by decide) (i_le rfl) ?_
  intro p e s m args below meth c C
  have C : Cx p s m args meth c G b_Lo_compare 4 "java/lang/Long" (some .int) := C
  unfold d_Lo_compare at h
  refine z_sub (lv' := [(0, vl a0), (2, vl a2)]) [0, 1] rfl ?_
  refine z_lload_n C 0 x_Lo_compare_0 rfl ?_
  refine z_lload_n C 1 x_Lo_compare_1 rfl ?_
  refine z_lcmp C x_Lo_compare_2 ?_
  rcases ite_e h with ⟨c1, h⟩ | ⟨c1, h⟩
  · refine z_if_ge_f (tgt := 10) C x_Lo_compare_3 rfl (cm_lt.mpr c1) ?_
    refine z_iconst C x_Lo_compare_6 ?_
    refine z_goto (tgt := 21) C x_Lo_compare_7 rfl ?_
    exact z_iret C x_Lo_compare_21 h
  · refine z_if_ge_t (tgt := 10) C x_Lo_compare_3 rfl (fun q => c1 (cm_lt.mp q)) ?_
    refine z_lload_n C 0 x_Lo_compare_10 rfl ?_
    refine z_lload_n C 1 x_Lo_compare_11 rfl ?_
    refine z_lcmp C x_Lo_compare_12 ?_
    rcases ite_e h with ⟨c2, h⟩ | ⟨c2, h⟩
    · refine z_if_ne_f (tgt := 20) C x_Lo_compare_13 rfl (cm_eqz.mpr c2) ?_
      refine z_iconst C x_Lo_compare_16 ?_
      refine z_goto (tgt := 21) C x_Lo_compare_17 rfl ?_
      exact z_iret C x_Lo_compare_21 h
    · refine z_if_ne_t (tgt := 20) C x_Lo_compare_13 rfl (fun q => c2 (cm_eqz.mp q)) ?_
      refine z_iconst C x_Lo_compare_20 ?_
      exact z_iret C x_Lo_compare_21 h
theorem x_Ar_fill1_0 : DC b_Ar_fill1 0 (.iconst 0) 1 1 := ⟨by decide +kernel, rfl⟩
theorem x_Ar_fill1_1 : DC b_Ar_fill1 1 (.istore_n 2) 1 2 := ⟨by decide +kernel, rfl⟩
theorem x_Ar_fill1_2 : DC b_Ar_fill1 2 (.aload_n 0) 1 3 := ⟨by decide +kernel, rfl⟩
theorem x_Ar_fill1_3 : DC b_Ar_fill1 3 (.arraylength) 1 4 := ⟨by decide +kernel, rfl⟩
theorem x_Ar_fill1_4 : DC b_Ar_fill1 4 (.istore_n 3) 1 5 := ⟨by decide +kernel, rfl⟩
theorem x_Ar_fill1_5 : DC b_Ar_fill1 5 (.iload_n 2) 1 6 := ⟨by decide +kernel, rfl⟩
theorem x_Ar_fill1_6 : DC b_Ar_fill1 6 (.iload_n 3) 1 7 := ⟨by decide +kernel, rfl⟩
theorem x_Ar_fill1_7 : DC b_Ar_fill1 7 (.if_icmp .ge 13) 3 10 := ⟨by decide +kernel, rfl⟩
theorem x_Ar_fill1_10 : DC b_Ar_fill1 10 (.aload_n 0) 1 11 := ⟨by decide +kernel, rfl⟩
theorem x_Ar_fill1_11 : DC b_Ar_fill1 11 (.iload_n 2) 1 12 := ⟨by decide +kernel, rfl⟩
theorem x_Ar_fill1_12 : DC b_Ar_fill1 12 (.iload_n 1) 1 13 := ⟨by decide +kernel, rfl⟩
theorem x_Ar_fill1_13 : DC b_Ar_fill1 13 (.iastore) 1 14 := ⟨by decide +kernel, rfl⟩
theorem x_Ar_fill1_14 : DC b_Ar_fill1 14 (.iinc 2 1) 3 17 := ⟨by decide +kernel, rfl⟩
theorem x_Ar_fill1_17 : DC b_Ar_fill1 17 (.goto (-12)) 3 20 := ⟨by decide +kernel, rfl⟩
theorem x_Ar_fill1_20 : DC b_Ar_fill1 20 (.return_) 1 21 := ⟨by decide +kernel, rfl⟩
def k_Ar_fill1_5 (k0 : Nat) (zk0 : Nat) (R5 : Int → Int → Int → Mem → Res) (a1 a2 a3 : Int) (M : Mem) : Res := if w32 a2 < w32 a3 then (chk (0 ≤ w32 a2 ∧ w32 a2 < zk0) <| blet (sto M k0 (ix a2) a1) fun M3 => blet (a2 + 1) fun v4 => R5 a1 v4 a3 M3) else (some (0, M))
theorem z_Ar_fill1_5 (C : Cx p s m args meth c G b_Ar_fill1 4 "java/util/Arrays" none) (hlev : 0 ≤ lev) {k0 : Nat} {zk0 : Nat} (nk0 : k0 < NC) (ck0 : ck k0 = (1, 0, zk0)) {r : Int × Mem} {R5 : Int → Int → Int → Mem → Res} (hR5 : ∀ (a1 a2 a3 : Int) (M : Mem), R5 a1 a2 a3 M = some r → Z p l e lev s m args below meth c G 4 (MQ below (Qm G 0 r) args s 0 0 (Ab G)) M 5 [(0, .ref (G.1 + k0)), (1, vi a1), (2, vi a2), (3, vi a3)] []) {a1 a2 a3 : Int} {M : Mem} (h : k_Ar_fill1_5 k0 zk0 R5 a1 a2 a3 M = some r) : Z p l e lev s m args below meth c G 4 (MQ below (Qm G 0 r) args s 0 0 (Ab G)) M 5 [(0, .ref (G.1 + k0)), (1, vi a1), (2, vi a2), (3, vi a3)] [] := by
  unfold k_Ar_fill1_5 at h
  refine z_iload_n C 2 x_Ar_fill1_5 rfl ?_
  refine z_iload_n C 3 x_Ar_fill1_6 rfl ?_
  rcases ite_e h with ⟨c1, h⟩ | ⟨c1, h⟩
  · refine z_icmp_ge_f (tgt := 20) C x_Ar_fill1_7 rfl c1 ?_
    refine z_aload_n C 0 x_Ar_fill1_10 rfl ?_
    refine z_iload_n C 2 x_Ar_fill1_11 rfl ?_
    refine z_iload_n C 1 x_Ar_fill1_12 rfl ?_
    obtain ⟨c2, h⟩ := chk_e h
    obtain ⟨M3, eM3, h⟩ := blet_e h
    refine z_iast C x_Ar_fill1_13 nk0 ck0 c2 eM3 ?_
    obtain ⟨v4, ev4, h⟩ := blet_e h
    refine z_iinc (lv' := [(2, vi v4), (0, .ref (G.1 + k0)), (1, vi a1), (3, vi a3)]) C 2 ev4 x_Ar_fill1_14 rfl (i_lt rfl) rfl ?_
    refine z_goto (tgt := 5) C x_Ar_fill1_17 rfl ?_
    exact z_sub [1, 2, 0, 3] rfl (hR5 a1 v4 a3 M3 h)
  · refine z_icmp_ge_t (tgt := 20) C x_Ar_fill1_7 rfl c1 ?_
    exact z_vret C x_Ar_fill1_20 h
theorem zl_Ar_fill1_5 (C : Cx p s m args meth c G b_Ar_fill1 4 "java/util/Arrays" none) (hlev : 0 ≤ lev) {k0 : Nat} {zk0 : Nat} (nk0 : k0 < NC) (ck0 : ck k0 = (1, 0, zk0)) {r : Int × Mem}  : ∀ (n : Nat) (a1 a2 a3 : Int) (M : Mem), fix (fun _ _ _ _ => none) (k_Ar_fill1_5 k0 zk0) n a1 a2 a3 M = some r → Z p l e lev s m args below meth c G 4 (MQ below (Qm G 0 r) args s 0 0 (Ab G)) M 5 [(0, .ref (G.1 + k0)), (1, vi a1), (2, vi a2), (3, vi a3)] [] := by
  intro n
  induction n with
  | zero => intro a1 a2 a3 M h; exact nomatch (show (none : Res) = some r from h)
  | succ n ih => intro a1 a2 a3 M h; exact z_Ar_fill1_5 C hlev nk0 ck0 ih h
def d_Ar_fill1 (k0 : Nat) (zk0 : Nat) (a1 : Int) (M : Mem) : Res := blet ((zk0 : Int)) fun v1 => fix (fun _ _ _ _ => none) (k_Ar_fill1_5 k0 zk0) FU a1 0 v1 M
theorem t_Ar_fill1 (l : Launch) (G : GX) {lev : Nat} (hlev : 0 ≤ lev) {k0 : Nat} {zk0 : Nat} (nk0 : k0 < NC) (ck0 : ck k0 = (1, 0, zk0)) {a1 : Int} {M : Mem} {r : Int × Mem} (h : d_Ar_fill1 k0 zk0 a1 M = some r) : Mt l G y_Ar_fill1 b_Ar_fill1 4 none lev 0 [.ref (G.1 + k0), vi a1] M r := by
  refine Mt.of (by decide) (i_le rfl) ?_
  intro p e s m args below meth c C
  have C : Cx p s m args meth c G b_Ar_fill1 4 "java/util/Arrays" none := C
  unfold d_Ar_fill1 at h
  refine z_sub (lv' := [(0, .ref (G.1 + k0)), (1, vi a1)]) [0, 1] rfl ?_
  refine z_iconst C x_Ar_fill1_0 ?_
  refine z_istore_n (lv' := [(2, vi 0), (0, .ref (G.1 + k0)), (1, vi a1)]) C rfl x_Ar_fill1_1 (i_lt rfl) rfl ?_
  refine z_aload_n C 1 x_Ar_fill1_2 rfl ?_
  refine z_alen C x_Ar_fill1_3 nk0 ck0 (i_lt rfl) ?_
  obtain ⟨v1, ev1, h⟩ := blet_e h
  refine z_istore_n (lv' := [(3, vi v1), (2, vi 0), (0, .ref (G.1 + k0)), (1, vi a1)]) C ev1 x_Ar_fill1_4 (i_lt rfl) rfl ?_
  exact z_sub [2, 3, 1, 0] rfl (zl_Ar_fill1_5 C hlev nk0 ck0 FU a1 0 v1 M h)
theorem x_In_compare_0 : DC b_In_compare 0 (.iload_n 0) 1 1 := ⟨by decide +kernel, rfl⟩
theorem x_In_compare_1 : DC b_In_compare 1 (.iload_n 1) 1 2 := ⟨by decide +kernel, rfl⟩
theorem x_In_compare_2 : DC b_In_compare 2 (.if_icmp .ge 7) 3 5 := ⟨by decide +kernel, rfl⟩
theorem x_In_compare_5 : DC b_In_compare 5 (.iconst (-1)) 1 6 := ⟨by decide +kernel, rfl⟩
theorem x_In_compare_6 : DC b_In_compare 6 (.goto 13) 3 9 := ⟨by decide +kernel, rfl⟩
theorem x_In_compare_9 : DC b_In_compare 9 (.iload_n 0) 1 10 := ⟨by decide +kernel, rfl⟩
theorem x_In_compare_10 : DC b_In_compare 10 (.iload_n 1) 1 11 := ⟨by decide +kernel, rfl⟩
theorem x_In_compare_11 : DC b_In_compare 11 (.if_icmp .ne 7) 3 14 := ⟨by decide +kernel, rfl⟩
theorem x_In_compare_14 : DC b_In_compare 14 (.iconst 0) 1 15 := ⟨by decide +kernel, rfl⟩
theorem x_In_compare_15 : DC b_In_compare 15 (.goto 4) 3 18 := ⟨by decide +kernel, rfl⟩
theorem x_In_compare_18 : DC b_In_compare 18 (.iconst 1) 1 19 := ⟨by decide +kernel, rfl⟩
theorem x_In_compare_19 : DC b_In_compare 19 (.ireturn) 1 20 := ⟨by decide +kernel, rfl⟩
def d_In_compare (a0 a1 : Int) (M : Mem) : Res := if w32 a0 < w32 a1 then (some ((-1), M)) else (if w32 a0 = w32 a1 then (some (0, M)) else (some (1, M)))
theorem t_In_compare (l : Launch) (G : GX) {lev : Nat} (hlev : 0 ≤ lev) {a0 a1 : Int} {M : Mem} {r : Int × Mem} (h : d_In_compare a0 a1 M = some r) : Mt l G y_In_compare b_In_compare 2 (some .int) lev 1 [vi a0, vi a1] M r := by
  refine Mt.of (by decide) (i_le rfl) ?_
  intro p e s m args below meth c C
  have C : Cx p s m args meth c G b_In_compare 2 "java/lang/Integer" (some .int) := C
  unfold d_In_compare at h
  refine z_sub (lv' := [(0, vi a0), (1, vi a1)]) [0, 1] rfl ?_
  refine z_iload_n C 0 x_In_compare_0 rfl ?_
  refine z_iload_n C 1 x_In_compare_1 rfl ?_
  rcases ite_e h with ⟨c1, h⟩ | ⟨c1, h⟩
  · refine z_icmp_ge_f (tgt := 9) C x_In_compare_2 rfl c1 ?_
    refine z_iconst C x_In_compare_5 ?_
    refine z_goto (tgt := 19) C x_In_compare_6 rfl ?_
    exact z_iret C x_In_compare_19 h
  · refine z_icmp_ge_t (tgt := 9) C x_In_compare_2 rfl c1 ?_
    refine z_iload_n C 0 x_In_compare_9 rfl ?_
    refine z_iload_n C 1 x_In_compare_10 rfl ?_
    rcases ite_e h with ⟨c2, h⟩ | ⟨c2, h⟩
    · refine z_icmp_ne_f (tgt := 18) C x_In_compare_11 rfl c2 ?_
      refine z_iconst C x_In_compare_14 ?_
      refine z_goto (tgt := 19) C x_In_compare_15 rfl ?_
      exact z_iret C x_In_compare_19 h
    · refine z_icmp_ne_t (tgt := 18) C x_In_compare_11 rfl c2 ?_
      refine z_iconst C x_In_compare_18 ?_
      exact z_iret C x_In_compare_19 h
theorem x_In_bitCount_0 : DC b_In_bitCount 0 (.iload_n 0) 1 1 := ⟨by decide +kernel, rfl⟩
theorem x_In_bitCount_1 : DC b_In_bitCount 1 (.iload_n 0) 1 2 := ⟨by decide +kernel, rfl⟩
theorem x_In_bitCount_2 : DC b_In_bitCount 2 (.iconst 1) 1 3 := ⟨by decide +kernel, rfl⟩
theorem x_In_bitCount_3 : DC b_In_bitCount 3 (.iushr) 1 4 := ⟨by decide +kernel, rfl⟩
theorem x_In_bitCount_4 : DC b_In_bitCount 4 (.ldc_w 265) 3 7 := ⟨by decide +kernel, rfl⟩
theorem x_In_bitCount_7 : DC b_In_bitCount 7 (.iand) 1 8 := ⟨by decide +kernel, rfl⟩
theorem x_In_bitCount_8 : DC b_In_bitCount 8 (.isub) 1 9 := ⟨by decide +kernel, rfl⟩
theorem x_In_bitCount_9 : DC b_In_bitCount 9 (.istore_n 0) 1 10 := ⟨by decide +kernel, rfl⟩
theorem x_In_bitCount_10 : DC b_In_bitCount 10 (.iload_n 0) 1 11 := ⟨by decide +kernel, rfl⟩
theorem x_In_bitCount_11 : DC b_In_bitCount 11 (.ldc_w 266) 3 14 := ⟨by decide +kernel, rfl⟩
theorem x_In_bitCount_14 : DC b_In_bitCount 14 (.iand) 1 15 := ⟨by decide +kernel, rfl⟩
theorem x_In_bitCount_15 : DC b_In_bitCount 15 (.iload_n 0) 1 16 := ⟨by decide +kernel, rfl⟩
theorem x_In_bitCount_16 : DC b_In_bitCount 16 (.iconst 2) 1 17 := ⟨by decide +kernel, rfl⟩
theorem x_In_bitCount_17 : DC b_In_bitCount 17 (.iushr) 1 18 := ⟨by decide +kernel, rfl⟩
theorem x_In_bitCount_18 : DC b_In_bitCount 18 (.ldc_w 266) 3 21 := ⟨by decide +kernel, rfl⟩
theorem x_In_bitCount_21 : DC b_In_bitCount 21 (.iand) 1 22 := ⟨by decide +kernel, rfl⟩
theorem x_In_bitCount_22 : DC b_In_bitCount 22 (.iadd) 1 23 := ⟨by decide +kernel, rfl⟩
theorem x_In_bitCount_23 : DC b_In_bitCount 23 (.istore_n 0) 1 24 := ⟨by decide +kernel, rfl⟩
theorem x_In_bitCount_24 : DC b_In_bitCount 24 (.iload_n 0) 1 25 := ⟨by decide +kernel, rfl⟩
theorem x_In_bitCount_25 : DC b_In_bitCount 25 (.iload_n 0) 1 26 := ⟨by decide +kernel, rfl⟩
theorem x_In_bitCount_26 : DC b_In_bitCount 26 (.iconst 4) 1 27 := ⟨by decide +kernel, rfl⟩
theorem x_In_bitCount_27 : DC b_In_bitCount 27 (.iushr) 1 28 := ⟨by decide +kernel, rfl⟩
theorem x_In_bitCount_28 : DC b_In_bitCount 28 (.iadd) 1 29 := ⟨by decide +kernel, rfl⟩
theorem x_In_bitCount_29 : DC b_In_bitCount 29 (.ldc_w 267) 3 32 := ⟨by decide +kernel, rfl⟩
theorem x_In_bitCount_32 : DC b_In_bitCount 32 (.iand) 1 33 := ⟨by decide +kernel, rfl⟩
theorem x_In_bitCount_33 : DC b_In_bitCount 33 (.istore_n 0) 1 34 := ⟨by decide +kernel, rfl⟩
theorem x_In_bitCount_34 : DC b_In_bitCount 34 (.iload_n 0) 1 35 := ⟨by decide +kernel, rfl⟩
theorem x_In_bitCount_35 : DC b_In_bitCount 35 (.iload_n 0) 1 36 := ⟨by decide +kernel, rfl⟩
theorem x_In_bitCount_36 : DC b_In_bitCount 36 (.bipush 8) 2 38 := ⟨by decide +kernel, rfl⟩
theorem x_In_bitCount_38 : DC b_In_bitCount 38 (.iushr) 1 39 := ⟨by decide +kernel, rfl⟩
theorem x_In_bitCount_39 : DC b_In_bitCount 39 (.iadd) 1 40 := ⟨by decide +kernel, rfl⟩
theorem x_In_bitCount_40 : DC b_In_bitCount 40 (.istore_n 0) 1 41 := ⟨by decide +kernel, rfl⟩
theorem x_In_bitCount_41 : DC b_In_bitCount 41 (.iload_n 0) 1 42 := ⟨by decide +kernel, rfl⟩
theorem x_In_bitCount_42 : DC b_In_bitCount 42 (.iload_n 0) 1 43 := ⟨by decide +kernel, rfl⟩
theorem x_In_bitCount_43 : DC b_In_bitCount 43 (.bipush 16) 2 45 := ⟨by decide +kernel, rfl⟩
theorem x_In_bitCount_45 : DC b_In_bitCount 45 (.iushr) 1 46 := ⟨by decide +kernel, rfl⟩
theorem x_In_bitCount_46 : DC b_In_bitCount 46 (.iadd) 1 47 := ⟨by decide +kernel, rfl⟩
theorem x_In_bitCount_47 : DC b_In_bitCount 47 (.istore_n 0) 1 48 := ⟨by decide +kernel, rfl⟩
theorem x_In_bitCount_48 : DC b_In_bitCount 48 (.iload_n 0) 1 49 := ⟨by decide +kernel, rfl⟩
theorem x_In_bitCount_49 : DC b_In_bitCount 49 (.bipush 63) 2 51 := ⟨by decide +kernel, rfl⟩
theorem x_In_bitCount_51 : DC b_In_bitCount 51 (.iand) 1 52 := ⟨by decide +kernel, rfl⟩
theorem x_In_bitCount_52 : DC b_In_bitCount 52 (.ireturn) 1 53 := ⟨by decide +kernel, rfl⟩
def d_In_bitCount (a0 : Int) (M : Mem) : Res := blet (a0 - (an32 (ur32 a0 1) 1431655765)) fun v1 => blet ((an32 v1 858993459) + (an32 (ur32 v1 2) 858993459)) fun v2 => blet (an32 (v2 + (ur32 v2 4)) 252645135) fun v3 => blet (v3 + (ur32 v3 8)) fun v4 => blet (v4 + (ur32 v4 16)) fun v5 => some (an32 v5 63, M)
theorem t_In_bitCount (l : Launch) (G : GX) {lev : Nat} (hlev : 0 ≤ lev) {a0 : Int} {M : Mem} {r : Int × Mem} (h : d_In_bitCount a0 M = some r) : Mt l G y_In_bitCount b_In_bitCount 1 (some .int) lev 1 [vi a0] M r := by
  refine Mt.of (by decide) (i_le rfl) ?_
  intro p e s m args below meth c C
  have C : Cx p s m args meth c G b_In_bitCount 1 "java/lang/Integer" (some .int) := C
  unfold d_In_bitCount at h
  refine z_sub (lv' := [(0, vi a0)]) [0] rfl ?_
  refine z_iload_n C 0 x_In_bitCount_0 rfl ?_
  refine z_iload_n C 0 x_In_bitCount_1 rfl ?_
  refine z_iconst C x_In_bitCount_2 ?_
  refine z_iushr C x_In_bitCount_3 ?_
  refine z_ldcw C kc_In_265 x_In_bitCount_4 ?_
  refine z_iand C x_In_bitCount_7 ?_
  refine z_isub C x_In_bitCount_8 ?_
  obtain ⟨v1, ev1, h⟩ := blet_e h
  refine z_istore_n (lv' := [(0, vi v1)]) C ev1 x_In_bitCount_9 (i_lt rfl) rfl ?_
  refine z_iload_n C 0 x_In_bitCount_10 rfl ?_
  refine z_ldcw C kc_In_266 x_In_bitCount_11 ?_
  refine z_iand C x_In_bitCount_14 ?_
  refine z_iload_n C 0 x_In_bitCount_15 rfl ?_
  refine z_iconst C x_In_bitCount_16 ?_
  refine z_iushr C x_In_bitCount_17 ?_
  refine z_ldcw C kc_In_266 x_In_bitCount_18 ?_
  refine z_iand C x_In_bitCount_21 ?_
  refine z_iadd C x_In_bitCount_22 ?_
  obtain ⟨v2, ev2, h⟩ := blet_e h
  refine z_istore_n (lv' := [(0, vi v2)]) C ev2 x_In_bitCount_23 (i_lt rfl) rfl ?_
  refine z_iload_n C 0 x_In_bitCount_24 rfl ?_
  refine z_iload_n C 0 x_In_bitCount_25 rfl ?_
  refine z_iconst C x_In_bitCount_26 ?_
  refine z_iushr C x_In_bitCount_27 ?_
  refine z_iadd C x_In_bitCount_28 ?_
  refine z_ldcw C kc_In_267 x_In_bitCount_29 ?_
  refine z_iand C x_In_bitCount_32 ?_
  obtain ⟨v3, ev3, h⟩ := blet_e h
  refine z_istore_n (lv' := [(0, vi v3)]) C ev3 x_In_bitCount_33 (i_lt rfl) rfl ?_
  refine z_iload_n C 0 x_In_bitCount_34 rfl ?_
  refine z_iload_n C 0 x_In_bitCount_35 rfl ?_
  refine z_bipush C rfl x_In_bitCount_36 ?_
  refine z_iushr C x_In_bitCount_38 ?_
  refine z_iadd C x_In_bitCount_39 ?_
  obtain ⟨v4, ev4, h⟩ := blet_e h
  refine z_istore_n (lv' := [(0, vi v4)]) C ev4 x_In_bitCount_40 (i_lt rfl) rfl ?_
  refine z_iload_n C 0 x_In_bitCount_41 rfl ?_
  refine z_iload_n C 0 x_In_bitCount_42 rfl ?_
  refine z_bipush C rfl x_In_bitCount_43 ?_
  refine z_iushr C x_In_bitCount_45 ?_
  refine z_iadd C x_In_bitCount_46 ?_
  obtain ⟨v5, ev5, h⟩ := blet_e h
  refine z_istore_n (lv' := [(0, vi v5)]) C ev5 x_In_bitCount_47 (i_lt rfl) rfl ?_
  refine z_iload_n C 0 x_In_bitCount_48 rfl ?_
  refine z_bipush C rfl x_In_bitCount_49 ?_
  refine z_iand C x_In_bitCount_51 ?_
  exact z_iret C x_In_bitCount_52 h
theorem x_PP_isIn_0 : DC b_PP_isIn 0 (.iload_n 0) 1 1 := ⟨by decide +kernel, rfl⟩
theorem x_PP_isIn_1 : DC b_PP_isIn 1 (.iload_n 1) 1 2 := ⟨by decide +kernel, rfl⟩
theorem x_PP_isIn_2 : DC b_PP_isIn 2 (.if_icmp .lt 12) 3 5 := ⟨by decide +kernel, rfl⟩
theorem x_PP_isIn_5 : DC b_PP_isIn 5 (.iload_n 0) 1 6 := ⟨by decide +kernel, rfl⟩
theorem x_PP_isIn_6 : DC b_PP_isIn 6 (.iload_n 2) 1 7 := ⟨by decide +kernel, rfl⟩
theorem x_PP_isIn_7 : DC b_PP_isIn 7 (.if_icmp .gt 7) 3 10 := ⟨by decide +kernel, rfl⟩
theorem x_PP_isIn_10 : DC b_PP_isIn 10 (.iconst 1) 1 11 := ⟨by decide +kernel, rfl⟩
theorem x_PP_isIn_11 : DC b_PP_isIn 11 (.goto 4) 3 14 := ⟨by decide +kernel, rfl⟩
theorem x_PP_isIn_14 : DC b_PP_isIn 14 (.iconst 0) 1 15 := ⟨by decide +kernel, rfl⟩
theorem x_PP_isIn_15 : DC b_PP_isIn 15 (.ireturn) 1 16 := ⟨by decide +kernel, rfl⟩
def d_PP_isIn (a0 a1 a2 : Int) (M : Mem) : Res := if w32 a0 < w32 a1 then (some (0, M)) else (if w32 a2 < w32 a0 then (some (0, M)) else (some (1, M)))
theorem t_PP_isIn (l : Launch) (G : GX) {lev : Nat} (hlev : 0 ≤ lev) {a0 a1 a2 : Int} {M : Mem} {r : Int × Mem} (h : d_PP_isIn a0 a1 a2 M = some r) : Mt l G y_PP_isIn b_PP_isIn 3 (some .boolean) lev 1 [vi a0, vi a1, vi a2] M r := by
  refine Mt.of (by decide) (i_le rfl) ?_
  intro p e s m args below meth c C
  have C : Cx p s m args meth c G b_PP_isIn 3 "PrairiePool" (some .boolean) := C
  unfold d_PP_isIn at h
  refine z_sub (lv' := [(0, vi a0), (1, vi a1), (2, vi a2)]) [0, 1, 2] rfl ?_
  refine z_iload_n C 0 x_PP_isIn_0 rfl ?_
  refine z_iload_n C 1 x_PP_isIn_1 rfl ?_
  rcases ite_e h with ⟨c1, h⟩ | ⟨c1, h⟩
  · refine z_icmp_lt_t (tgt := 14) C x_PP_isIn_2 rfl c1 ?_
    refine z_iconst C x_PP_isIn_14 ?_
    exact z_zret C x_PP_isIn_15 (by decide) h
  · refine z_icmp_lt_f (tgt := 14) C x_PP_isIn_2 rfl c1 ?_
    refine z_iload_n C 0 x_PP_isIn_5 rfl ?_
    refine z_iload_n C 2 x_PP_isIn_6 rfl ?_
    rcases ite_e h with ⟨c2, h⟩ | ⟨c2, h⟩
    · refine z_icmp_gt_t (tgt := 14) C x_PP_isIn_7 rfl c2 ?_
      refine z_iconst C x_PP_isIn_14 ?_
      exact z_zret C x_PP_isIn_15 (by decide) h
    · refine z_icmp_gt_f (tgt := 14) C x_PP_isIn_7 rfl c2 ?_
      refine z_iconst C x_PP_isIn_10 ?_
      refine z_goto (tgt := 15) C x_PP_isIn_11 rfl ?_
      exact z_zret C x_PP_isIn_15 (by decide) h
theorem x_PP_isDistrict_0 : DC b_PP_isDistrict 0 (.iload_n 0) 1 1 := ⟨by decide +kernel, rfl⟩
theorem x_PP_isDistrict_1 : DC b_PP_isDistrict 1 (.iconst 0) 1 2 := ⟨by decide +kernel, rfl⟩
theorem x_PP_isDistrict_2 : DC b_PP_isDistrict 2 (.iconst 5) 1 3 := ⟨by decide +kernel, rfl⟩
theorem x_PP_isDistrict_3 : DC b_PP_isDistrict 3 (.invokestatic 89) 3 6 := ⟨by decide +kernel, rfl⟩
theorem x_PP_isDistrict_6 : DC b_PP_isDistrict 6 (.ireturn) 1 7 := ⟨by decide +kernel, rfl⟩
def d_PP_isDistrict (a0 : Int) (M : Mem) : Res := bcall (d_PP_isIn a0 0 5 M) fun v1 M2 => chk (w32 v1 = 0 ∨ w32 v1 = 1) <| some (v1, M2)
theorem t_PP_isDistrict (l : Launch) (G : GX) {lev : Nat} (hlev : 1 ≤ lev) {a0 : Int} {M : Mem} {r : Int × Mem} (h : d_PP_isDistrict a0 M = some r) : Mt l G y_PP_isDistrict b_PP_isDistrict 1 (some .boolean) lev 1 [vi a0] M r := by
  refine Mt.of (by decide) (i_le rfl) ?_
  intro p e s m args below meth c C
  have C : Cx p s m args meth c G b_PP_isDistrict 1 "PrairiePool" (some .boolean) := C
  unfold d_PP_isDistrict at h
  refine z_sub (lv' := [(0, vi a0)]) [0] rfl ?_
  refine z_iload_n C 0 x_PP_isDistrict_0 rfl ?_
  refine z_iconst C x_PP_isDistrict_1 ?_
  refine z_iconst C x_PP_isDistrict_2 ?_
  obtain ⟨v1, M2, fv1, h⟩ := bcall_e h
  refine z_callSi C x_PP_isDistrict_3 cs_PP_89 (t_PP_isIn (lev := lev - 1) l G (by omega) fv1) (by omega) rfl (i_le rfl) rfl ?_
  obtain ⟨c3, h⟩ := chk_e h
  exact z_zret C x_PP_isDistrict_6 c3 h
theorem x_PP_isWeek_0 : DC b_PP_isWeek 0 (.iload_n 0) 1 1 := ⟨by decide +kernel, rfl⟩
theorem x_PP_isWeek_1 : DC b_PP_isWeek 1 (.iconst 0) 1 2 := ⟨by decide +kernel, rfl⟩
theorem x_PP_isWeek_2 : DC b_PP_isWeek 2 (.sipush 519) 3 5 := ⟨by decide +kernel, rfl⟩
theorem x_PP_isWeek_5 : DC b_PP_isWeek 5 (.invokestatic 89) 3 8 := ⟨by decide +kernel, rfl⟩
theorem x_PP_isWeek_8 : DC b_PP_isWeek 8 (.ireturn) 1 9 := ⟨by decide +kernel, rfl⟩
def d_PP_isWeek (a0 : Int) (M : Mem) : Res := bcall (d_PP_isIn a0 0 519 M) fun v1 M2 => chk (w32 v1 = 0 ∨ w32 v1 = 1) <| some (v1, M2)
theorem t_PP_isWeek (l : Launch) (G : GX) {lev : Nat} (hlev : 1 ≤ lev) {a0 : Int} {M : Mem} {r : Int × Mem} (h : d_PP_isWeek a0 M = some r) : Mt l G y_PP_isWeek b_PP_isWeek 1 (some .boolean) lev 1 [vi a0] M r := by
  refine Mt.of (by decide) (i_le rfl) ?_
  intro p e s m args below meth c C
  have C : Cx p s m args meth c G b_PP_isWeek 1 "PrairiePool" (some .boolean) := C
  unfold d_PP_isWeek at h
  refine z_sub (lv' := [(0, vi a0)]) [0] rfl ?_
  refine z_iload_n C 0 x_PP_isWeek_0 rfl ?_
  refine z_iconst C x_PP_isWeek_1 ?_
  refine z_sipush C rfl x_PP_isWeek_2 ?_
  obtain ⟨v1, M2, fv1, h⟩ := bcall_e h
  refine z_callSi C x_PP_isWeek_5 cs_PP_89 (t_PP_isIn (lev := lev - 1) l G (by omega) fv1) (by omega) rfl (i_le rfl) rfl ?_
  obtain ⟨c3, h⟩ := chk_e h
  exact z_zret C x_PP_isWeek_8 c3 h
theorem x_PP_isPort_0 : DC b_PP_isPort 0 (.iload_n 0) 1 1 := ⟨by decide +kernel, rfl⟩
theorem x_PP_isPort_1 : DC b_PP_isPort 1 (.iconst 0) 1 2 := ⟨by decide +kernel, rfl⟩
theorem x_PP_isPort_2 : DC b_PP_isPort 2 (.iconst 1) 1 3 := ⟨by decide +kernel, rfl⟩
theorem x_PP_isPort_3 : DC b_PP_isPort 3 (.invokestatic 89) 3 6 := ⟨by decide +kernel, rfl⟩
theorem x_PP_isPort_6 : DC b_PP_isPort 6 (.ireturn) 1 7 := ⟨by decide +kernel, rfl⟩
def d_PP_isPort (a0 : Int) (M : Mem) : Res := bcall (d_PP_isIn a0 0 1 M) fun v1 M2 => chk (w32 v1 = 0 ∨ w32 v1 = 1) <| some (v1, M2)
theorem t_PP_isPort (l : Launch) (G : GX) {lev : Nat} (hlev : 1 ≤ lev) {a0 : Int} {M : Mem} {r : Int × Mem} (h : d_PP_isPort a0 M = some r) : Mt l G y_PP_isPort b_PP_isPort 1 (some .boolean) lev 1 [vi a0] M r := by
  refine Mt.of (by decide) (i_le rfl) ?_
  intro p e s m args below meth c C
  have C : Cx p s m args meth c G b_PP_isPort 1 "PrairiePool" (some .boolean) := C
  unfold d_PP_isPort at h
  refine z_sub (lv' := [(0, vi a0)]) [0] rfl ?_
  refine z_iload_n C 0 x_PP_isPort_0 rfl ?_
  refine z_iconst C x_PP_isPort_1 ?_
  refine z_iconst C x_PP_isPort_2 ?_
  obtain ⟨v1, M2, fv1, h⟩ := bcall_e h
  refine z_callSi C x_PP_isPort_3 cs_PP_89 (t_PP_isIn (lev := lev - 1) l G (by omega) fv1) (by omega) rfl (i_le rfl) rfl ?_
  obtain ⟨c3, h⟩ := chk_e h
  exact z_zret C x_PP_isPort_6 c3 h
theorem x_PP_isGrade_0 : DC b_PP_isGrade 0 (.iload_n 0) 1 1 := ⟨by decide +kernel, rfl⟩
theorem x_PP_isGrade_1 : DC b_PP_isGrade 1 (.iconst 0) 1 2 := ⟨by decide +kernel, rfl⟩
theorem x_PP_isGrade_2 : DC b_PP_isGrade 2 (.iconst 5) 1 3 := ⟨by decide +kernel, rfl⟩
theorem x_PP_isGrade_3 : DC b_PP_isGrade 3 (.invokestatic 89) 3 6 := ⟨by decide +kernel, rfl⟩
theorem x_PP_isGrade_6 : DC b_PP_isGrade 6 (.ireturn) 1 7 := ⟨by decide +kernel, rfl⟩
def d_PP_isGrade (a0 : Int) (M : Mem) : Res := bcall (d_PP_isIn a0 0 5 M) fun v1 M2 => chk (w32 v1 = 0 ∨ w32 v1 = 1) <| some (v1, M2)
theorem t_PP_isGrade (l : Launch) (G : GX) {lev : Nat} (hlev : 1 ≤ lev) {a0 : Int} {M : Mem} {r : Int × Mem} (h : d_PP_isGrade a0 M = some r) : Mt l G y_PP_isGrade b_PP_isGrade 1 (some .boolean) lev 1 [vi a0] M r := by
  refine Mt.of (by decide) (i_le rfl) ?_
  intro p e s m args below meth c C
  have C : Cx p s m args meth c G b_PP_isGrade 1 "PrairiePool" (some .boolean) := C
  unfold d_PP_isGrade at h
  refine z_sub (lv' := [(0, vi a0)]) [0] rfl ?_
  refine z_iload_n C 0 x_PP_isGrade_0 rfl ?_
  refine z_iconst C x_PP_isGrade_1 ?_
  refine z_iconst C x_PP_isGrade_2 ?_
  obtain ⟨v1, M2, fv1, h⟩ := bcall_e h
  refine z_callSi C x_PP_isGrade_3 cs_PP_89 (t_PP_isIn (lev := lev - 1) l G (by omega) fv1) (by omega) rfl (i_le rfl) rfl ?_
  obtain ⟨c3, h⟩ := chk_e h
  exact z_zret C x_PP_isGrade_6 c3 h
theorem x_PP_isYear_0 : DC b_PP_isYear 0 (.iload_n 0) 1 1 := ⟨by decide +kernel, rfl⟩
theorem x_PP_isYear_1 : DC b_PP_isYear 1 (.iconst 0) 1 2 := ⟨by decide +kernel, rfl⟩
theorem x_PP_isYear_2 : DC b_PP_isYear 2 (.bipush 9) 2 4 := ⟨by decide +kernel, rfl⟩
theorem x_PP_isYear_4 : DC b_PP_isYear 4 (.invokestatic 89) 3 7 := ⟨by decide +kernel, rfl⟩
theorem x_PP_isYear_7 : DC b_PP_isYear 7 (.ireturn) 1 8 := ⟨by decide +kernel, rfl⟩
def d_PP_isYear (a0 : Int) (M : Mem) : Res := bcall (d_PP_isIn a0 0 9 M) fun v1 M2 => chk (w32 v1 = 0 ∨ w32 v1 = 1) <| some (v1, M2)
theorem t_PP_isYear (l : Launch) (G : GX) {lev : Nat} (hlev : 1 ≤ lev) {a0 : Int} {M : Mem} {r : Int × Mem} (h : d_PP_isYear a0 M = some r) : Mt l G y_PP_isYear b_PP_isYear 1 (some .boolean) lev 1 [vi a0] M r := by
  refine Mt.of (by decide) (i_le rfl) ?_
  intro p e s m args below meth c C
  have C : Cx p s m args meth c G b_PP_isYear 1 "PrairiePool" (some .boolean) := C
  unfold d_PP_isYear at h
  refine z_sub (lv' := [(0, vi a0)]) [0] rfl ?_
  refine z_iload_n C 0 x_PP_isYear_0 rfl ?_
  refine z_iconst C x_PP_isYear_1 ?_
  refine z_bipush C rfl x_PP_isYear_2 ?_
  obtain ⟨v1, M2, fv1, h⟩ := bcall_e h
  refine z_callSi C x_PP_isYear_4 cs_PP_89 (t_PP_isIn (lev := lev - 1) l G (by omega) fv1) (by omega) rfl (i_le rfl) rfl ?_
  obtain ⟨c3, h⟩ := chk_e h
  exact z_zret C x_PP_isYear_7 c3 h
theorem x_PP_isPence_0 : DC b_PP_isPence 0 (.iload_n 0) 1 1 := ⟨by decide +kernel, rfl⟩
theorem x_PP_isPence_1 : DC b_PP_isPence 1 (.iconst 0) 1 2 := ⟨by decide +kernel, rfl⟩
theorem x_PP_isPence_2 : DC b_PP_isPence 2 (.sipush 1000) 3 5 := ⟨by decide +kernel, rfl⟩
theorem x_PP_isPence_5 : DC b_PP_isPence 5 (.invokestatic 89) 3 8 := ⟨by decide +kernel, rfl⟩
theorem x_PP_isPence_8 : DC b_PP_isPence 8 (.ireturn) 1 9 := ⟨by decide +kernel, rfl⟩
def d_PP_isPence (a0 : Int) (M : Mem) : Res := bcall (d_PP_isIn a0 0 1000 M) fun v1 M2 => chk (w32 v1 = 0 ∨ w32 v1 = 1) <| some (v1, M2)
theorem t_PP_isPence (l : Launch) (G : GX) {lev : Nat} (hlev : 1 ≤ lev) {a0 : Int} {M : Mem} {r : Int × Mem} (h : d_PP_isPence a0 M = some r) : Mt l G y_PP_isPence b_PP_isPence 1 (some .boolean) lev 1 [vi a0] M r := by
  refine Mt.of (by decide) (i_le rfl) ?_
  intro p e s m args below meth c C
  have C : Cx p s m args meth c G b_PP_isPence 1 "PrairiePool" (some .boolean) := C
  unfold d_PP_isPence at h
  refine z_sub (lv' := [(0, vi a0)]) [0] rfl ?_
  refine z_iload_n C 0 x_PP_isPence_0 rfl ?_
  refine z_iconst C x_PP_isPence_1 ?_
  refine z_sipush C rfl x_PP_isPence_2 ?_
  obtain ⟨v1, M2, fv1, h⟩ := bcall_e h
  refine z_callSi C x_PP_isPence_5 cs_PP_89 (t_PP_isIn (lev := lev - 1) l G (by omega) fv1) (by omega) rfl (i_le rfl) rfl ?_
  obtain ⟨c3, h⟩ := chk_e h
  exact z_zret C x_PP_isPence_8 c3 h
end
