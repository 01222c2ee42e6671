section
variable {p : Program} {l : Launch} {e : Env} {lev : Nat} {s : State} {m : MethodId} {args : Array Value} {below : List Frame} {meth : Method} {c : Code} {G : GX}
theorem x_Pa_hasRoomToFeed_0 : DC b_Pa_hasRoomToFeed 0 (.aload_n 0) 1 1 := ⟨by decide +kernel, rfl⟩
theorem x_Pa_hasRoomToFeed_1 : DC b_Pa_hasRoomToFeed 1 (.getfield 33) 3 4 := ⟨by decide +kernel, rfl⟩
theorem x_Pa_hasRoomToFeed_4 : DC b_Pa_hasRoomToFeed 4 (.bipush 20) 2 6 := ⟨by decide +kernel, rfl⟩
theorem x_Pa_hasRoomToFeed_6 : DC b_Pa_hasRoomToFeed 6 (.iadd) 1 7 := ⟨by decide +kernel, rfl⟩
theorem x_Pa_hasRoomToFeed_7 : DC b_Pa_hasRoomToFeed 7 (.sipush 500) 3 10 := ⟨by decide +kernel, rfl⟩
theorem x_Pa_hasRoomToFeed_10 : DC b_Pa_hasRoomToFeed 10 (.if_icmp .gt 7) 3 13 := ⟨by decide +kernel, rfl⟩
theorem x_Pa_hasRoomToFeed_13 : DC b_Pa_hasRoomToFeed 13 (.iconst 1) 1 14 := ⟨by decide +kernel, rfl⟩
theorem x_Pa_hasRoomToFeed_14 : DC b_Pa_hasRoomToFeed 14 (.goto 4) 3 17 := ⟨by decide +kernel, rfl⟩
theorem x_Pa_hasRoomToFeed_17 : DC b_Pa_hasRoomToFeed 17 (.iconst 0) 1 18 := ⟨by decide +kernel, rfl⟩
theorem x_Pa_hasRoomToFeed_18 : DC b_Pa_hasRoomToFeed 18 (.ireturn) 1 19 := ⟨by decide +kernel, rfl⟩
def d_Pa_hasRoomToFeed (M : Mem) : Res := blet (M 55 1) fun v1 => if 500 < w32 (v1 + 20) then (some (0, M)) else (some (1, M))
theorem t_Pa_hasRoomToFeed (l : Launch) (G : GX) {lev : Nat} (hlev : 0 ≤ lev) {M : Mem} {r : Int × Mem} (h : d_Pa_hasRoomToFeed M = some r) : Mt l G y_Pa_hasRoomToFeed b_Pa_hasRoomToFeed 1 (some .boolean) lev 1 [.ref (G.1 + 55)] M r := by
  refine Mt.of (by decide) (i_le rfl) ?_
  intro p e s m args below meth c C
  have C : Cx p s m args meth c G b_Pa_hasRoomToFeed 1 "PrairiePool$Parser" (some .boolean) := C
  unfold d_Pa_hasRoomToFeed at h
  refine z_sub (lv' := [(0, .ref (G.1 + 55))]) [0] rfl ?_
  refine z_aload_n C 0 x_Pa_hasRoomToFeed_0 rfl ?_
  obtain ⟨v1, ev1, h⟩ := blet_e h
  refine z_getI (j := 1) C x_Pa_hasRoomToFeed_1 nk_55 ck_55 cw_4 (i_lt rfl) rfl rfl fl_Pa_33 ev1 ?_
  refine z_bipush C rfl x_Pa_hasRoomToFeed_4 ?_
  refine z_iadd C x_Pa_hasRoomToFeed_6 ?_
  refine z_sipush C rfl x_Pa_hasRoomToFeed_7 ?_
  rcases ite_e h with ⟨c2, h⟩ | ⟨c2, h⟩
  · refine z_icmp_gt_t (tgt := 17) C x_Pa_hasRoomToFeed_10 rfl c2 ?_
    refine z_iconst C x_Pa_hasRoomToFeed_17 ?_
    exact z_zret C x_Pa_hasRoomToFeed_18 (by decide) h
  · refine z_icmp_gt_f (tgt := 17) C x_Pa_hasRoomToFeed_10 rfl c2 ?_
    refine z_iconst C x_Pa_hasRoomToFeed_13 ?_
    refine z_goto (tgt := 18) C x_Pa_hasRoomToFeed_14 rfl ?_
    exact z_zret C x_Pa_hasRoomToFeed_18 (by decide) h
theorem x_Pa_take_0 : DC b_Pa_take 0 (.bipush 24) 2 2 := ⟨by decide +kernel, rfl⟩
theorem x_Pa_take_2 : DC b_Pa_take 2 (.istore_n 2) 1 3 := ⟨by decide +kernel, rfl⟩
theorem x_Pa_take_3 : DC b_Pa_take 3 (.iload_n 2) 1 4 := ⟨by decide +kernel, rfl⟩
theorem x_Pa_take_4 : DC b_Pa_take 4 (.ifCond .lt 42) 3 7 := ⟨by decide +kernel, rfl⟩
theorem x_Pa_take_7 : DC b_Pa_take 7 (.aload_n 0) 1 8 := ⟨by decide +kernel, rfl⟩
theorem x_Pa_take_8 : DC b_Pa_take 8 (.getfield 33) 3 11 := ⟨by decide +kernel, rfl⟩
theorem x_Pa_take_11 : DC b_Pa_take 11 (.sipush 500) 3 14 := ⟨by decide +kernel, rfl⟩
theorem x_Pa_take_14 : DC b_Pa_take 14 (.if_icmp .ge 26) 3 17 := ⟨by decide +kernel, rfl⟩
theorem x_Pa_take_17 : DC b_Pa_take 17 (.aload_n 0) 1 18 := ⟨by decide +kernel, rfl⟩
theorem x_Pa_take_18 : DC b_Pa_take 18 (.getfield 11) 3 21 := ⟨by decide +kernel, rfl⟩
theorem x_Pa_take_21 : DC b_Pa_take 21 (.aload_n 0) 1 22 := ⟨by decide +kernel, rfl⟩
theorem x_Pa_take_22 : DC b_Pa_take 22 (.getfield 33) 3 25 := ⟨by decide +kernel, rfl⟩
theorem x_Pa_take_25 : DC b_Pa_take 25 (.iload_n 1) 1 26 := ⟨by decide +kernel, rfl⟩
theorem x_Pa_take_26 : DC b_Pa_take 26 (.iload_n 2) 1 27 := ⟨by decide +kernel, rfl⟩
theorem x_Pa_take_27 : DC b_Pa_take 27 (.ishr) 1 28 := ⟨by decide +kernel, rfl⟩
theorem x_Pa_take_28 : DC b_Pa_take 28 (.i2b) 1 29 := ⟨by decide +kernel, rfl⟩
theorem x_Pa_take_29 : DC b_Pa_take 29 (.bastore) 1 30 := ⟨by decide +kernel, rfl⟩
theorem x_Pa_take_30 : DC b_Pa_take 30 (.aload_n 0) 1 31 := ⟨by decide +kernel, rfl⟩
theorem x_Pa_take_31 : DC b_Pa_take 31 (.dup) 1 32 := ⟨by decide +kernel, rfl⟩
theorem x_Pa_take_32 : DC b_Pa_take 32 (.getfield 33) 3 35 := ⟨by decide +kernel, rfl⟩
theorem x_Pa_take_35 : DC b_Pa_take 35 (.iconst 1) 1 36 := ⟨by decide +kernel, rfl⟩
theorem x_Pa_take_36 : DC b_Pa_take 36 (.iadd) 1 37 := ⟨by decide +kernel, rfl⟩
theorem x_Pa_take_37 : DC b_Pa_take 37 (.putfield 33) 3 40 := ⟨by decide +kernel, rfl⟩
theorem x_Pa_take_40 : DC b_Pa_take 40 (.iinc 2 (-8)) 3 43 := ⟨by decide +kernel, rfl⟩
theorem x_Pa_take_43 : DC b_Pa_take 43 (.goto (-40)) 3 46 := ⟨by decide +kernel, rfl⟩
theorem x_Pa_take_46 : DC b_Pa_take 46 (.return_) 1 47 := ⟨by decide +kernel, rfl⟩
def k_Pa_take_40 (R3 : Int → Int → Mem → Res) (a1 a2 : Int) (M : Mem) : Res := blet (a2 + (-8)) fun v1 => R3 a1 v1 M
theorem z_Pa_take_40 (C : Cx p s m args meth c G b_Pa_take 3 "PrairiePool$Parser" none) (hlev : 0 ≤ lev) {r : Int × Mem} {R3 : Int → Int → Mem → Res} (hR3 : ∀ (a1 a2 : Int) (M : Mem), R3 a1 a2 M = some r → Z p l e lev s m args below meth c G 3 (MQ below (Qm G 0 r) args s 0 0 (Ab G)) M 3 [(0, .ref (G.1 + 55)), (1, vi a1), (2, vi a2)] []) {a1 a2 : Int} {M : Mem} (h : k_Pa_take_40 R3 a1 a2 M = some r) : Z p l e lev s m args below meth c G 3 (MQ below (Qm G 0 r) args s 0 0 (Ab G)) M 40 [(0, .ref (G.1 + 55)), (1, vi a1), (2, vi a2)] [] := by
  unfold k_Pa_take_40 at h
  obtain ⟨v1, ev1, h⟩ := blet_e h
  refine z_iinc (lv' := [(2, vi v1), (0, .ref (G.1 + 55)), (1, vi a1)]) C 2 ev1 x_Pa_take_40 rfl (i_lt rfl) rfl ?_
  refine z_goto (tgt := 3) C x_Pa_take_43 rfl ?_
  exact z_sub [1, 2, 0] rfl (hR3 a1 v1 M h)
def k_Pa_take_3 (R3 : Int → Int → Mem → Res) (a1 a2 : Int) (M : Mem) : Res := if w32 a2 < 0 then (some (0, M)) else (blet (M 55 1) fun v2 => if w32 v2 < 500 then (blet (M 55 1) fun v4 => chk (0 ≤ w32 v4 ∧ w32 v4 < 500) <| blet (sto M 56 (ix v4) (w8 (sr32 a1 a2))) fun M6 => blet (M6 55 1) fun v7 => blet (sto M6 55 1 (v7 + 1)) fun M8 => k_Pa_take_40 R3 a1 a2 M8) else (k_Pa_take_40 R3 a1 a2 M))
theorem z_Pa_take_3 (C : Cx p s m args meth c G b_Pa_take 3 "PrairiePool$Parser" none) (hlev : 0 ≤ lev) {r : Int × Mem} {R3 : Int → Int → Mem → Res} (hR3 : ∀ (a1 a2 : Int) (M : Mem), R3 a1 a2 M = some r → Z p l e lev s m args below meth c G 3 (MQ below (Qm G 0 r) args s 0 0 (Ab G)) M 3 [(0, .ref (G.1 + 55)), (1, vi a1), (2, vi a2)] []) {a1 a2 : Int} {M : Mem} (h : k_Pa_take_3 R3 a1 a2 M = some r) : Z p l e lev s m args below meth c G 3 (MQ below (Qm G 0 r) args s 0 0 (Ab G)) M 3 [(0, .ref (G.1 + 55)), (1, vi a1), (2, vi a2)] [] := by
  unfold k_Pa_take_3 at h
  refine z_iload_n C 2 x_Pa_take_3 rfl ?_
  rcases ite_e h with ⟨c1, h⟩ | ⟨c1, h⟩
  · refine z_if_lt_t (tgt := 46) C x_Pa_take_4 rfl c1 ?_
    exact z_vret C x_Pa_take_46 h
  · refine z_if_lt_f (tgt := 46) C x_Pa_take_4 rfl c1 ?_
    refine z_aload_n C 0 x_Pa_take_7 rfl ?_
    obtain ⟨v2, ev2, h⟩ := blet_e h
    refine z_getI (j := 1) C x_Pa_take_8 nk_55 ck_55 cw_4 (i_lt rfl) rfl rfl fl_Pa_33 ev2 ?_
    refine z_sipush C rfl x_Pa_take_11 ?_
    rcases ite_e h with ⟨c3, h⟩ | ⟨c3, h⟩
    · refine z_icmp_ge_f (tgt := 40) C x_Pa_take_14 rfl c3 ?_
      refine z_aload_n C 0 x_Pa_take_17 rfl ?_
      refine z_getR (j := 0) C x_Pa_take_18 nk_55 ck_55 cw_4 (i_lt rfl) rfl rf_55_0 rfl fl_Pa_11 ?_
      refine z_aload_n C 0 x_Pa_take_21 rfl ?_
      obtain ⟨v4, ev4, h⟩ := blet_e h
      refine z_getI (j := 1) C x_Pa_take_22 nk_55 ck_55 cw_4 (i_lt rfl) rfl rfl fl_Pa_33 ev4 ?_
      refine z_iload_n C 1 x_Pa_take_25 rfl ?_
      refine z_iload_n C 2 x_Pa_take_26 rfl ?_
      refine z_ishr C x_Pa_take_27 ?_
      refine z_i2b C x_Pa_take_28 ?_
      obtain ⟨c5, h⟩ := chk_e h
      obtain ⟨M6, eM6, h⟩ := blet_e h
      refine z_bast C x_Pa_take_29 nk_56 ck_56 c5 eM6 ?_
      refine z_aload_n C 0 x_Pa_take_30 rfl ?_
      refine z_dup C x_Pa_take_31 rfl ?_
      obtain ⟨v7, ev7, h⟩ := blet_e h
      refine z_getI (j := 1) C x_Pa_take_32 nk_55 ck_55 cw_4 (i_lt rfl) rfl rfl fl_Pa_33 ev7 ?_
      refine z_iconst C x_Pa_take_35 ?_
      refine z_iadd C x_Pa_take_36 ?_
      obtain ⟨M8, eM8, h⟩ := blet_e h
      refine z_putI (j := 1) C x_Pa_take_37 nk_55 ck_55 cw_4 (i_lt rfl) rfl rfl rfl rfl fl_Pa_33 eM8 ?_
      exact z_sub [0, 1, 2] rfl (z_Pa_take_40 C hlev hR3 h)
    · refine z_icmp_ge_t (tgt := 40) C x_Pa_take_14 rfl c3 ?_
      exact z_sub [0, 1, 2] rfl (z_Pa_take_40 C hlev hR3 h)
theorem zl_Pa_take_3 (C : Cx p s m args meth c G b_Pa_take 3 "PrairiePool$Parser" none) (hlev : 0 ≤ lev) {r : Int × Mem}  : ∀ (n : Nat) (a1 a2 : Int) (M : Mem), fix (fun _ _ _ => none) (k_Pa_take_3) n a1 a2 M = some r → Z p l e lev s m args below meth c G 3 (MQ below (Qm G 0 r) args s 0 0 (Ab G)) M 3 [(0, .ref (G.1 + 55)), (1, vi a1), (2, vi a2)] [] := by
  intro n
  induction n with
  | zero => intro a1 a2 M h; exact nomatch (show (none : Res) = some r from h)
  | succ n ih => intro a1 a2 M h; exact z_Pa_take_3 C hlev ih h
def d_Pa_take (a1 : Int) (M : Mem) : Res := fix (fun _ _ _ => none) (k_Pa_take_3) FU a1 24 M
theorem t_Pa_take (l : Launch) (G : GX) {lev : Nat} (hlev : 0 ≤ lev) {a1 : Int} {M : Mem} {r : Int × Mem} (h : d_Pa_take a1 M = some r) : Mt l G y_Pa_take b_Pa_take 3 none lev 0 [.ref (G.1 + 55), vi a1] M r := by
  refine Mt.of (by decide) (i_le rfl) ?_
  intro p e s m args below meth c C
  have C : Cx p s m args meth c G b_Pa_take 3 "PrairiePool$Parser" none := C
  unfold d_Pa_take at h
  refine z_sub (lv' := [(0, .ref (G.1 + 55)), (1, vi a1)]) [0, 1] rfl ?_
  refine z_bipush C rfl x_Pa_take_0 ?_
  refine z_istore_n (lv' := [(2, vi 24), (0, .ref (G.1 + 55)), (1, vi a1)]) C rfl x_Pa_take_2 (i_lt rfl) rfl ?_
  exact z_sub [1, 2, 0] rfl (zl_Pa_take_3 C hlev FU a1 24 M h)
theorem x_Pa_isLetter_0 : DC b_Pa_isLetter 0 (.iload_n 0) 1 1 := ⟨by decide +kernel, rfl⟩
theorem x_Pa_isLetter_1 : DC b_Pa_isLetter 1 (.bipush 97) 2 3 := ⟨by decide +kernel, rfl⟩
theorem x_Pa_isLetter_3 : DC b_Pa_isLetter 3 (.if_icmp .lt 13) 3 6 := ⟨by decide +kernel, rfl⟩
theorem x_Pa_isLetter_6 : DC b_Pa_isLetter 6 (.iload_n 0) 1 7 := ⟨by decide +kernel, rfl⟩
theorem x_Pa_isLetter_7 : DC b_Pa_isLetter 7 (.bipush 122) 2 9 := ⟨by decide +kernel, rfl⟩
theorem x_Pa_isLetter_9 : DC b_Pa_isLetter 9 (.if_icmp .gt 7) 3 12 := ⟨by decide +kernel, rfl⟩
theorem x_Pa_isLetter_12 : DC b_Pa_isLetter 12 (.iconst 1) 1 13 := ⟨by decide +kernel, rfl⟩
theorem x_Pa_isLetter_13 : DC b_Pa_isLetter 13 (.goto 4) 3 16 := ⟨by decide +kernel, rfl⟩
theorem x_Pa_isLetter_16 : DC b_Pa_isLetter 16 (.iconst 0) 1 17 := ⟨by decide +kernel, rfl⟩
theorem x_Pa_isLetter_17 : DC b_Pa_isLetter 17 (.ireturn) 1 18 := ⟨by decide +kernel, rfl⟩
def d_Pa_isLetter (a0 : Int) (M : Mem) : Res := if w32 a0 < 97 then (some (0, M)) else (if 122 < w32 a0 then (some (0, M)) else (some (1, M)))
theorem t_Pa_isLetter (l : Launch) (G : GX) {lev : Nat} (hlev : 0 ≤ lev) {a0 : Int} {M : Mem} {r : Int × Mem} (h : d_Pa_isLetter a0 M = some r) : Mt l G y_Pa_isLetter b_Pa_isLetter 1 (some .boolean) lev 1 [vi a0] M r := by
  refine Mt.of (by decide) (i_le rfl) ?_
  intro p e s m args below meth c C
  have C : Cx p s m args meth c G b_Pa_isLetter 1 "PrairiePool$Parser" (some .boolean) := C
  unfold d_Pa_isLetter at h
  refine z_sub (lv' := [(0, vi a0)]) [0] rfl ?_
  refine z_iload_n C 0 x_Pa_isLetter_0 rfl ?_
  refine z_bipush C rfl x_Pa_isLetter_1 ?_
  rcases ite_e h with ⟨c1, h⟩ | ⟨c1, h⟩
  · refine z_icmp_lt_t (tgt := 16) C x_Pa_isLetter_3 rfl c1 ?_
    refine z_iconst C x_Pa_isLetter_16 ?_
    exact z_zret C x_Pa_isLetter_17 (by decide) h
  · refine z_icmp_lt_f (tgt := 16) C x_Pa_isLetter_3 rfl c1 ?_
    refine z_iload_n C 0 x_Pa_isLetter_6 rfl ?_
    refine z_bipush C rfl x_Pa_isLetter_7 ?_
    rcases ite_e h with ⟨c2, h⟩ | ⟨c2, h⟩
    · refine z_icmp_gt_t (tgt := 16) C x_Pa_isLetter_9 rfl c2 ?_
      refine z_iconst C x_Pa_isLetter_16 ?_
      exact z_zret C x_Pa_isLetter_17 (by decide) h
    · refine z_icmp_gt_f (tgt := 16) C x_Pa_isLetter_9 rfl c2 ?_
      refine z_iconst C x_Pa_isLetter_12 ?_
      refine z_goto (tgt := 17) C x_Pa_isLetter_13 rfl ?_
      exact z_zret C x_Pa_isLetter_17 (by decide) h
theorem x_Pa_find_0 : DC b_Pa_find 0 (.iconst 0) 1 1 := ⟨by decide +kernel, rfl⟩
theorem x_Pa_find_1 : DC b_Pa_find 1 (.istore_n 3) 1 2 := ⟨by decide +kernel, rfl⟩
theorem x_Pa_find_2 : DC b_Pa_find 2 (.lconst 0) 1 3 := ⟨by decide +kernel, rfl⟩
theorem x_Pa_find_3 : DC b_Pa_find 3 (.lstore 4) 2 5 := ⟨by decide +kernel, rfl⟩
theorem x_Pa_find_5 : DC b_Pa_find 5 (.iconst 0) 1 6 := ⟨by decide +kernel, rfl⟩
theorem x_Pa_find_6 : DC b_Pa_find 6 (.istore 6) 2 8 := ⟨by decide +kernel, rfl⟩
theorem x_Pa_find_8 : DC b_Pa_find 8 (.iload 6) 2 10 := ⟨by decide +kernel, rfl⟩
theorem x_Pa_find_10 : DC b_Pa_find 10 (.aload_n 0) 1 11 := ⟨by decide +kernel, rfl⟩
theorem x_Pa_find_11 : DC b_Pa_find 11 (.invokevirtual 111) 3 14 := ⟨by decide +kernel, rfl⟩
theorem x_Pa_find_14 : DC b_Pa_find 14 (.if_icmp .ge 59) 3 17 := ⟨by decide +kernel, rfl⟩
theorem x_Pa_find_17 : DC b_Pa_find 17 (.aload_n 0) 1 18 := ⟨by decide +kernel, rfl⟩
theorem x_Pa_find_18 : DC b_Pa_find 18 (.iload 6) 2 20 := ⟨by decide +kernel, rfl⟩
theorem x_Pa_find_20 : DC b_Pa_find 20 (.invokevirtual 114) 3 23 := ⟨by decide +kernel, rfl⟩
theorem x_Pa_find_23 : DC b_Pa_find 23 (.istore 7) 2 25 := ⟨by decide +kernel, rfl⟩
theorem x_Pa_find_25 : DC b_Pa_find 25 (.iload 7) 2 27 := ⟨by decide +kernel, rfl⟩
theorem x_Pa_find_27 : DC b_Pa_find 27 (.bipush 32) 2 29 := ⟨by decide +kernel, rfl⟩
theorem x_Pa_find_29 : DC b_Pa_find 29 (.if_icmp .eq 23) 3 32 := ⟨by decide +kernel, rfl⟩
theorem x_Pa_find_32 : DC b_Pa_find 32 (.lload 4) 2 34 := ⟨by decide +kernel, rfl⟩
theorem x_Pa_find_34 : DC b_Pa_find 34 (.ldc2_w 86) 3 37 := ⟨by decide +kernel, rfl⟩
theorem x_Pa_find_37 : DC b_Pa_find 37 (.lmul) 1 38 := ⟨by decide +kernel, rfl⟩
theorem x_Pa_find_38 : DC b_Pa_find 38 (.iload 7) 2 40 := ⟨by decide +kernel, rfl⟩
theorem x_Pa_find_40 : DC b_Pa_find 40 (.bipush 97) 2 42 := ⟨by decide +kernel, rfl⟩
theorem x_Pa_find_42 : DC b_Pa_find 42 (.isub) 1 43 := ⟨by decide +kernel, rfl⟩
theorem x_Pa_find_43 : DC b_Pa_find 43 (.iconst 1) 1 44 := ⟨by decide +kernel, rfl⟩
theorem x_Pa_find_44 : DC b_Pa_find 44 (.iadd) 1 45 := ⟨by decide +kernel, rfl⟩
theorem x_Pa_find_45 : DC b_Pa_find 45 (.i2l) 1 46 := ⟨by decide +kernel, rfl⟩
theorem x_Pa_find_46 : DC b_Pa_find 46 (.ladd) 1 47 := ⟨by decide +kernel, rfl⟩
theorem x_Pa_find_47 : DC b_Pa_find 47 (.lstore 4) 2 49 := ⟨by decide +kernel, rfl⟩
theorem x_Pa_find_49 : DC b_Pa_find 49 (.goto 18) 3 52 := ⟨by decide +kernel, rfl⟩
theorem x_Pa_find_52 : DC b_Pa_find 52 (.lload 4) 2 54 := ⟨by decide +kernel, rfl⟩
theorem x_Pa_find_54 : DC b_Pa_find 54 (.lload_n 1) 1 55 := ⟨by decide +kernel, rfl⟩
theorem x_Pa_find_55 : DC b_Pa_find 55 (.lcmp) 1 56 := ⟨by decide +kernel, rfl⟩
theorem x_Pa_find_56 : DC b_Pa_find 56 (.ifCond .ne 5) 3 59 := ⟨by decide +kernel, rfl⟩
theorem x_Pa_find_59 : DC b_Pa_find 59 (.iload_n 3) 1 60 := ⟨by decide +kernel, rfl⟩
theorem x_Pa_find_60 : DC b_Pa_find 60 (.ireturn) 1 61 := ⟨by decide +kernel, rfl⟩
theorem x_Pa_find_61 : DC b_Pa_find 61 (.iinc 3 1) 3 64 := ⟨by decide +kernel, rfl⟩
theorem x_Pa_find_64 : DC b_Pa_find 64 (.lconst 0) 1 65 := ⟨by decide +kernel, rfl⟩
theorem x_Pa_find_65 : DC b_Pa_find 65 (.lstore 4) 2 67 := ⟨by decide +kernel, rfl⟩
theorem x_Pa_find_67 : DC b_Pa_find 67 (.iinc 6 1) 3 70 := ⟨by decide +kernel, rfl⟩
theorem x_Pa_find_70 : DC b_Pa_find 70 (.goto (-62)) 3 73 := ⟨by decide +kernel, rfl⟩
theorem x_Pa_find_73 : DC b_Pa_find 73 (.lload 4) 2 75 := ⟨by decide +kernel, rfl⟩
theorem x_Pa_find_75 : DC b_Pa_find 75 (.lload_n 1) 1 76 := ⟨by decide +kernel, rfl⟩
theorem x_Pa_find_76 : DC b_Pa_find 76 (.lcmp) 1 77 := ⟨by decide +kernel, rfl⟩
theorem x_Pa_find_77 : DC b_Pa_find 77 (.ifCond .ne 7) 3 80 := ⟨by decide +kernel, rfl⟩
theorem x_Pa_find_80 : DC b_Pa_find 80 (.iload_n 3) 1 81 := ⟨by decide +kernel, rfl⟩
theorem x_Pa_find_81 : DC b_Pa_find 81 (.goto 4) 3 84 := ⟨by decide +kernel, rfl⟩
theorem x_Pa_find_84 : DC b_Pa_find 84 (.iconst (-1)) 1 85 := ⟨by decide +kernel, rfl⟩
theorem x_Pa_find_85 : DC b_Pa_find 85 (.ireturn) 1 86 := ⟨by decide +kernel, rfl⟩
def k_Pa_find_67 (i0 : Nat) (R8 : Int → Int → Int → Int → Mem → Res) (a1 a3 a4 a6 : Int) (M : Mem) : Res := blet (a6 + 1) fun v1 => R8 a1 a3 a4 v1 M
theorem z_Pa_find_67 (C : Cx p s m args meth c G b_Pa_find 8 "PrairiePool$Parser" (some .int)) (hlev : 4 ≤ lev) {i0 : Nat} (hi0 : i0 < 4) {r : Int × Mem} {R8 : Int → Int → Int → Int → Mem → Res} (hR8 : ∀ (a1 a3 a4 a6 : Int) (M : Mem), R8 a1 a3 a4 a6 M = some r → Z p l e lev s m args below meth c G 8 (MQ below (Qm G 1 r) args s 0 0 (Ab G)) M 8 [(0, .ref (G.2.2.2.1 i0)), (1, vl a1), (3, vi a3), (4, vl a4), (6, vi a6)] []) {a1 a3 a4 a6 : Int} {M : Mem} (h : k_Pa_find_67 i0 R8 a1 a3 a4 a6 M = some r) : Z p l e lev s m args below meth c G 8 (MQ below (Qm G 1 r) args s 0 0 (Ab G)) M 67 [(0, .ref (G.2.2.2.1 i0)), (1, vl a1), (3, vi a3), (4, vl a4), (6, vi a6)] [] := by
  unfold k_Pa_find_67 at h
  obtain ⟨v1, ev1, h⟩ := blet_e h
  refine z_iinc (lv' := [(6, vi v1), (0, .ref (G.2.2.2.1 i0)), (1, vl a1), (3, vi a3), (4, vl a4)]) C 4 ev1 x_Pa_find_67 rfl (i_lt rfl) rfl ?_
  refine z_goto (tgt := 8) C x_Pa_find_70 rfl ?_
  exact z_sub [1, 2, 3, 4, 0] rfl (hR8 a1 a3 a4 v1 M h)
def k_Pa_find_8 (i0 : Nat) (R8 : Int → Int → Int → Int → Mem → Res) (a1 a3 a4 a6 : Int) (M : Mem) : Res := bcall (d_St_length i0 M) fun v1 M2 => if w32 a6 < w32 v1 then (bcall (d_St_charAt i0 a6 M2) fun v4 M5 => if w32 v4 = 32 then (if w64 a4 = w64 a1 then (some (a3, M5)) else (blet (a3 + 1) fun v8 => k_Pa_find_67 i0 R8 a1 v8 0 a6 M5)) else (blet ((a4 * 27) + (w32 ((v4 - 97) + 1))) fun v9 => k_Pa_find_67 i0 R8 a1 a3 v9 a6 M5)) else (if w64 a4 = w64 a1 then (some (a3, M2)) else (some ((-1), M2)))
theorem z_Pa_find_8 (C : Cx p s m args meth c G b_Pa_find 8 "PrairiePool$Parser" (some .int)) (hlev : 4 ≤ lev) {i0 : Nat} (hi0 : i0 < 4) {r : Int × Mem} {R8 : Int → Int → Int → Int → Mem → Res} (hR8 : ∀ (a1 a3 a4 a6 : Int) (M : Mem), R8 a1 a3 a4 a6 M = some r → Z p l e lev s m args below meth c G 8 (MQ below (Qm G 1 r) args s 0 0 (Ab G)) M 8 [(0, .ref (G.2.2.2.1 i0)), (1, vl a1), (3, vi a3), (4, vl a4), (6, vi a6)] []) {a1 a3 a4 a6 : Int} {M : Mem} (h : k_Pa_find_8 i0 R8 a1 a3 a4 a6 M = some r) : Z p l e lev s m args below meth c G 8 (MQ below (Qm G 1 r) args s 0 0 (Ab G)) M 8 [(0, .ref (G.2.2.2.1 i0)), (1, vl a1), (3, vi a3), (4, vl a4), (6, vi a6)] [] := by
  unfold k_Pa_find_8 at h
  refine z_iload C 4 x_Pa_find_8 rfl ?_
  refine z_aload_n C 0 x_Pa_find_10 rfl ?_
  obtain ⟨v1, M2, fv1, h⟩ := bcall_e h
  refine z_callXi (i := i0) C x_Pa_find_11 cv_Pa_111 hi0 (t_St_length (lev := lev - 1) l G (by omega) hi0 fv1) (by omega) rfl (i_le rfl) rfl ?_
  rcases ite_e h with ⟨c3, h⟩ | ⟨c3, h⟩
  · refine z_icmp_ge_f (tgt := 73) C x_Pa_find_14 rfl c3 ?_
    refine z_aload_n C 0 x_Pa_find_17 rfl ?_
    refine z_iload C 4 x_Pa_find_18 rfl ?_
    obtain ⟨v4, M5, fv4, h⟩ := bcall_e h
    refine z_callXi (i := i0) C x_Pa_find_20 cv_Pa_114 hi0 (t_St_charAt (lev := lev - 1) l G (by omega) hi0 fv4) (by omega) rfl (i_le rfl) rfl ?_
    refine z_istore (lv' := [(7, vi v4), (0, .ref (G.2.2.2.1 i0)), (1, vl a1), (3, vi a3), (4, vl a4), (6, vi a6)]) C rfl x_Pa_find_23 (i_lt rfl) rfl ?_
    refine z_iload C 0 x_Pa_find_25 rfl ?_
    refine z_bipush C rfl x_Pa_find_27 ?_
    rcases ite_e h with ⟨c6, h⟩ | ⟨c6, h⟩
    · refine z_icmp_eq_t (tgt := 52) C x_Pa_find_29 rfl c6 ?_
      refine z_lload C 4 x_Pa_find_52 rfl ?_
      refine z_lload_n C 2 x_Pa_find_54 rfl ?_
      refine z_lcmp C x_Pa_find_55 ?_
      rcases ite_e h with ⟨c7, h⟩ | ⟨c7, h⟩
      · refine z_if_ne_f (tgt := 61) C x_Pa_find_56 rfl (cm_eqz.mpr c7) ?_
        refine z_iload_n C 3 x_Pa_find_59 rfl ?_
        exact z_iret C x_Pa_find_60 h
      · refine z_if_ne_t (tgt := 61) C x_Pa_find_56 rfl (fun q => c7 (cm_eqz.mp q)) ?_
        obtain ⟨v8, ev8, h⟩ := blet_e h
        refine z_iinc (lv' := [(3, vi v8), (7, vi v4), (0, .ref (G.2.2.2.1 i0)), (1, vl a1), (4, vl a4), (6, vi a6)]) C 3 ev8 x_Pa_find_61 rfl (i_lt rfl) rfl ?_
        refine z_lconst0 C x_Pa_find_64 ?_
        refine z_lstore (lv' := [(4, vl 0), (3, vi v8), (7, vi v4), (0, .ref (G.2.2.2.1 i0)), (1, vl a1), (6, vi a6)]) C rfl x_Pa_find_65 (i_lt rfl) rfl ?_
        exact z_sub [3, 4, 1, 0, 5] rfl (z_Pa_find_67 C hlev hi0 hR8 h)
    · refine z_icmp_eq_f (tgt := 52) C x_Pa_find_29 rfl c6 ?_
      refine z_lload C 4 x_Pa_find_32 rfl ?_
      refine z_ldc2 C kl_Pa_86 x_Pa_find_34 ?_
      refine z_lmul C x_Pa_find_37 ?_
      refine z_iload C 0 x_Pa_find_38 rfl ?_
      refine z_bipush C rfl x_Pa_find_40 ?_
      refine z_isub C x_Pa_find_42 ?_
      refine z_iconst C x_Pa_find_43 ?_
      refine z_iadd C x_Pa_find_44 ?_
      refine z_i2l C x_Pa_find_45 ?_
      refine z_ladd C x_Pa_find_46 ?_
      obtain ⟨v9, ev9, h⟩ := blet_e h
      refine z_lstore (lv' := [(4, vl v9), (7, vi v4), (0, .ref (G.2.2.2.1 i0)), (1, vl a1), (3, vi a3), (6, vi a6)]) C ev9 x_Pa_find_47 (i_lt rfl) rfl ?_
      refine z_goto (tgt := 67) C x_Pa_find_49 rfl ?_
      exact z_sub [2, 3, 4, 0, 5] rfl (z_Pa_find_67 C hlev hi0 hR8 h)
  · refine z_icmp_ge_t (tgt := 73) C x_Pa_find_14 rfl c3 ?_
    refine z_lload C 3 x_Pa_find_73 rfl ?_
    refine z_lload_n C 1 x_Pa_find_75 rfl ?_
    refine z_lcmp C x_Pa_find_76 ?_
    rcases ite_e h with ⟨c10, h⟩ | ⟨c10, h⟩
    · refine z_if_ne_f (tgt := 84) C x_Pa_find_77 rfl (cm_eqz.mpr c10) ?_
      refine z_iload_n C 2 x_Pa_find_80 rfl ?_
      refine z_goto (tgt := 85) C x_Pa_find_81 rfl ?_
      exact z_iret C x_Pa_find_85 h
    · refine z_if_ne_t (tgt := 84) C x_Pa_find_77 rfl (fun q => c10 (cm_eqz.mp q)) ?_
      refine z_iconst C x_Pa_find_84 ?_
      exact z_iret C x_Pa_find_85 h
theorem zl_Pa_find_8 (C : Cx p s m args meth c G b_Pa_find 8 "PrairiePool$Parser" (some .int)) (hlev : 4 ≤ lev) {i0 : Nat} (hi0 : i0 < 4) {r : Int × Mem}  : ∀ (n : Nat) (a1 a3 a4 a6 : Int) (M : Mem), fix (fun _ _ _ _ _ => none) (k_Pa_find_8 i0) n a1 a3 a4 a6 M = some r → Z p l e lev s m args below meth c G 8 (MQ below (Qm G 1 r) args s 0 0 (Ab G)) M 8 [(0, .ref (G.2.2.2.1 i0)), (1, vl a1), (3, vi a3), (4, vl a4), (6, vi a6)] [] := by
  intro n
  induction n with
  | zero => intro a1 a3 a4 a6 M h; exact nomatch (show (none : Res) = some r from h)
  | succ n ih => intro a1 a3 a4 a6 M h; exact z_Pa_find_8 C hlev hi0 ih h
def d_Pa_find (i0 : Nat) (a1 : Int) (M : Mem) : Res := fix (fun _ _ _ _ _ => none) (k_Pa_find_8 i0) FU a1 0 0 0 M
theorem t_Pa_find (l : Launch) (G : GX) {lev : Nat} (hlev : 4 ≤ lev) {i0 : Nat} (hi0 : i0 < 4) {a1 : Int} {M : Mem} {r : Int × Mem} (h : d_Pa_find i0 a1 M = some r) : Mt l G y_Pa_find b_Pa_find 8 (some .int) lev 1 [.ref (G.2.2.2.1 i0), vl a1] M r := by
  refine Mt.of (by decide) (i_le rfl) ?_
  intro p e s m args below meth c C
  have C : Cx p s m args meth c G b_Pa_find 8 "PrairiePool$Parser" (some .int) := C
  unfold d_Pa_find at h
  refine z_sub (lv' := [(0, .ref (G.2.2.2.1 i0)), (1, vl a1)]) [0, 1] rfl ?_
  refine z_iconst C x_Pa_find_0 ?_
  refine z_istore_n (lv' := [(3, vi 0), (0, .ref (G.2.2.2.1 i0)), (1, vl a1)]) C rfl x_Pa_find_1 (i_lt rfl) rfl ?_
  refine z_lconst0 C x_Pa_find_2 ?_
  refine z_lstore (lv' := [(4, vl 0), (3, vi 0), (0, .ref (G.2.2.2.1 i0)), (1, vl a1)]) C rfl x_Pa_find_3 (i_lt rfl) rfl ?_
  refine z_iconst C x_Pa_find_5 ?_
  refine z_istore (lv' := [(6, vi 0), (4, vl 0), (3, vi 0), (0, .ref (G.2.2.2.1 i0)), (1, vl a1)]) C rfl x_Pa_find_6 (i_lt rfl) rfl ?_
  exact z_sub [3, 4, 2, 1, 0] rfl (zl_Pa_find_8 C hlev hi0 FU a1 0 0 0 M h)
theorem x_Pa_scanWord_0 : DC b_Pa_scanWord 0 (.lconst 0) 1 1 := ⟨by decide +kernel, rfl⟩
theorem x_Pa_scanWord_1 : DC b_Pa_scanWord 1 (.lstore_n 1) 1 2 := ⟨by decide +kernel, rfl⟩
theorem x_Pa_scanWord_2 : DC b_Pa_scanWord 2 (.aload_n 0) 1 3 := ⟨by decide +kernel, rfl⟩
theorem x_Pa_scanWord_3 : DC b_Pa_scanWord 3 (.getfield 39) 3 6 := ⟨by decide +kernel, rfl⟩
theorem x_Pa_scanWord_6 : DC b_Pa_scanWord 6 (.aload_n 0) 1 7 := ⟨by decide +kernel, rfl⟩
theorem x_Pa_scanWord_7 : DC b_Pa_scanWord 7 (.getfield 36) 3 10 := ⟨by decide +kernel, rfl⟩
theorem x_Pa_scanWord_10 : DC b_Pa_scanWord 10 (.if_icmp .ge 53) 3 13 := ⟨by decide +kernel, rfl⟩
theorem x_Pa_scanWord_13 : DC b_Pa_scanWord 13 (.aload_n 0) 1 14 := ⟨by decide +kernel, rfl⟩
theorem x_Pa_scanWord_14 : DC b_Pa_scanWord 14 (.getfield 11) 3 17 := ⟨by decide +kernel, rfl⟩
theorem x_Pa_scanWord_17 : DC b_Pa_scanWord 17 (.aload_n 0) 1 18 := ⟨by decide +kernel, rfl⟩
theorem x_Pa_scanWord_18 : DC b_Pa_scanWord 18 (.getfield 39) 3 21 := ⟨by decide +kernel, rfl⟩
theorem x_Pa_scanWord_21 : DC b_Pa_scanWord 21 (.baload) 1 22 := ⟨by decide +kernel, rfl⟩
theorem x_Pa_scanWord_22 : DC b_Pa_scanWord 22 (.invokestatic 67) 3 25 := ⟨by decide +kernel, rfl⟩
theorem x_Pa_scanWord_25 : DC b_Pa_scanWord 25 (.ifCond .eq 38) 3 28 := ⟨by decide +kernel, rfl⟩
theorem x_Pa_scanWord_28 : DC b_Pa_scanWord 28 (.lload_n 1) 1 29 := ⟨by decide +kernel, rfl⟩
theorem x_Pa_scanWord_29 : DC b_Pa_scanWord 29 (.ldc2_w 86) 3 32 := ⟨by decide +kernel, rfl⟩
theorem x_Pa_scanWord_32 : DC b_Pa_scanWord 32 (.lmul) 1 33 := ⟨by decide +kernel, rfl⟩
theorem x_Pa_scanWord_33 : DC b_Pa_scanWord 33 (.aload_n 0) 1 34 := ⟨by decide +kernel, rfl⟩
theorem x_Pa_scanWord_34 : DC b_Pa_scanWord 34 (.getfield 11) 3 37 := ⟨by decide +kernel, rfl⟩
theorem x_Pa_scanWord_37 : DC b_Pa_scanWord 37 (.aload_n 0) 1 38 := ⟨by decide +kernel, rfl⟩
theorem x_Pa_scanWord_38 : DC b_Pa_scanWord 38 (.getfield 39) 3 41 := ⟨by decide +kernel, rfl⟩
theorem x_Pa_scanWord_41 : DC b_Pa_scanWord 41 (.baload) 1 42 := ⟨by decide +kernel, rfl⟩
theorem x_Pa_scanWord_42 : DC b_Pa_scanWord 42 (.bipush 97) 2 44 := ⟨by decide +kernel, rfl⟩
theorem x_Pa_scanWord_44 : DC b_Pa_scanWord 44 (.isub) 1 45 := ⟨by decide +kernel, rfl⟩
theorem x_Pa_scanWord_45 : DC b_Pa_scanWord 45 (.iconst 1) 1 46 := ⟨by decide +kernel, rfl⟩
theorem x_Pa_scanWord_46 : DC b_Pa_scanWord 46 (.iadd) 1 47 := ⟨by decide +kernel, rfl⟩
theorem x_Pa_scanWord_47 : DC b_Pa_scanWord 47 (.i2l) 1 48 := ⟨by decide +kernel, rfl⟩
theorem x_Pa_scanWord_48 : DC b_Pa_scanWord 48 (.ladd) 1 49 := ⟨by decide +kernel, rfl⟩
theorem x_Pa_scanWord_49 : DC b_Pa_scanWord 49 (.lstore_n 1) 1 50 := ⟨by decide +kernel, rfl⟩
theorem x_Pa_scanWord_50 : DC b_Pa_scanWord 50 (.aload_n 0) 1 51 := ⟨by decide +kernel, rfl⟩
theorem x_Pa_scanWord_51 : DC b_Pa_scanWord 51 (.dup) 1 52 := ⟨by decide +kernel, rfl⟩
theorem x_Pa_scanWord_52 : DC b_Pa_scanWord 52 (.getfield 39) 3 55 := ⟨by decide +kernel, rfl⟩
theorem x_Pa_scanWord_55 : DC b_Pa_scanWord 55 (.iconst 1) 1 56 := ⟨by decide +kernel, rfl⟩
theorem x_Pa_scanWord_56 : DC b_Pa_scanWord 56 (.iadd) 1 57 := ⟨by decide +kernel, rfl⟩
theorem x_Pa_scanWord_57 : DC b_Pa_scanWord 57 (.putfield 39) 3 60 := ⟨by decide +kernel, rfl⟩
theorem x_Pa_scanWord_60 : DC b_Pa_scanWord 60 (.goto (-58)) 3 63 := ⟨by decide +kernel, rfl⟩
theorem x_Pa_scanWord_63 : DC b_Pa_scanWord 63 (.aload_n 0) 1 64 := ⟨by decide +kernel, rfl⟩
theorem x_Pa_scanWord_64 : DC b_Pa_scanWord 64 (.aload_n 0) 1 65 := ⟨by decide +kernel, rfl⟩
theorem x_Pa_scanWord_65 : DC b_Pa_scanWord 65 (.getfield 39) 3 68 := ⟨by decide +kernel, rfl⟩
theorem x_Pa_scanWord_68 : DC b_Pa_scanWord 68 (.aload_n 0) 1 69 := ⟨by decide +kernel, rfl⟩
theorem x_Pa_scanWord_69 : DC b_Pa_scanWord 69 (.getfield 64) 3 72 := ⟨by decide +kernel, rfl⟩
theorem x_Pa_scanWord_72 : DC b_Pa_scanWord 72 (.isub) 1 73 := ⟨by decide +kernel, rfl⟩
theorem x_Pa_scanWord_73 : DC b_Pa_scanWord 73 (.bipush 8) 2 75 := ⟨by decide +kernel, rfl⟩
theorem x_Pa_scanWord_75 : DC b_Pa_scanWord 75 (.if_icmp .gt 7) 3 78 := ⟨by decide +kernel, rfl⟩
theorem x_Pa_scanWord_78 : DC b_Pa_scanWord 78 (.lload_n 1) 1 79 := ⟨by decide +kernel, rfl⟩
theorem x_Pa_scanWord_79 : DC b_Pa_scanWord 79 (.goto 6) 3 82 := ⟨by decide +kernel, rfl⟩
theorem x_Pa_scanWord_82 : DC b_Pa_scanWord 82 (.ldc2_w 88) 3 85 := ⟨by decide +kernel, rfl⟩
theorem x_Pa_scanWord_85 : DC b_Pa_scanWord 85 (.putfield 90) 3 88 := ⟨by decide +kernel, rfl⟩
theorem x_Pa_scanWord_88 : DC b_Pa_scanWord 88 (.ldc 94) 2 90 := ⟨by decide +kernel, rfl⟩
theorem x_Pa_scanWord_90 : DC b_Pa_scanWord 90 (.aload_n 0) 1 91 := ⟨by decide +kernel, rfl⟩
theorem x_Pa_scanWord_91 : DC b_Pa_scanWord 91 (.getfield 90) 3 94 := ⟨by decide +kernel, rfl⟩
theorem x_Pa_scanWord_94 : DC b_Pa_scanWord 94 (.invokestatic 96) 3 97 := ⟨by decide +kernel, rfl⟩
theorem x_Pa_scanWord_97 : DC b_Pa_scanWord 97 (.istore_n 3) 1 98 := ⟨by decide +kernel, rfl⟩
theorem x_Pa_scanWord_98 : DC b_Pa_scanWord 98 (.aload_n 0) 1 99 := ⟨by decide +kernel, rfl⟩
theorem x_Pa_scanWord_99 : DC b_Pa_scanWord 99 (.iload_n 3) 1 100 := ⟨by decide +kernel, rfl⟩
theorem x_Pa_scanWord_100 : DC b_Pa_scanWord 100 (.iconst (-1)) 1 101 := ⟨by decide +kernel, rfl⟩
theorem x_Pa_scanWord_101 : DC b_Pa_scanWord 101 (.if_icmp .ne 7) 3 104 := ⟨by decide +kernel, rfl⟩
theorem x_Pa_scanWord_104 : DC b_Pa_scanWord 104 (.iconst 3) 1 105 := ⟨by decide +kernel, rfl⟩
theorem x_Pa_scanWord_105 : DC b_Pa_scanWord 105 (.goto 6) 3 108 := ⟨by decide +kernel, rfl⟩
theorem x_Pa_scanWord_108 : DC b_Pa_scanWord 108 (.iconst 4) 1 109 := ⟨by decide +kernel, rfl⟩
theorem x_Pa_scanWord_109 : DC b_Pa_scanWord 109 (.iload_n 3) 1 110 := ⟨by decide +kernel, rfl⟩
theorem x_Pa_scanWord_110 : DC b_Pa_scanWord 110 (.iadd) 1 111 := ⟨by decide +kernel, rfl⟩
theorem x_Pa_scanWord_111 : DC b_Pa_scanWord 111 (.putfield 48) 3 114 := ⟨by decide +kernel, rfl⟩
theorem x_Pa_scanWord_114 : DC b_Pa_scanWord 114 (.return_) 1 115 := ⟨by decide +kernel, rfl⟩
def k_Pa_scanWord_111 (s1 : Int) (M : Mem) : Res := blet (sto M 55 8 s1) fun M1 => some (0, M1)
theorem z_Pa_scanWord_111 (C : Cx p s m args meth c G b_Pa_scanWord 4 "PrairiePool$Parser" none) (hlev : 5 ≤ lev) {r : Int × Mem}  {s1 : Int} {M : Mem} (h : k_Pa_scanWord_111 s1 M = some r) : Z p l e lev s m args below meth c G 4 (MQ below (Qm G 0 r) args s 0 0 (Ab G)) M 111 [] [vi s1, .ref (G.1 + 55)] := by
  unfold k_Pa_scanWord_111 at h
  obtain ⟨M1, eM1, h⟩ := blet_e h
  refine z_putI (j := 8) C x_Pa_scanWord_111 nk_55 ck_55 cw_4 (i_lt rfl) rfl rfl rfl rfl fl_Pa_48 eM1 ?_
  exact z_vret C x_Pa_scanWord_114 h
def k_Pa_scanWord_85 (s1 : Int) (M : Mem) : Res := blet (sto M 55 11 s1) fun M1 => blet (M1 55 11) fun v2 => bcall (d_Pa_find 0 v2 M1) fun v3 M4 => if w32 v3 = (-1) then (k_Pa_scanWord_111 3 M4) else (k_Pa_scanWord_111 (4 + v3) M4)
theorem z_Pa_scanWord_85 (C : Cx p s m args meth c G b_Pa_scanWord 4 "PrairiePool$Parser" none) (hlev : 5 ≤ lev) {r : Int × Mem}  {s1 : Int} {M : Mem} (h : k_Pa_scanWord_85 s1 M = some r) : Z p l e lev s m args below meth c G 4 (MQ below (Qm G 0 r) args s 0 0 (Ab G)) M 85 [(0, .ref (G.1 + 55))] [vl s1, .ref (G.1 + 55)] := by
  unfold k_Pa_scanWord_85 at h
  obtain ⟨M1, eM1, h⟩ := blet_e h
  refine z_putL (j := 11) C x_Pa_scanWord_85 nk_55 ck_55 cw_4 (i_lt rfl) rfl rfl rfl rfl fl_Pa_90 eM1 ?_
  refine z_ldcS (i := 0) C (by decide) ⟨rfl, rfl⟩ x_Pa_scanWord_88 ?_
  refine z_aload_n C 0 x_Pa_scanWord_90 rfl ?_
  obtain ⟨v2, ev2, h⟩ := blet_e h
  refine z_getL (j := 11) C x_Pa_scanWord_91 nk_55 ck_55 cw_4 (i_lt rfl) rfl rfl fl_Pa_90 ev2 ?_
  obtain ⟨v3, M4, fv3, h⟩ := bcall_e h
  refine z_callSi C x_Pa_scanWord_94 cs_Pa_96 (t_Pa_find (lev := lev - 1) l G (by omega) (by decide) fv3) (by omega) rfl (i_le rfl) rfl ?_
  refine z_istore_n (lv' := [(3, vi v3), (0, .ref (G.1 + 55))]) C rfl x_Pa_scanWord_97 (i_lt rfl) rfl ?_
  refine z_aload_n C 1 x_Pa_scanWord_98 rfl ?_
  refine z_iload_n C 0 x_Pa_scanWord_99 rfl ?_
  refine z_iconst C x_Pa_scanWord_100 ?_
  rcases ite_e h with ⟨c5, h⟩ | ⟨c5, h⟩
  · refine z_icmp_ne_f (tgt := 108) C x_Pa_scanWord_101 rfl c5 ?_
    refine z_iconst C x_Pa_scanWord_104 ?_
    refine z_goto (tgt := 111) C x_Pa_scanWord_105 rfl ?_
    exact z_sub [] rfl (z_Pa_scanWord_111 C hlev h)
  · refine z_icmp_ne_t (tgt := 108) C x_Pa_scanWord_101 rfl c5 ?_
    refine z_iconst C x_Pa_scanWord_108 ?_
    refine z_iload_n C 0 x_Pa_scanWord_109 rfl ?_
    refine z_iadd C x_Pa_scanWord_110 ?_
    exact z_sub [] rfl (z_Pa_scanWord_111 C hlev h)
def k_Pa_scanWord_63 (a1 : Int) (M : Mem) : Res := blet (M 55 7) fun v1 => blet (M 55 9) fun v2 => if 8 < w32 (v1 - v2) then (k_Pa_scanWord_85 (-1) M) else (k_Pa_scanWord_85 a1 M)
theorem z_Pa_scanWord_63 (C : Cx p s m args meth c G b_Pa_scanWord 4 "PrairiePool$Parser" none) (hlev : 5 ≤ lev) {r : Int × Mem}  {a1 : Int} {M : Mem} (h : k_Pa_scanWord_63 a1 M = some r) : Z p l e lev s m args below meth c G 4 (MQ below (Qm G 0 r) args s 0 0 (Ab G)) M 63 [(0, .ref (G.1 + 55)), (1, vl a1)] [] := by
  unfold k_Pa_scanWord_63 at h
  refine z_aload_n C 0 x_Pa_scanWord_63 rfl ?_
  refine z_aload_n C 0 x_Pa_scanWord_64 rfl ?_
  obtain ⟨v1, ev1, h⟩ := blet_e h
  refine z_getI (j := 7) C x_Pa_scanWord_65 nk_55 ck_55 cw_4 (i_lt rfl) rfl rfl fl_Pa_39 ev1 ?_
  refine z_aload_n C 0 x_Pa_scanWord_68 rfl ?_
  obtain ⟨v2, ev2, h⟩ := blet_e h
  refine z_getI (j := 9) C x_Pa_scanWord_69 nk_55 ck_55 cw_4 (i_lt rfl) rfl rfl fl_Pa_64 ev2 ?_
  refine z_isub C x_Pa_scanWord_72 ?_
  refine z_bipush C rfl x_Pa_scanWord_73 ?_
  rcases ite_e h with ⟨c3, h⟩ | ⟨c3, h⟩
  · refine z_icmp_gt_t (tgt := 82) C x_Pa_scanWord_75 rfl c3 ?_
    refine z_ldc2 C kl_Pa_88 x_Pa_scanWord_82 ?_
    exact z_sub [0] rfl (z_Pa_scanWord_85 C hlev h)
  · refine z_icmp_gt_f (tgt := 82) C x_Pa_scanWord_75 rfl c3 ?_
    refine z_lload_n C 1 x_Pa_scanWord_78 rfl ?_
    refine z_goto (tgt := 85) C x_Pa_scanWord_79 rfl ?_
    exact z_sub [0] rfl (z_Pa_scanWord_85 C hlev h)
def k_Pa_scanWord_2 (R2 : Int → Mem → Res) (a1 : Int) (M : Mem) : Res := blet (M 55 7) fun v1 => blet (M 55 6) fun v2 => if w32 v1 < w32 v2 then (blet (M 55 7) fun v4 => chk (0 ≤ w32 v4 ∧ w32 v4 < 500) <| blet (w8 (M 56 (ix v4))) fun v6 => bcall (d_Pa_isLetter v6 M) fun v7 M8 => if w32 v7 = 0 then (k_Pa_scanWord_63 a1 M8) else (blet (M8 55 7) fun v10 => chk (0 ≤ w32 v10 ∧ w32 v10 < 500) <| blet (w8 (M8 56 (ix v10))) fun v12 => blet ((a1 * 27) + (w32 ((v12 - 97) + 1))) fun v13 => blet (M8 55 7) fun v14 => blet (sto M8 55 7 (v14 + 1)) fun M15 => R2 v13 M15)) else (k_Pa_scanWord_63 a1 M)
theorem z_Pa_scanWord_2 (C : Cx p s m args meth c G b_Pa_scanWord 4 "PrairiePool$Parser" none) (hlev : 5 ≤ lev) {r : Int × Mem} {R2 : Int → Mem → Res} (hR2 : ∀ (a1 : Int) (M : Mem), R2 a1 M = some r → Z p l e lev s m args below meth c G 4 (MQ below (Qm G 0 r) args s 0 0 (Ab G)) M 2 [(0, .ref (G.1 + 55)), (1, vl a1)] []) {a1 : Int} {M : Mem} (h : k_Pa_scanWord_2 R2 a1 M = some r) : Z p l e lev s m args below meth c G 4 (MQ below (Qm G 0 r) args s 0 0 (Ab G)) M 2 [(0, .ref (G.1 + 55)), (1, vl a1)] [] := by
  unfold k_Pa_scanWord_2 at h
  refine z_aload_n C 0 x_Pa_scanWord_2 rfl ?_
  obtain ⟨v1, ev1, h⟩ := blet_e h
  refine z_getI (j := 7) C x_Pa_scanWord_3 nk_55 ck_55 cw_4 (i_lt rfl) rfl rfl fl_Pa_39 ev1 ?_
  refine z_aload_n C 0 x_Pa_scanWord_6 rfl ?_
  obtain ⟨v2, ev2, h⟩ := blet_e h
  refine z_getI (j := 6) C x_Pa_scanWord_7 nk_55 ck_55 cw_4 (i_lt rfl) rfl rfl fl_Pa_36 ev2 ?_
  rcases ite_e h with ⟨c3, h⟩ | ⟨c3, h⟩
  · refine z_icmp_ge_f (tgt := 63) C x_Pa_scanWord_10 rfl c3 ?_
    refine z_aload_n C 0 x_Pa_scanWord_13 rfl ?_
    refine z_getR (j := 0) C x_Pa_scanWord_14 nk_55 ck_55 cw_4 (i_lt rfl) rfl rf_55_0 rfl fl_Pa_11 ?_
    refine z_aload_n C 0 x_Pa_scanWord_17 rfl ?_
    obtain ⟨v4, ev4, h⟩ := blet_e h
    refine z_getI (j := 7) C x_Pa_scanWord_18 nk_55 ck_55 cw_4 (i_lt rfl) rfl rfl fl_Pa_39 ev4 ?_
    obtain ⟨c5, h⟩ := chk_e h
    obtain ⟨v6, ev6, h⟩ := blet_e h
    refine z_bald C x_Pa_scanWord_21 nk_56 ck_56 c5 ev6 ?_
    obtain ⟨v7, M8, fv7, h⟩ := bcall_e h
    refine z_callSi C x_Pa_scanWord_22 cs_Pa_67 (t_Pa_isLetter (lev := lev - 1) l G (by omega) fv7) (by omega) rfl (i_le rfl) rfl ?_
    rcases ite_e h with ⟨c9, h⟩ | ⟨c9, h⟩
    · refine z_if_eq_t (tgt := 63) C x_Pa_scanWord_25 rfl c9 ?_
      exact z_sub [0, 1] rfl (z_Pa_scanWord_63 C hlev h)
    · refine z_if_eq_f (tgt := 63) C x_Pa_scanWord_25 rfl c9 ?_
      refine z_lload_n C 1 x_Pa_scanWord_28 rfl ?_
      refine z_ldc2 C kl_Pa_86 x_Pa_scanWord_29 ?_
      refine z_lmul C x_Pa_scanWord_32 ?_
      refine z_aload_n C 0 x_Pa_scanWord_33 rfl ?_
      refine z_getR (j := 0) C x_Pa_scanWord_34 nk_55 ck_55 cw_4 (i_lt rfl) rfl rf_55_0 rfl fl_Pa_11 ?_
      refine z_aload_n C 0 x_Pa_scanWord_37 rfl ?_
      obtain ⟨v10, ev10, h⟩ := blet_e h
      refine z_getI (j := 7) C x_Pa_scanWord_38 nk_55 ck_55 cw_4 (i_lt rfl) rfl rfl fl_Pa_39 ev10 ?_
      obtain ⟨c11, h⟩ := chk_e h
      obtain ⟨v12, ev12, h⟩ := blet_e h
      refine z_bald C x_Pa_scanWord_41 nk_56 ck_56 c11 ev12 ?_
      refine z_bipush C rfl x_Pa_scanWord_42 ?_
      refine z_isub C x_Pa_scanWord_44 ?_
      refine z_iconst C x_Pa_scanWord_45 ?_
      refine z_iadd C x_Pa_scanWord_46 ?_
      refine z_i2l C x_Pa_scanWord_47 ?_
      refine z_ladd C x_Pa_scanWord_48 ?_
      obtain ⟨v13, ev13, h⟩ := blet_e h
      refine z_lstore_n (lv' := [(1, vl v13), (0, .ref (G.1 + 55))]) C ev13 x_Pa_scanWord_49 (i_lt rfl) rfl ?_
      refine z_aload_n C 1 x_Pa_scanWord_50 rfl ?_
      refine z_dup C x_Pa_scanWord_51 rfl ?_
      obtain ⟨v14, ev14, h⟩ := blet_e h
      refine z_getI (j := 7) C x_Pa_scanWord_52 nk_55 ck_55 cw_4 (i_lt rfl) rfl rfl fl_Pa_39 ev14 ?_
      refine z_iconst C x_Pa_scanWord_55 ?_
      refine z_iadd C x_Pa_scanWord_56 ?_
      obtain ⟨M15, eM15, h⟩ := blet_e h
      refine z_putI (j := 7) C x_Pa_scanWord_57 nk_55 ck_55 cw_4 (i_lt rfl) rfl rfl rfl rfl fl_Pa_39 eM15 ?_
      refine z_goto (tgt := 2) C x_Pa_scanWord_60 rfl ?_
      exact z_sub [1, 0] rfl (hR2 v13 M15 h)
  · refine z_icmp_ge_t (tgt := 63) C x_Pa_scanWord_10 rfl c3 ?_
    exact z_sub [0, 1] rfl (z_Pa_scanWord_63 C hlev h)
theorem zl_Pa_scanWord_2 (C : Cx p s m args meth c G b_Pa_scanWord 4 "PrairiePool$Parser" none) (hlev : 5 ≤ lev) {r : Int × Mem}  : ∀ (n : Nat) (a1 : Int) (M : Mem), fix (fun _ _ => none) (k_Pa_scanWord_2) n a1 M = some r → Z p l e lev s m args below meth c G 4 (MQ below (Qm G 0 r) args s 0 0 (Ab G)) M 2 [(0, .ref (G.1 + 55)), (1, vl a1)] [] := by
  intro n
  induction n with
  | zero => intro a1 M h; exact nomatch (show (none : Res) = some r from h)
  | succ n ih => intro a1 M h; exact z_Pa_scanWord_2 C hlev ih h
def d_Pa_scanWord (M : Mem) : Res := fix (fun _ _ => none) (k_Pa_scanWord_2) FU 0 M
theorem t_Pa_scanWord (l : Launch) (G : GX) {lev : Nat} (hlev : 5 ≤ lev) {M : Mem} {r : Int × Mem} (h : d_Pa_scanWord M = some r) : Mt l G y_Pa_scanWord b_Pa_scanWord 4 none lev 0 [.ref (G.1 + 55)] M r := by
  refine Mt.of (by decide) (i_le rfl) ?_
  intro p e s m args below meth c C
  have C : Cx p s m args meth c G b_Pa_scanWord 4 "PrairiePool$Parser" none := C
  unfold d_Pa_scanWord at h
  refine z_sub (lv' := [(0, .ref (G.1 + 55))]) [0] rfl ?_
  refine z_lconst0 C x_Pa_scanWord_0 ?_
  refine z_lstore_n (lv' := [(1, vl 0), (0, .ref (G.1 + 55))]) C rfl x_Pa_scanWord_1 (i_lt rfl) rfl ?_
  exact z_sub [1, 0] rfl (zl_Pa_scanWord_2 C hlev FU 0 M h)
theorem x_Pa_isDigit_0 : DC b_Pa_isDigit 0 (.iload_n 0) 1 1 := ⟨by decide +kernel, rfl⟩
theorem x_Pa_isDigit_1 : DC b_Pa_isDigit 1 (.bipush 48) 2 3 := ⟨by decide +kernel, rfl⟩
theorem x_Pa_isDigit_3 : DC b_Pa_isDigit 3 (.if_icmp .lt 13) 3 6 := ⟨by decide +kernel, rfl⟩
theorem x_Pa_isDigit_6 : DC b_Pa_isDigit 6 (.iload_n 0) 1 7 := ⟨by decide +kernel, rfl⟩
theorem x_Pa_isDigit_7 : DC b_Pa_isDigit 7 (.bipush 57) 2 9 := ⟨by decide +kernel, rfl⟩
theorem x_Pa_isDigit_9 : DC b_Pa_isDigit 9 (.if_icmp .gt 7) 3 12 := ⟨by decide +kernel, rfl⟩
theorem x_Pa_isDigit_12 : DC b_Pa_isDigit 12 (.iconst 1) 1 13 := ⟨by decide +kernel, rfl⟩
theorem x_Pa_isDigit_13 : DC b_Pa_isDigit 13 (.goto 4) 3 16 := ⟨by decide +kernel, rfl⟩
theorem x_Pa_isDigit_16 : DC b_Pa_isDigit 16 (.iconst 0) 1 17 := ⟨by decide +kernel, rfl⟩
theorem x_Pa_isDigit_17 : DC b_Pa_isDigit 17 (.ireturn) 1 18 := ⟨by decide +kernel, rfl⟩
def d_Pa_isDigit (a0 : Int) (M : Mem) : Res := if w32 a0 < 48 then (some (0, M)) else (if 57 < w32 a0 then (some (0, M)) else (some (1, M)))
theorem t_Pa_isDigit (l : Launch) (G : GX) {lev : Nat} (hlev : 0 ≤ lev) {a0 : Int} {M : Mem} {r : Int × Mem} (h : d_Pa_isDigit a0 M = some r) : Mt l G y_Pa_isDigit b_Pa_isDigit 1 (some .boolean) lev 1 [vi a0] M r := by
  refine Mt.of (by decide) (i_le rfl) ?_
  intro p e s m args below meth c C
  have C : Cx p s m args meth c G b_Pa_isDigit 1 "PrairiePool$Parser" (some .boolean) := C
  unfold d_Pa_isDigit at h
  refine z_sub (lv' := [(0, vi a0)]) [0] rfl ?_
  refine z_iload_n C 0 x_Pa_isDigit_0 rfl ?_
  refine z_bipush C rfl x_Pa_isDigit_1 ?_
  rcases ite_e h with ⟨c1, h⟩ | ⟨c1, h⟩
  · refine z_icmp_lt_t (tgt := 16) C x_Pa_isDigit_3 rfl c1 ?_
    refine z_iconst C x_Pa_isDigit_16 ?_
    exact z_zret C x_Pa_isDigit_17 (by decide) h
  · refine z_icmp_lt_f (tgt := 16) C x_Pa_isDigit_3 rfl c1 ?_
    refine z_iload_n C 0 x_Pa_isDigit_6 rfl ?_
    refine z_bipush C rfl x_Pa_isDigit_7 ?_
    rcases ite_e h with ⟨c2, h⟩ | ⟨c2, h⟩
    · refine z_icmp_gt_t (tgt := 16) C x_Pa_isDigit_9 rfl c2 ?_
      refine z_iconst C x_Pa_isDigit_16 ?_
      exact z_zret C x_Pa_isDigit_17 (by decide) h
    · refine z_icmp_gt_f (tgt := 16) C x_Pa_isDigit_9 rfl c2 ?_
      refine z_iconst C x_Pa_isDigit_12 ?_
      refine z_goto (tgt := 17) C x_Pa_isDigit_13 rfl ?_
      exact z_zret C x_Pa_isDigit_17 (by decide) h
theorem x_Pa_fail_0 : DC b_Pa_fail 0 (.aload_n 0) 1 1 := ⟨by decide +kernel, rfl⟩
theorem x_Pa_fail_1 : DC b_Pa_fail 1 (.getfield 17) 3 4 := ⟨by decide +kernel, rfl⟩
theorem x_Pa_fail_4 : DC b_Pa_fail 4 (.ifCond .ne 16) 3 7 := ⟨by decide +kernel, rfl⟩
theorem x_Pa_fail_7 : DC b_Pa_fail 7 (.aload_n 0) 1 8 := ⟨by decide +kernel, rfl⟩
theorem x_Pa_fail_8 : DC b_Pa_fail 8 (.iload_n 1) 1 9 := ⟨by decide +kernel, rfl⟩
theorem x_Pa_fail_9 : DC b_Pa_fail 9 (.putfield 17) 3 12 := ⟨by decide +kernel, rfl⟩
theorem x_Pa_fail_12 : DC b_Pa_fail 12 (.aload_n 0) 1 13 := ⟨by decide +kernel, rfl⟩
theorem x_Pa_fail_13 : DC b_Pa_fail 13 (.aload_n 0) 1 14 := ⟨by decide +kernel, rfl⟩
theorem x_Pa_fail_14 : DC b_Pa_fail 14 (.getfield 64) 3 17 := ⟨by decide +kernel, rfl⟩
theorem x_Pa_fail_17 : DC b_Pa_fail 17 (.putfield 21) 3 20 := ⟨by decide +kernel, rfl⟩
theorem x_Pa_fail_20 : DC b_Pa_fail 20 (.aload_n 0) 1 21 := ⟨by decide +kernel, rfl⟩
theorem x_Pa_fail_21 : DC b_Pa_fail 21 (.iconst 1) 1 22 := ⟨by decide +kernel, rfl⟩
theorem x_Pa_fail_22 : DC b_Pa_fail 22 (.putfield 48) 3 25 := ⟨by decide +kernel, rfl⟩
theorem x_Pa_fail_25 : DC b_Pa_fail 25 (.return_) 1 26 := ⟨by decide +kernel, rfl⟩
def k_Pa_fail_20 (M : Mem) : Res := blet (sto M 55 8 1) fun M1 => some (0, M1)
theorem z_Pa_fail_20 (C : Cx p s m args meth c G b_Pa_fail 2 "PrairiePool$Parser" none) (hlev : 0 ≤ lev) {r : Int × Mem}  {M : Mem} (h : k_Pa_fail_20 M = some r) : Z p l e lev s m args below meth c G 2 (MQ below (Qm G 0 r) args s 0 0 (Ab G)) M 20 [(0, .ref (G.1 + 55))] [] := by
  unfold k_Pa_fail_20 at h
  refine z_aload_n C 0 x_Pa_fail_20 rfl ?_
  refine z_iconst C x_Pa_fail_21 ?_
  obtain ⟨M1, eM1, h⟩ := blet_e h
  refine z_putI (j := 8) C x_Pa_fail_22 nk_55 ck_55 cw_4 (i_lt rfl) rfl rfl rfl rfl fl_Pa_48 eM1 ?_
  exact z_vret C x_Pa_fail_25 h
def d_Pa_fail (a1 : Int) (M : Mem) : Res := blet (M 55 2) fun v1 => if w32 v1 = 0 then (blet (sto M 55 2 a1) fun M3 => blet (M3 55 9) fun v4 => blet (sto M3 55 3 v4) fun M5 => k_Pa_fail_20 M5) else (k_Pa_fail_20 M)
theorem t_Pa_fail (l : Launch) (G : GX) {lev : Nat} (hlev : 0 ≤ lev) {a1 : Int} {M : Mem} {r : Int × Mem} (h : d_Pa_fail a1 M = some r) : Mt l G y_Pa_fail b_Pa_fail 2 none lev 0 [.ref (G.1 + 55), vi a1] M r := by
  refine Mt.of (by decide) (i_le rfl) ?_
  intro p e s m args below meth c C
  have C : Cx p s m args meth c G b_Pa_fail 2 "PrairiePool$Parser" none := C
  unfold d_Pa_fail at h
  refine z_sub (lv' := [(0, .ref (G.1 + 55)), (1, vi a1)]) [0, 1] rfl ?_
  refine z_aload_n C 0 x_Pa_fail_0 rfl ?_
  obtain ⟨v1, ev1, h⟩ := blet_e h
  refine z_getI (j := 2) C x_Pa_fail_1 nk_55 ck_55 cw_4 (i_lt rfl) rfl rfl fl_Pa_17 ev1 ?_
  rcases ite_e h with ⟨c2, h⟩ | ⟨c2, h⟩
  · refine z_if_ne_f (tgt := 20) C x_Pa_fail_4 rfl c2 ?_
    refine z_aload_n C 0 x_Pa_fail_7 rfl ?_
    refine z_iload_n C 1 x_Pa_fail_8 rfl ?_
    obtain ⟨M3, eM3, h⟩ := blet_e h
    refine z_putI (j := 2) C x_Pa_fail_9 nk_55 ck_55 cw_4 (i_lt rfl) rfl rfl rfl rfl fl_Pa_17 eM3 ?_
    refine z_aload_n C 0 x_Pa_fail_12 rfl ?_
    refine z_aload_n C 0 x_Pa_fail_13 rfl ?_
    obtain ⟨v4, ev4, h⟩ := blet_e h
    refine z_getI (j := 9) C x_Pa_fail_14 nk_55 ck_55 cw_4 (i_lt rfl) rfl rfl fl_Pa_64 ev4 ?_
    obtain ⟨M5, eM5, h⟩ := blet_e h
    refine z_putI (j := 3) C x_Pa_fail_17 nk_55 ck_55 cw_4 (i_lt rfl) rfl rfl rfl rfl fl_Pa_21 eM5 ?_
    exact z_sub [0] rfl (z_Pa_fail_20 C hlev h)
  · refine z_if_ne_t (tgt := 20) C x_Pa_fail_4 rfl c2 ?_
    exact z_sub [0] rfl (z_Pa_fail_20 C hlev h)
theorem x_Pa_scanNumber_0 : DC b_Pa_scanNumber 0 (.aload_n 0) 1 1 := ⟨by decide +kernel, rfl⟩
theorem x_Pa_scanNumber_1 : DC b_Pa_scanNumber 1 (.iconst 0) 1 2 := ⟨by decide +kernel, rfl⟩
theorem x_Pa_scanNumber_2 : DC b_Pa_scanNumber 2 (.putfield 100) 3 5 := ⟨by decide +kernel, rfl⟩
theorem x_Pa_scanNumber_5 : DC b_Pa_scanNumber 5 (.aload_n 0) 1 6 := ⟨by decide +kernel, rfl⟩
theorem x_Pa_scanNumber_6 : DC b_Pa_scanNumber 6 (.getfield 39) 3 9 := ⟨by decide +kernel, rfl⟩
theorem x_Pa_scanNumber_9 : DC b_Pa_scanNumber 9 (.aload_n 0) 1 10 := ⟨by decide +kernel, rfl⟩
theorem x_Pa_scanNumber_10 : DC b_Pa_scanNumber 10 (.getfield 36) 3 13 := ⟨by decide +kernel, rfl⟩
theorem x_Pa_scanNumber_13 : DC b_Pa_scanNumber 13 (.if_icmp .ge 55) 3 16 := ⟨by decide +kernel, rfl⟩
theorem x_Pa_scanNumber_16 : DC b_Pa_scanNumber 16 (.aload_n 0) 1 17 := ⟨by decide +kernel, rfl⟩
theorem x_Pa_scanNumber_17 : DC b_Pa_scanNumber 17 (.getfield 11) 3 20 := ⟨by decide +kernel, rfl⟩
theorem x_Pa_scanNumber_20 : DC b_Pa_scanNumber 20 (.aload_n 0) 1 21 := ⟨by decide +kernel, rfl⟩
theorem x_Pa_scanNumber_21 : DC b_Pa_scanNumber 21 (.getfield 39) 3 24 := ⟨by decide +kernel, rfl⟩
theorem x_Pa_scanNumber_24 : DC b_Pa_scanNumber 24 (.baload) 1 25 := ⟨by decide +kernel, rfl⟩
theorem x_Pa_scanNumber_25 : DC b_Pa_scanNumber 25 (.invokestatic 74) 3 28 := ⟨by decide +kernel, rfl⟩
theorem x_Pa_scanNumber_28 : DC b_Pa_scanNumber 28 (.ifCond .eq 40) 3 31 := ⟨by decide +kernel, rfl⟩
theorem x_Pa_scanNumber_31 : DC b_Pa_scanNumber 31 (.aload_n 0) 1 32 := ⟨by decide +kernel, rfl⟩
theorem x_Pa_scanNumber_32 : DC b_Pa_scanNumber 32 (.aload_n 0) 1 33 := ⟨by decide +kernel, rfl⟩
theorem x_Pa_scanNumber_33 : DC b_Pa_scanNumber 33 (.getfield 100) 3 36 := ⟨by decide +kernel, rfl⟩
theorem x_Pa_scanNumber_36 : DC b_Pa_scanNumber 36 (.bipush 10) 2 38 := ⟨by decide +kernel, rfl⟩
theorem x_Pa_scanNumber_38 : DC b_Pa_scanNumber 38 (.imul) 1 39 := ⟨by decide +kernel, rfl⟩
theorem x_Pa_scanNumber_39 : DC b_Pa_scanNumber 39 (.aload_n 0) 1 40 := ⟨by decide +kernel, rfl⟩
theorem x_Pa_scanNumber_40 : DC b_Pa_scanNumber 40 (.getfield 11) 3 43 := ⟨by decide +kernel, rfl⟩
theorem x_Pa_scanNumber_43 : DC b_Pa_scanNumber 43 (.aload_n 0) 1 44 := ⟨by decide +kernel, rfl⟩
theorem x_Pa_scanNumber_44 : DC b_Pa_scanNumber 44 (.getfield 39) 3 47 := ⟨by decide +kernel, rfl⟩
theorem x_Pa_scanNumber_47 : DC b_Pa_scanNumber 47 (.baload) 1 48 := ⟨by decide +kernel, rfl⟩
theorem x_Pa_scanNumber_48 : DC b_Pa_scanNumber 48 (.bipush 48) 2 50 := ⟨by decide +kernel, rfl⟩
theorem x_Pa_scanNumber_50 : DC b_Pa_scanNumber 50 (.isub) 1 51 := ⟨by decide +kernel, rfl⟩
theorem x_Pa_scanNumber_51 : DC b_Pa_scanNumber 51 (.iadd) 1 52 := ⟨by decide +kernel, rfl⟩
theorem x_Pa_scanNumber_52 : DC b_Pa_scanNumber 52 (.putfield 100) 3 55 := ⟨by decide +kernel, rfl⟩
theorem x_Pa_scanNumber_55 : DC b_Pa_scanNumber 55 (.aload_n 0) 1 56 := ⟨by decide +kernel, rfl⟩
theorem x_Pa_scanNumber_56 : DC b_Pa_scanNumber 56 (.dup) 1 57 := ⟨by decide +kernel, rfl⟩
theorem x_Pa_scanNumber_57 : DC b_Pa_scanNumber 57 (.getfield 39) 3 60 := ⟨by decide +kernel, rfl⟩
theorem x_Pa_scanNumber_60 : DC b_Pa_scanNumber 60 (.iconst 1) 1 61 := ⟨by decide +kernel, rfl⟩
theorem x_Pa_scanNumber_61 : DC b_Pa_scanNumber 61 (.iadd) 1 62 := ⟨by decide +kernel, rfl⟩
theorem x_Pa_scanNumber_62 : DC b_Pa_scanNumber 62 (.putfield 39) 3 65 := ⟨by decide +kernel, rfl⟩
theorem x_Pa_scanNumber_65 : DC b_Pa_scanNumber 65 (.goto (-60)) 3 68 := ⟨by decide +kernel, rfl⟩
theorem x_Pa_scanNumber_68 : DC b_Pa_scanNumber 68 (.aload_n 0) 1 69 := ⟨by decide +kernel, rfl⟩
theorem x_Pa_scanNumber_69 : DC b_Pa_scanNumber 69 (.iconst 2) 1 70 := ⟨by decide +kernel, rfl⟩
theorem x_Pa_scanNumber_70 : DC b_Pa_scanNumber 70 (.putfield 48) 3 73 := ⟨by decide +kernel, rfl⟩
theorem x_Pa_scanNumber_73 : DC b_Pa_scanNumber 73 (.aload_n 0) 1 74 := ⟨by decide +kernel, rfl⟩
theorem x_Pa_scanNumber_74 : DC b_Pa_scanNumber 74 (.getfield 39) 3 77 := ⟨by decide +kernel, rfl⟩
theorem x_Pa_scanNumber_77 : DC b_Pa_scanNumber 77 (.aload_n 0) 1 78 := ⟨by decide +kernel, rfl⟩
theorem x_Pa_scanNumber_78 : DC b_Pa_scanNumber 78 (.getfield 64) 3 81 := ⟨by decide +kernel, rfl⟩
theorem x_Pa_scanNumber_81 : DC b_Pa_scanNumber 81 (.isub) 1 82 := ⟨by decide +kernel, rfl⟩
theorem x_Pa_scanNumber_82 : DC b_Pa_scanNumber 82 (.bipush 6) 2 84 := ⟨by decide +kernel, rfl⟩
theorem x_Pa_scanNumber_84 : DC b_Pa_scanNumber 84 (.if_icmp .le 8) 3 87 := ⟨by decide +kernel, rfl⟩
theorem x_Pa_scanNumber_87 : DC b_Pa_scanNumber 87 (.aload_n 0) 1 88 := ⟨by decide +kernel, rfl⟩
theorem x_Pa_scanNumber_88 : DC b_Pa_scanNumber 88 (.iconst 1) 1 89 := ⟨by decide +kernel, rfl⟩
theorem x_Pa_scanNumber_89 : DC b_Pa_scanNumber 89 (.invokevirtual 83) 3 92 := ⟨by decide +kernel, rfl⟩
theorem x_Pa_scanNumber_92 : DC b_Pa_scanNumber 92 (.return_) 1 93 := ⟨by decide +kernel, rfl⟩
def k_Pa_scanNumber_68 (M : Mem) : Res := blet (sto M 55 8 2) fun M1 => blet (M1 55 7) fun v2 => blet (M1 55 9) fun v3 => if 6 < w32 (v2 - v3) then (bcall (d_Pa_fail 1 M1) fun v5 M6 => some (0, M6)) else (some (0, M1))
theorem z_Pa_scanNumber_68 (C : Cx p s m args meth c G b_Pa_scanNumber 1 "PrairiePool$Parser" none) (hlev : 1 ≤ lev) {r : Int × Mem}  {M : Mem} (h : k_Pa_scanNumber_68 M = some r) : Z p l e lev s m args below meth c G 1 (MQ below (Qm G 0 r) args s 0 0 (Ab G)) M 68 [(0, .ref (G.1 + 55))] [] := by
  unfold k_Pa_scanNumber_68 at h
  refine z_aload_n C 0 x_Pa_scanNumber_68 rfl ?_
  refine z_iconst C x_Pa_scanNumber_69 ?_
  obtain ⟨M1, eM1, h⟩ := blet_e h
  refine z_putI (j := 8) C x_Pa_scanNumber_70 nk_55 ck_55 cw_4 (i_lt rfl) rfl rfl rfl rfl fl_Pa_48 eM1 ?_
  refine z_aload_n C 0 x_Pa_scanNumber_73 rfl ?_
  obtain ⟨v2, ev2, h⟩ := blet_e h
  refine z_getI (j := 7) C x_Pa_scanNumber_74 nk_55 ck_55 cw_4 (i_lt rfl) rfl rfl fl_Pa_39 ev2 ?_
  refine z_aload_n C 0 x_Pa_scanNumber_77 rfl ?_
  obtain ⟨v3, ev3, h⟩ := blet_e h
  refine z_getI (j := 9) C x_Pa_scanNumber_78 nk_55 ck_55 cw_4 (i_lt rfl) rfl rfl fl_Pa_64 ev3 ?_
  refine z_isub C x_Pa_scanNumber_81 ?_
  refine z_bipush C rfl x_Pa_scanNumber_82 ?_
  rcases ite_e h with ⟨c4, h⟩ | ⟨c4, h⟩
  · refine z_icmp_le_f (tgt := 92) C x_Pa_scanNumber_84 rfl c4 ?_
    refine z_aload_n C 0 x_Pa_scanNumber_87 rfl ?_
    refine z_iconst C x_Pa_scanNumber_88 ?_
    obtain ⟨v5, M6, fv5, h⟩ := bcall_e h
    refine z_callVv (k := 55) C x_Pa_scanNumber_89 cv_Pa_83 (t_Pa_fail (lev := lev - 1) l G (by omega) fv5) nk_55 ck_55 rfl (by omega) rfl (i_le rfl) rfl ?_
    exact z_vret C x_Pa_scanNumber_92 h
  · refine z_icmp_le_t (tgt := 92) C x_Pa_scanNumber_84 rfl c4 ?_
    exact z_vret C x_Pa_scanNumber_92 h
def k_Pa_scanNumber_5 (R5 : Mem → Res) (M : Mem) : Res := blet (M 55 7) fun v1 => blet (M 55 6) fun v2 => if w32 v1 < w32 v2 then (blet (M 55 7) fun v4 => chk (0 ≤ w32 v4 ∧ w32 v4 < 500) <| blet (w8 (M 56 (ix v4))) fun v6 => bcall (d_Pa_isDigit v6 M) fun v7 M8 => if w32 v7 = 0 then (k_Pa_scanNumber_68 M8) else (blet (M8 55 10) fun v10 => blet (M8 55 7) fun v11 => chk (0 ≤ w32 v11 ∧ w32 v11 < 500) <| blet (w8 (M8 56 (ix v11))) fun v13 => blet (sto M8 55 10 ((v10 * 10) + (v13 - 48))) fun M14 => blet (M14 55 7) fun v15 => blet (sto M14 55 7 (v15 + 1)) fun M16 => R5 M16)) else (k_Pa_scanNumber_68 M)
theorem z_Pa_scanNumber_5 (C : Cx p s m args meth c G b_Pa_scanNumber 1 "PrairiePool$Parser" none) (hlev : 1 ≤ lev) {r : Int × Mem} {R5 : Mem → Res} (hR5 : ∀ (M : Mem), R5 M = some r → Z p l e lev s m args below meth c G 1 (MQ below (Qm G 0 r) args s 0 0 (Ab G)) M 5 [(0, .ref (G.1 + 55))] []) {M : Mem} (h : k_Pa_scanNumber_5 R5 M = some r) : Z p l e lev s m args below meth c G 1 (MQ below (Qm G 0 r) args s 0 0 (Ab G)) M 5 [(0, .ref (G.1 + 55))] [] := by
  unfold k_Pa_scanNumber_5 at h
  refine z_aload_n C 0 x_Pa_scanNumber_5 rfl ?_
  obtain ⟨v1, ev1, h⟩ := blet_e h
  refine z_getI (j := 7) C x_Pa_scanNumber_6 nk_55 ck_55 cw_4 (i_lt rfl) rfl rfl fl_Pa_39 ev1 ?_
  refine z_aload_n C 0 x_Pa_scanNumber_9 rfl ?_
  obtain ⟨v2, ev2, h⟩ := blet_e h
  refine z_getI (j := 6) C x_Pa_scanNumber_10 nk_55 ck_55 cw_4 (i_lt rfl) rfl rfl fl_Pa_36 ev2 ?_
  rcases ite_e h with ⟨c3, h⟩ | ⟨c3, h⟩
  · refine z_icmp_ge_f (tgt := 68) C x_Pa_scanNumber_13 rfl c3 ?_
    refine z_aload_n C 0 x_Pa_scanNumber_16 rfl ?_
    refine z_getR (j := 0) C x_Pa_scanNumber_17 nk_55 ck_55 cw_4 (i_lt rfl) rfl rf_55_0 rfl fl_Pa_11 ?_
    refine z_aload_n C 0 x_Pa_scanNumber_20 rfl ?_
    obtain ⟨v4, ev4, h⟩ := blet_e h
    refine z_getI (j := 7) C x_Pa_scanNumber_21 nk_55 ck_55 cw_4 (i_lt rfl) rfl rfl fl_Pa_39 ev4 ?_
    obtain ⟨c5, h⟩ := chk_e h
    obtain ⟨v6, ev6, h⟩ := blet_e h
    refine z_bald C x_Pa_scanNumber_24 nk_56 ck_56 c5 ev6 ?_
    obtain ⟨v7, M8, fv7, h⟩ := bcall_e h
    refine z_callSi C x_Pa_scanNumber_25 cs_Pa_74 (t_Pa_isDigit (lev := lev - 1) l G (by omega) fv7) (by omega) rfl (i_le rfl) rfl ?_
    rcases ite_e h with ⟨c9, h⟩ | ⟨c9, h⟩
    · refine z_if_eq_t (tgt := 68) C x_Pa_scanNumber_28 rfl c9 ?_
      exact z_sub [0] rfl (z_Pa_scanNumber_68 C hlev h)
    · refine z_if_eq_f (tgt := 68) C x_Pa_scanNumber_28 rfl c9 ?_
      refine z_aload_n C 0 x_Pa_scanNumber_31 rfl ?_
      refine z_aload_n C 0 x_Pa_scanNumber_32 rfl ?_
      obtain ⟨v10, ev10, h⟩ := blet_e h
      refine z_getI (j := 10) C x_Pa_scanNumber_33 nk_55 ck_55 cw_4 (i_lt rfl) rfl rfl fl_Pa_100 ev10 ?_
      refine z_bipush C rfl x_Pa_scanNumber_36 ?_
      refine z_imul C x_Pa_scanNumber_38 ?_
      refine z_aload_n C 0 x_Pa_scanNumber_39 rfl ?_
      refine z_getR (j := 0) C x_Pa_scanNumber_40 nk_55 ck_55 cw_4 (i_lt rfl) rfl rf_55_0 rfl fl_Pa_11 ?_
      refine z_aload_n C 0 x_Pa_scanNumber_43 rfl ?_
      obtain ⟨v11, ev11, h⟩ := blet_e h
      refine z_getI (j := 7) C x_Pa_scanNumber_44 nk_55 ck_55 cw_4 (i_lt rfl) rfl rfl fl_Pa_39 ev11 ?_
      obtain ⟨c12, h⟩ := chk_e h
      obtain ⟨v13, ev13, h⟩ := blet_e h
      refine z_bald C x_Pa_scanNumber_47 nk_56 ck_56 c12 ev13 ?_
      refine z_bipush C rfl x_Pa_scanNumber_48 ?_
      refine z_isub C x_Pa_scanNumber_50 ?_
      refine z_iadd C x_Pa_scanNumber_51 ?_
      obtain ⟨M14, eM14, h⟩ := blet_e h
      refine z_putI (j := 10) C x_Pa_scanNumber_52 nk_55 ck_55 cw_4 (i_lt rfl) rfl rfl rfl rfl fl_Pa_100 eM14 ?_
      refine z_aload_n C 0 x_Pa_scanNumber_55 rfl ?_
      refine z_dup C x_Pa_scanNumber_56 rfl ?_
      obtain ⟨v15, ev15, h⟩ := blet_e h
      refine z_getI (j := 7) C x_Pa_scanNumber_57 nk_55 ck_55 cw_4 (i_lt rfl) rfl rfl fl_Pa_39 ev15 ?_
      refine z_iconst C x_Pa_scanNumber_60 ?_
      refine z_iadd C x_Pa_scanNumber_61 ?_
      obtain ⟨M16, eM16, h⟩ := blet_e h
      refine z_putI (j := 7) C x_Pa_scanNumber_62 nk_55 ck_55 cw_4 (i_lt rfl) rfl rfl rfl rfl fl_Pa_39 eM16 ?_
      refine z_goto (tgt := 5) C x_Pa_scanNumber_65 rfl ?_
      exact z_sub [0] rfl (hR5  M16 h)
  · refine z_icmp_ge_t (tgt := 68) C x_Pa_scanNumber_13 rfl c3 ?_
    exact z_sub [0] rfl (z_Pa_scanNumber_68 C hlev h)
theorem zl_Pa_scanNumber_5 (C : Cx p s m args meth c G b_Pa_scanNumber 1 "PrairiePool$Parser" none) (hlev : 1 ≤ lev) {r : Int × Mem}  : ∀ (n : Nat) (M : Mem), fix (fun _ => none) (k_Pa_scanNumber_5) n M = some r → Z p l e lev s m args below meth c G 1 (MQ below (Qm G 0 r) args s 0 0 (Ab G)) M 5 [(0, .ref (G.1 + 55))] [] := by
  intro n
  induction n with
  | zero => intro M h; exact nomatch (show (none : Res) = some r from h)
  | succ n ih => intro M h; exact z_Pa_scanNumber_5 C hlev ih h
def d_Pa_scanNumber (M : Mem) : Res := blet (sto M 55 10 0) fun M1 => fix (fun _ => none) (k_Pa_scanNumber_5) FU M1
theorem t_Pa_scanNumber (l : Launch) (G : GX) {lev : Nat} (hlev : 1 ≤ lev) {M : Mem} {r : Int × Mem} (h : d_Pa_scanNumber M = some r) : Mt l G y_Pa_scanNumber b_Pa_scanNumber 1 none lev 0 [.ref (G.1 + 55)] M r := by
  refine Mt.of (by decide) (i_le rfl) ?_
  intro p e s m args below meth c C
  have C : Cx p s m args meth c G b_Pa_scanNumber 1 "PrairiePool$Parser" none := C
  unfold d_Pa_scanNumber at h
  refine z_sub (lv' := [(0, .ref (G.1 + 55))]) [0] rfl ?_
  refine z_aload_n C 0 x_Pa_scanNumber_0 rfl ?_
  refine z_iconst C x_Pa_scanNumber_1 ?_
  obtain ⟨M1, eM1, h⟩ := blet_e h
  refine z_putI (j := 10) C x_Pa_scanNumber_2 nk_55 ck_55 cw_4 (i_lt rfl) rfl rfl rfl rfl fl_Pa_100 eM1 ?_
  exact z_sub [0] rfl (zl_Pa_scanNumber_5 C hlev FU  M1 h)
theorem x_Pa_isSign_0 : DC b_Pa_isSign 0 (.iload_n 0) 1 1 := ⟨by decide +kernel, rfl⟩
theorem x_Pa_isSign_1 : DC b_Pa_isSign 1 (.ifCond .le 17) 3 4 := ⟨by decide +kernel, rfl⟩
theorem x_Pa_isSign_4 : DC b_Pa_isSign 4 (.ldc 103) 2 6 := ⟨by decide +kernel, rfl⟩
theorem x_Pa_isSign_6 : DC b_Pa_isSign 6 (.iload_n 0) 1 7 := ⟨by decide +kernel, rfl⟩
theorem x_Pa_isSign_7 : DC b_Pa_isSign 7 (.i2c) 1 8 := ⟨by decide +kernel, rfl⟩
theorem x_Pa_isSign_8 : DC b_Pa_isSign 8 (.invokevirtual 105) 3 11 := ⟨by decide +kernel, rfl⟩
theorem x_Pa_isSign_11 : DC b_Pa_isSign 11 (.ifCond .lt 7) 3 14 := ⟨by decide +kernel, rfl⟩
theorem x_Pa_isSign_14 : DC b_Pa_isSign 14 (.iconst 1) 1 15 := ⟨by decide +kernel, rfl⟩
theorem x_Pa_isSign_15 : DC b_Pa_isSign 15 (.goto 4) 3 18 := ⟨by decide +kernel, rfl⟩
theorem x_Pa_isSign_18 : DC b_Pa_isSign 18 (.iconst 0) 1 19 := ⟨by decide +kernel, rfl⟩
theorem x_Pa_isSign_19 : DC b_Pa_isSign 19 (.ireturn) 1 20 := ⟨by decide +kernel, rfl⟩
def d_Pa_isSign (a0 : Int) (M : Mem) : Res := if 0 < w32 a0 then (bcall (d_St_indexOf0 1 (ch16 a0) M) fun v2 M3 => if w32 v2 < 0 then (some (0, M3)) else (some (1, M3))) else (some (0, M))
theorem t_Pa_isSign (l : Launch) (G : GX) {lev : Nat} (hlev : 4 ≤ lev) {a0 : Int} {M : Mem} {r : Int × Mem} (h : d_Pa_isSign a0 M = some r) : Mt l G y_Pa_isSign b_Pa_isSign 1 (some .boolean) lev 1 [vi a0] M r := by
  refine Mt.of (by decide) (i_le rfl) ?_
  intro p e s m args below meth c C
  have C : Cx p s m args meth c G b_Pa_isSign 1 "PrairiePool$Parser" (some .boolean) := C
  unfold d_Pa_isSign at h
  refine z_sub (lv' := [(0, vi a0)]) [0] rfl ?_
  refine z_iload_n C 0 x_Pa_isSign_0 rfl ?_
  rcases ite_e h with ⟨c1, h⟩ | ⟨c1, h⟩
  · refine z_if_le_f (tgt := 18) C x_Pa_isSign_1 rfl c1 ?_
    refine z_ldcS (i := 1) C (by decide) ⟨rfl, rfl⟩ x_Pa_isSign_4 ?_
    refine z_iload_n C 0 x_Pa_isSign_6 rfl ?_
    refine z_i2c C x_Pa_isSign_7 ?_
    obtain ⟨v2, M3, fv2, h⟩ := bcall_e h
    refine z_callXi (i := 1) C x_Pa_isSign_8 cv_Pa_105 (by decide) (t_St_indexOf0 (lev := lev - 1) l G (by omega) (by decide) fv2) (by omega) rfl (i_le rfl) rfl ?_
    rcases ite_e h with ⟨c4, h⟩ | ⟨c4, h⟩
    · refine z_if_lt_t (tgt := 18) C x_Pa_isSign_11 rfl c4 ?_
      refine z_iconst C x_Pa_isSign_18 ?_
      exact z_zret C x_Pa_isSign_19 (by decide) h
    · refine z_if_lt_f (tgt := 18) C x_Pa_isSign_11 rfl c4 ?_
      refine z_iconst C x_Pa_isSign_14 ?_
      refine z_goto (tgt := 19) C x_Pa_isSign_15 rfl ?_
      exact z_zret C x_Pa_isSign_19 (by decide) h
  · refine z_if_le_t (tgt := 18) C x_Pa_isSign_1 rfl c1 ?_
    refine z_iconst C x_Pa_isSign_18 ?_
    exact z_zret C x_Pa_isSign_19 (by decide) h
theorem x_Pa_advance_0 : DC b_Pa_advance 0 (.aload_n 0) 1 1 := ⟨by decide +kernel, rfl⟩
theorem x_Pa_advance_1 : DC b_Pa_advance 1 (.getfield 17) 3 4 := ⟨by decide +kernel, rfl⟩
theorem x_Pa_advance_4 : DC b_Pa_advance 4 (.ifCond .eq 4) 3 7 := ⟨by decide +kernel, rfl⟩
theorem x_Pa_advance_7 : DC b_Pa_advance 7 (.return_) 1 8 := ⟨by decide +kernel, rfl⟩
theorem x_Pa_advance_8 : DC b_Pa_advance 8 (.aload_n 0) 1 9 := ⟨by decide +kernel, rfl⟩
theorem x_Pa_advance_9 : DC b_Pa_advance 9 (.getfield 39) 3 12 := ⟨by decide +kernel, rfl⟩
theorem x_Pa_advance_12 : DC b_Pa_advance 12 (.aload_n 0) 1 13 := ⟨by decide +kernel, rfl⟩
theorem x_Pa_advance_13 : DC b_Pa_advance 13 (.getfield 36) 3 16 := ⟨by decide +kernel, rfl⟩
theorem x_Pa_advance_16 : DC b_Pa_advance 16 (.if_icmp .ge 44) 3 19 := ⟨by decide +kernel, rfl⟩
theorem x_Pa_advance_19 : DC b_Pa_advance 19 (.aload_n 0) 1 20 := ⟨by decide +kernel, rfl⟩
theorem x_Pa_advance_20 : DC b_Pa_advance 20 (.getfield 11) 3 23 := ⟨by decide +kernel, rfl⟩
theorem x_Pa_advance_23 : DC b_Pa_advance 23 (.aload_n 0) 1 24 := ⟨by decide +kernel, rfl⟩
theorem x_Pa_advance_24 : DC b_Pa_advance 24 (.getfield 39) 3 27 := ⟨by decide +kernel, rfl⟩
theorem x_Pa_advance_27 : DC b_Pa_advance 27 (.baload) 1 28 := ⟨by decide +kernel, rfl⟩
theorem x_Pa_advance_28 : DC b_Pa_advance 28 (.bipush 32) 2 30 := ⟨by decide +kernel, rfl⟩
theorem x_Pa_advance_30 : DC b_Pa_advance 30 (.if_icmp .eq 17) 3 33 := ⟨by decide +kernel, rfl⟩
theorem x_Pa_advance_33 : DC b_Pa_advance 33 (.aload_n 0) 1 34 := ⟨by decide +kernel, rfl⟩
theorem x_Pa_advance_34 : DC b_Pa_advance 34 (.getfield 11) 3 37 := ⟨by decide +kernel, rfl⟩
theorem x_Pa_advance_37 : DC b_Pa_advance 37 (.aload_n 0) 1 38 := ⟨by decide +kernel, rfl⟩
theorem x_Pa_advance_38 : DC b_Pa_advance 38 (.getfield 39) 3 41 := ⟨by decide +kernel, rfl⟩
theorem x_Pa_advance_41 : DC b_Pa_advance 41 (.baload) 1 42 := ⟨by decide +kernel, rfl⟩
theorem x_Pa_advance_42 : DC b_Pa_advance 42 (.bipush 10) 2 44 := ⟨by decide +kernel, rfl⟩
theorem x_Pa_advance_44 : DC b_Pa_advance 44 (.if_icmp .ne 16) 3 47 := ⟨by decide +kernel, rfl⟩
theorem x_Pa_advance_47 : DC b_Pa_advance 47 (.aload_n 0) 1 48 := ⟨by decide +kernel, rfl⟩
theorem x_Pa_advance_48 : DC b_Pa_advance 48 (.dup) 1 49 := ⟨by decide +kernel, rfl⟩
theorem x_Pa_advance_49 : DC b_Pa_advance 49 (.getfield 39) 3 52 := ⟨by decide +kernel, rfl⟩
theorem x_Pa_advance_52 : DC b_Pa_advance 52 (.iconst 1) 1 53 := ⟨by decide +kernel, rfl⟩
theorem x_Pa_advance_53 : DC b_Pa_advance 53 (.iadd) 1 54 := ⟨by decide +kernel, rfl⟩
theorem x_Pa_advance_54 : DC b_Pa_advance 54 (.putfield 39) 3 57 := ⟨by decide +kernel, rfl⟩
theorem x_Pa_advance_57 : DC b_Pa_advance 57 (.goto (-49)) 3 60 := ⟨by decide +kernel, rfl⟩
theorem x_Pa_advance_60 : DC b_Pa_advance 60 (.aload_n 0) 1 61 := ⟨by decide +kernel, rfl⟩
theorem x_Pa_advance_61 : DC b_Pa_advance 61 (.aload_n 0) 1 62 := ⟨by decide +kernel, rfl⟩
theorem x_Pa_advance_62 : DC b_Pa_advance 62 (.getfield 39) 3 65 := ⟨by decide +kernel, rfl⟩
theorem x_Pa_advance_65 : DC b_Pa_advance 65 (.putfield 64) 3 68 := ⟨by decide +kernel, rfl⟩
theorem x_Pa_advance_68 : DC b_Pa_advance 68 (.aload_n 0) 1 69 := ⟨by decide +kernel, rfl⟩
theorem x_Pa_advance_69 : DC b_Pa_advance 69 (.getfield 39) 3 72 := ⟨by decide +kernel, rfl⟩
theorem x_Pa_advance_72 : DC b_Pa_advance 72 (.aload_n 0) 1 73 := ⟨by decide +kernel, rfl⟩
theorem x_Pa_advance_73 : DC b_Pa_advance 73 (.getfield 36) 3 76 := ⟨by decide +kernel, rfl⟩
theorem x_Pa_advance_76 : DC b_Pa_advance 76 (.if_icmp .lt 11) 3 79 := ⟨by decide +kernel, rfl⟩
theorem x_Pa_advance_79 : DC b_Pa_advance 79 (.aload_n 0) 1 80 := ⟨by decide +kernel, rfl⟩
theorem x_Pa_advance_80 : DC b_Pa_advance 80 (.iconst 0) 1 81 := ⟨by decide +kernel, rfl⟩
theorem x_Pa_advance_81 : DC b_Pa_advance 81 (.putfield 48) 3 84 := ⟨by decide +kernel, rfl⟩
theorem x_Pa_advance_84 : DC b_Pa_advance 84 (.goto 93) 3 87 := ⟨by decide +kernel, rfl⟩
theorem x_Pa_advance_87 : DC b_Pa_advance 87 (.aload_n 0) 1 88 := ⟨by decide +kernel, rfl⟩
theorem x_Pa_advance_88 : DC b_Pa_advance 88 (.getfield 11) 3 91 := ⟨by decide +kernel, rfl⟩
theorem x_Pa_advance_91 : DC b_Pa_advance 91 (.aload_n 0) 1 92 := ⟨by decide +kernel, rfl⟩
theorem x_Pa_advance_92 : DC b_Pa_advance 92 (.getfield 39) 3 95 := ⟨by decide +kernel, rfl⟩
theorem x_Pa_advance_95 : DC b_Pa_advance 95 (.baload) 1 96 := ⟨by decide +kernel, rfl⟩
theorem x_Pa_advance_96 : DC b_Pa_advance 96 (.invokestatic 67) 3 99 := ⟨by decide +kernel, rfl⟩
theorem x_Pa_advance_99 : DC b_Pa_advance 99 (.ifCond .eq 10) 3 102 := ⟨by decide +kernel, rfl⟩
theorem x_Pa_advance_102 : DC b_Pa_advance 102 (.aload_n 0) 1 103 := ⟨by decide +kernel, rfl⟩
theorem x_Pa_advance_103 : DC b_Pa_advance 103 (.invokevirtual 71) 3 106 := ⟨by decide +kernel, rfl⟩
theorem x_Pa_advance_106 : DC b_Pa_advance 106 (.goto 71) 3 109 := ⟨by decide +kernel, rfl⟩
theorem x_Pa_advance_109 : DC b_Pa_advance 109 (.aload_n 0) 1 110 := ⟨by decide +kernel, rfl⟩
theorem x_Pa_advance_110 : DC b_Pa_advance 110 (.getfield 11) 3 113 := ⟨by decide +kernel, rfl⟩
theorem x_Pa_advance_113 : DC b_Pa_advance 113 (.aload_n 0) 1 114 := ⟨by decide +kernel, rfl⟩
theorem x_Pa_advance_114 : DC b_Pa_advance 114 (.getfield 39) 3 117 := ⟨by decide +kernel, rfl⟩
theorem x_Pa_advance_117 : DC b_Pa_advance 117 (.baload) 1 118 := ⟨by decide +kernel, rfl⟩
theorem x_Pa_advance_118 : DC b_Pa_advance 118 (.invokestatic 74) 3 121 := ⟨by decide +kernel, rfl⟩
theorem x_Pa_advance_121 : DC b_Pa_advance 121 (.ifCond .eq 10) 3 124 := ⟨by decide +kernel, rfl⟩
theorem x_Pa_advance_124 : DC b_Pa_advance 124 (.aload_n 0) 1 125 := ⟨by decide +kernel, rfl⟩
theorem x_Pa_advance_125 : DC b_Pa_advance 125 (.invokevirtual 77) 3 128 := ⟨by decide +kernel, rfl⟩
theorem x_Pa_advance_128 : DC b_Pa_advance 128 (.goto 49) 3 131 := ⟨by decide +kernel, rfl⟩
theorem x_Pa_advance_131 : DC b_Pa_advance 131 (.aload_n 0) 1 132 := ⟨by decide +kernel, rfl⟩
theorem x_Pa_advance_132 : DC b_Pa_advance 132 (.getfield 11) 3 135 := ⟨by decide +kernel, rfl⟩
theorem x_Pa_advance_135 : DC b_Pa_advance 135 (.aload_n 0) 1 136 := ⟨by decide +kernel, rfl⟩
theorem x_Pa_advance_136 : DC b_Pa_advance 136 (.getfield 39) 3 139 := ⟨by decide +kernel, rfl⟩
theorem x_Pa_advance_139 : DC b_Pa_advance 139 (.baload) 1 140 := ⟨by decide +kernel, rfl⟩
theorem x_Pa_advance_140 : DC b_Pa_advance 140 (.invokestatic 80) 3 143 := ⟨by decide +kernel, rfl⟩
theorem x_Pa_advance_143 : DC b_Pa_advance 143 (.ifCond .eq 29) 3 146 := ⟨by decide +kernel, rfl⟩
theorem x_Pa_advance_146 : DC b_Pa_advance 146 (.aload_n 0) 1 147 := ⟨by decide +kernel, rfl⟩
theorem x_Pa_advance_147 : DC b_Pa_advance 147 (.aload_n 0) 1 148 := ⟨by decide +kernel, rfl⟩
theorem x_Pa_advance_148 : DC b_Pa_advance 148 (.getfield 11) 3 151 := ⟨by decide +kernel, rfl⟩
theorem x_Pa_advance_151 : DC b_Pa_advance 151 (.aload_n 0) 1 152 := ⟨by decide +kernel, rfl⟩
theorem x_Pa_advance_152 : DC b_Pa_advance 152 (.getfield 39) 3 155 := ⟨by decide +kernel, rfl⟩
theorem x_Pa_advance_155 : DC b_Pa_advance 155 (.baload) 1 156 := ⟨by decide +kernel, rfl⟩
theorem x_Pa_advance_156 : DC b_Pa_advance 156 (.putfield 48) 3 159 := ⟨by decide +kernel, rfl⟩
theorem x_Pa_advance_159 : DC b_Pa_advance 159 (.aload_n 0) 1 160 := ⟨by decide +kernel, rfl⟩
theorem x_Pa_advance_160 : DC b_Pa_advance 160 (.dup) 1 161 := ⟨by decide +kernel, rfl⟩
theorem x_Pa_advance_161 : DC b_Pa_advance 161 (.getfield 39) 3 164 := ⟨by decide +kernel, rfl⟩
theorem x_Pa_advance_164 : DC b_Pa_advance 164 (.iconst 1) 1 165 := ⟨by decide +kernel, rfl⟩
theorem x_Pa_advance_165 : DC b_Pa_advance 165 (.iadd) 1 166 := ⟨by decide +kernel, rfl⟩
theorem x_Pa_advance_166 : DC b_Pa_advance 166 (.putfield 39) 3 169 := ⟨by decide +kernel, rfl⟩
theorem x_Pa_advance_169 : DC b_Pa_advance 169 (.goto 8) 3 172 := ⟨by decide +kernel, rfl⟩
theorem x_Pa_advance_172 : DC b_Pa_advance 172 (.aload_n 0) 1 173 := ⟨by decide +kernel, rfl⟩
theorem x_Pa_advance_173 : DC b_Pa_advance 173 (.iconst 1) 1 174 := ⟨by decide +kernel, rfl⟩
theorem x_Pa_advance_174 : DC b_Pa_advance 174 (.invokevirtual 83) 3 177 := ⟨by decide +kernel, rfl⟩
theorem x_Pa_advance_177 : DC b_Pa_advance 177 (.return_) 1 178 := ⟨by decide +kernel, rfl⟩
def k_Pa_advance_60 (M : Mem) : Res := blet (M 55 7) fun v1 => blet (sto M 55 9 v1) fun M2 => blet (M2 55 7) fun v3 => blet (M2 55 6) fun v4 => if w32 v3 < w32 v4 then (blet (M2 55 7) fun v6 => chk (0 ≤ w32 v6 ∧ w32 v6 < 500) <| blet (w8 (M2 56 (ix v6))) fun v8 => bcall (d_Pa_isLetter v8 M2) fun v9 M10 => if w32 v9 = 0 then (blet (M10 55 7) fun v12 => chk (0 ≤ w32 v12 ∧ w32 v12 < 500) <| blet (w8 (M10 56 (ix v12))) fun v14 => bcall (d_Pa_isDigit v14 M10) fun v15 M16 => if w32 v15 = 0 then (blet (M16 55 7) fun v18 => chk (0 ≤ w32 v18 ∧ w32 v18 < 500) <| blet (w8 (M16 56 (ix v18))) fun v20 => bcall (d_Pa_isSign v20 M16) fun v21 M22 => if w32 v21 = 0 then (bcall (d_Pa_fail 1 M22) fun v24 M25 => some (0, M25)) else (blet (M22 55 7) fun v26 => chk (0 ≤ w32 v26 ∧ w32 v26 < 500) <| blet (w8 (M22 56 (ix v26))) fun v28 => blet (sto M22 55 8 v28) fun M29 => blet (M29 55 7) fun v30 => blet (sto M29 55 7 (v30 + 1)) fun M31 => some (0, M31))) else (bcall (d_Pa_scanNumber M16) fun v32 M33 => some (0, M33))) else (bcall (d_Pa_scanWord M10) fun v34 M35 => some (0, M35))) else (blet (sto M2 55 8 0) fun M36 => some (0, M36))
theorem z_Pa_advance_60 (C : Cx p s m args meth c G b_Pa_advance 1 "PrairiePool$Parser" none) (hlev : 6 ≤ lev) {r : Int × Mem}  {M : Mem} (h : k_Pa_advance_60 M = some r) : Z p l e lev s m args below meth c G 1 (MQ below (Qm G 0 r) args s 0 0 (Ab G)) M 60 [(0, .ref (G.1 + 55))] [] := by
  unfold k_Pa_advance_60 at h
  refine z_aload_n C 0 x_Pa_advance_60 rfl ?_
  refine z_aload_n C 0 x_Pa_advance_61 rfl ?_
  obtain ⟨v1, ev1, h⟩ := blet_e h
  refine z_getI (j := 7) C x_Pa_advance_62 nk_55 ck_55 cw_4 (i_lt rfl) rfl rfl fl_Pa_39 ev1 ?_
  obtain ⟨M2, eM2, h⟩ := blet_e h
  refine z_putI (j := 9) C x_Pa_advance_65 nk_55 ck_55 cw_4 (i_lt rfl) rfl rfl rfl rfl fl_Pa_64 eM2 ?_
  refine z_aload_n C 0 x_Pa_advance_68 rfl ?_
  obtain ⟨v3, ev3, h⟩ := blet_e h
  refine z_getI (j := 7) C x_Pa_advance_69 nk_55 ck_55 cw_4 (i_lt rfl) rfl rfl fl_Pa_39 ev3 ?_
  refine z_aload_n C 0 x_Pa_advance_72 rfl ?_
  obtain ⟨v4, ev4, h⟩ := blet_e h
  refine z_getI (j := 6) C x_Pa_advance_73 nk_55 ck_55 cw_4 (i_lt rfl) rfl rfl fl_Pa_36 ev4 ?_
  rcases ite_e h with ⟨c5, h⟩ | ⟨c5, h⟩
  · refine z_icmp_lt_t (tgt := 87) C x_Pa_advance_76 rfl c5 ?_
    refine z_aload_n C 0 x_Pa_advance_87 rfl ?_
    refine z_getR (j := 0) C x_Pa_advance_88 nk_55 ck_55 cw_4 (i_lt rfl) rfl rf_55_0 rfl fl_Pa_11 ?_
    refine z_aload_n C 0 x_Pa_advance_91 rfl ?_
    obtain ⟨v6, ev6, h⟩ := blet_e h
    refine z_getI (j := 7) C x_Pa_advance_92 nk_55 ck_55 cw_4 (i_lt rfl) rfl rfl fl_Pa_39 ev6 ?_
    obtain ⟨c7, h⟩ := chk_e h
    obtain ⟨v8, ev8, h⟩ := blet_e h
    refine z_bald C x_Pa_advance_95 nk_56 ck_56 c7 ev8 ?_
    obtain ⟨v9, M10, fv9, h⟩ := bcall_e h
    refine z_callSi C x_Pa_advance_96 cs_Pa_67 (t_Pa_isLetter (lev := lev - 1) l G (by omega) fv9) (by omega) rfl (i_le rfl) rfl ?_
    rcases ite_e h with ⟨c11, h⟩ | ⟨c11, h⟩
    · refine z_if_eq_t (tgt := 109) C x_Pa_advance_99 rfl c11 ?_
      refine z_aload_n C 0 x_Pa_advance_109 rfl ?_
      refine z_getR (j := 0) C x_Pa_advance_110 nk_55 ck_55 cw_4 (i_lt rfl) rfl rf_55_0 rfl fl_Pa_11 ?_
      refine z_aload_n C 0 x_Pa_advance_113 rfl ?_
      obtain ⟨v12, ev12, h⟩ := blet_e h
      refine z_getI (j := 7) C x_Pa_advance_114 nk_55 ck_55 cw_4 (i_lt rfl) rfl rfl fl_Pa_39 ev12 ?_
      obtain ⟨c13, h⟩ := chk_e h
      obtain ⟨v14, ev14, h⟩ := blet_e h
      refine z_bald C x_Pa_advance_117 nk_56 ck_56 c13 ev14 ?_
      obtain ⟨v15, M16, fv15, h⟩ := bcall_e h
      refine z_callSi C x_Pa_advance_118 cs_Pa_74 (t_Pa_isDigit (lev := lev - 1) l G (by omega) fv15) (by omega) rfl (i_le rfl) rfl ?_
      rcases ite_e h with ⟨c17, h⟩ | ⟨c17, h⟩
      · refine z_if_eq_t (tgt := 131) C x_Pa_advance_121 rfl c17 ?_
        refine z_aload_n C 0 x_Pa_advance_131 rfl ?_
        refine z_getR (j := 0) C x_Pa_advance_132 nk_55 ck_55 cw_4 (i_lt rfl) rfl rf_55_0 rfl fl_Pa_11 ?_
        refine z_aload_n C 0 x_Pa_advance_135 rfl ?_
        obtain ⟨v18, ev18, h⟩ := blet_e h
        refine z_getI (j := 7) C x_Pa_advance_136 nk_55 ck_55 cw_4 (i_lt rfl) rfl rfl fl_Pa_39 ev18 ?_
        obtain ⟨c19, h⟩ := chk_e h
        obtain ⟨v20, ev20, h⟩ := blet_e h
        refine z_bald C x_Pa_advance_139 nk_56 ck_56 c19 ev20 ?_
        obtain ⟨v21, M22, fv21, h⟩ := bcall_e h
        refine z_callSi C x_Pa_advance_140 cs_Pa_80 (t_Pa_isSign (lev := lev - 1) l G (by omega) fv21) (by omega) rfl (i_le rfl) rfl ?_
        rcases ite_e h with ⟨c23, h⟩ | ⟨c23, h⟩
        · refine z_if_eq_t (tgt := 172) C x_Pa_advance_143 rfl c23 ?_
          refine z_aload_n C 0 x_Pa_advance_172 rfl ?_
          refine z_iconst C x_Pa_advance_173 ?_
          obtain ⟨v24, M25, fv24, h⟩ := bcall_e h
          refine z_callVv (k := 55) C x_Pa_advance_174 cv_Pa_83 (t_Pa_fail (lev := lev - 1) l G (by omega) fv24) nk_55 ck_55 rfl (by omega) rfl (i_le rfl) rfl ?_
          exact z_vret C x_Pa_advance_177 h
        · refine z_if_eq_f (tgt := 172) C x_Pa_advance_143 rfl c23 ?_
          refine z_aload_n C 0 x_Pa_advance_146 rfl ?_
          refine z_aload_n C 0 x_Pa_advance_147 rfl ?_
          refine z_getR (j := 0) C x_Pa_advance_148 nk_55 ck_55 cw_4 (i_lt rfl) rfl rf_55_0 rfl fl_Pa_11 ?_
          refine z_aload_n C 0 x_Pa_advance_151 rfl ?_
          obtain ⟨v26, ev26, h⟩ := blet_e h
          refine z_getI (j := 7) C x_Pa_advance_152 nk_55 ck_55 cw_4 (i_lt rfl) rfl rfl fl_Pa_39 ev26 ?_
          obtain ⟨c27, h⟩ := chk_e h
          obtain ⟨v28, ev28, h⟩ := blet_e h
          refine z_bald C x_Pa_advance_155 nk_56 ck_56 c27 ev28 ?_
          obtain ⟨M29, eM29, h⟩ := blet_e h
          refine z_putI (j := 8) C x_Pa_advance_156 nk_55 ck_55 cw_4 (i_lt rfl) rfl rfl rfl rfl fl_Pa_48 eM29 ?_
          refine z_aload_n C 0 x_Pa_advance_159 rfl ?_
          refine z_dup C x_Pa_advance_160 rfl ?_
          obtain ⟨v30, ev30, h⟩ := blet_e h
          refine z_getI (j := 7) C x_Pa_advance_161 nk_55 ck_55 cw_4 (i_lt rfl) rfl rfl fl_Pa_39 ev30 ?_
          refine z_iconst C x_Pa_advance_164 ?_
          refine z_iadd C x_Pa_advance_165 ?_
          obtain ⟨M31, eM31, h⟩ := blet_e h
          refine z_putI (j := 7) C x_Pa_advance_166 nk_55 ck_55 cw_4 (i_lt rfl) rfl rfl rfl rfl fl_Pa_39 eM31 ?_
          refine z_goto (tgt := 177) C x_Pa_advance_169 rfl ?_
          exact z_vret C x_Pa_advance_177 h
      · refine z_if_eq_f (tgt := 131) C x_Pa_advance_121 rfl c17 ?_
        refine z_aload_n C 0 x_Pa_advance_124 rfl ?_
        obtain ⟨v32, M33, fv32, h⟩ := bcall_e h
        refine z_callVv (k := 55) C x_Pa_advance_125 cv_Pa_77 (t_Pa_scanNumber (lev := lev - 1) l G (by omega) fv32) nk_55 ck_55 rfl (by omega) rfl (i_le rfl) rfl ?_
        refine z_goto (tgt := 177) C x_Pa_advance_128 rfl ?_
        exact z_vret C x_Pa_advance_177 h
    · refine z_if_eq_f (tgt := 109) C x_Pa_advance_99 rfl c11 ?_
      refine z_aload_n C 0 x_Pa_advance_102 rfl ?_
      obtain ⟨v34, M35, fv34, h⟩ := bcall_e h
      refine z_callVv (k := 55) C x_Pa_advance_103 cv_Pa_71 (t_Pa_scanWord (lev := lev - 1) l G (by omega) fv34) nk_55 ck_55 rfl (by omega) rfl (i_le rfl) rfl ?_
      refine z_goto (tgt := 177) C x_Pa_advance_106 rfl ?_
      exact z_vret C x_Pa_advance_177 h
  · refine z_icmp_lt_f (tgt := 87) C x_Pa_advance_76 rfl c5 ?_
    refine z_aload_n C 0 x_Pa_advance_79 rfl ?_
    refine z_iconst C x_Pa_advance_80 ?_
    obtain ⟨M36, eM36, h⟩ := blet_e h
    refine z_putI (j := 8) C x_Pa_advance_81 nk_55 ck_55 cw_4 (i_lt rfl) rfl rfl rfl rfl fl_Pa_48 eM36 ?_
    refine z_goto (tgt := 177) C x_Pa_advance_84 rfl ?_
    exact z_vret C x_Pa_advance_177 h
def k_Pa_advance_47 (R8 : Mem → Res) (M : Mem) : Res := blet (M 55 7) fun v1 => blet (sto M 55 7 (v1 + 1)) fun M2 => R8 M2
theorem z_Pa_advance_47 (C : Cx p s m args meth c G b_Pa_advance 1 "PrairiePool$Parser" none) (hlev : 6 ≤ lev) {r : Int × Mem} {R8 : Mem → Res} (hR8 : ∀ (M : Mem), R8 M = some r → Z p l e lev s m args below meth c G 1 (MQ below (Qm G 0 r) args s 0 0 (Ab G)) M 8 [(0, .ref (G.1 + 55))] []) {M : Mem} (h : k_Pa_advance_47 R8 M = some r) : Z p l e lev s m args below meth c G 1 (MQ below (Qm G 0 r) args s 0 0 (Ab G)) M 47 [(0, .ref (G.1 + 55))] [] := by
  unfold k_Pa_advance_47 at h
  refine z_aload_n C 0 x_Pa_advance_47 rfl ?_
  refine z_dup C x_Pa_advance_48 rfl ?_
  obtain ⟨v1, ev1, h⟩ := blet_e h
  refine z_getI (j := 7) C x_Pa_advance_49 nk_55 ck_55 cw_4 (i_lt rfl) rfl rfl fl_Pa_39 ev1 ?_
  refine z_iconst C x_Pa_advance_52 ?_
  refine z_iadd C x_Pa_advance_53 ?_
  obtain ⟨M2, eM2, h⟩ := blet_e h
  refine z_putI (j := 7) C x_Pa_advance_54 nk_55 ck_55 cw_4 (i_lt rfl) rfl rfl rfl rfl fl_Pa_39 eM2 ?_
  refine z_goto (tgt := 8) C x_Pa_advance_57 rfl ?_
  exact z_sub [0] rfl (hR8  M2 h)
def k_Pa_advance_8 (R8 : Mem → Res) (M : Mem) : Res := blet (M 55 7) fun v1 => blet (M 55 6) fun v2 => if w32 v1 < w32 v2 then (blet (M 55 7) fun v4 => chk (0 ≤ w32 v4 ∧ w32 v4 < 500) <| blet (w8 (M 56 (ix v4))) fun v6 => if w32 v6 = 32 then (k_Pa_advance_47 R8 M) else (blet (M 55 7) fun v8 => chk (0 ≤ w32 v8 ∧ w32 v8 < 500) <| blet (w8 (M 56 (ix v8))) fun v10 => if w32 v10 = 10 then (k_Pa_advance_47 R8 M) else (k_Pa_advance_60 M))) else (k_Pa_advance_60 M)
theorem z_Pa_advance_8 (C : Cx p s m args meth c G b_Pa_advance 1 "PrairiePool$Parser" none) (hlev : 6 ≤ lev) {r : Int × Mem} {R8 : Mem → Res} (hR8 : ∀ (M : Mem), R8 M = some r → Z p l e lev s m args below meth c G 1 (MQ below (Qm G 0 r) args s 0 0 (Ab G)) M 8 [(0, .ref (G.1 + 55))] []) {M : Mem} (h : k_Pa_advance_8 R8 M = some r) : Z p l e lev s m args below meth c G 1 (MQ below (Qm G 0 r) args s 0 0 (Ab G)) M 8 [(0, .ref (G.1 + 55))] [] := by
  unfold k_Pa_advance_8 at h
  refine z_aload_n C 0 x_Pa_advance_8 rfl ?_
  obtain ⟨v1, ev1, h⟩ := blet_e h
  refine z_getI (j := 7) C x_Pa_advance_9 nk_55 ck_55 cw_4 (i_lt rfl) rfl rfl fl_Pa_39 ev1 ?_
  refine z_aload_n C 0 x_Pa_advance_12 rfl ?_
  obtain ⟨v2, ev2, h⟩ := blet_e h
  refine z_getI (j := 6) C x_Pa_advance_13 nk_55 ck_55 cw_4 (i_lt rfl) rfl rfl fl_Pa_36 ev2 ?_
  rcases ite_e h with ⟨c3, h⟩ | ⟨c3, h⟩
  · refine z_icmp_ge_f (tgt := 60) C x_Pa_advance_16 rfl c3 ?_
    refine z_aload_n C 0 x_Pa_advance_19 rfl ?_
    refine z_getR (j := 0) C x_Pa_advance_20 nk_55 ck_55 cw_4 (i_lt rfl) rfl rf_55_0 rfl fl_Pa_11 ?_
    refine z_aload_n C 0 x_Pa_advance_23 rfl ?_
    obtain ⟨v4, ev4, h⟩ := blet_e h
    refine z_getI (j := 7) C x_Pa_advance_24 nk_55 ck_55 cw_4 (i_lt rfl) rfl rfl fl_Pa_39 ev4 ?_
    obtain ⟨c5, h⟩ := chk_e h
    obtain ⟨v6, ev6, h⟩ := blet_e h
    refine z_bald C x_Pa_advance_27 nk_56 ck_56 c5 ev6 ?_
    refine z_bipush C rfl x_Pa_advance_28 ?_
    rcases ite_e h with ⟨c7, h⟩ | ⟨c7, h⟩
    · refine z_icmp_eq_t (tgt := 47) C x_Pa_advance_30 rfl c7 ?_
      exact z_sub [0] rfl (z_Pa_advance_47 C hlev hR8 h)
    · refine z_icmp_eq_f (tgt := 47) C x_Pa_advance_30 rfl c7 ?_
      refine z_aload_n C 0 x_Pa_advance_33 rfl ?_
      refine z_getR (j := 0) C x_Pa_advance_34 nk_55 ck_55 cw_4 (i_lt rfl) rfl rf_55_0 rfl fl_Pa_11 ?_
      refine z_aload_n C 0 x_Pa_advance_37 rfl ?_
      obtain ⟨v8, ev8, h⟩ := blet_e h
      refine z_getI (j := 7) C x_Pa_advance_38 nk_55 ck_55 cw_4 (i_lt rfl) rfl rfl fl_Pa_39 ev8 ?_
      obtain ⟨c9, h⟩ := chk_e h
      obtain ⟨v10, ev10, h⟩ := blet_e h
      refine z_bald C x_Pa_advance_41 nk_56 ck_56 c9 ev10 ?_
      refine z_bipush C rfl x_Pa_advance_42 ?_
      rcases ite_e h with ⟨c11, h⟩ | ⟨c11, h⟩
      · refine z_icmp_ne_f (tgt := 60) C x_Pa_advance_44 rfl c11 ?_
        exact z_sub [0] rfl (z_Pa_advance_47 C hlev hR8 h)
      · refine z_icmp_ne_t (tgt := 60) C x_Pa_advance_44 rfl c11 ?_
        exact z_sub [0] rfl (z_Pa_advance_60 C hlev h)
  · refine z_icmp_ge_t (tgt := 60) C x_Pa_advance_16 rfl c3 ?_
    exact z_sub [0] rfl (z_Pa_advance_60 C hlev h)
theorem zl_Pa_advance_8 (C : Cx p s m args meth c G b_Pa_advance 1 "PrairiePool$Parser" none) (hlev : 6 ≤ lev) {r : Int × Mem}  : ∀ (n : Nat) (M : Mem), fix (fun _ => none) (k_Pa_advance_8) n M = some r → Z p l e lev s m args below meth c G 1 (MQ below (Qm G 0 r) args s 0 0 (Ab G)) M 8 [(0, .ref (G.1 + 55))] [] := by
  intro n
  induction n with
  | zero => intro M h; exact nomatch (show (none : Res) = some r from h)
  | succ n ih => intro M h; exact z_Pa_advance_8 C hlev ih h
def d_Pa_advance (M : Mem) : Res := blet (M 55 2) fun v1 => if w32 v1 = 0 then (fix (fun _ => none) (k_Pa_advance_8) FU M) else (some (0, M))
theorem t_Pa_advance (l : Launch) (G : GX) {lev : Nat} (hlev : 6 ≤ lev) {M : Mem} {r : Int × Mem} (h : d_Pa_advance M = some r) : Mt l G y_Pa_advance b_Pa_advance 1 none lev 0 [.ref (G.1 + 55)] M r := by
  refine Mt.of (by decide) (i_le rfl) ?_
  intro p e s m args below meth c C
  have C : Cx p s m args meth c G b_Pa_advance 1 "PrairiePool$Parser" none := C
  unfold d_Pa_advance at h
  refine z_sub (lv' := [(0, .ref (G.1 + 55))]) [0] rfl ?_
  refine z_aload_n C 0 x_Pa_advance_0 rfl ?_
  obtain ⟨v1, ev1, h⟩ := blet_e h
  refine z_getI (j := 2) C x_Pa_advance_1 nk_55 ck_55 cw_4 (i_lt rfl) rfl rfl fl_Pa_17 ev1 ?_
  rcases ite_e h with ⟨c2, h⟩ | ⟨c2, h⟩
  · refine z_if_eq_t (tgt := 8) C x_Pa_advance_4 rfl c2 ?_
    exact z_sub [0] rfl (zl_Pa_advance_8 C hlev FU  M h)
  · refine z_if_eq_f (tgt := 8) C x_Pa_advance_4 rfl c2 ?_
    exact z_vret C x_Pa_advance_7 h
theorem x_Pa_findDef_0 : DC b_Pa_findDef 0 (.iconst 0) 1 1 := ⟨by decide +kernel, rfl⟩
theorem x_Pa_findDef_1 : DC b_Pa_findDef 1 (.istore_n 3) 1 2 := ⟨by decide +kernel, rfl⟩
theorem x_Pa_findDef_2 : DC b_Pa_findDef 2 (.iload_n 3) 1 3 := ⟨by decide +kernel, rfl⟩
theorem x_Pa_findDef_3 : DC b_Pa_findDef 3 (.aload_n 0) 1 4 := ⟨by decide +kernel, rfl⟩
theorem x_Pa_findDef_4 : DC b_Pa_findDef 4 (.getfield 25) 3 7 := ⟨by decide +kernel, rfl⟩
theorem x_Pa_findDef_7 : DC b_Pa_findDef 7 (.getfield 120) 3 10 := ⟨by decide +kernel, rfl⟩
theorem x_Pa_findDef_10 : DC b_Pa_findDef 10 (.if_icmp .ge 22) 3 13 := ⟨by decide +kernel, rfl⟩
theorem x_Pa_findDef_13 : DC b_Pa_findDef 13 (.aload_n 0) 1 14 := ⟨by decide +kernel, rfl⟩
theorem x_Pa_findDef_14 : DC b_Pa_findDef 14 (.getfield 29) 3 17 := ⟨by decide +kernel, rfl⟩
theorem x_Pa_findDef_17 : DC b_Pa_findDef 17 (.iload_n 3) 1 18 := ⟨by decide +kernel, rfl⟩
theorem x_Pa_findDef_18 : DC b_Pa_findDef 18 (.laload) 1 19 := ⟨by decide +kernel, rfl⟩
theorem x_Pa_findDef_19 : DC b_Pa_findDef 19 (.lload_n 1) 1 20 := ⟨by decide +kernel, rfl⟩
theorem x_Pa_findDef_20 : DC b_Pa_findDef 20 (.lcmp) 1 21 := ⟨by decide +kernel, rfl⟩
theorem x_Pa_findDef_21 : DC b_Pa_findDef 21 (.ifCond .ne 5) 3 24 := ⟨by decide +kernel, rfl⟩
theorem x_Pa_findDef_24 : DC b_Pa_findDef 24 (.iload_n 3) 1 25 := ⟨by decide +kernel, rfl⟩
theorem x_Pa_findDef_25 : DC b_Pa_findDef 25 (.ireturn) 1 26 := ⟨by decide +kernel, rfl⟩
theorem x_Pa_findDef_26 : DC b_Pa_findDef 26 (.iinc 3 1) 3 29 := ⟨by decide +kernel, rfl⟩
theorem x_Pa_findDef_29 : DC b_Pa_findDef 29 (.goto (-27)) 3 32 := ⟨by decide +kernel, rfl⟩
theorem x_Pa_findDef_32 : DC b_Pa_findDef 32 (.iconst (-1)) 1 33 := ⟨by decide +kernel, rfl⟩
theorem x_Pa_findDef_33 : DC b_Pa_findDef 33 (.ireturn) 1 34 := ⟨by decide +kernel, rfl⟩
def k_Pa_findDef_2 (R2 : Int → Int → Mem → Res) (a1 a3 : Int) (M : Mem) : Res := blet (M 57 1) fun v1 => if w32 a3 < w32 v1 then (chk (0 ≤ w32 a3 ∧ w32 a3 < 10) <| blet (M 61 (ix a3)) fun v4 => if w64 v4 = w64 a1 then (some (a3, M)) else (blet (a3 + 1) fun v6 => R2 a1 v6 M)) else (some ((-1), M))
theorem z_Pa_findDef_2 (C : Cx p s m args meth c G b_Pa_findDef 4 "PrairiePool$Parser" (some .int)) (hlev : 0 ≤ lev) {r : Int × Mem} {R2 : Int → Int → Mem → Res} (hR2 : ∀ (a1 a3 : Int) (M : Mem), R2 a1 a3 M = some r → Z p l e lev s m args below meth c G 4 (MQ below (Qm G 1 r) args s 0 0 (Ab G)) M 2 [(0, .ref (G.1 + 55)), (1, vl a1), (3, vi a3)] []) {a1 a3 : Int} {M : Mem} (h : k_Pa_findDef_2 R2 a1 a3 M = some r) : Z p l e lev s m args below meth c G 4 (MQ below (Qm G 1 r) args s 0 0 (Ab G)) M 2 [(0, .ref (G.1 + 55)), (1, vl a1), (3, vi a3)] [] := by
  unfold k_Pa_findDef_2 at h
  refine z_iload_n C 2 x_Pa_findDef_2 rfl ?_
  refine z_aload_n C 0 x_Pa_findDef_3 rfl ?_
  refine z_getR (j := 4) C x_Pa_findDef_4 nk_55 ck_55 cw_4 (i_lt rfl) rfl rf_55_4 rfl fl_Pa_25 ?_
  obtain ⟨v1, ev1, h⟩ := blet_e h
  refine z_getI (j := 1) C x_Pa_findDef_7 nk_57 ck_57 cw_8 (i_lt rfl) rfl rfl fl_Pa_120 ev1 ?_
  rcases ite_e h with ⟨c2, h⟩ | ⟨c2, h⟩
  · refine z_icmp_ge_f (tgt := 32) C x_Pa_findDef_10 rfl c2 ?_
    refine z_aload_n C 0 x_Pa_findDef_13 rfl ?_
    refine z_getR (j := 5) C x_Pa_findDef_14 nk_55 ck_55 cw_4 (i_lt rfl) rfl rf_55_5 rfl fl_Pa_29 ?_
    refine z_iload_n C 2 x_Pa_findDef_17 rfl ?_
    obtain ⟨c3, h⟩ := chk_e h
    obtain ⟨v4, ev4, h⟩ := blet_e h
    refine z_lald C x_Pa_findDef_18 nk_61 ck_61 c3 ev4 ?_
    refine z_lload_n C 1 x_Pa_findDef_19 rfl ?_
    refine z_lcmp C x_Pa_findDef_20 ?_
    rcases ite_e h with ⟨c5, h⟩ | ⟨c5, h⟩
    · refine z_if_ne_f (tgt := 26) C x_Pa_findDef_21 rfl (cm_eqz.mpr c5) ?_
      refine z_iload_n C 2 x_Pa_findDef_24 rfl ?_
      exact z_iret C x_Pa_findDef_25 h
    · refine z_if_ne_t (tgt := 26) C x_Pa_findDef_21 rfl (fun q => c5 (cm_eqz.mp q)) ?_
      obtain ⟨v6, ev6, h⟩ := blet_e h
      refine z_iinc (lv' := [(3, vi v6), (0, .ref (G.1 + 55)), (1, vl a1)]) C 2 ev6 x_Pa_findDef_26 rfl (i_lt rfl) rfl ?_
      refine z_goto (tgt := 2) C x_Pa_findDef_29 rfl ?_
      exact z_sub [1, 2, 0] rfl (hR2 a1 v6 M h)
  · refine z_icmp_ge_t (tgt := 32) C x_Pa_findDef_10 rfl c2 ?_
    refine z_iconst C x_Pa_findDef_32 ?_
    exact z_iret C x_Pa_findDef_33 h
theorem zl_Pa_findDef_2 (C : Cx p s m args meth c G b_Pa_findDef 4 "PrairiePool$Parser" (some .int)) (hlev : 0 ≤ lev) {r : Int × Mem}  : ∀ (n : Nat) (a1 a3 : Int) (M : Mem), fix (fun _ _ _ => none) (k_Pa_findDef_2) n a1 a3 M = some r → Z p l e lev s m args below meth c G 4 (MQ below (Qm G 1 r) args s 0 0 (Ab G)) M 2 [(0, .ref (G.1 + 55)), (1, vl a1), (3, vi a3)] [] := by
  intro n
  induction n with
  | zero => intro a1 a3 M h; exact nomatch (show (none : Res) = some r from h)
  | succ n ih => intro a1 a3 M h; exact z_Pa_findDef_2 C hlev ih h
def d_Pa_findDef (a1 : Int) (M : Mem) : Res := fix (fun _ _ _ => none) (k_Pa_findDef_2) FU a1 0 M
theorem t_Pa_findDef (l : Launch) (G : GX) {lev : Nat} (hlev : 0 ≤ lev) {a1 : Int} {M : Mem} {r : Int × Mem} (h : d_Pa_findDef a1 M = some r) : Mt l G y_Pa_findDef b_Pa_findDef 4 (some .int) lev 1 [.ref (G.1 + 55), vl a1] M r := by
  refine Mt.of (by decide) (i_le rfl) ?_
  intro p e s m args below meth c C
  have C : Cx p s m args meth c G b_Pa_findDef 4 "PrairiePool$Parser" (some .int) := C
  unfold d_Pa_findDef at h
  refine z_sub (lv' := [(0, .ref (G.1 + 55)), (1, vl a1)]) [0, 1] rfl ?_
  refine z_iconst C x_Pa_findDef_0 ?_
  refine z_istore_n (lv' := [(3, vi 0), (0, .ref (G.1 + 55)), (1, vl a1)]) C rfl x_Pa_findDef_1 (i_lt rfl) rfl ?_
  exact z_sub [1, 2, 0] rfl (zl_Pa_findDef_2 C hlev FU a1 0 M h)
theorem x_Pa_parseName_0 : DC b_Pa_parseName 0 (.aload_n 0) 1 1 := ⟨by decide +kernel, rfl⟩
theorem x_Pa_parseName_1 : DC b_Pa_parseName 1 (.getfield 48) 3 4 := ⟨by decide +kernel, rfl⟩
theorem x_Pa_parseName_4 : DC b_Pa_parseName 4 (.iconst 3) 1 5 := ⟨by decide +kernel, rfl⟩
theorem x_Pa_parseName_5 : DC b_Pa_parseName 5 (.if_icmp .ne 31) 3 8 := ⟨by decide +kernel, rfl⟩
theorem x_Pa_parseName_8 : DC b_Pa_parseName 8 (.aload_n 0) 1 9 := ⟨by decide +kernel, rfl⟩
theorem x_Pa_parseName_9 : DC b_Pa_parseName 9 (.getfield 90) 3 12 := ⟨by decide +kernel, rfl⟩
theorem x_Pa_parseName_12 : DC b_Pa_parseName 12 (.ldc2_w 88) 3 15 := ⟨by decide +kernel, rfl⟩
theorem x_Pa_parseName_15 : DC b_Pa_parseName 15 (.lcmp) 1 16 := ⟨by decide +kernel, rfl⟩
theorem x_Pa_parseName_16 : DC b_Pa_parseName 16 (.ifCond .eq 20) 3 19 := ⟨by decide +kernel, rfl⟩
theorem x_Pa_parseName_19 : DC b_Pa_parseName 19 (.ldc 118) 2 21 := ⟨by decide +kernel, rfl⟩
theorem x_Pa_parseName_21 : DC b_Pa_parseName 21 (.aload_n 0) 1 22 := ⟨by decide +kernel, rfl⟩
theorem x_Pa_parseName_22 : DC b_Pa_parseName 22 (.getfield 90) 3 25 := ⟨by decide +kernel, rfl⟩
theorem x_Pa_parseName_25 : DC b_Pa_parseName 25 (.invokestatic 96) 3 28 := ⟨by decide +kernel, rfl⟩
theorem x_Pa_parseName_28 : DC b_Pa_parseName 28 (.iconst (-1)) 1 29 := ⟨by decide +kernel, rfl⟩
theorem x_Pa_parseName_29 : DC b_Pa_parseName 29 (.if_icmp .ne 7) 3 32 := ⟨by decide +kernel, rfl⟩
theorem x_Pa_parseName_32 : DC b_Pa_parseName 32 (.iconst 1) 1 33 := ⟨by decide +kernel, rfl⟩
theorem x_Pa_parseName_33 : DC b_Pa_parseName 33 (.goto 4) 3 36 := ⟨by decide +kernel, rfl⟩
theorem x_Pa_parseName_36 : DC b_Pa_parseName 36 (.iconst 0) 1 37 := ⟨by decide +kernel, rfl⟩
theorem x_Pa_parseName_37 : DC b_Pa_parseName 37 (.istore_n 1) 1 38 := ⟨by decide +kernel, rfl⟩
theorem x_Pa_parseName_38 : DC b_Pa_parseName 38 (.iload_n 1) 1 39 := ⟨by decide +kernel, rfl⟩
theorem x_Pa_parseName_39 : DC b_Pa_parseName 39 (.ifCond .ne 11) 3 42 := ⟨by decide +kernel, rfl⟩
theorem x_Pa_parseName_42 : DC b_Pa_parseName 42 (.aload_n 0) 1 43 := ⟨by decide +kernel, rfl⟩
theorem x_Pa_parseName_43 : DC b_Pa_parseName 43 (.iconst 2) 1 44 := ⟨by decide +kernel, rfl⟩
theorem x_Pa_parseName_44 : DC b_Pa_parseName 44 (.invokevirtual 83) 3 47 := ⟨by decide +kernel, rfl⟩
theorem x_Pa_parseName_47 : DC b_Pa_parseName 47 (.goto 94) 3 50 := ⟨by decide +kernel, rfl⟩
theorem x_Pa_parseName_50 : DC b_Pa_parseName 50 (.aload_n 0) 1 51 := ⟨by decide +kernel, rfl⟩
theorem x_Pa_parseName_51 : DC b_Pa_parseName 51 (.getfield 25) 3 54 := ⟨by decide +kernel, rfl⟩
theorem x_Pa_parseName_54 : DC b_Pa_parseName 54 (.getfield 120) 3 57 := ⟨by decide +kernel, rfl⟩
theorem x_Pa_parseName_57 : DC b_Pa_parseName 57 (.bipush 10) 2 59 := ⟨by decide +kernel, rfl⟩
theorem x_Pa_parseName_59 : DC b_Pa_parseName 59 (.if_icmp .lt 11) 3 62 := ⟨by decide +kernel, rfl⟩
theorem x_Pa_parseName_62 : DC b_Pa_parseName 62 (.aload_n 0) 1 63 := ⟨by decide +kernel, rfl⟩
theorem x_Pa_parseName_63 : DC b_Pa_parseName 63 (.iconst 3) 1 64 := ⟨by decide +kernel, rfl⟩
theorem x_Pa_parseName_64 : DC b_Pa_parseName 64 (.invokevirtual 83) 3 67 := ⟨by decide +kernel, rfl⟩
theorem x_Pa_parseName_67 : DC b_Pa_parseName 67 (.goto 74) 3 70 := ⟨by decide +kernel, rfl⟩
theorem x_Pa_parseName_70 : DC b_Pa_parseName 70 (.aload_n 0) 1 71 := ⟨by decide +kernel, rfl⟩
theorem x_Pa_parseName_71 : DC b_Pa_parseName 71 (.aload_n 0) 1 72 := ⟨by decide +kernel, rfl⟩
theorem x_Pa_parseName_72 : DC b_Pa_parseName 72 (.getfield 90) 3 75 := ⟨by decide +kernel, rfl⟩
theorem x_Pa_parseName_75 : DC b_Pa_parseName 75 (.invokevirtual 123) 3 78 := ⟨by decide +kernel, rfl⟩
theorem x_Pa_parseName_78 : DC b_Pa_parseName 78 (.iconst (-1)) 1 79 := ⟨by decide +kernel, rfl⟩
theorem x_Pa_parseName_79 : DC b_Pa_parseName 79 (.if_icmp .eq 11) 3 82 := ⟨by decide +kernel, rfl⟩
theorem x_Pa_parseName_82 : DC b_Pa_parseName 82 (.aload_n 0) 1 83 := ⟨by decide +kernel, rfl⟩
theorem x_Pa_parseName_83 : DC b_Pa_parseName 83 (.iconst 4) 1 84 := ⟨by decide +kernel, rfl⟩
theorem x_Pa_parseName_84 : DC b_Pa_parseName 84 (.invokevirtual 83) 3 87 := ⟨by decide +kernel, rfl⟩
theorem x_Pa_parseName_87 : DC b_Pa_parseName 87 (.goto 54) 3 90 := ⟨by decide +kernel, rfl⟩
theorem x_Pa_parseName_90 : DC b_Pa_parseName 90 (.aload_n 0) 1 91 := ⟨by decide +kernel, rfl⟩
theorem x_Pa_parseName_91 : DC b_Pa_parseName 91 (.getfield 29) 3 94 := ⟨by decide +kernel, rfl⟩
theorem x_Pa_parseName_94 : DC b_Pa_parseName 94 (.aload_n 0) 1 95 := ⟨by decide +kernel, rfl⟩
theorem x_Pa_parseName_95 : DC b_Pa_parseName 95 (.getfield 25) 3 98 := ⟨by decide +kernel, rfl⟩
theorem x_Pa_parseName_98 : DC b_Pa_parseName 98 (.getfield 120) 3 101 := ⟨by decide +kernel, rfl⟩
theorem x_Pa_parseName_101 : DC b_Pa_parseName 101 (.aload_n 0) 1 102 := ⟨by decide +kernel, rfl⟩
theorem x_Pa_parseName_102 : DC b_Pa_parseName 102 (.getfield 90) 3 105 := ⟨by decide +kernel, rfl⟩
theorem x_Pa_parseName_105 : DC b_Pa_parseName 105 (.lastore) 1 106 := ⟨by decide +kernel, rfl⟩
theorem x_Pa_parseName_106 : DC b_Pa_parseName 106 (.ldc 127) 2 108 := ⟨by decide +kernel, rfl⟩
theorem x_Pa_parseName_108 : DC b_Pa_parseName 108 (.aload_n 0) 1 109 := ⟨by decide +kernel, rfl⟩
theorem x_Pa_parseName_109 : DC b_Pa_parseName 109 (.getfield 90) 3 112 := ⟨by decide +kernel, rfl⟩
theorem x_Pa_parseName_112 : DC b_Pa_parseName 112 (.invokestatic 96) 3 115 := ⟨by decide +kernel, rfl⟩
theorem x_Pa_parseName_115 : DC b_Pa_parseName 115 (.istore_n 2) 1 116 := ⟨by decide +kernel, rfl⟩
theorem x_Pa_parseName_116 : DC b_Pa_parseName 116 (.iload_n 2) 1 117 := ⟨by decide +kernel, rfl⟩
theorem x_Pa_parseName_117 : DC b_Pa_parseName 117 (.iconst (-1)) 1 118 := ⟨by decide +kernel, rfl⟩
theorem x_Pa_parseName_118 : DC b_Pa_parseName 118 (.if_icmp .eq 19) 3 121 := ⟨by decide +kernel, rfl⟩
theorem x_Pa_parseName_121 : DC b_Pa_parseName 121 (.aload_n 0) 1 122 := ⟨by decide +kernel, rfl⟩
theorem x_Pa_parseName_122 : DC b_Pa_parseName 122 (.getfield 25) 3 125 := ⟨by decide +kernel, rfl⟩
theorem x_Pa_parseName_125 : DC b_Pa_parseName 125 (.getfield 129) 3 128 := ⟨by decide +kernel, rfl⟩
theorem x_Pa_parseName_128 : DC b_Pa_parseName 128 (.iload_n 2) 1 129 := ⟨by decide +kernel, rfl⟩
theorem x_Pa_parseName_129 : DC b_Pa_parseName 129 (.aload_n 0) 1 130 := ⟨by decide +kernel, rfl⟩
theorem x_Pa_parseName_130 : DC b_Pa_parseName 130 (.getfield 25) 3 133 := ⟨by decide +kernel, rfl⟩
theorem x_Pa_parseName_133 : DC b_Pa_parseName 133 (.getfield 120) 3 136 := ⟨by decide +kernel, rfl⟩
theorem x_Pa_parseName_136 : DC b_Pa_parseName 136 (.iastore) 1 137 := ⟨by decide +kernel, rfl⟩
theorem x_Pa_parseName_137 : DC b_Pa_parseName 137 (.aload_n 0) 1 138 := ⟨by decide +kernel, rfl⟩
theorem x_Pa_parseName_138 : DC b_Pa_parseName 138 (.invokevirtual 45) 3 141 := ⟨by decide +kernel, rfl⟩
theorem x_Pa_parseName_141 : DC b_Pa_parseName 141 (.return_) 1 142 := ⟨by decide +kernel, rfl⟩
def k_Pa_parseName_137 (M : Mem) : Res := bcall (d_Pa_advance M) fun v1 M2 => some (0, M2)
theorem z_Pa_parseName_137 (C : Cx p s m args meth c G b_Pa_parseName 3 "PrairiePool$Parser" none) (hlev : 7 ≤ lev) {r : Int × Mem}  {M : Mem} (h : k_Pa_parseName_137 M = some r) : Z p l e lev s m args below meth c G 3 (MQ below (Qm G 0 r) args s 0 0 (Ab G)) M 137 [(0, .ref (G.1 + 55))] [] := by
  unfold k_Pa_parseName_137 at h
  refine z_aload_n C 0 x_Pa_parseName_137 rfl ?_
  obtain ⟨v1, M2, fv1, h⟩ := bcall_e h
  refine z_callVv (k := 55) C x_Pa_parseName_138 cv_Pa_45 (t_Pa_advance (lev := lev - 1) l G (by omega) fv1) nk_55 ck_55 rfl (by omega) rfl (i_le rfl) rfl ?_
  exact z_vret C x_Pa_parseName_141 h
def k_Pa_parseName_37 (s0 : Int) (M : Mem) : Res := if w32 s0 = 0 then (bcall (d_Pa_fail 2 M) fun v2 M3 => some (0, M3)) else (blet (M 57 1) fun v4 => if w32 v4 < 10 then (blet (M 55 11) fun v6 => bcall (d_Pa_findDef v6 M) fun v7 M8 => if w32 v7 = (-1) then (blet (M8 57 1) fun v10 => blet (M8 55 11) fun v11 => chk (0 ≤ w32 v10 ∧ w32 v10 < 10) <| blet (sto M8 61 (ix v10) v11) fun M13 => blet (M13 55 11) fun v14 => bcall (d_Pa_find 3 v14 M13) fun v15 M16 => if w32 v15 = (-1) then (k_Pa_parseName_137 M16) else (blet (M16 57 1) fun v18 => chk (0 ≤ w32 v15 ∧ w32 v15 < 7) <| blet (sto M16 60 (ix v15) v18) fun M20 => k_Pa_parseName_137 M20)) else (bcall (d_Pa_fail 4 M8) fun v21 M22 => some (0, M22))) else (bcall (d_Pa_fail 3 M) fun v23 M24 => some (0, M24)))
theorem z_Pa_parseName_37 (C : Cx p s m args meth c G b_Pa_parseName 3 "PrairiePool$Parser" none) (hlev : 7 ≤ lev) {r : Int × Mem}  {s0 : Int} {M : Mem} (h : k_Pa_parseName_37 s0 M = some r) : Z p l e lev s m args below meth c G 3 (MQ below (Qm G 0 r) args s 0 0 (Ab G)) M 37 [(0, .ref (G.1 + 55))] [vi s0] := by
  unfold k_Pa_parseName_37 at h
  refine z_istore_n (lv' := [(1, vi s0), (0, .ref (G.1 + 55))]) C rfl x_Pa_parseName_37 (i_lt rfl) rfl ?_
  refine z_iload_n C 0 x_Pa_parseName_38 rfl ?_
  rcases ite_e h with ⟨c1, h⟩ | ⟨c1, h⟩
  · refine z_if_ne_f (tgt := 50) C x_Pa_parseName_39 rfl c1 ?_
    refine z_aload_n C 1 x_Pa_parseName_42 rfl ?_
    refine z_iconst C x_Pa_parseName_43 ?_
    obtain ⟨v2, M3, fv2, h⟩ := bcall_e h
    refine z_callVv (k := 55) C x_Pa_parseName_44 cv_Pa_83 (t_Pa_fail (lev := lev - 1) l G (by omega) fv2) nk_55 ck_55 rfl (by omega) rfl (i_le rfl) rfl ?_
    refine z_goto (tgt := 141) C x_Pa_parseName_47 rfl ?_
    exact z_vret C x_Pa_parseName_141 h
  · refine z_if_ne_t (tgt := 50) C x_Pa_parseName_39 rfl c1 ?_
    refine z_aload_n C 1 x_Pa_parseName_50 rfl ?_
    refine z_getR (j := 4) C x_Pa_parseName_51 nk_55 ck_55 cw_4 (i_lt rfl) rfl rf_55_4 rfl fl_Pa_25 ?_
    obtain ⟨v4, ev4, h⟩ := blet_e h
    refine z_getI (j := 1) C x_Pa_parseName_54 nk_57 ck_57 cw_8 (i_lt rfl) rfl rfl fl_Pa_120 ev4 ?_
    refine z_bipush C rfl x_Pa_parseName_57 ?_
    rcases ite_e h with ⟨c5, h⟩ | ⟨c5, h⟩
    · refine z_icmp_lt_t (tgt := 70) C x_Pa_parseName_59 rfl c5 ?_
      refine z_aload_n C 1 x_Pa_parseName_70 rfl ?_
      refine z_aload_n C 1 x_Pa_parseName_71 rfl ?_
      obtain ⟨v6, ev6, h⟩ := blet_e h
      refine z_getL (j := 11) C x_Pa_parseName_72 nk_55 ck_55 cw_4 (i_lt rfl) rfl rfl fl_Pa_90 ev6 ?_
      obtain ⟨v7, M8, fv7, h⟩ := bcall_e h
      refine z_callVi (k := 55) C x_Pa_parseName_75 cv_Pa_123 (t_Pa_findDef (lev := lev - 1) l G (by omega) fv7) nk_55 ck_55 rfl (by omega) rfl (i_le rfl) rfl ?_
      refine z_iconst C x_Pa_parseName_78 ?_
      rcases ite_e h with ⟨c9, h⟩ | ⟨c9, h⟩
      · refine z_icmp_eq_t (tgt := 90) C x_Pa_parseName_79 rfl c9 ?_
        refine z_aload_n C 1 x_Pa_parseName_90 rfl ?_
        refine z_getR (j := 5) C x_Pa_parseName_91 nk_55 ck_55 cw_4 (i_lt rfl) rfl rf_55_5 rfl fl_Pa_29 ?_
        refine z_aload_n C 1 x_Pa_parseName_94 rfl ?_
        refine z_getR (j := 4) C x_Pa_parseName_95 nk_55 ck_55 cw_4 (i_lt rfl) rfl rf_55_4 rfl fl_Pa_25 ?_
        obtain ⟨v10, ev10, h⟩ := blet_e h
        refine z_getI (j := 1) C x_Pa_parseName_98 nk_57 ck_57 cw_8 (i_lt rfl) rfl rfl fl_Pa_120 ev10 ?_
        refine z_aload_n C 1 x_Pa_parseName_101 rfl ?_
        obtain ⟨v11, ev11, h⟩ := blet_e h
        refine z_getL (j := 11) C x_Pa_parseName_102 nk_55 ck_55 cw_4 (i_lt rfl) rfl rfl fl_Pa_90 ev11 ?_
        obtain ⟨c12, h⟩ := chk_e h
        obtain ⟨M13, eM13, h⟩ := blet_e h
        refine z_last C x_Pa_parseName_105 nk_61 ck_61 c12 eM13 ?_
        refine z_ldcS (i := 3) C (by decide) ⟨rfl, rfl⟩ x_Pa_parseName_106 ?_
        refine z_aload_n C 1 x_Pa_parseName_108 rfl ?_
        obtain ⟨v14, ev14, h⟩ := blet_e h
        refine z_getL (j := 11) C x_Pa_parseName_109 nk_55 ck_55 cw_4 (i_lt rfl) rfl rfl fl_Pa_90 ev14 ?_
        obtain ⟨v15, M16, fv15, h⟩ := bcall_e h
        refine z_callSi C x_Pa_parseName_112 cs_Pa_96 (t_Pa_find (lev := lev - 1) l G (by omega) (by decide) fv15) (by omega) rfl (i_le rfl) rfl ?_
        refine z_istore_n (lv' := [(2, vi v15), (1, vi s0), (0, .ref (G.1 + 55))]) C rfl x_Pa_parseName_115 (i_lt rfl) rfl ?_
        refine z_iload_n C 0 x_Pa_parseName_116 rfl ?_
        refine z_iconst C x_Pa_parseName_117 ?_
        rcases ite_e h with ⟨c17, h⟩ | ⟨c17, h⟩
        · refine z_icmp_eq_t (tgt := 137) C x_Pa_parseName_118 rfl c17 ?_
          exact z_sub [2] rfl (z_Pa_parseName_137 C hlev h)
        · refine z_icmp_eq_f (tgt := 137) C x_Pa_parseName_118 rfl c17 ?_
          refine z_aload_n C 2 x_Pa_parseName_121 rfl ?_
          refine z_getR (j := 4) C x_Pa_parseName_122 nk_55 ck_55 cw_4 (i_lt rfl) rfl rf_55_4 rfl fl_Pa_25 ?_
          refine z_getR (j := 5) C x_Pa_parseName_125 nk_57 ck_57 cw_8 (i_lt rfl) rfl rf_57_5 rfl fl_Pa_129 ?_
          refine z_iload_n C 0 x_Pa_parseName_128 rfl ?_
          refine z_aload_n C 2 x_Pa_parseName_129 rfl ?_
          refine z_getR (j := 4) C x_Pa_parseName_130 nk_55 ck_55 cw_4 (i_lt rfl) rfl rf_55_4 rfl fl_Pa_25 ?_
          obtain ⟨v18, ev18, h⟩ := blet_e h
          refine z_getI (j := 1) C x_Pa_parseName_133 nk_57 ck_57 cw_8 (i_lt rfl) rfl rfl fl_Pa_120 ev18 ?_
          obtain ⟨c19, h⟩ := chk_e h
          obtain ⟨M20, eM20, h⟩ := blet_e h
          refine z_iast C x_Pa_parseName_136 nk_60 ck_60 c19 eM20 ?_
          exact z_sub [2] rfl (z_Pa_parseName_137 C hlev h)
      · refine z_icmp_eq_f (tgt := 90) C x_Pa_parseName_79 rfl c9 ?_
        refine z_aload_n C 1 x_Pa_parseName_82 rfl ?_
        refine z_iconst C x_Pa_parseName_83 ?_
        obtain ⟨v21, M22, fv21, h⟩ := bcall_e h
        refine z_callVv (k := 55) C x_Pa_parseName_84 cv_Pa_83 (t_Pa_fail (lev := lev - 1) l G (by omega) fv21) nk_55 ck_55 rfl (by omega) rfl (i_le rfl) rfl ?_
        refine z_goto (tgt := 141) C x_Pa_parseName_87 rfl ?_
        exact z_vret C x_Pa_parseName_141 h
    · refine z_icmp_lt_f (tgt := 70) C x_Pa_parseName_59 rfl c5 ?_
      refine z_aload_n C 1 x_Pa_parseName_62 rfl ?_
      refine z_iconst C x_Pa_parseName_63 ?_
      obtain ⟨v23, M24, fv23, h⟩ := bcall_e h
      refine z_callVv (k := 55) C x_Pa_parseName_64 cv_Pa_83 (t_Pa_fail (lev := lev - 1) l G (by omega) fv23) nk_55 ck_55 rfl (by omega) rfl (i_le rfl) rfl ?_
      refine z_goto (tgt := 141) C x_Pa_parseName_67 rfl ?_
      exact z_vret C x_Pa_parseName_141 h
def k_Pa_parseName_36 (M : Mem) : Res := k_Pa_parseName_37 0 M
theorem z_Pa_parseName_36 (C : Cx p s m args meth c G b_Pa_parseName 3 "PrairiePool$Parser" none) (hlev : 7 ≤ lev) {r : Int × Mem}  {M : Mem} (h : k_Pa_parseName_36 M = some r) : Z p l e lev s m args below meth c G 3 (MQ below (Qm G 0 r) args s 0 0 (Ab G)) M 36 [(0, .ref (G.1 + 55))] [] := by
  unfold k_Pa_parseName_36 at h
  refine z_iconst C x_Pa_parseName_36 ?_
  exact z_sub [0] rfl (z_Pa_parseName_37 C hlev h)
def d_Pa_parseName (M : Mem) : Res := blet (M 55 8) fun v1 => if w32 v1 = 3 then (blet (M 55 11) fun v3 => if w64 v3 = (-1) then (k_Pa_parseName_36 M) else (blet (M 55 11) fun v5 => bcall (d_Pa_find 2 v5 M) fun v6 M7 => if w32 v6 = (-1) then (k_Pa_parseName_37 1 M7) else (k_Pa_parseName_36 M7))) else (k_Pa_parseName_36 M)
theorem t_Pa_parseName (l : Launch) (G : GX) {lev : Nat} (hlev : 7 ≤ lev) {M : Mem} {r : Int × Mem} (h : d_Pa_parseName M = some r) : Mt l G y_Pa_parseName b_Pa_parseName 3 none lev 0 [.ref (G.1 + 55)] M r := by
  refine Mt.of (by decide) (i_le rfl) ?_
  intro p e s m args below meth c C
  have C : Cx p s m args meth c G b_Pa_parseName 3 "PrairiePool$Parser" none := C
  unfold d_Pa_parseName at h
  refine z_sub (lv' := [(0, .ref (G.1 + 55))]) [0] rfl ?_
  refine z_aload_n C 0 x_Pa_parseName_0 rfl ?_
  obtain ⟨v1, ev1, h⟩ := blet_e h
  refine z_getI (j := 8) C x_Pa_parseName_1 nk_55 ck_55 cw_4 (i_lt rfl) rfl rfl fl_Pa_48 ev1 ?_
  refine z_iconst C x_Pa_parseName_4 ?_
  rcases ite_e h with ⟨c2, h⟩ | ⟨c2, h⟩
  · refine z_icmp_ne_f (tgt := 36) C x_Pa_parseName_5 rfl c2 ?_
    refine z_aload_n C 0 x_Pa_parseName_8 rfl ?_
    obtain ⟨v3, ev3, h⟩ := blet_e h
    refine z_getL (j := 11) C x_Pa_parseName_9 nk_55 ck_55 cw_4 (i_lt rfl) rfl rfl fl_Pa_90 ev3 ?_
    refine z_ldc2 C kl_Pa_88 x_Pa_parseName_12 ?_
    refine z_lcmp C x_Pa_parseName_15 ?_
    rcases ite_e h with ⟨c4, h⟩ | ⟨c4, h⟩
    · refine z_if_eq_t (tgt := 36) C x_Pa_parseName_16 rfl (cm_eqz.mpr c4) ?_
      exact z_sub [0] rfl (z_Pa_parseName_36 C hlev h)
    · refine z_if_eq_f (tgt := 36) C x_Pa_parseName_16 rfl (fun q => c4 (cm_eqz.mp q)) ?_
      refine z_ldcS (i := 2) C (by decide) ⟨rfl, rfl⟩ x_Pa_parseName_19 ?_
      refine z_aload_n C 0 x_Pa_parseName_21 rfl ?_
      obtain ⟨v5, ev5, h⟩ := blet_e h
      refine z_getL (j := 11) C x_Pa_parseName_22 nk_55 ck_55 cw_4 (i_lt rfl) rfl rfl fl_Pa_90 ev5 ?_
      obtain ⟨v6, M7, fv6, h⟩ := bcall_e h
      refine z_callSi C x_Pa_parseName_25 cs_Pa_96 (t_Pa_find (lev := lev - 1) l G (by omega) (by decide) fv6) (by omega) rfl (i_le rfl) rfl ?_
      refine z_iconst C x_Pa_parseName_28 ?_
      rcases ite_e h with ⟨c8, h⟩ | ⟨c8, h⟩
      · refine z_icmp_ne_f (tgt := 36) C x_Pa_parseName_29 rfl c8 ?_
        refine z_iconst C x_Pa_parseName_32 ?_
        refine z_goto (tgt := 37) C x_Pa_parseName_33 rfl ?_
        exact z_sub [0] rfl (z_Pa_parseName_37 C hlev h)
      · refine z_icmp_ne_t (tgt := 36) C x_Pa_parseName_29 rfl c8 ?_
        exact z_sub [0] rfl (z_Pa_parseName_36 C hlev h)
  · refine z_icmp_ne_t (tgt := 36) C x_Pa_parseName_5 rfl c2 ?_
    exact z_sub [0] rfl (z_Pa_parseName_36 C hlev h)
theorem x_Pa_expect_0 : DC b_Pa_expect 0 (.aload_n 0) 1 1 := ⟨by decide +kernel, rfl⟩
theorem x_Pa_expect_1 : DC b_Pa_expect 1 (.getfield 48) 3 4 := ⟨by decide +kernel, rfl⟩
theorem x_Pa_expect_4 : DC b_Pa_expect 4 (.iload_n 1) 1 5 := ⟨by decide +kernel, rfl⟩
theorem x_Pa_expect_5 : DC b_Pa_expect 5 (.if_icmp .ne 10) 3 8 := ⟨by decide +kernel, rfl⟩
theorem x_Pa_expect_8 : DC b_Pa_expect 8 (.aload_n 0) 1 9 := ⟨by decide +kernel, rfl⟩
theorem x_Pa_expect_9 : DC b_Pa_expect 9 (.invokevirtual 45) 3 12 := ⟨by decide +kernel, rfl⟩
theorem x_Pa_expect_12 : DC b_Pa_expect 12 (.goto 8) 3 15 := ⟨by decide +kernel, rfl⟩
theorem x_Pa_expect_15 : DC b_Pa_expect 15 (.aload_n 0) 1 16 := ⟨by decide +kernel, rfl⟩
theorem x_Pa_expect_16 : DC b_Pa_expect 16 (.iconst 2) 1 17 := ⟨by decide +kernel, rfl⟩
theorem x_Pa_expect_17 : DC b_Pa_expect 17 (.invokevirtual 83) 3 20 := ⟨by decide +kernel, rfl⟩
theorem x_Pa_expect_20 : DC b_Pa_expect 20 (.return_) 1 21 := ⟨by decide +kernel, rfl⟩
def d_Pa_expect (a1 : Int) (M : Mem) : Res := blet (M 55 8) fun v1 => if w32 v1 = w32 a1 then (bcall (d_Pa_advance M) fun v3 M4 => some (0, M4)) else (bcall (d_Pa_fail 2 M) fun v5 M6 => some (0, M6))
theorem t_Pa_expect (l : Launch) (G : GX) {lev : Nat} (hlev : 7 ≤ lev) {a1 : Int} {M : Mem} {r : Int × Mem} (h : d_Pa_expect a1 M = some r) : Mt l G y_Pa_expect b_Pa_expect 2 none lev 0 [.ref (G.1 + 55), vi a1] M r := by
  refine Mt.of (by decide) (i_le rfl) ?_
  intro p e s m args below meth c C
  have C : Cx p s m args meth c G b_Pa_expect 2 "PrairiePool$Parser" none := C
  unfold d_Pa_expect at h
  refine z_sub (lv' := [(0, .ref (G.1 + 55)), (1, vi a1)]) [0, 1] rfl ?_
  refine z_aload_n C 0 x_Pa_expect_0 rfl ?_
  obtain ⟨v1, ev1, h⟩ := blet_e h
  refine z_getI (j := 8) C x_Pa_expect_1 nk_55 ck_55 cw_4 (i_lt rfl) rfl rfl fl_Pa_48 ev1 ?_
  refine z_iload_n C 1 x_Pa_expect_4 rfl ?_
  rcases ite_e h with ⟨c2, h⟩ | ⟨c2, h⟩
  · refine z_icmp_ne_f (tgt := 15) C x_Pa_expect_5 rfl c2 ?_
    refine z_aload_n C 0 x_Pa_expect_8 rfl ?_
    obtain ⟨v3, M4, fv3, h⟩ := bcall_e h
    refine z_callVv (k := 55) C x_Pa_expect_9 cv_Pa_45 (t_Pa_advance (lev := lev - 1) l G (by omega) fv3) nk_55 ck_55 rfl (by omega) rfl (i_le rfl) rfl ?_
    refine z_goto (tgt := 20) C x_Pa_expect_12 rfl ?_
    exact z_vret C x_Pa_expect_20 h
  · refine z_icmp_ne_t (tgt := 15) C x_Pa_expect_5 rfl c2 ?_
    refine z_aload_n C 0 x_Pa_expect_15 rfl ?_
    refine z_iconst C x_Pa_expect_16 ?_
    obtain ⟨v5, M6, fv5, h⟩ := bcall_e h
    refine z_callVv (k := 55) C x_Pa_expect_17 cv_Pa_83 (t_Pa_fail (lev := lev - 1) l G (by omega) fv5) nk_55 ck_55 rfl (by omega) rfl (i_le rfl) rfl ?_
    exact z_vret C x_Pa_expect_20 h
theorem x_Pa_beginsSum_0 : DC b_Pa_beginsSum 0 (.aload_n 0) 1 1 := ⟨by decide +kernel, rfl⟩
theorem x_Pa_beginsSum_1 : DC b_Pa_beginsSum 1 (.getfield 48) 3 4 := ⟨by decide +kernel, rfl⟩
theorem x_Pa_beginsSum_4 : DC b_Pa_beginsSum 4 (.iconst 2) 1 5 := ⟨by decide +kernel, rfl⟩
theorem x_Pa_beginsSum_5 : DC b_Pa_beginsSum 5 (.if_icmp .eq 38) 3 8 := ⟨by decide +kernel, rfl⟩
theorem x_Pa_beginsSum_8 : DC b_Pa_beginsSum 8 (.aload_n 0) 1 9 := ⟨by decide +kernel, rfl⟩
theorem x_Pa_beginsSum_9 : DC b_Pa_beginsSum 9 (.getfield 48) 3 12 := ⟨by decide +kernel, rfl⟩
theorem x_Pa_beginsSum_12 : DC b_Pa_beginsSum 12 (.iconst 3) 1 13 := ⟨by decide +kernel, rfl⟩
theorem x_Pa_beginsSum_13 : DC b_Pa_beginsSum 13 (.if_icmp .eq 30) 3 16 := ⟨by decide +kernel, rfl⟩
theorem x_Pa_beginsSum_16 : DC b_Pa_beginsSum 16 (.aload_n 0) 1 17 := ⟨by decide +kernel, rfl⟩
theorem x_Pa_beginsSum_17 : DC b_Pa_beginsSum 17 (.getfield 48) 3 20 := ⟨by decide +kernel, rfl⟩
theorem x_Pa_beginsSum_20 : DC b_Pa_beginsSum 20 (.bipush 40) 2 22 := ⟨by decide +kernel, rfl⟩
theorem x_Pa_beginsSum_22 : DC b_Pa_beginsSum 22 (.if_icmp .eq 21) 3 25 := ⟨by decide +kernel, rfl⟩
theorem x_Pa_beginsSum_25 : DC b_Pa_beginsSum 25 (.aload_n 0) 1 26 := ⟨by decide +kernel, rfl⟩
theorem x_Pa_beginsSum_26 : DC b_Pa_beginsSum 26 (.getfield 48) 3 29 := ⟨by decide +kernel, rfl⟩
theorem x_Pa_beginsSum_29 : DC b_Pa_beginsSum 29 (.bipush 10) 2 31 := ⟨by decide +kernel, rfl⟩
theorem x_Pa_beginsSum_31 : DC b_Pa_beginsSum 31 (.if_icmp .eq 12) 3 34 := ⟨by decide +kernel, rfl⟩
theorem x_Pa_beginsSum_34 : DC b_Pa_beginsSum 34 (.aload_n 0) 1 35 := ⟨by decide +kernel, rfl⟩
theorem x_Pa_beginsSum_35 : DC b_Pa_beginsSum 35 (.getfield 48) 3 38 := ⟨by decide +kernel, rfl⟩
theorem x_Pa_beginsSum_38 : DC b_Pa_beginsSum 38 (.bipush 11) 2 40 := ⟨by decide +kernel, rfl⟩
theorem x_Pa_beginsSum_40 : DC b_Pa_beginsSum 40 (.if_icmp .ne 7) 3 43 := ⟨by decide +kernel, rfl⟩
theorem x_Pa_beginsSum_43 : DC b_Pa_beginsSum 43 (.iconst 1) 1 44 := ⟨by decide +kernel, rfl⟩
theorem x_Pa_beginsSum_44 : DC b_Pa_beginsSum 44 (.goto 4) 3 47 := ⟨by decide +kernel, rfl⟩
theorem x_Pa_beginsSum_47 : DC b_Pa_beginsSum 47 (.iconst 0) 1 48 := ⟨by decide +kernel, rfl⟩
theorem x_Pa_beginsSum_48 : DC b_Pa_beginsSum 48 (.ireturn) 1 49 := ⟨by decide +kernel, rfl⟩
def k_Pa_beginsSum_43 (M : Mem) : Res := some (1, M)
theorem z_Pa_beginsSum_43 (C : Cx p s m args meth c G b_Pa_beginsSum 1 "PrairiePool$Parser" (some .boolean)) (hlev : 0 ≤ lev) {r : Int × Mem}  {M : Mem} (h : k_Pa_beginsSum_43 M = some r) : Z p l e lev s m args below meth c G 1 (MQ below (Qm G 1 r) args s 0 0 (Ab G)) M 43 [] [] := by
  unfold k_Pa_beginsSum_43 at h
  refine z_iconst C x_Pa_beginsSum_43 ?_
  refine z_goto (tgt := 48) C x_Pa_beginsSum_44 rfl ?_
  exact z_zret C x_Pa_beginsSum_48 (by decide) h
def d_Pa_beginsSum (M : Mem) : Res := blet (M 55 8) fun v1 => if w32 v1 = 2 then (k_Pa_beginsSum_43 M) else (blet (M 55 8) fun v3 => if w32 v3 = 3 then (k_Pa_beginsSum_43 M) else (blet (M 55 8) fun v5 => if w32 v5 = 40 then (k_Pa_beginsSum_43 M) else (blet (M 55 8) fun v7 => if w32 v7 = 10 then (k_Pa_beginsSum_43 M) else (blet (M 55 8) fun v9 => if w32 v9 = 11 then (k_Pa_beginsSum_43 M) else (some (0, M))))))
theorem t_Pa_beginsSum (l : Launch) (G : GX) {lev : Nat} (hlev : 0 ≤ lev) {M : Mem} {r : Int × Mem} (h : d_Pa_beginsSum M = some r) : Mt l G y_Pa_beginsSum b_Pa_beginsSum 1 (some .boolean) lev 1 [.ref (G.1 + 55)] M r := by
  refine Mt.of (by decide) (i_le rfl) ?_
  intro p e s m args below meth c C
  have C : Cx p s m args meth c G b_Pa_beginsSum 1 "PrairiePool$Parser" (some .boolean) := C
  unfold d_Pa_beginsSum at h
  refine z_sub (lv' := [(0, .ref (G.1 + 55))]) [0] rfl ?_
  refine z_aload_n C 0 x_Pa_beginsSum_0 rfl ?_
  obtain ⟨v1, ev1, h⟩ := blet_e h
  refine z_getI (j := 8) C x_Pa_beginsSum_1 nk_55 ck_55 cw_4 (i_lt rfl) rfl rfl fl_Pa_48 ev1 ?_
  refine z_iconst C x_Pa_beginsSum_4 ?_
  rcases ite_e h with ⟨c2, h⟩ | ⟨c2, h⟩
  · refine z_icmp_eq_t (tgt := 43) C x_Pa_beginsSum_5 rfl c2 ?_
    exact z_sub [] rfl (z_Pa_beginsSum_43 C hlev h)
  · refine z_icmp_eq_f (tgt := 43) C x_Pa_beginsSum_5 rfl c2 ?_
    refine z_aload_n C 0 x_Pa_beginsSum_8 rfl ?_
    obtain ⟨v3, ev3, h⟩ := blet_e h
    refine z_getI (j := 8) C x_Pa_beginsSum_9 nk_55 ck_55 cw_4 (i_lt rfl) rfl rfl fl_Pa_48 ev3 ?_
    refine z_iconst C x_Pa_beginsSum_12 ?_
    rcases ite_e h with ⟨c4, h⟩ | ⟨c4, h⟩
    · refine z_icmp_eq_t (tgt := 43) C x_Pa_beginsSum_13 rfl c4 ?_
      exact z_sub [] rfl (z_Pa_beginsSum_43 C hlev h)
    · refine z_icmp_eq_f (tgt := 43) C x_Pa_beginsSum_13 rfl c4 ?_
      refine z_aload_n C 0 x_Pa_beginsSum_16 rfl ?_
      obtain ⟨v5, ev5, h⟩ := blet_e h
      refine z_getI (j := 8) C x_Pa_beginsSum_17 nk_55 ck_55 cw_4 (i_lt rfl) rfl rfl fl_Pa_48 ev5 ?_
      refine z_bipush C rfl x_Pa_beginsSum_20 ?_
      rcases ite_e h with ⟨c6, h⟩ | ⟨c6, h⟩
      · refine z_icmp_eq_t (tgt := 43) C x_Pa_beginsSum_22 rfl c6 ?_
        exact z_sub [] rfl (z_Pa_beginsSum_43 C hlev h)
      · refine z_icmp_eq_f (tgt := 43) C x_Pa_beginsSum_22 rfl c6 ?_
        refine z_aload_n C 0 x_Pa_beginsSum_25 rfl ?_
        obtain ⟨v7, ev7, h⟩ := blet_e h
        refine z_getI (j := 8) C x_Pa_beginsSum_26 nk_55 ck_55 cw_4 (i_lt rfl) rfl rfl fl_Pa_48 ev7 ?_
        refine z_bipush C rfl x_Pa_beginsSum_29 ?_
        rcases ite_e h with ⟨c8, h⟩ | ⟨c8, h⟩
        · refine z_icmp_eq_t (tgt := 43) C x_Pa_beginsSum_31 rfl c8 ?_
          exact z_sub [] rfl (z_Pa_beginsSum_43 C hlev h)
        · refine z_icmp_eq_f (tgt := 43) C x_Pa_beginsSum_31 rfl c8 ?_
          refine z_aload_n C 0 x_Pa_beginsSum_34 rfl ?_
          obtain ⟨v9, ev9, h⟩ := blet_e h
          refine z_getI (j := 8) C x_Pa_beginsSum_35 nk_55 ck_55 cw_4 (i_lt rfl) rfl rfl fl_Pa_48 ev9 ?_
          refine z_bipush C rfl x_Pa_beginsSum_38 ?_
          rcases ite_e h with ⟨c10, h⟩ | ⟨c10, h⟩
          · refine z_icmp_ne_f (tgt := 47) C x_Pa_beginsSum_40 rfl c10 ?_
            exact z_sub [] rfl (z_Pa_beginsSum_43 C hlev h)
          · refine z_icmp_ne_t (tgt := 47) C x_Pa_beginsSum_40 rfl c10 ?_
            refine z_iconst C x_Pa_beginsSum_47 ?_
            exact z_zret C x_Pa_beginsSum_48 (by decide) h
theorem x_Pa_mayBegin_0 : DC b_Pa_mayBegin 0 (.iload_n 1) 1 1 := ⟨by decide +kernel, rfl⟩
theorem x_Pa_mayBegin_1 : DC b_Pa_mayBegin 1 (.ifCond .ne 11) 3 4 := ⟨by decide +kernel, rfl⟩
theorem x_Pa_mayBegin_4 : DC b_Pa_mayBegin 4 (.aload_n 0) 1 5 := ⟨by decide +kernel, rfl⟩
theorem x_Pa_mayBegin_5 : DC b_Pa_mayBegin 5 (.iconst 2) 1 6 := ⟨by decide +kernel, rfl⟩
theorem x_Pa_mayBegin_6 : DC b_Pa_mayBegin 6 (.invokevirtual 83) 3 9 := ⟨by decide +kernel, rfl⟩
theorem x_Pa_mayBegin_9 : DC b_Pa_mayBegin 9 (.goto 14) 3 12 := ⟨by decide +kernel, rfl⟩
theorem x_Pa_mayBegin_12 : DC b_Pa_mayBegin 12 (.iload_n 2) 1 13 := ⟨by decide +kernel, rfl⟩
theorem x_Pa_mayBegin_13 : DC b_Pa_mayBegin 13 (.bipush 8) 2 15 := ⟨by decide +kernel, rfl⟩
theorem x_Pa_mayBegin_15 : DC b_Pa_mayBegin 15 (.if_icmp .le 8) 3 18 := ⟨by decide +kernel, rfl⟩
theorem x_Pa_mayBegin_18 : DC b_Pa_mayBegin 18 (.aload_n 0) 1 19 := ⟨by decide +kernel, rfl⟩
theorem x_Pa_mayBegin_19 : DC b_Pa_mayBegin 19 (.iconst 5) 1 20 := ⟨by decide +kernel, rfl⟩
theorem x_Pa_mayBegin_20 : DC b_Pa_mayBegin 20 (.invokevirtual 83) 3 23 := ⟨by decide +kernel, rfl⟩
theorem x_Pa_mayBegin_23 : DC b_Pa_mayBegin 23 (.aload_n 0) 1 24 := ⟨by decide +kernel, rfl⟩
theorem x_Pa_mayBegin_24 : DC b_Pa_mayBegin 24 (.getfield 17) 3 27 := ⟨by decide +kernel, rfl⟩
theorem x_Pa_mayBegin_27 : DC b_Pa_mayBegin 27 (.ifCond .ne 7) 3 30 := ⟨by decide +kernel, rfl⟩
theorem x_Pa_mayBegin_30 : DC b_Pa_mayBegin 30 (.iconst 1) 1 31 := ⟨by decide +kernel, rfl⟩
theorem x_Pa_mayBegin_31 : DC b_Pa_mayBegin 31 (.goto 4) 3 34 := ⟨by decide +kernel, rfl⟩
theorem x_Pa_mayBegin_34 : DC b_Pa_mayBegin 34 (.iconst 0) 1 35 := ⟨by decide +kernel, rfl⟩
theorem x_Pa_mayBegin_35 : DC b_Pa_mayBegin 35 (.ireturn) 1 36 := ⟨by decide +kernel, rfl⟩
def k_Pa_mayBegin_23 (M : Mem) : Res := blet (M 55 2) fun v1 => if w32 v1 = 0 then (some (1, M)) else (some (0, M))
theorem z_Pa_mayBegin_23 (C : Cx p s m args meth c G b_Pa_mayBegin 3 "PrairiePool$Parser" (some .boolean)) (hlev : 1 ≤ lev) {r : Int × Mem}  {M : Mem} (h : k_Pa_mayBegin_23 M = some r) : Z p l e lev s m args below meth c G 3 (MQ below (Qm G 1 r) args s 0 0 (Ab G)) M 23 [(0, .ref (G.1 + 55))] [] := by
  unfold k_Pa_mayBegin_23 at h
  refine z_aload_n C 0 x_Pa_mayBegin_23 rfl ?_
  obtain ⟨v1, ev1, h⟩ := blet_e h
  refine z_getI (j := 2) C x_Pa_mayBegin_24 nk_55 ck_55 cw_4 (i_lt rfl) rfl rfl fl_Pa_17 ev1 ?_
  rcases ite_e h with ⟨c2, h⟩ | ⟨c2, h⟩
  · refine z_if_ne_f (tgt := 34) C x_Pa_mayBegin_27 rfl c2 ?_
    refine z_iconst C x_Pa_mayBegin_30 ?_
    refine z_goto (tgt := 35) C x_Pa_mayBegin_31 rfl ?_
    exact z_zret C x_Pa_mayBegin_35 (by decide) h
  · refine z_if_ne_t (tgt := 34) C x_Pa_mayBegin_27 rfl c2 ?_
    refine z_iconst C x_Pa_mayBegin_34 ?_
    exact z_zret C x_Pa_mayBegin_35 (by decide) h
def d_Pa_mayBegin (a1 a2 : Int) (M : Mem) : Res := if w32 a1 = 0 then (bcall (d_Pa_fail 2 M) fun v2 M3 => k_Pa_mayBegin_23 M3) else (if 8 < w32 a2 then (bcall (d_Pa_fail 5 M) fun v5 M6 => k_Pa_mayBegin_23 M6) else (k_Pa_mayBegin_23 M))
theorem t_Pa_mayBegin (l : Launch) (G : GX) {lev : Nat} (hlev : 1 ≤ lev) {a1 a2 : Int} {M : Mem} {r : Int × Mem} (h : d_Pa_mayBegin a1 a2 M = some r) : Mt l G y_Pa_mayBegin b_Pa_mayBegin 3 (some .boolean) lev 1 [.ref (G.1 + 55), vi a1, vi a2] M r := by
  refine Mt.of (by decide) (i_le rfl) ?_
  intro p e s m args below meth c C
  have C : Cx p s m args meth c G b_Pa_mayBegin 3 "PrairiePool$Parser" (some .boolean) := C
  unfold d_Pa_mayBegin at h
  refine z_sub (lv' := [(0, .ref (G.1 + 55)), (1, vi a1), (2, vi a2)]) [0, 1, 2] rfl ?_
  refine z_iload_n C 1 x_Pa_mayBegin_0 rfl ?_
  rcases ite_e h with ⟨c1, h⟩ | ⟨c1, h⟩
  · refine z_if_ne_f (tgt := 12) C x_Pa_mayBegin_1 rfl c1 ?_
    refine z_aload_n C 0 x_Pa_mayBegin_4 rfl ?_
    refine z_iconst C x_Pa_mayBegin_5 ?_
    obtain ⟨v2, M3, fv2, h⟩ := bcall_e h
    refine z_callVv (k := 55) C x_Pa_mayBegin_6 cv_Pa_83 (t_Pa_fail (lev := lev - 1) l G (by omega) fv2) nk_55 ck_55 rfl (by omega) rfl (i_le rfl) rfl ?_
    refine z_goto (tgt := 23) C x_Pa_mayBegin_9 rfl ?_
    exact z_sub [0] rfl (z_Pa_mayBegin_23 C hlev h)
  · refine z_if_ne_t (tgt := 12) C x_Pa_mayBegin_1 rfl c1 ?_
    refine z_iload_n C 2 x_Pa_mayBegin_12 rfl ?_
    refine z_bipush C rfl x_Pa_mayBegin_13 ?_
    rcases ite_e h with ⟨c4, h⟩ | ⟨c4, h⟩
    · refine z_icmp_le_f (tgt := 23) C x_Pa_mayBegin_15 rfl c4 ?_
      refine z_aload_n C 0 x_Pa_mayBegin_18 rfl ?_
      refine z_iconst C x_Pa_mayBegin_19 ?_
      obtain ⟨v5, M6, fv5, h⟩ := bcall_e h
      refine z_callVv (k := 55) C x_Pa_mayBegin_20 cv_Pa_83 (t_Pa_fail (lev := lev - 1) l G (by omega) fv5) nk_55 ck_55 rfl (by omega) rfl (i_le rfl) rfl ?_
      exact z_sub [0] rfl (z_Pa_mayBegin_23 C hlev h)
    · refine z_icmp_le_t (tgt := 23) C x_Pa_mayBegin_15 rfl c4 ?_
      exact z_sub [0] rfl (z_Pa_mayBegin_23 C hlev h)
theorem x_Pa_addWord_0 : DC b_Pa_addWord 0 (.ldc 118) 2 2 := ⟨by decide +kernel, rfl⟩
theorem x_Pa_addWord_2 : DC b_Pa_addWord 2 (.aload_n 0) 1 3 := ⟨by decide +kernel, rfl⟩
theorem x_Pa_addWord_3 : DC b_Pa_addWord 3 (.getfield 90) 3 6 := ⟨by decide +kernel, rfl⟩
theorem x_Pa_addWord_6 : DC b_Pa_addWord 6 (.invokestatic 96) 3 9 := ⟨by decide +kernel, rfl⟩
theorem x_Pa_addWord_9 : DC b_Pa_addWord 9 (.istore_n 1) 1 10 := ⟨by decide +kernel, rfl⟩
theorem x_Pa_addWord_10 : DC b_Pa_addWord 10 (.aload_n 0) 1 11 := ⟨by decide +kernel, rfl⟩
theorem x_Pa_addWord_11 : DC b_Pa_addWord 11 (.aload_n 0) 1 12 := ⟨by decide +kernel, rfl⟩
theorem x_Pa_addWord_12 : DC b_Pa_addWord 12 (.getfield 90) 3 15 := ⟨by decide +kernel, rfl⟩
theorem x_Pa_addWord_15 : DC b_Pa_addWord 15 (.invokevirtual 123) 3 18 := ⟨by decide +kernel, rfl⟩
theorem x_Pa_addWord_18 : DC b_Pa_addWord 18 (.istore_n 2) 1 19 := ⟨by decide +kernel, rfl⟩
theorem x_Pa_addWord_19 : DC b_Pa_addWord 19 (.iload_n 1) 1 20 := ⟨by decide +kernel, rfl⟩
theorem x_Pa_addWord_20 : DC b_Pa_addWord 20 (.iconst (-1)) 1 21 := ⟨by decide +kernel, rfl⟩
theorem x_Pa_addWord_21 : DC b_Pa_addWord 21 (.if_icmp .eq 15) 3 24 := ⟨by decide +kernel, rfl⟩
theorem x_Pa_addWord_24 : DC b_Pa_addWord 24 (.aload_n 0) 1 25 := ⟨by decide +kernel, rfl⟩
theorem x_Pa_addWord_25 : DC b_Pa_addWord 25 (.getfield 25) 3 28 := ⟨by decide +kernel, rfl⟩
theorem x_Pa_addWord_28 : DC b_Pa_addWord 28 (.iconst 1) 1 29 := ⟨by decide +kernel, rfl⟩
theorem x_Pa_addWord_29 : DC b_Pa_addWord 29 (.iload_n 1) 1 30 := ⟨by decide +kernel, rfl⟩
theorem x_Pa_addWord_30 : DC b_Pa_addWord 30 (.invokevirtual 147) 3 33 := ⟨by decide +kernel, rfl⟩
theorem x_Pa_addWord_33 : DC b_Pa_addWord 33 (.goto 26) 3 36 := ⟨by decide +kernel, rfl⟩
theorem x_Pa_addWord_36 : DC b_Pa_addWord 36 (.iload_n 2) 1 37 := ⟨by decide +kernel, rfl⟩
theorem x_Pa_addWord_37 : DC b_Pa_addWord 37 (.iconst (-1)) 1 38 := ⟨by decide +kernel, rfl⟩
theorem x_Pa_addWord_38 : DC b_Pa_addWord 38 (.if_icmp .eq 15) 3 41 := ⟨by decide +kernel, rfl⟩
theorem x_Pa_addWord_41 : DC b_Pa_addWord 41 (.aload_n 0) 1 42 := ⟨by decide +kernel, rfl⟩
theorem x_Pa_addWord_42 : DC b_Pa_addWord 42 (.getfield 25) 3 45 := ⟨by decide +kernel, rfl⟩
theorem x_Pa_addWord_45 : DC b_Pa_addWord 45 (.iconst 2) 1 46 := ⟨by decide +kernel, rfl⟩
theorem x_Pa_addWord_46 : DC b_Pa_addWord 46 (.iload_n 2) 1 47 := ⟨by decide +kernel, rfl⟩
theorem x_Pa_addWord_47 : DC b_Pa_addWord 47 (.invokevirtual 147) 3 50 := ⟨by decide +kernel, rfl⟩
theorem x_Pa_addWord_50 : DC b_Pa_addWord 50 (.goto 9) 3 53 := ⟨by decide +kernel, rfl⟩
theorem x_Pa_addWord_53 : DC b_Pa_addWord 53 (.aload_n 0) 1 54 := ⟨by decide +kernel, rfl⟩
theorem x_Pa_addWord_54 : DC b_Pa_addWord 54 (.bipush 6) 2 56 := ⟨by decide +kernel, rfl⟩
theorem x_Pa_addWord_56 : DC b_Pa_addWord 56 (.invokevirtual 83) 3 59 := ⟨by decide +kernel, rfl⟩
theorem x_Pa_addWord_59 : DC b_Pa_addWord 59 (.return_) 1 60 := ⟨by decide +kernel, rfl⟩
def d_Pa_addWord (M : Mem) : Res := blet (M 55 11) fun v1 => bcall (d_Pa_find 2 v1 M) fun v2 M3 => blet (M3 55 11) fun v4 => bcall (d_Pa_findDef v4 M3) fun v5 M6 => if w32 v2 = (-1) then (if w32 v5 = (-1) then (bcall (d_Pa_fail 6 M6) fun v9 M10 => some (0, M10)) else (bcall (d_Tx_add 57 2 v5 M6) fun v11 M12 => some (0, M12))) else (bcall (d_Tx_add 57 1 v2 M6) fun v13 M14 => some (0, M14))
theorem t_Pa_addWord (l : Launch) (G : GX) {lev : Nat} (hlev : 5 ≤ lev) {M : Mem} {r : Int × Mem} (h : d_Pa_addWord M = some r) : Mt l G y_Pa_addWord b_Pa_addWord 3 none lev 0 [.ref (G.1 + 55)] M r := by
  refine Mt.of (by decide) (i_le rfl) ?_
  intro p e s m args below meth c C
  have C : Cx p s m args meth c G b_Pa_addWord 3 "PrairiePool$Parser" none := C
  unfold d_Pa_addWord at h
  refine z_sub (lv' := [(0, .ref (G.1 + 55))]) [0] rfl ?_
  refine z_ldcS (i := 2) C (by decide) ⟨rfl, rfl⟩ x_Pa_addWord_0 ?_
  refine z_aload_n C 0 x_Pa_addWord_2 rfl ?_
  obtain ⟨v1, ev1, h⟩ := blet_e h
  refine z_getL (j := 11) C x_Pa_addWord_3 nk_55 ck_55 cw_4 (i_lt rfl) rfl rfl fl_Pa_90 ev1 ?_
  obtain ⟨v2, M3, fv2, h⟩ := bcall_e h
  refine z_callSi C x_Pa_addWord_6 cs_Pa_96 (t_Pa_find (lev := lev - 1) l G (by omega) (by decide) fv2) (by omega) rfl (i_le rfl) rfl ?_
  refine z_istore_n (lv' := [(1, vi v2), (0, .ref (G.1 + 55))]) C rfl x_Pa_addWord_9 (i_lt rfl) rfl ?_
  refine z_aload_n C 1 x_Pa_addWord_10 rfl ?_
  refine z_aload_n C 1 x_Pa_addWord_11 rfl ?_
  obtain ⟨v4, ev4, h⟩ := blet_e h
  refine z_getL (j := 11) C x_Pa_addWord_12 nk_55 ck_55 cw_4 (i_lt rfl) rfl rfl fl_Pa_90 ev4 ?_
  obtain ⟨v5, M6, fv5, h⟩ := bcall_e h
  refine z_callVi (k := 55) C x_Pa_addWord_15 cv_Pa_123 (t_Pa_findDef (lev := lev - 1) l G (by omega) fv5) nk_55 ck_55 rfl (by omega) rfl (i_le rfl) rfl ?_
  refine z_istore_n (lv' := [(2, vi v5), (1, vi v2), (0, .ref (G.1 + 55))]) C rfl x_Pa_addWord_18 (i_lt rfl) rfl ?_
  refine z_iload_n C 1 x_Pa_addWord_19 rfl ?_
  refine z_iconst C x_Pa_addWord_20 ?_
  rcases ite_e h with ⟨c7, h⟩ | ⟨c7, h⟩
  · refine z_icmp_eq_t (tgt := 36) C x_Pa_addWord_21 rfl c7 ?_
    refine z_iload_n C 0 x_Pa_addWord_36 rfl ?_
    refine z_iconst C x_Pa_addWord_37 ?_
    rcases ite_e h with ⟨c8, h⟩ | ⟨c8, h⟩
    · refine z_icmp_eq_t (tgt := 53) C x_Pa_addWord_38 rfl c8 ?_
      refine z_aload_n C 2 x_Pa_addWord_53 rfl ?_
      refine z_bipush C rfl x_Pa_addWord_54 ?_
      obtain ⟨v9, M10, fv9, h⟩ := bcall_e h
      refine z_callVv (k := 55) C x_Pa_addWord_56 cv_Pa_83 (t_Pa_fail (lev := lev - 1) l G (by omega) fv9) nk_55 ck_55 rfl (by omega) rfl (i_le rfl) rfl ?_
      exact z_vret C x_Pa_addWord_59 h
    · refine z_icmp_eq_f (tgt := 53) C x_Pa_addWord_38 rfl c8 ?_
      refine z_aload_n C 2 x_Pa_addWord_41 rfl ?_
      refine z_getR (j := 4) C x_Pa_addWord_42 nk_55 ck_55 cw_4 (i_lt rfl) rfl rf_55_4 rfl fl_Pa_25 ?_
      refine z_iconst C x_Pa_addWord_45 ?_
      refine z_iload_n C 0 x_Pa_addWord_46 rfl ?_
      obtain ⟨v11, M12, fv11, h⟩ := bcall_e h
      refine z_callVv (k := 57) C x_Pa_addWord_47 cv_Pa_147 (t_Tx_add (lev := lev - 1) l G (by omega) it_57 fv11) nk_57 ck_57 rfl (by omega) rfl (i_le rfl) rfl ?_
      refine z_goto (tgt := 59) C x_Pa_addWord_50 rfl ?_
      exact z_vret C x_Pa_addWord_59 h
  · refine z_icmp_eq_f (tgt := 36) C x_Pa_addWord_21 rfl c7 ?_
    refine z_aload_n C 2 x_Pa_addWord_24 rfl ?_
    refine z_getR (j := 4) C x_Pa_addWord_25 nk_55 ck_55 cw_4 (i_lt rfl) rfl rf_55_4 rfl fl_Pa_25 ?_
    refine z_iconst C x_Pa_addWord_28 ?_
    refine z_iload_n C 1 x_Pa_addWord_29 rfl ?_
    obtain ⟨v13, M14, fv13, h⟩ := bcall_e h
    refine z_callVv (k := 57) C x_Pa_addWord_30 cv_Pa_147 (t_Tx_add (lev := lev - 1) l G (by omega) it_57 fv13) nk_57 ck_57 rfl (by omega) rfl (i_le rfl) rfl ?_
    refine z_goto (tgt := 59) C x_Pa_addWord_33 rfl ?_
    exact z_vret C x_Pa_addWord_59 h
theorem x_Pa_parseAtom_0 : DC b_Pa_parseAtom 0 (.aload_n 0) 1 1 := ⟨by decide +kernel, rfl⟩
theorem x_Pa_parseAtom_1 : DC b_Pa_parseAtom 1 (.getfield 48) 3 4 := ⟨by decide +kernel, rfl⟩
theorem x_Pa_parseAtom_4 : DC b_Pa_parseAtom 4 (.lookupswitch 110 #[(2, 52), (3, 71), (10, 102), (11, 102), (40, 82)]) 52 56 := ⟨by decide +kernel, rfl⟩
theorem x_Pa_parseAtom_56 : DC b_Pa_parseAtom 56 (.aload_n 0) 1 57 := ⟨by decide +kernel, rfl⟩
theorem x_Pa_parseAtom_57 : DC b_Pa_parseAtom 57 (.getfield 25) 3 60 := ⟨by decide +kernel, rfl⟩
theorem x_Pa_parseAtom_60 : DC b_Pa_parseAtom 60 (.iconst 0) 1 61 := ⟨by decide +kernel, rfl⟩
theorem x_Pa_parseAtom_61 : DC b_Pa_parseAtom 61 (.aload_n 0) 1 62 := ⟨by decide +kernel, rfl⟩
theorem x_Pa_parseAtom_62 : DC b_Pa_parseAtom 62 (.getfield 100) 3 65 := ⟨by decide +kernel, rfl⟩
theorem x_Pa_parseAtom_65 : DC b_Pa_parseAtom 65 (.invokevirtual 147) 3 68 := ⟨by decide +kernel, rfl⟩
theorem x_Pa_parseAtom_68 : DC b_Pa_parseAtom 68 (.aload_n 0) 1 69 := ⟨by decide +kernel, rfl⟩
theorem x_Pa_parseAtom_69 : DC b_Pa_parseAtom 69 (.invokevirtual 45) 3 72 := ⟨by decide +kernel, rfl⟩
theorem x_Pa_parseAtom_72 : DC b_Pa_parseAtom 72 (.goto 47) 3 75 := ⟨by decide +kernel, rfl⟩
theorem x_Pa_parseAtom_75 : DC b_Pa_parseAtom 75 (.aload_n 0) 1 76 := ⟨by decide +kernel, rfl⟩
theorem x_Pa_parseAtom_76 : DC b_Pa_parseAtom 76 (.invokevirtual 166) 3 79 := ⟨by decide +kernel, rfl⟩
theorem x_Pa_parseAtom_79 : DC b_Pa_parseAtom 79 (.aload_n 0) 1 80 := ⟨by decide +kernel, rfl⟩
theorem x_Pa_parseAtom_80 : DC b_Pa_parseAtom 80 (.invokevirtual 45) 3 83 := ⟨by decide +kernel, rfl⟩
theorem x_Pa_parseAtom_83 : DC b_Pa_parseAtom 83 (.goto 36) 3 86 := ⟨by decide +kernel, rfl⟩
theorem x_Pa_parseAtom_86 : DC b_Pa_parseAtom 86 (.aload_n 0) 1 87 := ⟨by decide +kernel, rfl⟩
theorem x_Pa_parseAtom_87 : DC b_Pa_parseAtom 87 (.invokevirtual 45) 3 90 := ⟨by decide +kernel, rfl⟩
theorem x_Pa_parseAtom_90 : DC b_Pa_parseAtom 90 (.aload_n 0) 1 91 := ⟨by decide +kernel, rfl⟩
theorem x_Pa_parseAtom_91 : DC b_Pa_parseAtom 91 (.iload_n 1) 1 92 := ⟨by decide +kernel, rfl⟩
theorem x_Pa_parseAtom_92 : DC b_Pa_parseAtom 92 (.iconst 1) 1 93 := ⟨by decide +kernel, rfl⟩
theorem x_Pa_parseAtom_93 : DC b_Pa_parseAtom 93 (.iadd) 1 94 := ⟨by decide +kernel, rfl⟩
theorem x_Pa_parseAtom_94 : DC b_Pa_parseAtom 94 (.invokevirtual 58) 3 97 := ⟨by decide +kernel, rfl⟩
theorem x_Pa_parseAtom_97 : DC b_Pa_parseAtom 97 (.aload_n 0) 1 98 := ⟨by decide +kernel, rfl⟩
theorem x_Pa_parseAtom_98 : DC b_Pa_parseAtom 98 (.bipush 41) 2 100 := ⟨by decide +kernel, rfl⟩
theorem x_Pa_parseAtom_100 : DC b_Pa_parseAtom 100 (.invokevirtual 54) 3 103 := ⟨by decide +kernel, rfl⟩
theorem x_Pa_parseAtom_103 : DC b_Pa_parseAtom 103 (.goto 16) 3 106 := ⟨by decide +kernel, rfl⟩
theorem x_Pa_parseAtom_106 : DC b_Pa_parseAtom 106 (.aload_n 0) 1 107 := ⟨by decide +kernel, rfl⟩
theorem x_Pa_parseAtom_107 : DC b_Pa_parseAtom 107 (.iload_n 1) 1 108 := ⟨by decide +kernel, rfl⟩
theorem x_Pa_parseAtom_108 : DC b_Pa_parseAtom 108 (.invokevirtual 169) 3 111 := ⟨by decide +kernel, rfl⟩
theorem x_Pa_parseAtom_111 : DC b_Pa_parseAtom 111 (.goto 8) 3 114 := ⟨by decide +kernel, rfl⟩
theorem x_Pa_parseAtom_114 : DC b_Pa_parseAtom 114 (.aload_n 0) 1 115 := ⟨by decide +kernel, rfl⟩
theorem x_Pa_parseAtom_115 : DC b_Pa_parseAtom 115 (.iconst 2) 1 116 := ⟨by decide +kernel, rfl⟩
theorem x_Pa_parseAtom_116 : DC b_Pa_parseAtom 116 (.invokevirtual 83) 3 119 := ⟨by decide +kernel, rfl⟩
theorem x_Pa_parseAtom_119 : DC b_Pa_parseAtom 119 (.return_) 1 120 := ⟨by decide +kernel, rfl⟩
def d_Pa_parseAtom (RW : Int → Mem → Res) (RF : Int → Mem → Res) (a1 : Int) (M : Mem) : Res := blet (M 55 8) fun v1 => if w32 v1 = 2 then (blet (M 55 10) fun v3 => bcall (d_Tx_add 57 0 v3 M) fun v4 M5 => bcall (d_Pa_advance M5) fun v6 M7 => some (0, M7)) else (if w32 v1 = 3 then (bcall (d_Pa_addWord M) fun v9 M10 => bcall (d_Pa_advance M10) fun v11 M12 => some (0, M12)) else (if w32 v1 = 10 then (bcall (RF a1 M) fun v14 M15 => some (0, M15)) else (if w32 v1 = 11 then (bcall (RF a1 M) fun v17 M18 => some (0, M18)) else (if w32 v1 = 40 then (bcall (d_Pa_advance M) fun v20 M21 => bcall (RW (a1 + 1) M21) fun v22 M23 => bcall (d_Pa_expect 41 M23) fun v24 M25 => some (0, M25)) else (bcall (d_Pa_fail 2 M) fun v26 M27 => some (0, M27))))))
theorem t_Pa_parseAtom (l : Launch) (G : GX) {lev : Nat} {N : Nat} (hN : 20 ≤ N) (hlev : N + 8 ≤ lev) {RW : Int → Mem → Res} {RF : Int → Mem → Res} (hRW : ∀ (lev' : Nat), N ≤ lev' → ∀ {a1 : Int} {M : Mem} {r : Int × Mem}, RW a1 M = some r → Mt l G y_Pa_parseWhole b_Pa_parseWhole 2 none lev' 0 [.ref (G.1 + 55), vi a1] M r) (hRF : ∀ (lev' : Nat), N ≤ lev' → ∀ {a1 : Int} {M : Mem} {r : Int × Mem}, RF a1 M = some r → Mt l G y_Pa_parseFew b_Pa_parseFew 3 none lev' 0 [.ref (G.1 + 55), vi a1] M r) {a1 : Int} {M : Mem} {r : Int × Mem} (h : d_Pa_parseAtom RW RF a1 M = some r) : Mt l G y_Pa_parseAtom b_Pa_parseAtom 2 none lev 0 [.ref (G.1 + 55), vi a1] M r := by
  refine Mt.of (by decide) (i_le rfl) ?_
  intro p e s m args below meth c C
  have C : Cx p s m args meth c G b_Pa_parseAtom 2 "PrairiePool$Parser" none := C
  unfold d_Pa_parseAtom at h
  refine z_sub (lv' := [(0, .ref (G.1 + 55)), (1, vi a1)]) [0, 1] rfl ?_
  refine z_aload_n C 0 x_Pa_parseAtom_0 rfl ?_
  obtain ⟨v1, ev1, h⟩ := blet_e h
  refine z_getI (j := 8) C x_Pa_parseAtom_1 nk_55 ck_55 cw_4 (i_lt rfl) rfl rfl fl_Pa_48 ev1 ?_
  rcases ite_e h with ⟨c2, h⟩ | ⟨c2, h⟩
  · refine z_lookup (tgt := 56) C x_Pa_parseAtom_4 (by decide) (off := 52) (by rw [c2]; decide) rfl ?_
    refine z_aload_n C 0 x_Pa_parseAtom_56 rfl ?_
    refine z_getR (j := 4) C x_Pa_parseAtom_57 nk_55 ck_55 cw_4 (i_lt rfl) rfl rf_55_4 rfl fl_Pa_25 ?_
    refine z_iconst C x_Pa_parseAtom_60 ?_
    refine z_aload_n C 0 x_Pa_parseAtom_61 rfl ?_
    obtain ⟨v3, ev3, h⟩ := blet_e h
    refine z_getI (j := 10) C x_Pa_parseAtom_62 nk_55 ck_55 cw_4 (i_lt rfl) rfl rfl fl_Pa_100 ev3 ?_
    obtain ⟨v4, M5, fv4, h⟩ := bcall_e h
    refine z_callVv (k := 57) C x_Pa_parseAtom_65 cv_Pa_147 (t_Tx_add (lev := lev - 1) l G (by omega) it_57 fv4) nk_57 ck_57 rfl (by omega) rfl (i_le rfl) rfl ?_
    refine z_aload_n C 0 x_Pa_parseAtom_68 rfl ?_
    obtain ⟨v6, M7, fv6, h⟩ := bcall_e h
    refine z_callVv (k := 55) C x_Pa_parseAtom_69 cv_Pa_45 (t_Pa_advance (lev := lev - 1) l G (by omega) fv6) nk_55 ck_55 rfl (by omega) rfl (i_le rfl) rfl ?_
    refine z_goto (tgt := 119) C x_Pa_parseAtom_72 rfl ?_
    exact z_vret C x_Pa_parseAtom_119 h
  · rcases ite_e h with ⟨c8, h⟩ | ⟨c8, h⟩
    · refine z_lookup (tgt := 75) C x_Pa_parseAtom_4 (by decide) (off := 71) (by rw [c8]; decide) rfl ?_
      refine z_aload_n C 0 x_Pa_parseAtom_75 rfl ?_
      obtain ⟨v9, M10, fv9, h⟩ := bcall_e h
      refine z_callVv (k := 55) C x_Pa_parseAtom_76 cv_Pa_166 (t_Pa_addWord (lev := lev - 1) l G (by omega) fv9) nk_55 ck_55 rfl (by omega) rfl (i_le rfl) rfl ?_
      refine z_aload_n C 0 x_Pa_parseAtom_79 rfl ?_
      obtain ⟨v11, M12, fv11, h⟩ := bcall_e h
      refine z_callVv (k := 55) C x_Pa_parseAtom_80 cv_Pa_45 (t_Pa_advance (lev := lev - 1) l G (by omega) fv11) nk_55 ck_55 rfl (by omega) rfl (i_le rfl) rfl ?_
      refine z_goto (tgt := 119) C x_Pa_parseAtom_83 rfl ?_
      exact z_vret C x_Pa_parseAtom_119 h
    · rcases ite_e h with ⟨c13, h⟩ | ⟨c13, h⟩
      · refine z_lookup (tgt := 106) C x_Pa_parseAtom_4 (by decide) (off := 102) (by rw [c13]; decide) rfl ?_
        refine z_aload_n C 0 x_Pa_parseAtom_106 rfl ?_
        refine z_iload_n C 1 x_Pa_parseAtom_107 rfl ?_
        obtain ⟨v14, M15, fv14, h⟩ := bcall_e h
        refine z_callVv (k := 55) C x_Pa_parseAtom_108 cv_Pa_169 (hRF (lev - 1) (by omega) fv14) nk_55 ck_55 rfl (by omega) rfl (i_le rfl) rfl ?_
        refine z_goto (tgt := 119) C x_Pa_parseAtom_111 rfl ?_
        exact z_vret C x_Pa_parseAtom_119 h
      · rcases ite_e h with ⟨c16, h⟩ | ⟨c16, h⟩
        · refine z_lookup (tgt := 106) C x_Pa_parseAtom_4 (by decide) (off := 102) (by rw [c16]; decide) rfl ?_
          refine z_aload_n C 0 x_Pa_parseAtom_106 rfl ?_
          refine z_iload_n C 1 x_Pa_parseAtom_107 rfl ?_
          obtain ⟨v17, M18, fv17, h⟩ := bcall_e h
          refine z_callVv (k := 55) C x_Pa_parseAtom_108 cv_Pa_169 (hRF (lev - 1) (by omega) fv17) nk_55 ck_55 rfl (by omega) rfl (i_le rfl) rfl ?_
          refine z_goto (tgt := 119) C x_Pa_parseAtom_111 rfl ?_
          exact z_vret C x_Pa_parseAtom_119 h
        · rcases ite_e h with ⟨c19, h⟩ | ⟨c19, h⟩
          · refine z_lookup (tgt := 86) C x_Pa_parseAtom_4 (by decide) (off := 82) (by rw [c19]; decide) rfl ?_
            refine z_aload_n C 0 x_Pa_parseAtom_86 rfl ?_
            obtain ⟨v20, M21, fv20, h⟩ := bcall_e h
            refine z_callVv (k := 55) C x_Pa_parseAtom_87 cv_Pa_45 (t_Pa_advance (lev := lev - 1) l G (by omega) fv20) nk_55 ck_55 rfl (by omega) rfl (i_le rfl) rfl ?_
            refine z_aload_n C 0 x_Pa_parseAtom_90 rfl ?_
            refine z_iload_n C 1 x_Pa_parseAtom_91 rfl ?_
            refine z_iconst C x_Pa_parseAtom_92 ?_
            refine z_iadd C x_Pa_parseAtom_93 ?_
            obtain ⟨v22, M23, fv22, h⟩ := bcall_e h
            refine z_callVv (k := 55) C x_Pa_parseAtom_94 cv_Pa_58 (hRW (lev - 1) (by omega) fv22) nk_55 ck_55 rfl (by omega) rfl (i_le rfl) rfl ?_
            refine z_aload_n C 0 x_Pa_parseAtom_97 rfl ?_
            refine z_bipush C rfl x_Pa_parseAtom_98 ?_
            obtain ⟨v24, M25, fv24, h⟩ := bcall_e h
            refine z_callVv (k := 55) C x_Pa_parseAtom_100 cv_Pa_54 (t_Pa_expect (lev := lev - 1) l G (by omega) fv24) nk_55 ck_55 rfl (by omega) rfl (i_le rfl) rfl ?_
            refine z_goto (tgt := 119) C x_Pa_parseAtom_103 rfl ?_
            exact z_vret C x_Pa_parseAtom_119 h
          · refine z_lookup (tgt := 114) C x_Pa_parseAtom_4 (by decide) (off := 110) (by simp [Op.lookupswitch.offset_cons, Op.lookupswitch.offset, Ne.symm c2, Ne.symm c8, Ne.symm c13, Ne.symm c16, Ne.symm c19]) rfl ?_
            refine z_aload_n C 0 x_Pa_parseAtom_114 rfl ?_
            refine z_iconst C x_Pa_parseAtom_115 ?_
            obtain ⟨v26, M27, fv26, h⟩ := bcall_e h
            refine z_callVv (k := 55) C x_Pa_parseAtom_116 cv_Pa_83 (t_Pa_fail (lev := lev - 1) l G (by omega) fv26) nk_55 ck_55 rfl (by omega) rfl (i_le rfl) rfl ?_
            exact z_vret C x_Pa_parseAtom_119 h
theorem x_Pa_stepOfItem_0 : DC b_Pa_stepOfItem 0 (.iload_n 0) 1 1 := ⟨by decide +kernel, rfl⟩
theorem x_Pa_stepOfItem_1 : DC b_Pa_stepOfItem 1 (.lookupswitch 44 #[(37, 41), (42, 35), (47, 38)]) 35 36 := ⟨by decide +kernel, rfl⟩
theorem x_Pa_stepOfItem_36 : DC b_Pa_stepOfItem 36 (.bipush 6) 2 38 := ⟨by decide +kernel, rfl⟩
theorem x_Pa_stepOfItem_38 : DC b_Pa_stepOfItem 38 (.ireturn) 1 39 := ⟨by decide +kernel, rfl⟩
theorem x_Pa_stepOfItem_39 : DC b_Pa_stepOfItem 39 (.bipush 7) 2 41 := ⟨by decide +kernel, rfl⟩
theorem x_Pa_stepOfItem_41 : DC b_Pa_stepOfItem 41 (.ireturn) 1 42 := ⟨by decide +kernel, rfl⟩
theorem x_Pa_stepOfItem_42 : DC b_Pa_stepOfItem 42 (.bipush 8) 2 44 := ⟨by decide +kernel, rfl⟩
theorem x_Pa_stepOfItem_44 : DC b_Pa_stepOfItem 44 (.ireturn) 1 45 := ⟨by decide +kernel, rfl⟩
theorem x_Pa_stepOfItem_45 : DC b_Pa_stepOfItem 45 (.iconst (-1)) 1 46 := ⟨by decide +kernel, rfl⟩
theorem x_Pa_stepOfItem_46 : DC b_Pa_stepOfItem 46 (.ireturn) 1 47 := ⟨by decide +kernel, rfl⟩
def d_Pa_stepOfItem (a0 : Int) (M : Mem) : Res := if w32 a0 = 37 then (some (8, M)) else (if w32 a0 = 42 then (some (6, M)) else (if w32 a0 = 47 then (some (7, M)) else (some ((-1), M))))
theorem t_Pa_stepOfItem (l : Launch) (G : GX) {lev : Nat} (hlev : 0 ≤ lev) {a0 : Int} {M : Mem} {r : Int × Mem} (h : d_Pa_stepOfItem a0 M = some r) : Mt l G y_Pa_stepOfItem b_Pa_stepOfItem 1 (some .int) lev 1 [vi a0] M r := by
  refine Mt.of (by decide) (i_le rfl) ?_
  intro p e s m args below meth c C
  have C : Cx p s m args meth c G b_Pa_stepOfItem 1 "PrairiePool$Parser" (some .int) := C
  unfold d_Pa_stepOfItem at h
  refine z_sub (lv' := [(0, vi a0)]) [0] rfl ?_
  refine z_iload_n C 0 x_Pa_stepOfItem_0 rfl ?_
  rcases ite_e h with ⟨c1, h⟩ | ⟨c1, h⟩
  · refine z_lookup (tgt := 42) C x_Pa_stepOfItem_1 (by decide) (off := 41) (by rw [c1]; decide) rfl ?_
    refine z_bipush C rfl x_Pa_stepOfItem_42 ?_
    exact z_iret C x_Pa_stepOfItem_44 h
  · rcases ite_e h with ⟨c2, h⟩ | ⟨c2, h⟩
    · refine z_lookup (tgt := 36) C x_Pa_stepOfItem_1 (by decide) (off := 35) (by rw [c2]; decide) rfl ?_
      refine z_bipush C rfl x_Pa_stepOfItem_36 ?_
      exact z_iret C x_Pa_stepOfItem_38 h
    · rcases ite_e h with ⟨c3, h⟩ | ⟨c3, h⟩
      · refine z_lookup (tgt := 39) C x_Pa_stepOfItem_1 (by decide) (off := 38) (by rw [c3]; decide) rfl ?_
        refine z_bipush C rfl x_Pa_stepOfItem_39 ?_
        exact z_iret C x_Pa_stepOfItem_41 h
      · refine z_lookup (tgt := 45) C x_Pa_stepOfItem_1 (by decide) (off := 44) (by simp [Op.lookupswitch.offset_cons, Op.lookupswitch.offset, Ne.symm c1, Ne.symm c2, Ne.symm c3]) rfl ?_
        refine z_iconst C x_Pa_stepOfItem_45 ?_
        exact z_iret C x_Pa_stepOfItem_46 h
theorem x_Pa_parseItem_0 : DC b_Pa_parseItem 0 (.aload_n 0) 1 1 := ⟨by decide +kernel, rfl⟩
theorem x_Pa_parseItem_1 : DC b_Pa_parseItem 1 (.iload_n 1) 1 2 := ⟨by decide +kernel, rfl⟩
theorem x_Pa_parseItem_2 : DC b_Pa_parseItem 2 (.invokevirtual 160) 3 5 := ⟨by decide +kernel, rfl⟩
theorem x_Pa_parseItem_5 : DC b_Pa_parseItem 5 (.iconst 0) 1 6 := ⟨by decide +kernel, rfl⟩
theorem x_Pa_parseItem_6 : DC b_Pa_parseItem 6 (.istore_n 2) 1 7 := ⟨by decide +kernel, rfl⟩
theorem x_Pa_parseItem_7 : DC b_Pa_parseItem 7 (.iload_n 2) 1 8 := ⟨by decide +kernel, rfl⟩
theorem x_Pa_parseItem_8 : DC b_Pa_parseItem 8 (.aload_n 0) 1 9 := ⟨by decide +kernel, rfl⟩
theorem x_Pa_parseItem_9 : DC b_Pa_parseItem 9 (.getfield 36) 3 12 := ⟨by decide +kernel, rfl⟩
theorem x_Pa_parseItem_12 : DC b_Pa_parseItem 12 (.if_icmp .ge 46) 3 15 := ⟨by decide +kernel, rfl⟩
theorem x_Pa_parseItem_15 : DC b_Pa_parseItem 15 (.aload_n 0) 1 16 := ⟨by decide +kernel, rfl⟩
theorem x_Pa_parseItem_16 : DC b_Pa_parseItem 16 (.getfield 48) 3 19 := ⟨by decide +kernel, rfl⟩
theorem x_Pa_parseItem_19 : DC b_Pa_parseItem 19 (.invokestatic 163) 3 22 := ⟨by decide +kernel, rfl⟩
theorem x_Pa_parseItem_22 : DC b_Pa_parseItem 22 (.iconst (-1)) 1 23 := ⟨by decide +kernel, rfl⟩
theorem x_Pa_parseItem_23 : DC b_Pa_parseItem 23 (.if_icmp .eq 35) 3 26 := ⟨by decide +kernel, rfl⟩
theorem x_Pa_parseItem_26 : DC b_Pa_parseItem 26 (.aload_n 0) 1 27 := ⟨by decide +kernel, rfl⟩
theorem x_Pa_parseItem_27 : DC b_Pa_parseItem 27 (.getfield 48) 3 30 := ⟨by decide +kernel, rfl⟩
theorem x_Pa_parseItem_30 : DC b_Pa_parseItem 30 (.invokestatic 163) 3 33 := ⟨by decide +kernel, rfl⟩
theorem x_Pa_parseItem_33 : DC b_Pa_parseItem 33 (.istore_n 3) 1 34 := ⟨by decide +kernel, rfl⟩
theorem x_Pa_parseItem_34 : DC b_Pa_parseItem 34 (.aload_n 0) 1 35 := ⟨by decide +kernel, rfl⟩
theorem x_Pa_parseItem_35 : DC b_Pa_parseItem 35 (.invokevirtual 45) 3 38 := ⟨by decide +kernel, rfl⟩
theorem x_Pa_parseItem_38 : DC b_Pa_parseItem 38 (.aload_n 0) 1 39 := ⟨by decide +kernel, rfl⟩
theorem x_Pa_parseItem_39 : DC b_Pa_parseItem 39 (.iload_n 1) 1 40 := ⟨by decide +kernel, rfl⟩
theorem x_Pa_parseItem_40 : DC b_Pa_parseItem 40 (.invokevirtual 160) 3 43 := ⟨by decide +kernel, rfl⟩
theorem x_Pa_parseItem_43 : DC b_Pa_parseItem 43 (.aload_n 0) 1 44 := ⟨by decide +kernel, rfl⟩
theorem x_Pa_parseItem_44 : DC b_Pa_parseItem 44 (.getfield 25) 3 47 := ⟨by decide +kernel, rfl⟩
theorem x_Pa_parseItem_47 : DC b_Pa_parseItem 47 (.iload_n 3) 1 48 := ⟨by decide +kernel, rfl⟩
theorem x_Pa_parseItem_48 : DC b_Pa_parseItem 48 (.iconst 0) 1 49 := ⟨by decide +kernel, rfl⟩
theorem x_Pa_parseItem_49 : DC b_Pa_parseItem 49 (.invokevirtual 147) 3 52 := ⟨by decide +kernel, rfl⟩
theorem x_Pa_parseItem_52 : DC b_Pa_parseItem 52 (.iinc 2 1) 3 55 := ⟨by decide +kernel, rfl⟩
theorem x_Pa_parseItem_55 : DC b_Pa_parseItem 55 (.goto (-48)) 3 58 := ⟨by decide +kernel, rfl⟩
theorem x_Pa_parseItem_58 : DC b_Pa_parseItem 58 (.return_) 1 59 := ⟨by decide +kernel, rfl⟩
def k_Pa_parseItem_7 (RW : Int → Mem → Res) (RF : Int → Mem → Res) (R7 : Int → Int → Mem → Res) (a1 a2 : Int) (M : Mem) : Res := blet (M 55 6) fun v1 => if w32 a2 < w32 v1 then (blet (M 55 8) fun v3 => bcall (d_Pa_stepOfItem v3 M) fun v4 M5 => if w32 v4 = (-1) then (some (0, M5)) else (blet (M5 55 8) fun v7 => bcall (d_Pa_stepOfItem v7 M5) fun v8 M9 => bcall (d_Pa_advance M9) fun v10 M11 => bcall (d_Pa_parseAtom RW RF a1 M11) fun v12 M13 => bcall (d_Tx_add 57 v8 0 M13) fun v14 M15 => blet (a2 + 1) fun v16 => R7 a1 v16 M15)) else (some (0, M))
theorem z_Pa_parseItem_7 (C : Cx p s m args meth c G b_Pa_parseItem 4 "PrairiePool$Parser" none) {N : Nat} (hN : 20 ≤ N) (hlev : N + 9 ≤ lev) {RW : Int → Mem → Res} {RF : Int → Mem → Res} (hRW : ∀ (lev' : Nat), N ≤ lev' → ∀ {a1 : Int} {M : Mem} {r : Int × Mem}, RW a1 M = some r → Mt l G y_Pa_parseWhole b_Pa_parseWhole 2 none lev' 0 [.ref (G.1 + 55), vi a1] M r) (hRF : ∀ (lev' : Nat), N ≤ lev' → ∀ {a1 : Int} {M : Mem} {r : Int × Mem}, RF a1 M = some r → Mt l G y_Pa_parseFew b_Pa_parseFew 3 none lev' 0 [.ref (G.1 + 55), vi a1] M r) {r : Int × Mem} {R7 : Int → Int → Mem → Res} (hR7 : ∀ (a1 a2 : Int) (M : Mem), R7 a1 a2 M = some r → Z p l e lev s m args below meth c G 4 (MQ below (Qm G 0 r) args s 0 0 (Ab G)) M 7 [(0, .ref (G.1 + 55)), (1, vi a1), (2, vi a2)] []) {a1 a2 : Int} {M : Mem} (h : k_Pa_parseItem_7 RW RF R7 a1 a2 M = some r) : Z p l e lev s m args below meth c G 4 (MQ below (Qm G 0 r) args s 0 0 (Ab G)) M 7 [(0, .ref (G.1 + 55)), (1, vi a1), (2, vi a2)] [] := by
  unfold k_Pa_parseItem_7 at h
  refine z_iload_n C 2 x_Pa_parseItem_7 rfl ?_
  refine z_aload_n C 0 x_Pa_parseItem_8 rfl ?_
  obtain ⟨v1, ev1, h⟩ := blet_e h
  refine z_getI (j := 6) C x_Pa_parseItem_9 nk_55 ck_55 cw_4 (i_lt rfl) rfl rfl fl_Pa_36 ev1 ?_
  rcases ite_e h with ⟨c2, h⟩ | ⟨c2, h⟩
  · refine z_icmp_ge_f (tgt := 58) C x_Pa_parseItem_12 rfl c2 ?_
    refine z_aload_n C 0 x_Pa_parseItem_15 rfl ?_
    obtain ⟨v3, ev3, h⟩ := blet_e h
    refine z_getI (j := 8) C x_Pa_parseItem_16 nk_55 ck_55 cw_4 (i_lt rfl) rfl rfl fl_Pa_48 ev3 ?_
    obtain ⟨v4, M5, fv4, h⟩ := bcall_e h
    refine z_callSi C x_Pa_parseItem_19 cs_Pa_163 (t_Pa_stepOfItem (lev := lev - 1) l G (by omega) fv4) (by omega) rfl (i_le rfl) rfl ?_
    refine z_iconst C x_Pa_parseItem_22 ?_
    rcases ite_e h with ⟨c6, h⟩ | ⟨c6, h⟩
    · refine z_icmp_eq_t (tgt := 58) C x_Pa_parseItem_23 rfl c6 ?_
      exact z_vret C x_Pa_parseItem_58 h
    · refine z_icmp_eq_f (tgt := 58) C x_Pa_parseItem_23 rfl c6 ?_
      refine z_aload_n C 0 x_Pa_parseItem_26 rfl ?_
      obtain ⟨v7, ev7, h⟩ := blet_e h
      refine z_getI (j := 8) C x_Pa_parseItem_27 nk_55 ck_55 cw_4 (i_lt rfl) rfl rfl fl_Pa_48 ev7 ?_
      obtain ⟨v8, M9, fv8, h⟩ := bcall_e h
      refine z_callSi C x_Pa_parseItem_30 cs_Pa_163 (t_Pa_stepOfItem (lev := lev - 1) l G (by omega) fv8) (by omega) rfl (i_le rfl) rfl ?_
      refine z_istore_n (lv' := [(3, vi v8), (0, .ref (G.1 + 55)), (1, vi a1), (2, vi a2)]) C rfl x_Pa_parseItem_33 (i_lt rfl) rfl ?_
      refine z_aload_n C 1 x_Pa_parseItem_34 rfl ?_
      obtain ⟨v10, M11, fv10, h⟩ := bcall_e h
      refine z_callVv (k := 55) C x_Pa_parseItem_35 cv_Pa_45 (t_Pa_advance (lev := lev - 1) l G (by omega) fv10) nk_55 ck_55 rfl (by omega) rfl (i_le rfl) rfl ?_
      refine z_aload_n C 1 x_Pa_parseItem_38 rfl ?_
      refine z_iload_n C 2 x_Pa_parseItem_39 rfl ?_
      obtain ⟨v12, M13, fv12, h⟩ := bcall_e h
      refine z_callVv (k := 55) C x_Pa_parseItem_40 cv_Pa_160 (t_Pa_parseAtom (lev := lev - 1) l G hN (by omega) hRW hRF fv12) nk_55 ck_55 rfl (by omega) rfl (i_le rfl) rfl ?_
      refine z_aload_n C 1 x_Pa_parseItem_43 rfl ?_
      refine z_getR (j := 4) C x_Pa_parseItem_44 nk_55 ck_55 cw_4 (i_lt rfl) rfl rf_55_4 rfl fl_Pa_25 ?_
      refine z_iload_n C 0 x_Pa_parseItem_47 rfl ?_
      refine z_iconst C x_Pa_parseItem_48 ?_
      obtain ⟨v14, M15, fv14, h⟩ := bcall_e h
      refine z_callVv (k := 57) C x_Pa_parseItem_49 cv_Pa_147 (t_Tx_add (lev := lev - 1) l G (by omega) it_57 fv14) nk_57 ck_57 rfl (by omega) rfl (i_le rfl) rfl ?_
      obtain ⟨v16, ev16, h⟩ := blet_e h
      refine z_iinc (lv' := [(2, vi v16), (3, vi v8), (0, .ref (G.1 + 55)), (1, vi a1)]) C 3 ev16 x_Pa_parseItem_52 rfl (i_lt rfl) rfl ?_
      refine z_goto (tgt := 7) C x_Pa_parseItem_55 rfl ?_
      exact z_sub [2, 3, 0] rfl (hR7 a1 v16 M15 h)
  · refine z_icmp_ge_t (tgt := 58) C x_Pa_parseItem_12 rfl c2 ?_
    exact z_vret C x_Pa_parseItem_58 h
theorem zl_Pa_parseItem_7 (C : Cx p s m args meth c G b_Pa_parseItem 4 "PrairiePool$Parser" none) {N : Nat} (hN : 20 ≤ N) (hlev : N + 9 ≤ lev) {RW : Int → Mem → Res} {RF : Int → Mem → Res} (hRW : ∀ (lev' : Nat), N ≤ lev' → ∀ {a1 : Int} {M : Mem} {r : Int × Mem}, RW a1 M = some r → Mt l G y_Pa_parseWhole b_Pa_parseWhole 2 none lev' 0 [.ref (G.1 + 55), vi a1] M r) (hRF : ∀ (lev' : Nat), N ≤ lev' → ∀ {a1 : Int} {M : Mem} {r : Int × Mem}, RF a1 M = some r → Mt l G y_Pa_parseFew b_Pa_parseFew 3 none lev' 0 [.ref (G.1 + 55), vi a1] M r) {r : Int × Mem}  : ∀ (n : Nat) (a1 a2 : Int) (M : Mem), fix (fun _ _ _ => none) (k_Pa_parseItem_7 RW RF) n a1 a2 M = some r → Z p l e lev s m args below meth c G 4 (MQ below (Qm G 0 r) args s 0 0 (Ab G)) M 7 [(0, .ref (G.1 + 55)), (1, vi a1), (2, vi a2)] [] := by
  intro n
  induction n with
  | zero => intro a1 a2 M h; exact nomatch (show (none : Res) = some r from h)
  | succ n ih => intro a1 a2 M h; exact z_Pa_parseItem_7 C hN hlev hRW hRF ih h
def d_Pa_parseItem (RW : Int → Mem → Res) (RF : Int → Mem → Res) (a1 : Int) (M : Mem) : Res := bcall (d_Pa_parseAtom RW RF a1 M) fun v1 M2 => fix (fun _ _ _ => none) (k_Pa_parseItem_7 RW RF) FU a1 0 M2
theorem t_Pa_parseItem (l : Launch) (G : GX) {lev : Nat} {N : Nat} (hN : 20 ≤ N) (hlev : N + 9 ≤ lev) {RW : Int → Mem → Res} {RF : Int → Mem → Res} (hRW : ∀ (lev' : Nat), N ≤ lev' → ∀ {a1 : Int} {M : Mem} {r : Int × Mem}, RW a1 M = some r → Mt l G y_Pa_parseWhole b_Pa_parseWhole 2 none lev' 0 [.ref (G.1 + 55), vi a1] M r) (hRF : ∀ (lev' : Nat), N ≤ lev' → ∀ {a1 : Int} {M : Mem} {r : Int × Mem}, RF a1 M = some r → Mt l G y_Pa_parseFew b_Pa_parseFew 3 none lev' 0 [.ref (G.1 + 55), vi a1] M r) {a1 : Int} {M : Mem} {r : Int × Mem} (h : d_Pa_parseItem RW RF a1 M = some r) : Mt l G y_Pa_parseItem b_Pa_parseItem 4 none lev 0 [.ref (G.1 + 55), vi a1] M r := by
  refine Mt.of (by decide) (i_le rfl) ?_
  intro p e s m args below meth c C
  have C : Cx p s m args meth c G b_Pa_parseItem 4 "PrairiePool$Parser" none := C
  unfold d_Pa_parseItem at h
  refine z_sub (lv' := [(0, .ref (G.1 + 55)), (1, vi a1)]) [0, 1] rfl ?_
  refine z_aload_n C 0 x_Pa_parseItem_0 rfl ?_
  refine z_iload_n C 1 x_Pa_parseItem_1 rfl ?_
  obtain ⟨v1, M2, fv1, h⟩ := bcall_e h
  refine z_callVv (k := 55) C x_Pa_parseItem_2 cv_Pa_160 (t_Pa_parseAtom (lev := lev - 1) l G hN (by omega) hRW hRF fv1) nk_55 ck_55 rfl (by omega) rfl (i_le rfl) rfl ?_
  refine z_iconst C x_Pa_parseItem_5 ?_
  refine z_istore_n (lv' := [(2, vi 0), (0, .ref (G.1 + 55)), (1, vi a1)]) C rfl x_Pa_parseItem_6 (i_lt rfl) rfl ?_
  exact z_sub [1, 2, 0] rfl (zl_Pa_parseItem_7 C hN hlev hRW hRF FU a1 0 M2 h)
theorem x_Pa_parseSum_0 : DC b_Pa_parseSum 0 (.aload_n 0) 1 1 := ⟨by decide +kernel, rfl⟩
theorem x_Pa_parseSum_1 : DC b_Pa_parseSum 1 (.iload_n 1) 1 2 := ⟨by decide +kernel, rfl⟩
theorem x_Pa_parseSum_2 : DC b_Pa_parseSum 2 (.invokevirtual 157) 3 5 := ⟨by decide +kernel, rfl⟩
theorem x_Pa_parseSum_5 : DC b_Pa_parseSum 5 (.iconst 0) 1 6 := ⟨by decide +kernel, rfl⟩
theorem x_Pa_parseSum_6 : DC b_Pa_parseSum 6 (.istore_n 2) 1 7 := ⟨by decide +kernel, rfl⟩
theorem x_Pa_parseSum_7 : DC b_Pa_parseSum 7 (.iload_n 2) 1 8 := ⟨by decide +kernel, rfl⟩
theorem x_Pa_parseSum_8 : DC b_Pa_parseSum 8 (.aload_n 0) 1 9 := ⟨by decide +kernel, rfl⟩
theorem x_Pa_parseSum_9 : DC b_Pa_parseSum 9 (.getfield 36) 3 12 := ⟨by decide +kernel, rfl⟩
theorem x_Pa_parseSum_12 : DC b_Pa_parseSum 12 (.if_icmp .ge 60) 3 15 := ⟨by decide +kernel, rfl⟩
theorem x_Pa_parseSum_15 : DC b_Pa_parseSum 15 (.aload_n 0) 1 16 := ⟨by decide +kernel, rfl⟩
theorem x_Pa_parseSum_16 : DC b_Pa_parseSum 16 (.getfield 48) 3 19 := ⟨by decide +kernel, rfl⟩
theorem x_Pa_parseSum_19 : DC b_Pa_parseSum 19 (.bipush 43) 2 21 := ⟨by decide +kernel, rfl⟩
theorem x_Pa_parseSum_21 : DC b_Pa_parseSum 21 (.if_icmp .eq 12) 3 24 := ⟨by decide +kernel, rfl⟩
theorem x_Pa_parseSum_24 : DC b_Pa_parseSum 24 (.aload_n 0) 1 25 := ⟨by decide +kernel, rfl⟩
theorem x_Pa_parseSum_25 : DC b_Pa_parseSum 25 (.getfield 48) 3 28 := ⟨by decide +kernel, rfl⟩
theorem x_Pa_parseSum_28 : DC b_Pa_parseSum 28 (.bipush 45) 2 30 := ⟨by decide +kernel, rfl⟩
theorem x_Pa_parseSum_30 : DC b_Pa_parseSum 30 (.if_icmp .ne 42) 3 33 := ⟨by decide +kernel, rfl⟩
theorem x_Pa_parseSum_33 : DC b_Pa_parseSum 33 (.aload_n 0) 1 34 := ⟨by decide +kernel, rfl⟩
theorem x_Pa_parseSum_34 : DC b_Pa_parseSum 34 (.getfield 48) 3 37 := ⟨by decide +kernel, rfl⟩
theorem x_Pa_parseSum_37 : DC b_Pa_parseSum 37 (.bipush 43) 2 39 := ⟨by decide +kernel, rfl⟩
theorem x_Pa_parseSum_39 : DC b_Pa_parseSum 39 (.if_icmp .ne 7) 3 42 := ⟨by decide +kernel, rfl⟩
theorem x_Pa_parseSum_42 : DC b_Pa_parseSum 42 (.iconst 4) 1 43 := ⟨by decide +kernel, rfl⟩
theorem x_Pa_parseSum_43 : DC b_Pa_parseSum 43 (.goto 4) 3 46 := ⟨by decide +kernel, rfl⟩
theorem x_Pa_parseSum_46 : DC b_Pa_parseSum 46 (.iconst 5) 1 47 := ⟨by decide +kernel, rfl⟩
theorem x_Pa_parseSum_47 : DC b_Pa_parseSum 47 (.istore_n 3) 1 48 := ⟨by decide +kernel, rfl⟩
theorem x_Pa_parseSum_48 : DC b_Pa_parseSum 48 (.aload_n 0) 1 49 := ⟨by decide +kernel, rfl⟩
theorem x_Pa_parseSum_49 : DC b_Pa_parseSum 49 (.invokevirtual 45) 3 52 := ⟨by decide +kernel, rfl⟩
theorem x_Pa_parseSum_52 : DC b_Pa_parseSum 52 (.aload_n 0) 1 53 := ⟨by decide +kernel, rfl⟩
theorem x_Pa_parseSum_53 : DC b_Pa_parseSum 53 (.iload_n 1) 1 54 := ⟨by decide +kernel, rfl⟩
theorem x_Pa_parseSum_54 : DC b_Pa_parseSum 54 (.invokevirtual 157) 3 57 := ⟨by decide +kernel, rfl⟩
theorem x_Pa_parseSum_57 : DC b_Pa_parseSum 57 (.aload_n 0) 1 58 := ⟨by decide +kernel, rfl⟩
theorem x_Pa_parseSum_58 : DC b_Pa_parseSum 58 (.getfield 25) 3 61 := ⟨by decide +kernel, rfl⟩
theorem x_Pa_parseSum_61 : DC b_Pa_parseSum 61 (.iload_n 3) 1 62 := ⟨by decide +kernel, rfl⟩
theorem x_Pa_parseSum_62 : DC b_Pa_parseSum 62 (.iconst 0) 1 63 := ⟨by decide +kernel, rfl⟩
theorem x_Pa_parseSum_63 : DC b_Pa_parseSum 63 (.invokevirtual 147) 3 66 := ⟨by decide +kernel, rfl⟩
theorem x_Pa_parseSum_66 : DC b_Pa_parseSum 66 (.iinc 2 1) 3 69 := ⟨by decide +kernel, rfl⟩
theorem x_Pa_parseSum_69 : DC b_Pa_parseSum 69 (.goto (-62)) 3 72 := ⟨by decide +kernel, rfl⟩
theorem x_Pa_parseSum_72 : DC b_Pa_parseSum 72 (.return_) 1 73 := ⟨by decide +kernel, rfl⟩
def k_Pa_parseSum_47 (RW : Int → Mem → Res) (RF : Int → Mem → Res) (R7 : Int → Int → Mem → Res) (a1 a2 s0 : Int) (M : Mem) : Res := bcall (d_Pa_advance M) fun v1 M2 => bcall (d_Pa_parseItem RW RF a1 M2) fun v3 M4 => bcall (d_Tx_add 57 s0 0 M4) fun v5 M6 => blet (a2 + 1) fun v7 => R7 a1 v7 M6
theorem z_Pa_parseSum_47 (C : Cx p s m args meth c G b_Pa_parseSum 4 "PrairiePool$Parser" none) {N : Nat} (hN : 20 ≤ N) (hlev : N + 10 ≤ lev) {RW : Int → Mem → Res} {RF : Int → Mem → Res} (hRW : ∀ (lev' : Nat), N ≤ lev' → ∀ {a1 : Int} {M : Mem} {r : Int × Mem}, RW a1 M = some r → Mt l G y_Pa_parseWhole b_Pa_parseWhole 2 none lev' 0 [.ref (G.1 + 55), vi a1] M r) (hRF : ∀ (lev' : Nat), N ≤ lev' → ∀ {a1 : Int} {M : Mem} {r : Int × Mem}, RF a1 M = some r → Mt l G y_Pa_parseFew b_Pa_parseFew 3 none lev' 0 [.ref (G.1 + 55), vi a1] M r) {r : Int × Mem} {R7 : Int → Int → Mem → Res} (hR7 : ∀ (a1 a2 : Int) (M : Mem), R7 a1 a2 M = some r → Z p l e lev s m args below meth c G 4 (MQ below (Qm G 0 r) args s 0 0 (Ab G)) M 7 [(0, .ref (G.1 + 55)), (1, vi a1), (2, vi a2)] []) {a1 a2 s0 : Int} {M : Mem} (h : k_Pa_parseSum_47 RW RF R7 a1 a2 s0 M = some r) : Z p l e lev s m args below meth c G 4 (MQ below (Qm G 0 r) args s 0 0 (Ab G)) M 47 [(0, .ref (G.1 + 55)), (1, vi a1), (2, vi a2)] [vi s0] := by
  unfold k_Pa_parseSum_47 at h
  refine z_istore_n (lv' := [(3, vi s0), (0, .ref (G.1 + 55)), (1, vi a1), (2, vi a2)]) C rfl x_Pa_parseSum_47 (i_lt rfl) rfl ?_
  refine z_aload_n C 1 x_Pa_parseSum_48 rfl ?_
  obtain ⟨v1, M2, fv1, h⟩ := bcall_e h
  refine z_callVv (k := 55) C x_Pa_parseSum_49 cv_Pa_45 (t_Pa_advance (lev := lev - 1) l G (by omega) fv1) nk_55 ck_55 rfl (by omega) rfl (i_le rfl) rfl ?_
  refine z_aload_n C 1 x_Pa_parseSum_52 rfl ?_
  refine z_iload_n C 2 x_Pa_parseSum_53 rfl ?_
  obtain ⟨v3, M4, fv3, h⟩ := bcall_e h
  refine z_callVv (k := 55) C x_Pa_parseSum_54 cv_Pa_157 (t_Pa_parseItem (lev := lev - 1) l G hN (by omega) hRW hRF fv3) nk_55 ck_55 rfl (by omega) rfl (i_le rfl) rfl ?_
  refine z_aload_n C 1 x_Pa_parseSum_57 rfl ?_
  refine z_getR (j := 4) C x_Pa_parseSum_58 nk_55 ck_55 cw_4 (i_lt rfl) rfl rf_55_4 rfl fl_Pa_25 ?_
  refine z_iload_n C 0 x_Pa_parseSum_61 rfl ?_
  refine z_iconst C x_Pa_parseSum_62 ?_
  obtain ⟨v5, M6, fv5, h⟩ := bcall_e h
  refine z_callVv (k := 57) C x_Pa_parseSum_63 cv_Pa_147 (t_Tx_add (lev := lev - 1) l G (by omega) it_57 fv5) nk_57 ck_57 rfl (by omega) rfl (i_le rfl) rfl ?_
  obtain ⟨v7, ev7, h⟩ := blet_e h
  refine z_iinc (lv' := [(2, vi v7), (3, vi s0), (0, .ref (G.1 + 55)), (1, vi a1)]) C 3 ev7 x_Pa_parseSum_66 rfl (i_lt rfl) rfl ?_
  refine z_goto (tgt := 7) C x_Pa_parseSum_69 rfl ?_
  exact z_sub [2, 3, 0] rfl (hR7 a1 v7 M6 h)
def k_Pa_parseSum_33 (RW : Int → Mem → Res) (RF : Int → Mem → Res) (R7 : Int → Int → Mem → Res) (a1 a2 : Int) (M : Mem) : Res := blet (M 55 8) fun v1 => if w32 v1 = 43 then (k_Pa_parseSum_47 RW RF R7 a1 a2 4 M) else (k_Pa_parseSum_47 RW RF R7 a1 a2 5 M)
theorem z_Pa_parseSum_33 (C : Cx p s m args meth c G b_Pa_parseSum 4 "PrairiePool$Parser" none) {N : Nat} (hN : 20 ≤ N) (hlev : N + 10 ≤ lev) {RW : Int → Mem → Res} {RF : Int → Mem → Res} (hRW : ∀ (lev' : Nat), N ≤ lev' → ∀ {a1 : Int} {M : Mem} {r : Int × Mem}, RW a1 M = some r → Mt l G y_Pa_parseWhole b_Pa_parseWhole 2 none lev' 0 [.ref (G.1 + 55), vi a1] M r) (hRF : ∀ (lev' : Nat), N ≤ lev' → ∀ {a1 : Int} {M : Mem} {r : Int × Mem}, RF a1 M = some r → Mt l G y_Pa_parseFew b_Pa_parseFew 3 none lev' 0 [.ref (G.1 + 55), vi a1] M r) {r : Int × Mem} {R7 : Int → Int → Mem → Res} (hR7 : ∀ (a1 a2 : Int) (M : Mem), R7 a1 a2 M = some r → Z p l e lev s m args below meth c G 4 (MQ below (Qm G 0 r) args s 0 0 (Ab G)) M 7 [(0, .ref (G.1 + 55)), (1, vi a1), (2, vi a2)] []) {a1 a2 : Int} {M : Mem} (h : k_Pa_parseSum_33 RW RF R7 a1 a2 M = some r) : Z p l e lev s m args below meth c G 4 (MQ below (Qm G 0 r) args s 0 0 (Ab G)) M 33 [(0, .ref (G.1 + 55)), (1, vi a1), (2, vi a2)] [] := by
  unfold k_Pa_parseSum_33 at h
  refine z_aload_n C 0 x_Pa_parseSum_33 rfl ?_
  obtain ⟨v1, ev1, h⟩ := blet_e h
  refine z_getI (j := 8) C x_Pa_parseSum_34 nk_55 ck_55 cw_4 (i_lt rfl) rfl rfl fl_Pa_48 ev1 ?_
  refine z_bipush C rfl x_Pa_parseSum_37 ?_
  rcases ite_e h with ⟨c2, h⟩ | ⟨c2, h⟩
  · refine z_icmp_ne_f (tgt := 46) C x_Pa_parseSum_39 rfl c2 ?_
    refine z_iconst C x_Pa_parseSum_42 ?_
    refine z_goto (tgt := 47) C x_Pa_parseSum_43 rfl ?_
    exact z_sub [0, 1, 2] rfl (z_Pa_parseSum_47 C hN hlev hRW hRF hR7 h)
  · refine z_icmp_ne_t (tgt := 46) C x_Pa_parseSum_39 rfl c2 ?_
    refine z_iconst C x_Pa_parseSum_46 ?_
    exact z_sub [0, 1, 2] rfl (z_Pa_parseSum_47 C hN hlev hRW hRF hR7 h)
def k_Pa_parseSum_7 (RW : Int → Mem → Res) (RF : Int → Mem → Res) (R7 : Int → Int → Mem → Res) (a1 a2 : Int) (M : Mem) : Res := blet (M 55 6) fun v1 => if w32 a2 < w32 v1 then (blet (M 55 8) fun v3 => if w32 v3 = 43 then (k_Pa_parseSum_33 RW RF R7 a1 a2 M) else (blet (M 55 8) fun v5 => if w32 v5 = 45 then (k_Pa_parseSum_33 RW RF R7 a1 a2 M) else (some (0, M)))) else (some (0, M))
theorem z_Pa_parseSum_7 (C : Cx p s m args meth c G b_Pa_parseSum 4 "PrairiePool$Parser" none) {N : Nat} (hN : 20 ≤ N) (hlev : N + 10 ≤ lev) {RW : Int → Mem → Res} {RF : Int → Mem → Res} (hRW : ∀ (lev' : Nat), N ≤ lev' → ∀ {a1 : Int} {M : Mem} {r : Int × Mem}, RW a1 M = some r → Mt l G y_Pa_parseWhole b_Pa_parseWhole 2 none lev' 0 [.ref (G.1 + 55), vi a1] M r) (hRF : ∀ (lev' : Nat), N ≤ lev' → ∀ {a1 : Int} {M : Mem} {r : Int × Mem}, RF a1 M = some r → Mt l G y_Pa_parseFew b_Pa_parseFew 3 none lev' 0 [.ref (G.1 + 55), vi a1] M r) {r : Int × Mem} {R7 : Int → Int → Mem → Res} (hR7 : ∀ (a1 a2 : Int) (M : Mem), R7 a1 a2 M = some r → Z p l e lev s m args below meth c G 4 (MQ below (Qm G 0 r) args s 0 0 (Ab G)) M 7 [(0, .ref (G.1 + 55)), (1, vi a1), (2, vi a2)] []) {a1 a2 : Int} {M : Mem} (h : k_Pa_parseSum_7 RW RF R7 a1 a2 M = some r) : Z p l e lev s m args below meth c G 4 (MQ below (Qm G 0 r) args s 0 0 (Ab G)) M 7 [(0, .ref (G.1 + 55)), (1, vi a1), (2, vi a2)] [] := by
  unfold k_Pa_parseSum_7 at h
  refine z_iload_n C 2 x_Pa_parseSum_7 rfl ?_
  refine z_aload_n C 0 x_Pa_parseSum_8 rfl ?_
  obtain ⟨v1, ev1, h⟩ := blet_e h
  refine z_getI (j := 6) C x_Pa_parseSum_9 nk_55 ck_55 cw_4 (i_lt rfl) rfl rfl fl_Pa_36 ev1 ?_
  rcases ite_e h with ⟨c2, h⟩ | ⟨c2, h⟩
  · refine z_icmp_ge_f (tgt := 72) C x_Pa_parseSum_12 rfl c2 ?_
    refine z_aload_n C 0 x_Pa_parseSum_15 rfl ?_
    obtain ⟨v3, ev3, h⟩ := blet_e h
    refine z_getI (j := 8) C x_Pa_parseSum_16 nk_55 ck_55 cw_4 (i_lt rfl) rfl rfl fl_Pa_48 ev3 ?_
    refine z_bipush C rfl x_Pa_parseSum_19 ?_
    rcases ite_e h with ⟨c4, h⟩ | ⟨c4, h⟩
    · refine z_icmp_eq_t (tgt := 33) C x_Pa_parseSum_21 rfl c4 ?_
      exact z_sub [0, 1, 2] rfl (z_Pa_parseSum_33 C hN hlev hRW hRF hR7 h)
    · refine z_icmp_eq_f (tgt := 33) C x_Pa_parseSum_21 rfl c4 ?_
      refine z_aload_n C 0 x_Pa_parseSum_24 rfl ?_
      obtain ⟨v5, ev5, h⟩ := blet_e h
      refine z_getI (j := 8) C x_Pa_parseSum_25 nk_55 ck_55 cw_4 (i_lt rfl) rfl rfl fl_Pa_48 ev5 ?_
      refine z_bipush C rfl x_Pa_parseSum_28 ?_
      rcases ite_e h with ⟨c6, h⟩ | ⟨c6, h⟩
      · refine z_icmp_ne_f (tgt := 72) C x_Pa_parseSum_30 rfl c6 ?_
        exact z_sub [0, 1, 2] rfl (z_Pa_parseSum_33 C hN hlev hRW hRF hR7 h)
      · refine z_icmp_ne_t (tgt := 72) C x_Pa_parseSum_30 rfl c6 ?_
        exact z_vret C x_Pa_parseSum_72 h
  · refine z_icmp_ge_t (tgt := 72) C x_Pa_parseSum_12 rfl c2 ?_
    exact z_vret C x_Pa_parseSum_72 h
theorem zl_Pa_parseSum_7 (C : Cx p s m args meth c G b_Pa_parseSum 4 "PrairiePool$Parser" none) {N : Nat} (hN : 20 ≤ N) (hlev : N + 10 ≤ lev) {RW : Int → Mem → Res} {RF : Int → Mem → Res} (hRW : ∀ (lev' : Nat), N ≤ lev' → ∀ {a1 : Int} {M : Mem} {r : Int × Mem}, RW a1 M = some r → Mt l G y_Pa_parseWhole b_Pa_parseWhole 2 none lev' 0 [.ref (G.1 + 55), vi a1] M r) (hRF : ∀ (lev' : Nat), N ≤ lev' → ∀ {a1 : Int} {M : Mem} {r : Int × Mem}, RF a1 M = some r → Mt l G y_Pa_parseFew b_Pa_parseFew 3 none lev' 0 [.ref (G.1 + 55), vi a1] M r) {r : Int × Mem}  : ∀ (n : Nat) (a1 a2 : Int) (M : Mem), fix (fun _ _ _ => none) (k_Pa_parseSum_7 RW RF) n a1 a2 M = some r → Z p l e lev s m args below meth c G 4 (MQ below (Qm G 0 r) args s 0 0 (Ab G)) M 7 [(0, .ref (G.1 + 55)), (1, vi a1), (2, vi a2)] [] := by
  intro n
  induction n with
  | zero => intro a1 a2 M h; exact nomatch (show (none : Res) = some r from h)
  | succ n ih => intro a1 a2 M h; exact z_Pa_parseSum_7 C hN hlev hRW hRF ih h
def d_Pa_parseSum (RW : Int → Mem → Res) (RF : Int → Mem → Res) (a1 : Int) (M : Mem) : Res := bcall (d_Pa_parseItem RW RF a1 M) fun v1 M2 => fix (fun _ _ _ => none) (k_Pa_parseSum_7 RW RF) FU a1 0 M2
theorem t_Pa_parseSum (l : Launch) (G : GX) {lev : Nat} {N : Nat} (hN : 20 ≤ N) (hlev : N + 10 ≤ lev) {RW : Int → Mem → Res} {RF : Int → Mem → Res} (hRW : ∀ (lev' : Nat), N ≤ lev' → ∀ {a1 : Int} {M : Mem} {r : Int × Mem}, RW a1 M = some r → Mt l G y_Pa_parseWhole b_Pa_parseWhole 2 none lev' 0 [.ref (G.1 + 55), vi a1] M r) (hRF : ∀ (lev' : Nat), N ≤ lev' → ∀ {a1 : Int} {M : Mem} {r : Int × Mem}, RF a1 M = some r → Mt l G y_Pa_parseFew b_Pa_parseFew 3 none lev' 0 [.ref (G.1 + 55), vi a1] M r) {a1 : Int} {M : Mem} {r : Int × Mem} (h : d_Pa_parseSum RW RF a1 M = some r) : Mt l G y_Pa_parseSum b_Pa_parseSum 4 none lev 0 [.ref (G.1 + 55), vi a1] M r := by
  refine Mt.of (by decide) (i_le rfl) ?_
  intro p e s m args below meth c C
  have C : Cx p s m args meth c G b_Pa_parseSum 4 "PrairiePool$Parser" none := C
  unfold d_Pa_parseSum at h
  refine z_sub (lv' := [(0, .ref (G.1 + 55)), (1, vi a1)]) [0, 1] rfl ?_
  refine z_aload_n C 0 x_Pa_parseSum_0 rfl ?_
  refine z_iload_n C 1 x_Pa_parseSum_1 rfl ?_
  obtain ⟨v1, M2, fv1, h⟩ := bcall_e h
  refine z_callVv (k := 55) C x_Pa_parseSum_2 cv_Pa_157 (t_Pa_parseItem (lev := lev - 1) l G hN (by omega) hRW hRF fv1) nk_55 ck_55 rfl (by omega) rfl (i_le rfl) rfl ?_
  refine z_iconst C x_Pa_parseSum_5 ?_
  refine z_istore_n (lv' := [(2, vi 0), (0, .ref (G.1 + 55)), (1, vi a1)]) C rfl x_Pa_parseSum_6 (i_lt rfl) rfl ?_
  exact z_sub [1, 2, 0] rfl (zl_Pa_parseSum_7 C hN hlev hRW hRF FU a1 0 M2 h)
theorem x_Pa_stepOfCompares_0 : DC b_Pa_stepOfCompares 0 (.iload_n 0) 1 1 := ⟨by decide +kernel, rfl⟩
theorem x_Pa_stepOfCompares_1 : DC b_Pa_stepOfCompares 1 (.tableswitch 36 60 62 #[27, 33, 30]) 27 28 := ⟨by decide +kernel, rfl⟩
theorem x_Pa_stepOfCompares_28 : DC b_Pa_stepOfCompares 28 (.bipush 13) 2 30 := ⟨by decide +kernel, rfl⟩
theorem x_Pa_stepOfCompares_30 : DC b_Pa_stepOfCompares 30 (.ireturn) 1 31 := ⟨by decide +kernel, rfl⟩
theorem x_Pa_stepOfCompares_31 : DC b_Pa_stepOfCompares 31 (.bipush 14) 2 33 := ⟨by decide +kernel, rfl⟩
theorem x_Pa_stepOfCompares_33 : DC b_Pa_stepOfCompares 33 (.ireturn) 1 34 := ⟨by decide +kernel, rfl⟩
theorem x_Pa_stepOfCompares_34 : DC b_Pa_stepOfCompares 34 (.bipush 15) 2 36 := ⟨by decide +kernel, rfl⟩
theorem x_Pa_stepOfCompares_36 : DC b_Pa_stepOfCompares 36 (.ireturn) 1 37 := ⟨by decide +kernel, rfl⟩
theorem x_Pa_stepOfCompares_37 : DC b_Pa_stepOfCompares 37 (.iconst (-1)) 1 38 := ⟨by decide +kernel, rfl⟩
theorem x_Pa_stepOfCompares_38 : DC b_Pa_stepOfCompares 38 (.ireturn) 1 39 := ⟨by decide +kernel, rfl⟩
def d_Pa_stepOfCompares (a0 : Int) (M : Mem) : Res := if w32 a0 = 60 then (some (13, M)) else (if w32 a0 = 61 then (some (15, M)) else (if w32 a0 = 62 then (some (14, M)) else (some ((-1), M))))
theorem t_Pa_stepOfCompares (l : Launch) (G : GX) {lev : Nat} (hlev : 0 ≤ lev) {a0 : Int} {M : Mem} {r : Int × Mem} (h : d_Pa_stepOfCompares a0 M = some r) : Mt l G y_Pa_stepOfCompares b_Pa_stepOfCompares 1 (some .int) lev 1 [vi a0] M r := by
  refine Mt.of (by decide) (i_le rfl) ?_
  intro p e s m args below meth c C
  have C : Cx p s m args meth c G b_Pa_stepOfCompares 1 "PrairiePool$Parser" (some .int) := C
  unfold d_Pa_stepOfCompares at h
  refine z_sub (lv' := [(0, vi a0)]) [0] rfl ?_
  refine z_iload_n C 0 x_Pa_stepOfCompares_0 rfl ?_
  rcases ite_e h with ⟨c1, h⟩ | ⟨c1, h⟩
  · refine z_tableIn (tgt := 28) C x_Pa_stepOfCompares_1 c1 (by decide) rfl rfl ?_
    refine z_bipush C rfl x_Pa_stepOfCompares_28 ?_
    exact z_iret C x_Pa_stepOfCompares_30 h
  · rcases ite_e h with ⟨c2, h⟩ | ⟨c2, h⟩
    · refine z_tableIn (tgt := 34) C x_Pa_stepOfCompares_1 c2 (by decide) rfl rfl ?_
      refine z_bipush C rfl x_Pa_stepOfCompares_34 ?_
      exact z_iret C x_Pa_stepOfCompares_36 h
    · rcases ite_e h with ⟨c3, h⟩ | ⟨c3, h⟩
      · refine z_tableIn (tgt := 31) C x_Pa_stepOfCompares_1 c3 (by decide) rfl rfl ?_
        refine z_bipush C rfl x_Pa_stepOfCompares_31 ?_
        exact z_iret C x_Pa_stepOfCompares_33 h
      · refine z_tableOut (tgt := 37) C x_Pa_stepOfCompares_1 (by omega) rfl ?_
        refine z_iconst C x_Pa_stepOfCompares_37 ?_
        exact z_iret C x_Pa_stepOfCompares_38 h
theorem x_Pa_parseOne_0 : DC b_Pa_parseOne 0 (.aload_n 0) 1 1 := ⟨by decide +kernel, rfl⟩
theorem x_Pa_parseOne_1 : DC b_Pa_parseOne 1 (.getfield 48) 3 4 := ⟨by decide +kernel, rfl⟩
theorem x_Pa_parseOne_4 : DC b_Pa_parseOne 4 (.bipush 9) 2 6 := ⟨by decide +kernel, rfl⟩
theorem x_Pa_parseOne_6 : DC b_Pa_parseOne 6 (.if_icmp .ne 7) 3 9 := ⟨by decide +kernel, rfl⟩
theorem x_Pa_parseOne_9 : DC b_Pa_parseOne 9 (.iconst 1) 1 10 := ⟨by decide +kernel, rfl⟩
theorem x_Pa_parseOne_10 : DC b_Pa_parseOne 10 (.goto 4) 3 13 := ⟨by decide +kernel, rfl⟩
theorem x_Pa_parseOne_13 : DC b_Pa_parseOne 13 (.iconst 0) 1 14 := ⟨by decide +kernel, rfl⟩
theorem x_Pa_parseOne_14 : DC b_Pa_parseOne 14 (.istore_n 2) 1 15 := ⟨by decide +kernel, rfl⟩
theorem x_Pa_parseOne_15 : DC b_Pa_parseOne 15 (.iload_n 2) 1 16 := ⟨by decide +kernel, rfl⟩
theorem x_Pa_parseOne_16 : DC b_Pa_parseOne 16 (.iconst 1) 1 17 := ⟨by decide +kernel, rfl⟩
theorem x_Pa_parseOne_17 : DC b_Pa_parseOne 17 (.if_icmp .ne 7) 3 20 := ⟨by decide +kernel, rfl⟩
theorem x_Pa_parseOne_20 : DC b_Pa_parseOne 20 (.aload_n 0) 1 21 := ⟨by decide +kernel, rfl⟩
theorem x_Pa_parseOne_21 : DC b_Pa_parseOne 21 (.invokevirtual 45) 3 24 := ⟨by decide +kernel, rfl⟩
theorem x_Pa_parseOne_24 : DC b_Pa_parseOne 24 (.aload_n 0) 1 25 := ⟨by decide +kernel, rfl⟩
theorem x_Pa_parseOne_25 : DC b_Pa_parseOne 25 (.iload_n 1) 1 26 := ⟨by decide +kernel, rfl⟩
theorem x_Pa_parseOne_26 : DC b_Pa_parseOne 26 (.invokevirtual 141) 3 29 := ⟨by decide +kernel, rfl⟩
theorem x_Pa_parseOne_29 : DC b_Pa_parseOne 29 (.aload_n 0) 1 30 := ⟨by decide +kernel, rfl⟩
theorem x_Pa_parseOne_30 : DC b_Pa_parseOne 30 (.getfield 48) 3 33 := ⟨by decide +kernel, rfl⟩
theorem x_Pa_parseOne_33 : DC b_Pa_parseOne 33 (.invokestatic 154) 3 36 := ⟨by decide +kernel, rfl⟩
theorem x_Pa_parseOne_36 : DC b_Pa_parseOne 36 (.istore_n 3) 1 37 := ⟨by decide +kernel, rfl⟩
theorem x_Pa_parseOne_37 : DC b_Pa_parseOne 37 (.iload_n 3) 1 38 := ⟨by decide +kernel, rfl⟩
theorem x_Pa_parseOne_38 : DC b_Pa_parseOne 38 (.iconst (-1)) 1 39 := ⟨by decide +kernel, rfl⟩
theorem x_Pa_parseOne_39 : DC b_Pa_parseOne 39 (.if_icmp .ne 9) 3 42 := ⟨by decide +kernel, rfl⟩
theorem x_Pa_parseOne_42 : DC b_Pa_parseOne 42 (.aload_n 0) 1 43 := ⟨by decide +kernel, rfl⟩
theorem x_Pa_parseOne_43 : DC b_Pa_parseOne 43 (.iconst 2) 1 44 := ⟨by decide +kernel, rfl⟩
theorem x_Pa_parseOne_44 : DC b_Pa_parseOne 44 (.invokevirtual 83) 3 47 := ⟨by decide +kernel, rfl⟩
theorem x_Pa_parseOne_47 : DC b_Pa_parseOne 47 (.return_) 1 48 := ⟨by decide +kernel, rfl⟩
theorem x_Pa_parseOne_48 : DC b_Pa_parseOne 48 (.aload_n 0) 1 49 := ⟨by decide +kernel, rfl⟩
theorem x_Pa_parseOne_49 : DC b_Pa_parseOne 49 (.invokevirtual 45) 3 52 := ⟨by decide +kernel, rfl⟩
theorem x_Pa_parseOne_52 : DC b_Pa_parseOne 52 (.aload_n 0) 1 53 := ⟨by decide +kernel, rfl⟩
theorem x_Pa_parseOne_53 : DC b_Pa_parseOne 53 (.iload_n 1) 1 54 := ⟨by decide +kernel, rfl⟩
theorem x_Pa_parseOne_54 : DC b_Pa_parseOne 54 (.invokevirtual 141) 3 57 := ⟨by decide +kernel, rfl⟩
theorem x_Pa_parseOne_57 : DC b_Pa_parseOne 57 (.aload_n 0) 1 58 := ⟨by decide +kernel, rfl⟩
theorem x_Pa_parseOne_58 : DC b_Pa_parseOne 58 (.getfield 25) 3 61 := ⟨by decide +kernel, rfl⟩
theorem x_Pa_parseOne_61 : DC b_Pa_parseOne 61 (.iload_n 3) 1 62 := ⟨by decide +kernel, rfl⟩
theorem x_Pa_parseOne_62 : DC b_Pa_parseOne 62 (.iload_n 2) 1 63 := ⟨by decide +kernel, rfl⟩
theorem x_Pa_parseOne_63 : DC b_Pa_parseOne 63 (.invokevirtual 147) 3 66 := ⟨by decide +kernel, rfl⟩
theorem x_Pa_parseOne_66 : DC b_Pa_parseOne 66 (.return_) 1 67 := ⟨by decide +kernel, rfl⟩
def k_Pa_parseOne_24 (RW : Int → Mem → Res) (RF : Int → Mem → Res) (a1 a2 : Int) (M : Mem) : Res := bcall (d_Pa_parseSum RW RF a1 M) fun v1 M2 => blet (M2 55 8) fun v3 => bcall (d_Pa_stepOfCompares v3 M2) fun v4 M5 => if w32 v4 = (-1) then (bcall (d_Pa_fail 2 M5) fun v7 M8 => some (0, M8)) else (bcall (d_Pa_advance M5) fun v9 M10 => bcall (d_Pa_parseSum RW RF a1 M10) fun v11 M12 => bcall (d_Tx_add 57 v4 a2 M12) fun v13 M14 => some (0, M14))
theorem z_Pa_parseOne_24 (C : Cx p s m args meth c G b_Pa_parseOne 4 "PrairiePool$Parser" none) {N : Nat} (hN : 20 ≤ N) (hlev : N + 11 ≤ lev) {RW : Int → Mem → Res} {RF : Int → Mem → Res} (hRW : ∀ (lev' : Nat), N ≤ lev' → ∀ {a1 : Int} {M : Mem} {r : Int × Mem}, RW a1 M = some r → Mt l G y_Pa_parseWhole b_Pa_parseWhole 2 none lev' 0 [.ref (G.1 + 55), vi a1] M r) (hRF : ∀ (lev' : Nat), N ≤ lev' → ∀ {a1 : Int} {M : Mem} {r : Int × Mem}, RF a1 M = some r → Mt l G y_Pa_parseFew b_Pa_parseFew 3 none lev' 0 [.ref (G.1 + 55), vi a1] M r) {r : Int × Mem}  {a1 a2 : Int} {M : Mem} (h : k_Pa_parseOne_24 RW RF a1 a2 M = some r) : Z p l e lev s m args below meth c G 4 (MQ below (Qm G 0 r) args s 0 0 (Ab G)) M 24 [(0, .ref (G.1 + 55)), (1, vi a1), (2, vi a2)] [] := by
  unfold k_Pa_parseOne_24 at h
  refine z_aload_n C 0 x_Pa_parseOne_24 rfl ?_
  refine z_iload_n C 1 x_Pa_parseOne_25 rfl ?_
  obtain ⟨v1, M2, fv1, h⟩ := bcall_e h
  refine z_callVv (k := 55) C x_Pa_parseOne_26 cv_Pa_141 (t_Pa_parseSum (lev := lev - 1) l G hN (by omega) hRW hRF fv1) nk_55 ck_55 rfl (by omega) rfl (i_le rfl) rfl ?_
  refine z_aload_n C 0 x_Pa_parseOne_29 rfl ?_
  obtain ⟨v3, ev3, h⟩ := blet_e h
  refine z_getI (j := 8) C x_Pa_parseOne_30 nk_55 ck_55 cw_4 (i_lt rfl) rfl rfl fl_Pa_48 ev3 ?_
  obtain ⟨v4, M5, fv4, h⟩ := bcall_e h
  refine z_callSi C x_Pa_parseOne_33 cs_Pa_154 (t_Pa_stepOfCompares (lev := lev - 1) l G (by omega) fv4) (by omega) rfl (i_le rfl) rfl ?_
  refine z_istore_n (lv' := [(3, vi v4), (0, .ref (G.1 + 55)), (1, vi a1), (2, vi a2)]) C rfl x_Pa_parseOne_36 (i_lt rfl) rfl ?_
  refine z_iload_n C 0 x_Pa_parseOne_37 rfl ?_
  refine z_iconst C x_Pa_parseOne_38 ?_
  rcases ite_e h with ⟨c6, h⟩ | ⟨c6, h⟩
  · refine z_icmp_ne_f (tgt := 48) C x_Pa_parseOne_39 rfl c6 ?_
    refine z_aload_n C 1 x_Pa_parseOne_42 rfl ?_
    refine z_iconst C x_Pa_parseOne_43 ?_
    obtain ⟨v7, M8, fv7, h⟩ := bcall_e h
    refine z_callVv (k := 55) C x_Pa_parseOne_44 cv_Pa_83 (t_Pa_fail (lev := lev - 1) l G (by omega) fv7) nk_55 ck_55 rfl (by omega) rfl (i_le rfl) rfl ?_
    exact z_vret C x_Pa_parseOne_47 h
  · refine z_icmp_ne_t (tgt := 48) C x_Pa_parseOne_39 rfl c6 ?_
    refine z_aload_n C 1 x_Pa_parseOne_48 rfl ?_
    obtain ⟨v9, M10, fv9, h⟩ := bcall_e h
    refine z_callVv (k := 55) C x_Pa_parseOne_49 cv_Pa_45 (t_Pa_advance (lev := lev - 1) l G (by omega) fv9) nk_55 ck_55 rfl (by omega) rfl (i_le rfl) rfl ?_
    refine z_aload_n C 1 x_Pa_parseOne_52 rfl ?_
    refine z_iload_n C 2 x_Pa_parseOne_53 rfl ?_
    obtain ⟨v11, M12, fv11, h⟩ := bcall_e h
    refine z_callVv (k := 55) C x_Pa_parseOne_54 cv_Pa_141 (t_Pa_parseSum (lev := lev - 1) l G hN (by omega) hRW hRF fv11) nk_55 ck_55 rfl (by omega) rfl (i_le rfl) rfl ?_
    refine z_aload_n C 1 x_Pa_parseOne_57 rfl ?_
    refine z_getR (j := 4) C x_Pa_parseOne_58 nk_55 ck_55 cw_4 (i_lt rfl) rfl rf_55_4 rfl fl_Pa_25 ?_
    refine z_iload_n C 0 x_Pa_parseOne_61 rfl ?_
    refine z_iload_n C 3 x_Pa_parseOne_62 rfl ?_
    obtain ⟨v13, M14, fv13, h⟩ := bcall_e h
    refine z_callVv (k := 57) C x_Pa_parseOne_63 cv_Pa_147 (t_Tx_add (lev := lev - 1) l G (by omega) it_57 fv13) nk_57 ck_57 rfl (by omega) rfl (i_le rfl) rfl ?_
    exact z_vret C x_Pa_parseOne_66 h
def k_Pa_parseOne_14 (RW : Int → Mem → Res) (RF : Int → Mem → Res) (a1 s0 : Int) (M : Mem) : Res := if w32 s0 = 1 then (bcall (d_Pa_advance M) fun v2 M3 => k_Pa_parseOne_24 RW RF a1 s0 M3) else (k_Pa_parseOne_24 RW RF a1 s0 M)
theorem z_Pa_parseOne_14 (C : Cx p s m args meth c G b_Pa_parseOne 4 "PrairiePool$Parser" none) {N : Nat} (hN : 20 ≤ N) (hlev : N + 11 ≤ lev) {RW : Int → Mem → Res} {RF : Int → Mem → Res} (hRW : ∀ (lev' : Nat), N ≤ lev' → ∀ {a1 : Int} {M : Mem} {r : Int × Mem}, RW a1 M = some r → Mt l G y_Pa_parseWhole b_Pa_parseWhole 2 none lev' 0 [.ref (G.1 + 55), vi a1] M r) (hRF : ∀ (lev' : Nat), N ≤ lev' → ∀ {a1 : Int} {M : Mem} {r : Int × Mem}, RF a1 M = some r → Mt l G y_Pa_parseFew b_Pa_parseFew 3 none lev' 0 [.ref (G.1 + 55), vi a1] M r) {r : Int × Mem}  {a1 s0 : Int} {M : Mem} (h : k_Pa_parseOne_14 RW RF a1 s0 M = some r) : Z p l e lev s m args below meth c G 4 (MQ below (Qm G 0 r) args s 0 0 (Ab G)) M 14 [(0, .ref (G.1 + 55)), (1, vi a1)] [vi s0] := by
  unfold k_Pa_parseOne_14 at h
  refine z_istore_n (lv' := [(2, vi s0), (0, .ref (G.1 + 55)), (1, vi a1)]) C rfl x_Pa_parseOne_14 (i_lt rfl) rfl ?_
  refine z_iload_n C 0 x_Pa_parseOne_15 rfl ?_
  refine z_iconst C x_Pa_parseOne_16 ?_
  rcases ite_e h with ⟨c1, h⟩ | ⟨c1, h⟩
  · refine z_icmp_ne_f (tgt := 24) C x_Pa_parseOne_17 rfl c1 ?_
    refine z_aload_n C 1 x_Pa_parseOne_20 rfl ?_
    obtain ⟨v2, M3, fv2, h⟩ := bcall_e h
    refine z_callVv (k := 55) C x_Pa_parseOne_21 cv_Pa_45 (t_Pa_advance (lev := lev - 1) l G (by omega) fv2) nk_55 ck_55 rfl (by omega) rfl (i_le rfl) rfl ?_
    exact z_sub [1, 2, 0] rfl (z_Pa_parseOne_24 C hN hlev hRW hRF h)
  · refine z_icmp_ne_t (tgt := 24) C x_Pa_parseOne_17 rfl c1 ?_
    exact z_sub [1, 2, 0] rfl (z_Pa_parseOne_24 C hN hlev hRW hRF h)
def d_Pa_parseOne (RW : Int → Mem → Res) (RF : Int → Mem → Res) (a1 : Int) (M : Mem) : Res := blet (M 55 8) fun v1 => if w32 v1 = 9 then (k_Pa_parseOne_14 RW RF a1 1 M) else (k_Pa_parseOne_14 RW RF a1 0 M)
theorem t_Pa_parseOne (l : Launch) (G : GX) {lev : Nat} {N : Nat} (hN : 20 ≤ N) (hlev : N + 11 ≤ lev) {RW : Int → Mem → Res} {RF : Int → Mem → Res} (hRW : ∀ (lev' : Nat), N ≤ lev' → ∀ {a1 : Int} {M : Mem} {r : Int × Mem}, RW a1 M = some r → Mt l G y_Pa_parseWhole b_Pa_parseWhole 2 none lev' 0 [.ref (G.1 + 55), vi a1] M r) (hRF : ∀ (lev' : Nat), N ≤ lev' → ∀ {a1 : Int} {M : Mem} {r : Int × Mem}, RF a1 M = some r → Mt l G y_Pa_parseFew b_Pa_parseFew 3 none lev' 0 [.ref (G.1 + 55), vi a1] M r) {a1 : Int} {M : Mem} {r : Int × Mem} (h : d_Pa_parseOne RW RF a1 M = some r) : Mt l G y_Pa_parseOne b_Pa_parseOne 4 none lev 0 [.ref (G.1 + 55), vi a1] M r := by
  refine Mt.of (by decide) (i_le rfl) ?_
  intro p e s m args below meth c C
  have C : Cx p s m args meth c G b_Pa_parseOne 4 "PrairiePool$Parser" none := C
  unfold d_Pa_parseOne at h
  refine z_sub (lv' := [(0, .ref (G.1 + 55)), (1, vi a1)]) [0, 1] rfl ?_
  refine z_aload_n C 0 x_Pa_parseOne_0 rfl ?_
  obtain ⟨v1, ev1, h⟩ := blet_e h
  refine z_getI (j := 8) C x_Pa_parseOne_1 nk_55 ck_55 cw_4 (i_lt rfl) rfl rfl fl_Pa_48 ev1 ?_
  refine z_bipush C rfl x_Pa_parseOne_4 ?_
  rcases ite_e h with ⟨c2, h⟩ | ⟨c2, h⟩
  · refine z_icmp_ne_f (tgt := 13) C x_Pa_parseOne_6 rfl c2 ?_
    refine z_iconst C x_Pa_parseOne_9 ?_
    refine z_goto (tgt := 14) C x_Pa_parseOne_10 rfl ?_
    exact z_sub [0, 1] rfl (z_Pa_parseOne_14 C hN hlev hRW hRF h)
  · refine z_icmp_ne_t (tgt := 13) C x_Pa_parseOne_6 rfl c2 ?_
    refine z_iconst C x_Pa_parseOne_13 ?_
    exact z_sub [0, 1] rfl (z_Pa_parseOne_14 C hN hlev hRW hRF h)
theorem x_Pa_parseTest_0 : DC b_Pa_parseTest 0 (.aload_n 0) 1 1 := ⟨by decide +kernel, rfl⟩
theorem x_Pa_parseTest_1 : DC b_Pa_parseTest 1 (.iload_n 1) 1 2 := ⟨by decide +kernel, rfl⟩
theorem x_Pa_parseTest_2 : DC b_Pa_parseTest 2 (.invokevirtual 151) 3 5 := ⟨by decide +kernel, rfl⟩
theorem x_Pa_parseTest_5 : DC b_Pa_parseTest 5 (.aload_n 0) 1 6 := ⟨by decide +kernel, rfl⟩
theorem x_Pa_parseTest_6 : DC b_Pa_parseTest 6 (.getfield 48) 3 9 := ⟨by decide +kernel, rfl⟩
theorem x_Pa_parseTest_9 : DC b_Pa_parseTest 9 (.istore_n 2) 1 10 := ⟨by decide +kernel, rfl⟩
theorem x_Pa_parseTest_10 : DC b_Pa_parseTest 10 (.iload_n 2) 1 11 := ⟨by decide +kernel, rfl⟩
theorem x_Pa_parseTest_11 : DC b_Pa_parseTest 11 (.bipush 7) 2 13 := ⟨by decide +kernel, rfl⟩
theorem x_Pa_parseTest_13 : DC b_Pa_parseTest 13 (.if_icmp .eq 10) 3 16 := ⟨by decide +kernel, rfl⟩
theorem x_Pa_parseTest_16 : DC b_Pa_parseTest 16 (.iload_n 2) 1 17 := ⟨by decide +kernel, rfl⟩
theorem x_Pa_parseTest_17 : DC b_Pa_parseTest 17 (.bipush 8) 2 19 := ⟨by decide +kernel, rfl⟩
theorem x_Pa_parseTest_19 : DC b_Pa_parseTest 19 (.if_icmp .eq 4) 3 22 := ⟨by decide +kernel, rfl⟩
theorem x_Pa_parseTest_22 : DC b_Pa_parseTest 22 (.return_) 1 23 := ⟨by decide +kernel, rfl⟩
theorem x_Pa_parseTest_23 : DC b_Pa_parseTest 23 (.iconst 0) 1 24 := ⟨by decide +kernel, rfl⟩
theorem x_Pa_parseTest_24 : DC b_Pa_parseTest 24 (.istore_n 3) 1 25 := ⟨by decide +kernel, rfl⟩
theorem x_Pa_parseTest_25 : DC b_Pa_parseTest 25 (.iload_n 3) 1 26 := ⟨by decide +kernel, rfl⟩
theorem x_Pa_parseTest_26 : DC b_Pa_parseTest 26 (.aload_n 0) 1 27 := ⟨by decide +kernel, rfl⟩
theorem x_Pa_parseTest_27 : DC b_Pa_parseTest 27 (.getfield 36) 3 30 := ⟨by decide +kernel, rfl⟩
theorem x_Pa_parseTest_30 : DC b_Pa_parseTest 30 (.if_icmp .ge 47) 3 33 := ⟨by decide +kernel, rfl⟩
theorem x_Pa_parseTest_33 : DC b_Pa_parseTest 33 (.aload_n 0) 1 34 := ⟨by decide +kernel, rfl⟩
theorem x_Pa_parseTest_34 : DC b_Pa_parseTest 34 (.getfield 48) 3 37 := ⟨by decide +kernel, rfl⟩
theorem x_Pa_parseTest_37 : DC b_Pa_parseTest 37 (.iload_n 2) 1 38 := ⟨by decide +kernel, rfl⟩
theorem x_Pa_parseTest_38 : DC b_Pa_parseTest 38 (.if_icmp .ne 39) 3 41 := ⟨by decide +kernel, rfl⟩
theorem x_Pa_parseTest_41 : DC b_Pa_parseTest 41 (.aload_n 0) 1 42 := ⟨by decide +kernel, rfl⟩
theorem x_Pa_parseTest_42 : DC b_Pa_parseTest 42 (.invokevirtual 45) 3 45 := ⟨by decide +kernel, rfl⟩
theorem x_Pa_parseTest_45 : DC b_Pa_parseTest 45 (.aload_n 0) 1 46 := ⟨by decide +kernel, rfl⟩
theorem x_Pa_parseTest_46 : DC b_Pa_parseTest 46 (.iload_n 1) 1 47 := ⟨by decide +kernel, rfl⟩
theorem x_Pa_parseTest_47 : DC b_Pa_parseTest 47 (.invokevirtual 151) 3 50 := ⟨by decide +kernel, rfl⟩
theorem x_Pa_parseTest_50 : DC b_Pa_parseTest 50 (.aload_n 0) 1 51 := ⟨by decide +kernel, rfl⟩
theorem x_Pa_parseTest_51 : DC b_Pa_parseTest 51 (.getfield 25) 3 54 := ⟨by decide +kernel, rfl⟩
theorem x_Pa_parseTest_54 : DC b_Pa_parseTest 54 (.iload_n 2) 1 55 := ⟨by decide +kernel, rfl⟩
theorem x_Pa_parseTest_55 : DC b_Pa_parseTest 55 (.bipush 7) 2 57 := ⟨by decide +kernel, rfl⟩
theorem x_Pa_parseTest_57 : DC b_Pa_parseTest 57 (.if_icmp .ne 8) 3 60 := ⟨by decide +kernel, rfl⟩
theorem x_Pa_parseTest_60 : DC b_Pa_parseTest 60 (.bipush 11) 2 62 := ⟨by decide +kernel, rfl⟩
theorem x_Pa_parseTest_62 : DC b_Pa_parseTest 62 (.goto 5) 3 65 := ⟨by decide +kernel, rfl⟩
theorem x_Pa_parseTest_65 : DC b_Pa_parseTest 65 (.bipush 12) 2 67 := ⟨by decide +kernel, rfl⟩
theorem x_Pa_parseTest_67 : DC b_Pa_parseTest 67 (.iconst 0) 1 68 := ⟨by decide +kernel, rfl⟩
theorem x_Pa_parseTest_68 : DC b_Pa_parseTest 68 (.invokevirtual 147) 3 71 := ⟨by decide +kernel, rfl⟩
theorem x_Pa_parseTest_71 : DC b_Pa_parseTest 71 (.iinc 3 1) 3 74 := ⟨by decide +kernel, rfl⟩
theorem x_Pa_parseTest_74 : DC b_Pa_parseTest 74 (.goto (-49)) 3 77 := ⟨by decide +kernel, rfl⟩
theorem x_Pa_parseTest_77 : DC b_Pa_parseTest 77 (.return_) 1 78 := ⟨by decide +kernel, rfl⟩
def k_Pa_parseTest_67 (RW : Int → Mem → Res) (RF : Int → Mem → Res) (R25 : Int → Int → Int → Mem → Res) (a1 a2 a3 s1 : Int) (M : Mem) : Res := bcall (d_Tx_add 57 s1 0 M) fun v1 M2 => blet (a3 + 1) fun v3 => R25 a1 a2 v3 M2
theorem z_Pa_parseTest_67 (C : Cx p s m args meth c G b_Pa_parseTest 4 "PrairiePool$Parser" none) {N : Nat} (hN : 20 ≤ N) (hlev : N + 12 ≤ lev) {RW : Int → Mem → Res} {RF : Int → Mem → Res} (hRW : ∀ (lev' : Nat), N ≤ lev' → ∀ {a1 : Int} {M : Mem} {r : Int × Mem}, RW a1 M = some r → Mt l G y_Pa_parseWhole b_Pa_parseWhole 2 none lev' 0 [.ref (G.1 + 55), vi a1] M r) (hRF : ∀ (lev' : Nat), N ≤ lev' → ∀ {a1 : Int} {M : Mem} {r : Int × Mem}, RF a1 M = some r → Mt l G y_Pa_parseFew b_Pa_parseFew 3 none lev' 0 [.ref (G.1 + 55), vi a1] M r) {r : Int × Mem} {R25 : Int → Int → Int → Mem → Res} (hR25 : ∀ (a1 a2 a3 : Int) (M : Mem), R25 a1 a2 a3 M = some r → Z p l e lev s m args below meth c G 4 (MQ below (Qm G 0 r) args s 0 0 (Ab G)) M 25 [(0, .ref (G.1 + 55)), (1, vi a1), (2, vi a2), (3, vi a3)] []) {a1 a2 a3 s1 : Int} {M : Mem} (h : k_Pa_parseTest_67 RW RF R25 a1 a2 a3 s1 M = some r) : Z p l e lev s m args below meth c G 4 (MQ below (Qm G 0 r) args s 0 0 (Ab G)) M 67 [(0, .ref (G.1 + 55)), (1, vi a1), (2, vi a2), (3, vi a3)] [vi s1, .ref (G.1 + 57)] := by
  unfold k_Pa_parseTest_67 at h
  refine z_iconst C x_Pa_parseTest_67 ?_
  obtain ⟨v1, M2, fv1, h⟩ := bcall_e h
  refine z_callVv (k := 57) C x_Pa_parseTest_68 cv_Pa_147 (t_Tx_add (lev := lev - 1) l G (by omega) it_57 fv1) nk_57 ck_57 rfl (by omega) rfl (i_le rfl) rfl ?_
  obtain ⟨v3, ev3, h⟩ := blet_e h
  refine z_iinc (lv' := [(3, vi v3), (0, .ref (G.1 + 55)), (1, vi a1), (2, vi a2)]) C 3 ev3 x_Pa_parseTest_71 rfl (i_lt rfl) rfl ?_
  refine z_goto (tgt := 25) C x_Pa_parseTest_74 rfl ?_
  exact z_sub [1, 2, 3, 0] rfl (hR25 a1 a2 v3 M2 h)
def k_Pa_parseTest_25 (RW : Int → Mem → Res) (RF : Int → Mem → Res) (R25 : Int → Int → Int → Mem → Res) (a1 a2 a3 : Int) (M : Mem) : Res := blet (M 55 6) fun v1 => if w32 a3 < w32 v1 then (blet (M 55 8) fun v3 => if w32 v3 = w32 a2 then (bcall (d_Pa_advance M) fun v5 M6 => bcall (d_Pa_parseOne RW RF a1 M6) fun v7 M8 => if w32 a2 = 7 then (k_Pa_parseTest_67 RW RF R25 a1 a2 a3 11 M8) else (k_Pa_parseTest_67 RW RF R25 a1 a2 a3 12 M8)) else (some (0, M))) else (some (0, M))
theorem z_Pa_parseTest_25 (C : Cx p s m args meth c G b_Pa_parseTest 4 "PrairiePool$Parser" none) {N : Nat} (hN : 20 ≤ N) (hlev : N + 12 ≤ lev) {RW : Int → Mem → Res} {RF : Int → Mem → Res} (hRW : ∀ (lev' : Nat), N ≤ lev' → ∀ {a1 : Int} {M : Mem} {r : Int × Mem}, RW a1 M = some r → Mt l G y_Pa_parseWhole b_Pa_parseWhole 2 none lev' 0 [.ref (G.1 + 55), vi a1] M r) (hRF : ∀ (lev' : Nat), N ≤ lev' → ∀ {a1 : Int} {M : Mem} {r : Int × Mem}, RF a1 M = some r → Mt l G y_Pa_parseFew b_Pa_parseFew 3 none lev' 0 [.ref (G.1 + 55), vi a1] M r) {r : Int × Mem} {R25 : Int → Int → Int → Mem → Res} (hR25 : ∀ (a1 a2 a3 : Int) (M : Mem), R25 a1 a2 a3 M = some r → Z p l e lev s m args below meth c G 4 (MQ below (Qm G 0 r) args s 0 0 (Ab G)) M 25 [(0, .ref (G.1 + 55)), (1, vi a1), (2, vi a2), (3, vi a3)] []) {a1 a2 a3 : Int} {M : Mem} (h : k_Pa_parseTest_25 RW RF R25 a1 a2 a3 M = some r) : Z p l e lev s m args below meth c G 4 (MQ below (Qm G 0 r) args s 0 0 (Ab G)) M 25 [(0, .ref (G.1 + 55)), (1, vi a1), (2, vi a2), (3, vi a3)] [] := by
  unfold k_Pa_parseTest_25 at h
  refine z_iload_n C 3 x_Pa_parseTest_25 rfl ?_
  refine z_aload_n C 0 x_Pa_parseTest_26 rfl ?_
  obtain ⟨v1, ev1, h⟩ := blet_e h
  refine z_getI (j := 6) C x_Pa_parseTest_27 nk_55 ck_55 cw_4 (i_lt rfl) rfl rfl fl_Pa_36 ev1 ?_
  rcases ite_e h with ⟨c2, h⟩ | ⟨c2, h⟩
  · refine z_icmp_ge_f (tgt := 77) C x_Pa_parseTest_30 rfl c2 ?_
    refine z_aload_n C 0 x_Pa_parseTest_33 rfl ?_
    obtain ⟨v3, ev3, h⟩ := blet_e h
    refine z_getI (j := 8) C x_Pa_parseTest_34 nk_55 ck_55 cw_4 (i_lt rfl) rfl rfl fl_Pa_48 ev3 ?_
    refine z_iload_n C 2 x_Pa_parseTest_37 rfl ?_
    rcases ite_e h with ⟨c4, h⟩ | ⟨c4, h⟩
    · refine z_icmp_ne_f (tgt := 77) C x_Pa_parseTest_38 rfl c4 ?_
      refine z_aload_n C 0 x_Pa_parseTest_41 rfl ?_
      obtain ⟨v5, M6, fv5, h⟩ := bcall_e h
      refine z_callVv (k := 55) C x_Pa_parseTest_42 cv_Pa_45 (t_Pa_advance (lev := lev - 1) l G (by omega) fv5) nk_55 ck_55 rfl (by omega) rfl (i_le rfl) rfl ?_
      refine z_aload_n C 0 x_Pa_parseTest_45 rfl ?_
      refine z_iload_n C 1 x_Pa_parseTest_46 rfl ?_
      obtain ⟨v7, M8, fv7, h⟩ := bcall_e h
      refine z_callVv (k := 55) C x_Pa_parseTest_47 cv_Pa_151 (t_Pa_parseOne (lev := lev - 1) l G hN (by omega) hRW hRF fv7) nk_55 ck_55 rfl (by omega) rfl (i_le rfl) rfl ?_
      refine z_aload_n C 0 x_Pa_parseTest_50 rfl ?_
      refine z_getR (j := 4) C x_Pa_parseTest_51 nk_55 ck_55 cw_4 (i_lt rfl) rfl rf_55_4 rfl fl_Pa_25 ?_
      refine z_iload_n C 2 x_Pa_parseTest_54 rfl ?_
      refine z_bipush C rfl x_Pa_parseTest_55 ?_
      rcases ite_e h with ⟨c9, h⟩ | ⟨c9, h⟩
      · refine z_icmp_ne_f (tgt := 65) C x_Pa_parseTest_57 rfl c9 ?_
        refine z_bipush C rfl x_Pa_parseTest_60 ?_
        refine z_goto (tgt := 67) C x_Pa_parseTest_62 rfl ?_
        exact z_sub [0, 1, 2, 3] rfl (z_Pa_parseTest_67 C hN hlev hRW hRF hR25 h)
      · refine z_icmp_ne_t (tgt := 65) C x_Pa_parseTest_57 rfl c9 ?_
        refine z_bipush C rfl x_Pa_parseTest_65 ?_
        exact z_sub [0, 1, 2, 3] rfl (z_Pa_parseTest_67 C hN hlev hRW hRF hR25 h)
    · refine z_icmp_ne_t (tgt := 77) C x_Pa_parseTest_38 rfl c4 ?_
      exact z_vret C x_Pa_parseTest_77 h
  · refine z_icmp_ge_t (tgt := 77) C x_Pa_parseTest_30 rfl c2 ?_
    exact z_vret C x_Pa_parseTest_77 h
theorem zl_Pa_parseTest_25 (C : Cx p s m args meth c G b_Pa_parseTest 4 "PrairiePool$Parser" none) {N : Nat} (hN : 20 ≤ N) (hlev : N + 12 ≤ lev) {RW : Int → Mem → Res} {RF : Int → Mem → Res} (hRW : ∀ (lev' : Nat), N ≤ lev' → ∀ {a1 : Int} {M : Mem} {r : Int × Mem}, RW a1 M = some r → Mt l G y_Pa_parseWhole b_Pa_parseWhole 2 none lev' 0 [.ref (G.1 + 55), vi a1] M r) (hRF : ∀ (lev' : Nat), N ≤ lev' → ∀ {a1 : Int} {M : Mem} {r : Int × Mem}, RF a1 M = some r → Mt l G y_Pa_parseFew b_Pa_parseFew 3 none lev' 0 [.ref (G.1 + 55), vi a1] M r) {r : Int × Mem}  : ∀ (n : Nat) (a1 a2 a3 : Int) (M : Mem), fix (fun _ _ _ _ => none) (k_Pa_parseTest_25 RW RF) n a1 a2 a3 M = some r → Z p l e lev s m args below meth c G 4 (MQ below (Qm G 0 r) args s 0 0 (Ab G)) M 25 [(0, .ref (G.1 + 55)), (1, vi a1), (2, vi a2), (3, vi a3)] [] := by
  intro n
  induction n with
  | zero => intro a1 a2 a3 M h; exact nomatch (show (none : Res) = some r from h)
  | succ n ih => intro a1 a2 a3 M h; exact z_Pa_parseTest_25 C hN hlev hRW hRF ih h
def k_Pa_parseTest_23 (RW : Int → Mem → Res) (RF : Int → Mem → Res) (a1 a2 : Int) (M : Mem) : Res := fix (fun _ _ _ _ => none) (k_Pa_parseTest_25 RW RF) FU a1 a2 0 M
theorem z_Pa_parseTest_23 (C : Cx p s m args meth c G b_Pa_parseTest 4 "PrairiePool$Parser" none) {N : Nat} (hN : 20 ≤ N) (hlev : N + 12 ≤ lev) {RW : Int → Mem → Res} {RF : Int → Mem → Res} (hRW : ∀ (lev' : Nat), N ≤ lev' → ∀ {a1 : Int} {M : Mem} {r : Int × Mem}, RW a1 M = some r → Mt l G y_Pa_parseWhole b_Pa_parseWhole 2 none lev' 0 [.ref (G.1 + 55), vi a1] M r) (hRF : ∀ (lev' : Nat), N ≤ lev' → ∀ {a1 : Int} {M : Mem} {r : Int × Mem}, RF a1 M = some r → Mt l G y_Pa_parseFew b_Pa_parseFew 3 none lev' 0 [.ref (G.1 + 55), vi a1] M r) {r : Int × Mem}  {a1 a2 : Int} {M : Mem} (h : k_Pa_parseTest_23 RW RF a1 a2 M = some r) : Z p l e lev s m args below meth c G 4 (MQ below (Qm G 0 r) args s 0 0 (Ab G)) M 23 [(0, .ref (G.1 + 55)), (1, vi a1), (2, vi a2)] [] := by
  unfold k_Pa_parseTest_23 at h
  refine z_iconst C x_Pa_parseTest_23 ?_
  refine z_istore_n (lv' := [(3, vi 0), (0, .ref (G.1 + 55)), (1, vi a1), (2, vi a2)]) C rfl x_Pa_parseTest_24 (i_lt rfl) rfl ?_
  exact z_sub [1, 2, 3, 0] rfl (zl_Pa_parseTest_25 C hN hlev hRW hRF FU a1 a2 0 M h)
def d_Pa_parseTest (RW : Int → Mem → Res) (RF : Int → Mem → Res) (a1 : Int) (M : Mem) : Res := bcall (d_Pa_parseOne RW RF a1 M) fun v1 M2 => blet (M2 55 8) fun v3 => if w32 v3 = 7 then (k_Pa_parseTest_23 RW RF a1 v3 M2) else (if w32 v3 = 8 then (k_Pa_parseTest_23 RW RF a1 v3 M2) else (some (0, M2)))
theorem t_Pa_parseTest (l : Launch) (G : GX) {lev : Nat} {N : Nat} (hN : 20 ≤ N) (hlev : N + 12 ≤ lev) {RW : Int → Mem → Res} {RF : Int → Mem → Res} (hRW : ∀ (lev' : Nat), N ≤ lev' → ∀ {a1 : Int} {M : Mem} {r : Int × Mem}, RW a1 M = some r → Mt l G y_Pa_parseWhole b_Pa_parseWhole 2 none lev' 0 [.ref (G.1 + 55), vi a1] M r) (hRF : ∀ (lev' : Nat), N ≤ lev' → ∀ {a1 : Int} {M : Mem} {r : Int × Mem}, RF a1 M = some r → Mt l G y_Pa_parseFew b_Pa_parseFew 3 none lev' 0 [.ref (G.1 + 55), vi a1] M r) {a1 : Int} {M : Mem} {r : Int × Mem} (h : d_Pa_parseTest RW RF a1 M = some r) : Mt l G y_Pa_parseTest b_Pa_parseTest 4 none lev 0 [.ref (G.1 + 55), vi a1] M r := by
  refine Mt.of (by decide) (i_le rfl) ?_
  intro p e s m args below meth c C
  have C : Cx p s m args meth c G b_Pa_parseTest 4 "PrairiePool$Parser" none := C
  unfold d_Pa_parseTest at h
  refine z_sub (lv' := [(0, .ref (G.1 + 55)), (1, vi a1)]) [0, 1] rfl ?_
  refine z_aload_n C 0 x_Pa_parseTest_0 rfl ?_
  refine z_iload_n C 1 x_Pa_parseTest_1 rfl ?_
  obtain ⟨v1, M2, fv1, h⟩ := bcall_e h
  refine z_callVv (k := 55) C x_Pa_parseTest_2 cv_Pa_151 (t_Pa_parseOne (lev := lev - 1) l G hN (by omega) hRW hRF fv1) nk_55 ck_55 rfl (by omega) rfl (i_le rfl) rfl ?_
  refine z_aload_n C 0 x_Pa_parseTest_5 rfl ?_
  obtain ⟨v3, ev3, h⟩ := blet_e h
  refine z_getI (j := 8) C x_Pa_parseTest_6 nk_55 ck_55 cw_4 (i_lt rfl) rfl rfl fl_Pa_48 ev3 ?_
  refine z_istore_n (lv' := [(2, vi v3), (0, .ref (G.1 + 55)), (1, vi a1)]) C rfl x_Pa_parseTest_9 (i_lt rfl) rfl ?_
  refine z_iload_n C 0 x_Pa_parseTest_10 rfl ?_
  refine z_bipush C rfl x_Pa_parseTest_11 ?_
  rcases ite_e h with ⟨c4, h⟩ | ⟨c4, h⟩
  · refine z_icmp_eq_t (tgt := 23) C x_Pa_parseTest_13 rfl c4 ?_
    exact z_sub [1, 2, 0] rfl (z_Pa_parseTest_23 C hN hlev hRW hRF h)
  · refine z_icmp_eq_f (tgt := 23) C x_Pa_parseTest_13 rfl c4 ?_
    refine z_iload_n C 0 x_Pa_parseTest_16 rfl ?_
    refine z_bipush C rfl x_Pa_parseTest_17 ?_
    rcases ite_e h with ⟨c5, h⟩ | ⟨c5, h⟩
    · refine z_icmp_eq_t (tgt := 23) C x_Pa_parseTest_19 rfl c5 ?_
      exact z_sub [1, 2, 0] rfl (z_Pa_parseTest_23 C hN hlev hRW hRF h)
    · refine z_icmp_eq_f (tgt := 23) C x_Pa_parseTest_19 rfl c5 ?_
      exact z_vret C x_Pa_parseTest_22 h
theorem x_Pa_parseWhole_0 : DC b_Pa_parseWhole 0 (.aload_n 0) 1 1 := ⟨by decide +kernel, rfl⟩
theorem x_Pa_parseWhole_1 : DC b_Pa_parseWhole 1 (.aload_n 0) 1 2 := ⟨by decide +kernel, rfl⟩
theorem x_Pa_parseWhole_2 : DC b_Pa_parseWhole 2 (.getfield 48) 3 5 := ⟨by decide +kernel, rfl⟩
theorem x_Pa_parseWhole_5 : DC b_Pa_parseWhole 5 (.iconst 4) 1 6 := ⟨by decide +kernel, rfl⟩
theorem x_Pa_parseWhole_6 : DC b_Pa_parseWhole 6 (.if_icmp .eq 10) 3 9 := ⟨by decide +kernel, rfl⟩
theorem x_Pa_parseWhole_9 : DC b_Pa_parseWhole 9 (.aload_n 0) 1 10 := ⟨by decide +kernel, rfl⟩
theorem x_Pa_parseWhole_10 : DC b_Pa_parseWhole 10 (.invokevirtual 133) 3 13 := ⟨by decide +kernel, rfl⟩
theorem x_Pa_parseWhole_13 : DC b_Pa_parseWhole 13 (.ifCond .eq 7) 3 16 := ⟨by decide +kernel, rfl⟩
theorem x_Pa_parseWhole_16 : DC b_Pa_parseWhole 16 (.iconst 1) 1 17 := ⟨by decide +kernel, rfl⟩
theorem x_Pa_parseWhole_17 : DC b_Pa_parseWhole 17 (.goto 4) 3 20 := ⟨by decide +kernel, rfl⟩
theorem x_Pa_parseWhole_20 : DC b_Pa_parseWhole 20 (.iconst 0) 1 21 := ⟨by decide +kernel, rfl⟩
theorem x_Pa_parseWhole_21 : DC b_Pa_parseWhole 21 (.iload_n 1) 1 22 := ⟨by decide +kernel, rfl⟩
theorem x_Pa_parseWhole_22 : DC b_Pa_parseWhole 22 (.invokevirtual 137) 3 25 := ⟨by decide +kernel, rfl⟩
theorem x_Pa_parseWhole_25 : DC b_Pa_parseWhole 25 (.ifCond .ne 4) 3 28 := ⟨by decide +kernel, rfl⟩
theorem x_Pa_parseWhole_28 : DC b_Pa_parseWhole 28 (.return_) 1 29 := ⟨by decide +kernel, rfl⟩
theorem x_Pa_parseWhole_29 : DC b_Pa_parseWhole 29 (.aload_n 0) 1 30 := ⟨by decide +kernel, rfl⟩
theorem x_Pa_parseWhole_30 : DC b_Pa_parseWhole 30 (.getfield 48) 3 33 := ⟨by decide +kernel, rfl⟩
theorem x_Pa_parseWhole_33 : DC b_Pa_parseWhole 33 (.iconst 4) 1 34 := ⟨by decide +kernel, rfl⟩
theorem x_Pa_parseWhole_34 : DC b_Pa_parseWhole 34 (.if_icmp .eq 9) 3 37 := ⟨by decide +kernel, rfl⟩
theorem x_Pa_parseWhole_37 : DC b_Pa_parseWhole 37 (.aload_n 0) 1 38 := ⟨by decide +kernel, rfl⟩
theorem x_Pa_parseWhole_38 : DC b_Pa_parseWhole 38 (.iload_n 1) 1 39 := ⟨by decide +kernel, rfl⟩
theorem x_Pa_parseWhole_39 : DC b_Pa_parseWhole 39 (.invokevirtual 141) 3 42 := ⟨by decide +kernel, rfl⟩
theorem x_Pa_parseWhole_42 : DC b_Pa_parseWhole 42 (.return_) 1 43 := ⟨by decide +kernel, rfl⟩
theorem x_Pa_parseWhole_43 : DC b_Pa_parseWhole 43 (.aload_n 0) 1 44 := ⟨by decide +kernel, rfl⟩
theorem x_Pa_parseWhole_44 : DC b_Pa_parseWhole 44 (.invokevirtual 45) 3 47 := ⟨by decide +kernel, rfl⟩
theorem x_Pa_parseWhole_47 : DC b_Pa_parseWhole 47 (.aload_n 0) 1 48 := ⟨by decide +kernel, rfl⟩
theorem x_Pa_parseWhole_48 : DC b_Pa_parseWhole 48 (.iload_n 1) 1 49 := ⟨by decide +kernel, rfl⟩
theorem x_Pa_parseWhole_49 : DC b_Pa_parseWhole 49 (.invokevirtual 144) 3 52 := ⟨by decide +kernel, rfl⟩
theorem x_Pa_parseWhole_52 : DC b_Pa_parseWhole 52 (.aload_n 0) 1 53 := ⟨by decide +kernel, rfl⟩
theorem x_Pa_parseWhole_53 : DC b_Pa_parseWhole 53 (.iconst 5) 1 54 := ⟨by decide +kernel, rfl⟩
theorem x_Pa_parseWhole_54 : DC b_Pa_parseWhole 54 (.invokevirtual 54) 3 57 := ⟨by decide +kernel, rfl⟩
theorem x_Pa_parseWhole_57 : DC b_Pa_parseWhole 57 (.aload_n 0) 1 58 := ⟨by decide +kernel, rfl⟩
theorem x_Pa_parseWhole_58 : DC b_Pa_parseWhole 58 (.iload_n 1) 1 59 := ⟨by decide +kernel, rfl⟩
theorem x_Pa_parseWhole_59 : DC b_Pa_parseWhole 59 (.iconst 1) 1 60 := ⟨by decide +kernel, rfl⟩
theorem x_Pa_parseWhole_60 : DC b_Pa_parseWhole 60 (.iadd) 1 61 := ⟨by decide +kernel, rfl⟩
theorem x_Pa_parseWhole_61 : DC b_Pa_parseWhole 61 (.invokevirtual 58) 3 64 := ⟨by decide +kernel, rfl⟩
theorem x_Pa_parseWhole_64 : DC b_Pa_parseWhole 64 (.aload_n 0) 1 65 := ⟨by decide +kernel, rfl⟩
theorem x_Pa_parseWhole_65 : DC b_Pa_parseWhole 65 (.bipush 6) 2 67 := ⟨by decide +kernel, rfl⟩
theorem x_Pa_parseWhole_67 : DC b_Pa_parseWhole 67 (.invokevirtual 54) 3 70 := ⟨by decide +kernel, rfl⟩
theorem x_Pa_parseWhole_70 : DC b_Pa_parseWhole 70 (.aload_n 0) 1 71 := ⟨by decide +kernel, rfl⟩
theorem x_Pa_parseWhole_71 : DC b_Pa_parseWhole 71 (.iload_n 1) 1 72 := ⟨by decide +kernel, rfl⟩
theorem x_Pa_parseWhole_72 : DC b_Pa_parseWhole 72 (.iconst 1) 1 73 := ⟨by decide +kernel, rfl⟩
theorem x_Pa_parseWhole_73 : DC b_Pa_parseWhole 73 (.iadd) 1 74 := ⟨by decide +kernel, rfl⟩
theorem x_Pa_parseWhole_74 : DC b_Pa_parseWhole 74 (.invokevirtual 58) 3 77 := ⟨by decide +kernel, rfl⟩
theorem x_Pa_parseWhole_77 : DC b_Pa_parseWhole 77 (.aload_n 0) 1 78 := ⟨by decide +kernel, rfl⟩
theorem x_Pa_parseWhole_78 : DC b_Pa_parseWhole 78 (.getfield 25) 3 81 := ⟨by decide +kernel, rfl⟩
theorem x_Pa_parseWhole_81 : DC b_Pa_parseWhole 81 (.iconst 3) 1 82 := ⟨by decide +kernel, rfl⟩
theorem x_Pa_parseWhole_82 : DC b_Pa_parseWhole 82 (.iconst 0) 1 83 := ⟨by decide +kernel, rfl⟩
theorem x_Pa_parseWhole_83 : DC b_Pa_parseWhole 83 (.invokevirtual 147) 3 86 := ⟨by decide +kernel, rfl⟩
theorem x_Pa_parseWhole_86 : DC b_Pa_parseWhole 86 (.return_) 1 87 := ⟨by decide +kernel, rfl⟩
def k_Pa_parseWhole_21 (RW : Int → Mem → Res) (RF : Int → Mem → Res) (a1 s1 : Int) (M : Mem) : Res := bcall (d_Pa_mayBegin s1 a1 M) fun v1 M2 => if w32 v1 = 0 then (some (0, M2)) else (blet (M2 55 8) fun v4 => if w32 v4 = 4 then (bcall (d_Pa_advance M2) fun v6 M7 => bcall (d_Pa_parseTest RW RF a1 M7) fun v8 M9 => bcall (d_Pa_expect 5 M9) fun v10 M11 => bcall (RW (a1 + 1) M11) fun v12 M13 => bcall (d_Pa_expect 6 M13) fun v14 M15 => bcall (RW (a1 + 1) M15) fun v16 M17 => bcall (d_Tx_add 57 3 0 M17) fun v18 M19 => some (0, M19)) else (bcall (d_Pa_parseSum RW RF a1 M2) fun v20 M21 => some (0, M21)))
theorem z_Pa_parseWhole_21 (C : Cx p s m args meth c G b_Pa_parseWhole 2 "PrairiePool$Parser" none) {N : Nat} (hN : 20 ≤ N) (hlev : N + 13 ≤ lev) {RW : Int → Mem → Res} {RF : Int → Mem → Res} (hRW : ∀ (lev' : Nat), N ≤ lev' → ∀ {a1 : Int} {M : Mem} {r : Int × Mem}, RW a1 M = some r → Mt l G y_Pa_parseWhole b_Pa_parseWhole 2 none lev' 0 [.ref (G.1 + 55), vi a1] M r) (hRF : ∀ (lev' : Nat), N ≤ lev' → ∀ {a1 : Int} {M : Mem} {r : Int × Mem}, RF a1 M = some r → Mt l G y_Pa_parseFew b_Pa_parseFew 3 none lev' 0 [.ref (G.1 + 55), vi a1] M r) {r : Int × Mem}  {a1 s1 : Int} {M : Mem} (h : k_Pa_parseWhole_21 RW RF a1 s1 M = some r) : Z p l e lev s m args below meth c G 2 (MQ below (Qm G 0 r) args s 0 0 (Ab G)) M 21 [(0, .ref (G.1 + 55)), (1, vi a1)] [vi s1, .ref (G.1 + 55)] := by
  unfold k_Pa_parseWhole_21 at h
  refine z_iload_n C 1 x_Pa_parseWhole_21 rfl ?_
  obtain ⟨v1, M2, fv1, h⟩ := bcall_e h
  refine z_callVi (k := 55) C x_Pa_parseWhole_22 cv_Pa_137 (t_Pa_mayBegin (lev := lev - 1) l G (by omega) fv1) nk_55 ck_55 rfl (by omega) rfl (i_le rfl) rfl ?_
  rcases ite_e h with ⟨c3, h⟩ | ⟨c3, h⟩
  · refine z_if_ne_f (tgt := 29) C x_Pa_parseWhole_25 rfl c3 ?_
    exact z_vret C x_Pa_parseWhole_28 h
  · refine z_if_ne_t (tgt := 29) C x_Pa_parseWhole_25 rfl c3 ?_
    refine z_aload_n C 0 x_Pa_parseWhole_29 rfl ?_
    obtain ⟨v4, ev4, h⟩ := blet_e h
    refine z_getI (j := 8) C x_Pa_parseWhole_30 nk_55 ck_55 cw_4 (i_lt rfl) rfl rfl fl_Pa_48 ev4 ?_
    refine z_iconst C x_Pa_parseWhole_33 ?_
    rcases ite_e h with ⟨c5, h⟩ | ⟨c5, h⟩
    · refine z_icmp_eq_t (tgt := 43) C x_Pa_parseWhole_34 rfl c5 ?_
      refine z_aload_n C 0 x_Pa_parseWhole_43 rfl ?_
      obtain ⟨v6, M7, fv6, h⟩ := bcall_e h
      refine z_callVv (k := 55) C x_Pa_parseWhole_44 cv_Pa_45 (t_Pa_advance (lev := lev - 1) l G (by omega) fv6) nk_55 ck_55 rfl (by omega) rfl (i_le rfl) rfl ?_
      refine z_aload_n C 0 x_Pa_parseWhole_47 rfl ?_
      refine z_iload_n C 1 x_Pa_parseWhole_48 rfl ?_
      obtain ⟨v8, M9, fv8, h⟩ := bcall_e h
      refine z_callVv (k := 55) C x_Pa_parseWhole_49 cv_Pa_144 (t_Pa_parseTest (lev := lev - 1) l G hN (by omega) hRW hRF fv8) nk_55 ck_55 rfl (by omega) rfl (i_le rfl) rfl ?_
      refine z_aload_n C 0 x_Pa_parseWhole_52 rfl ?_
      refine z_iconst C x_Pa_parseWhole_53 ?_
      obtain ⟨v10, M11, fv10, h⟩ := bcall_e h
      refine z_callVv (k := 55) C x_Pa_parseWhole_54 cv_Pa_54 (t_Pa_expect (lev := lev - 1) l G (by omega) fv10) nk_55 ck_55 rfl (by omega) rfl (i_le rfl) rfl ?_
      refine z_aload_n C 0 x_Pa_parseWhole_57 rfl ?_
      refine z_iload_n C 1 x_Pa_parseWhole_58 rfl ?_
      refine z_iconst C x_Pa_parseWhole_59 ?_
      refine z_iadd C x_Pa_parseWhole_60 ?_
      obtain ⟨v12, M13, fv12, h⟩ := bcall_e h
      refine z_callVv (k := 55) C x_Pa_parseWhole_61 cv_Pa_58 (hRW (lev - 1) (by omega) fv12) nk_55 ck_55 rfl (by omega) rfl (i_le rfl) rfl ?_
      refine z_aload_n C 0 x_Pa_parseWhole_64 rfl ?_
      refine z_bipush C rfl x_Pa_parseWhole_65 ?_
      obtain ⟨v14, M15, fv14, h⟩ := bcall_e h
      refine z_callVv (k := 55) C x_Pa_parseWhole_67 cv_Pa_54 (t_Pa_expect (lev := lev - 1) l G (by omega) fv14) nk_55 ck_55 rfl (by omega) rfl (i_le rfl) rfl ?_
      refine z_aload_n C 0 x_Pa_parseWhole_70 rfl ?_
      refine z_iload_n C 1 x_Pa_parseWhole_71 rfl ?_
      refine z_iconst C x_Pa_parseWhole_72 ?_
      refine z_iadd C x_Pa_parseWhole_73 ?_
      obtain ⟨v16, M17, fv16, h⟩ := bcall_e h
      refine z_callVv (k := 55) C x_Pa_parseWhole_74 cv_Pa_58 (hRW (lev - 1) (by omega) fv16) nk_55 ck_55 rfl (by omega) rfl (i_le rfl) rfl ?_
      refine z_aload_n C 0 x_Pa_parseWhole_77 rfl ?_
      refine z_getR (j := 4) C x_Pa_parseWhole_78 nk_55 ck_55 cw_4 (i_lt rfl) rfl rf_55_4 rfl fl_Pa_25 ?_
      refine z_iconst C x_Pa_parseWhole_81 ?_
      refine z_iconst C x_Pa_parseWhole_82 ?_
      obtain ⟨v18, M19, fv18, h⟩ := bcall_e h
      refine z_callVv (k := 57) C x_Pa_parseWhole_83 cv_Pa_147 (t_Tx_add (lev := lev - 1) l G (by omega) it_57 fv18) nk_57 ck_57 rfl (by omega) rfl (i_le rfl) rfl ?_
      exact z_vret C x_Pa_parseWhole_86 h
    · refine z_icmp_eq_f (tgt := 43) C x_Pa_parseWhole_34 rfl c5 ?_
      refine z_aload_n C 0 x_Pa_parseWhole_37 rfl ?_
      refine z_iload_n C 1 x_Pa_parseWhole_38 rfl ?_
      obtain ⟨v20, M21, fv20, h⟩ := bcall_e h
      refine z_callVv (k := 55) C x_Pa_parseWhole_39 cv_Pa_141 (t_Pa_parseSum (lev := lev - 1) l G hN (by omega) hRW hRF fv20) nk_55 ck_55 rfl (by omega) rfl (i_le rfl) rfl ?_
      exact z_vret C x_Pa_parseWhole_42 h
def k_Pa_parseWhole_16 (RW : Int → Mem → Res) (RF : Int → Mem → Res) (a1 : Int) (M : Mem) : Res := k_Pa_parseWhole_21 RW RF a1 1 M
theorem z_Pa_parseWhole_16 (C : Cx p s m args meth c G b_Pa_parseWhole 2 "PrairiePool$Parser" none) {N : Nat} (hN : 20 ≤ N) (hlev : N + 13 ≤ lev) {RW : Int → Mem → Res} {RF : Int → Mem → Res} (hRW : ∀ (lev' : Nat), N ≤ lev' → ∀ {a1 : Int} {M : Mem} {r : Int × Mem}, RW a1 M = some r → Mt l G y_Pa_parseWhole b_Pa_parseWhole 2 none lev' 0 [.ref (G.1 + 55), vi a1] M r) (hRF : ∀ (lev' : Nat), N ≤ lev' → ∀ {a1 : Int} {M : Mem} {r : Int × Mem}, RF a1 M = some r → Mt l G y_Pa_parseFew b_Pa_parseFew 3 none lev' 0 [.ref (G.1 + 55), vi a1] M r) {r : Int × Mem}  {a1 : Int} {M : Mem} (h : k_Pa_parseWhole_16 RW RF a1 M = some r) : Z p l e lev s m args below meth c G 2 (MQ below (Qm G 0 r) args s 0 0 (Ab G)) M 16 [(0, .ref (G.1 + 55)), (1, vi a1)] [.ref (G.1 + 55)] := by
  unfold k_Pa_parseWhole_16 at h
  refine z_iconst C x_Pa_parseWhole_16 ?_
  refine z_goto (tgt := 21) C x_Pa_parseWhole_17 rfl ?_
  exact z_sub [0, 1] rfl (z_Pa_parseWhole_21 C hN hlev hRW hRF h)
def d_Pa_parseWhole (RW : Int → Mem → Res) (RF : Int → Mem → Res) (a1 : Int) (M : Mem) : Res := blet (M 55 8) fun v1 => if w32 v1 = 4 then (k_Pa_parseWhole_16 RW RF a1 M) else (bcall (d_Pa_beginsSum M) fun v3 M4 => if w32 v3 = 0 then (k_Pa_parseWhole_21 RW RF a1 0 M4) else (k_Pa_parseWhole_16 RW RF a1 M4))
theorem t_Pa_parseWhole (l : Launch) (G : GX) {lev : Nat} {N : Nat} (hN : 20 ≤ N) (hlev : N + 13 ≤ lev) {RW : Int → Mem → Res} {RF : Int → Mem → Res} (hRW : ∀ (lev' : Nat), N ≤ lev' → ∀ {a1 : Int} {M : Mem} {r : Int × Mem}, RW a1 M = some r → Mt l G y_Pa_parseWhole b_Pa_parseWhole 2 none lev' 0 [.ref (G.1 + 55), vi a1] M r) (hRF : ∀ (lev' : Nat), N ≤ lev' → ∀ {a1 : Int} {M : Mem} {r : Int × Mem}, RF a1 M = some r → Mt l G y_Pa_parseFew b_Pa_parseFew 3 none lev' 0 [.ref (G.1 + 55), vi a1] M r) {a1 : Int} {M : Mem} {r : Int × Mem} (h : d_Pa_parseWhole RW RF a1 M = some r) : Mt l G y_Pa_parseWhole b_Pa_parseWhole 2 none lev 0 [.ref (G.1 + 55), vi a1] M r := by
  refine Mt.of (by decide) (i_le rfl) ?_
  intro p e s m args below meth c C
  have C : Cx p s m args meth c G b_Pa_parseWhole 2 "PrairiePool$Parser" none := C
  unfold d_Pa_parseWhole at h
  refine z_sub (lv' := [(0, .ref (G.1 + 55)), (1, vi a1)]) [0, 1] rfl ?_
  refine z_aload_n C 0 x_Pa_parseWhole_0 rfl ?_
  refine z_aload_n C 0 x_Pa_parseWhole_1 rfl ?_
  obtain ⟨v1, ev1, h⟩ := blet_e h
  refine z_getI (j := 8) C x_Pa_parseWhole_2 nk_55 ck_55 cw_4 (i_lt rfl) rfl rfl fl_Pa_48 ev1 ?_
  refine z_iconst C x_Pa_parseWhole_5 ?_
  rcases ite_e h with ⟨c2, h⟩ | ⟨c2, h⟩
  · refine z_icmp_eq_t (tgt := 16) C x_Pa_parseWhole_6 rfl c2 ?_
    exact z_sub [0, 1] rfl (z_Pa_parseWhole_16 C hN hlev hRW hRF h)
  · refine z_icmp_eq_f (tgt := 16) C x_Pa_parseWhole_6 rfl c2 ?_
    refine z_aload_n C 0 x_Pa_parseWhole_9 rfl ?_
    obtain ⟨v3, M4, fv3, h⟩ := bcall_e h
    refine z_callVi (k := 55) C x_Pa_parseWhole_10 cv_Pa_133 (t_Pa_beginsSum (lev := lev - 1) l G (by omega) fv3) nk_55 ck_55 rfl (by omega) rfl (i_le rfl) rfl ?_
    rcases ite_e h with ⟨c5, h⟩ | ⟨c5, h⟩
    · refine z_if_eq_t (tgt := 20) C x_Pa_parseWhole_13 rfl c5 ?_
      refine z_iconst C x_Pa_parseWhole_20 ?_
      exact z_sub [0, 1] rfl (z_Pa_parseWhole_21 C hN hlev hRW hRF h)
    · refine z_if_eq_f (tgt := 20) C x_Pa_parseWhole_13 rfl c5 ?_
      exact z_sub [0, 1] rfl (z_Pa_parseWhole_16 C hN hlev hRW hRF h)
theorem x_Pa_parseSumOfFew_0 : DC b_Pa_parseSumOfFew 0 (.aload_n 0) 1 1 := ⟨by decide +kernel, rfl⟩
theorem x_Pa_parseSumOfFew_1 : DC b_Pa_parseSumOfFew 1 (.aload_n 0) 1 2 := ⟨by decide +kernel, rfl⟩
theorem x_Pa_parseSumOfFew_2 : DC b_Pa_parseSumOfFew 2 (.invokevirtual 133) 3 5 := ⟨by decide +kernel, rfl⟩
theorem x_Pa_parseSumOfFew_5 : DC b_Pa_parseSumOfFew 5 (.iload_n 1) 1 6 := ⟨by decide +kernel, rfl⟩
theorem x_Pa_parseSumOfFew_6 : DC b_Pa_parseSumOfFew 6 (.invokevirtual 137) 3 9 := ⟨by decide +kernel, rfl⟩
theorem x_Pa_parseSumOfFew_9 : DC b_Pa_parseSumOfFew 9 (.ifCond .eq 8) 3 12 := ⟨by decide +kernel, rfl⟩
theorem x_Pa_parseSumOfFew_12 : DC b_Pa_parseSumOfFew 12 (.aload_n 0) 1 13 := ⟨by decide +kernel, rfl⟩
theorem x_Pa_parseSumOfFew_13 : DC b_Pa_parseSumOfFew 13 (.iload_n 1) 1 14 := ⟨by decide +kernel, rfl⟩
theorem x_Pa_parseSumOfFew_14 : DC b_Pa_parseSumOfFew 14 (.invokevirtual 141) 3 17 := ⟨by decide +kernel, rfl⟩
theorem x_Pa_parseSumOfFew_17 : DC b_Pa_parseSumOfFew 17 (.return_) 1 18 := ⟨by decide +kernel, rfl⟩
def d_Pa_parseSumOfFew (RW : Int → Mem → Res) (RF : Int → Mem → Res) (a1 : Int) (M : Mem) : Res := bcall (d_Pa_beginsSum M) fun v1 M2 => bcall (d_Pa_mayBegin v1 a1 M2) fun v3 M4 => if w32 v3 = 0 then (some (0, M4)) else (bcall (d_Pa_parseSum RW RF a1 M4) fun v6 M7 => some (0, M7))
theorem t_Pa_parseSumOfFew (l : Launch) (G : GX) {lev : Nat} {N : Nat} (hN : 20 ≤ N) (hlev : N + 11 ≤ lev) {RW : Int → Mem → Res} {RF : Int → Mem → Res} (hRW : ∀ (lev' : Nat), N ≤ lev' → ∀ {a1 : Int} {M : Mem} {r : Int × Mem}, RW a1 M = some r → Mt l G y_Pa_parseWhole b_Pa_parseWhole 2 none lev' 0 [.ref (G.1 + 55), vi a1] M r) (hRF : ∀ (lev' : Nat), N ≤ lev' → ∀ {a1 : Int} {M : Mem} {r : Int × Mem}, RF a1 M = some r → Mt l G y_Pa_parseFew b_Pa_parseFew 3 none lev' 0 [.ref (G.1 + 55), vi a1] M r) {a1 : Int} {M : Mem} {r : Int × Mem} (h : d_Pa_parseSumOfFew RW RF a1 M = some r) : Mt l G y_Pa_parseSumOfFew b_Pa_parseSumOfFew 2 none lev 0 [.ref (G.1 + 55), vi a1] M r := by
  refine Mt.of (by decide) (i_le rfl) ?_
  intro p e s m args below meth c C
  have C : Cx p s m args meth c G b_Pa_parseSumOfFew 2 "PrairiePool$Parser" none := C
  unfold d_Pa_parseSumOfFew at h
  refine z_sub (lv' := [(0, .ref (G.1 + 55)), (1, vi a1)]) [0, 1] rfl ?_
  refine z_aload_n C 0 x_Pa_parseSumOfFew_0 rfl ?_
  refine z_aload_n C 0 x_Pa_parseSumOfFew_1 rfl ?_
  obtain ⟨v1, M2, fv1, h⟩ := bcall_e h
  refine z_callVi (k := 55) C x_Pa_parseSumOfFew_2 cv_Pa_133 (t_Pa_beginsSum (lev := lev - 1) l G (by omega) fv1) nk_55 ck_55 rfl (by omega) rfl (i_le rfl) rfl ?_
  refine z_iload_n C 1 x_Pa_parseSumOfFew_5 rfl ?_
  obtain ⟨v3, M4, fv3, h⟩ := bcall_e h
  refine z_callVi (k := 55) C x_Pa_parseSumOfFew_6 cv_Pa_137 (t_Pa_mayBegin (lev := lev - 1) l G (by omega) fv3) nk_55 ck_55 rfl (by omega) rfl (i_le rfl) rfl ?_
  rcases ite_e h with ⟨c5, h⟩ | ⟨c5, h⟩
  · refine z_if_eq_t (tgt := 17) C x_Pa_parseSumOfFew_9 rfl c5 ?_
    exact z_vret C x_Pa_parseSumOfFew_17 h
  · refine z_if_eq_f (tgt := 17) C x_Pa_parseSumOfFew_9 rfl c5 ?_
    refine z_aload_n C 0 x_Pa_parseSumOfFew_12 rfl ?_
    refine z_iload_n C 1 x_Pa_parseSumOfFew_13 rfl ?_
    obtain ⟨v6, M7, fv6, h⟩ := bcall_e h
    refine z_callVv (k := 55) C x_Pa_parseSumOfFew_14 cv_Pa_141 (t_Pa_parseSum (lev := lev - 1) l G hN (by omega) hRW hRF fv6) nk_55 ck_55 rfl (by omega) rfl (i_le rfl) rfl ?_
    exact z_vret C x_Pa_parseSumOfFew_17 h
theorem x_Pa_parseFew_0 : DC b_Pa_parseFew 0 (.aload_n 0) 1 1 := ⟨by decide +kernel, rfl⟩
theorem x_Pa_parseFew_1 : DC b_Pa_parseFew 1 (.getfield 48) 3 4 := ⟨by decide +kernel, rfl⟩
theorem x_Pa_parseFew_4 : DC b_Pa_parseFew 4 (.bipush 10) 2 6 := ⟨by decide +kernel, rfl⟩
theorem x_Pa_parseFew_6 : DC b_Pa_parseFew 6 (.if_icmp .ne 8) 3 9 := ⟨by decide +kernel, rfl⟩
theorem x_Pa_parseFew_9 : DC b_Pa_parseFew 9 (.bipush 9) 2 11 := ⟨by decide +kernel, rfl⟩
theorem x_Pa_parseFew_11 : DC b_Pa_parseFew 11 (.goto 5) 3 14 := ⟨by decide +kernel, rfl⟩
theorem x_Pa_parseFew_14 : DC b_Pa_parseFew 14 (.bipush 10) 2 16 := ⟨by decide +kernel, rfl⟩
theorem x_Pa_parseFew_16 : DC b_Pa_parseFew 16 (.istore_n 2) 1 17 := ⟨by decide +kernel, rfl⟩
theorem x_Pa_parseFew_17 : DC b_Pa_parseFew 17 (.aload_n 0) 1 18 := ⟨by decide +kernel, rfl⟩
theorem x_Pa_parseFew_18 : DC b_Pa_parseFew 18 (.invokevirtual 45) 3 21 := ⟨by decide +kernel, rfl⟩
theorem x_Pa_parseFew_21 : DC b_Pa_parseFew 21 (.aload_n 0) 1 22 := ⟨by decide +kernel, rfl⟩
theorem x_Pa_parseFew_22 : DC b_Pa_parseFew 22 (.bipush 40) 2 24 := ⟨by decide +kernel, rfl⟩
theorem x_Pa_parseFew_24 : DC b_Pa_parseFew 24 (.invokevirtual 54) 3 27 := ⟨by decide +kernel, rfl⟩
theorem x_Pa_parseFew_27 : DC b_Pa_parseFew 27 (.aload_n 0) 1 28 := ⟨by decide +kernel, rfl⟩
theorem x_Pa_parseFew_28 : DC b_Pa_parseFew 28 (.iload_n 1) 1 29 := ⟨by decide +kernel, rfl⟩
theorem x_Pa_parseFew_29 : DC b_Pa_parseFew 29 (.iconst 1) 1 30 := ⟨by decide +kernel, rfl⟩
theorem x_Pa_parseFew_30 : DC b_Pa_parseFew 30 (.iadd) 1 31 := ⟨by decide +kernel, rfl⟩
theorem x_Pa_parseFew_31 : DC b_Pa_parseFew 31 (.invokevirtual 172) 3 34 := ⟨by decide +kernel, rfl⟩
theorem x_Pa_parseFew_34 : DC b_Pa_parseFew 34 (.aload_n 0) 1 35 := ⟨by decide +kernel, rfl⟩
theorem x_Pa_parseFew_35 : DC b_Pa_parseFew 35 (.bipush 44) 2 37 := ⟨by decide +kernel, rfl⟩
theorem x_Pa_parseFew_37 : DC b_Pa_parseFew 37 (.invokevirtual 54) 3 40 := ⟨by decide +kernel, rfl⟩
theorem x_Pa_parseFew_40 : DC b_Pa_parseFew 40 (.aload_n 0) 1 41 := ⟨by decide +kernel, rfl⟩
theorem x_Pa_parseFew_41 : DC b_Pa_parseFew 41 (.iload_n 1) 1 42 := ⟨by decide +kernel, rfl⟩
theorem x_Pa_parseFew_42 : DC b_Pa_parseFew 42 (.iconst 1) 1 43 := ⟨by decide +kernel, rfl⟩
theorem x_Pa_parseFew_43 : DC b_Pa_parseFew 43 (.iadd) 1 44 := ⟨by decide +kernel, rfl⟩
theorem x_Pa_parseFew_44 : DC b_Pa_parseFew 44 (.invokevirtual 172) 3 47 := ⟨by decide +kernel, rfl⟩
theorem x_Pa_parseFew_47 : DC b_Pa_parseFew 47 (.aload_n 0) 1 48 := ⟨by decide +kernel, rfl⟩
theorem x_Pa_parseFew_48 : DC b_Pa_parseFew 48 (.bipush 41) 2 50 := ⟨by decide +kernel, rfl⟩
theorem x_Pa_parseFew_50 : DC b_Pa_parseFew 50 (.invokevirtual 54) 3 53 := ⟨by decide +kernel, rfl⟩
theorem x_Pa_parseFew_53 : DC b_Pa_parseFew 53 (.aload_n 0) 1 54 := ⟨by decide +kernel, rfl⟩
theorem x_Pa_parseFew_54 : DC b_Pa_parseFew 54 (.getfield 25) 3 57 := ⟨by decide +kernel, rfl⟩
theorem x_Pa_parseFew_57 : DC b_Pa_parseFew 57 (.iload_n 2) 1 58 := ⟨by decide +kernel, rfl⟩
theorem x_Pa_parseFew_58 : DC b_Pa_parseFew 58 (.iconst 0) 1 59 := ⟨by decide +kernel, rfl⟩
theorem x_Pa_parseFew_59 : DC b_Pa_parseFew 59 (.invokevirtual 147) 3 62 := ⟨by decide +kernel, rfl⟩
theorem x_Pa_parseFew_62 : DC b_Pa_parseFew 62 (.return_) 1 63 := ⟨by decide +kernel, rfl⟩
def k_Pa_parseFew_16 (RW : Int → Mem → Res) (RF : Int → Mem → Res) (a1 s0 : Int) (M : Mem) : Res := bcall (d_Pa_advance M) fun v1 M2 => bcall (d_Pa_expect 40 M2) fun v3 M4 => bcall (d_Pa_parseSumOfFew RW RF (a1 + 1) M4) fun v5 M6 => bcall (d_Pa_expect 44 M6) fun v7 M8 => bcall (d_Pa_parseSumOfFew RW RF (a1 + 1) M8) fun v9 M10 => bcall (d_Pa_expect 41 M10) fun v11 M12 => bcall (d_Tx_add 57 s0 0 M12) fun v13 M14 => some (0, M14)
theorem z_Pa_parseFew_16 (C : Cx p s m args meth c G b_Pa_parseFew 3 "PrairiePool$Parser" none) {N : Nat} (hN : 20 ≤ N) (hlev : N + 12 ≤ lev) {RW : Int → Mem → Res} {RF : Int → Mem → Res} (hRW : ∀ (lev' : Nat), N ≤ lev' → ∀ {a1 : Int} {M : Mem} {r : Int × Mem}, RW a1 M = some r → Mt l G y_Pa_parseWhole b_Pa_parseWhole 2 none lev' 0 [.ref (G.1 + 55), vi a1] M r) (hRF : ∀ (lev' : Nat), N ≤ lev' → ∀ {a1 : Int} {M : Mem} {r : Int × Mem}, RF a1 M = some r → Mt l G y_Pa_parseFew b_Pa_parseFew 3 none lev' 0 [.ref (G.1 + 55), vi a1] M r) {r : Int × Mem}  {a1 s0 : Int} {M : Mem} (h : k_Pa_parseFew_16 RW RF a1 s0 M = some r) : Z p l e lev s m args below meth c G 3 (MQ below (Qm G 0 r) args s 0 0 (Ab G)) M 16 [(0, .ref (G.1 + 55)), (1, vi a1)] [vi s0] := by
  unfold k_Pa_parseFew_16 at h
  refine z_istore_n (lv' := [(2, vi s0), (0, .ref (G.1 + 55)), (1, vi a1)]) C rfl x_Pa_parseFew_16 (i_lt rfl) rfl ?_
  refine z_aload_n C 1 x_Pa_parseFew_17 rfl ?_
  obtain ⟨v1, M2, fv1, h⟩ := bcall_e h
  refine z_callVv (k := 55) C x_Pa_parseFew_18 cv_Pa_45 (t_Pa_advance (lev := lev - 1) l G (by omega) fv1) nk_55 ck_55 rfl (by omega) rfl (i_le rfl) rfl ?_
  refine z_aload_n C 1 x_Pa_parseFew_21 rfl ?_
  refine z_bipush C rfl x_Pa_parseFew_22 ?_
  obtain ⟨v3, M4, fv3, h⟩ := bcall_e h
  refine z_callVv (k := 55) C x_Pa_parseFew_24 cv_Pa_54 (t_Pa_expect (lev := lev - 1) l G (by omega) fv3) nk_55 ck_55 rfl (by omega) rfl (i_le rfl) rfl ?_
  refine z_aload_n C 1 x_Pa_parseFew_27 rfl ?_
  refine z_iload_n C 2 x_Pa_parseFew_28 rfl ?_
  refine z_iconst C x_Pa_parseFew_29 ?_
  refine z_iadd C x_Pa_parseFew_30 ?_
  obtain ⟨v5, M6, fv5, h⟩ := bcall_e h
  refine z_callVv (k := 55) C x_Pa_parseFew_31 cv_Pa_172 (t_Pa_parseSumOfFew (lev := lev - 1) l G hN (by omega) hRW hRF fv5) nk_55 ck_55 rfl (by omega) rfl (i_le rfl) rfl ?_
  refine z_aload_n C 1 x_Pa_parseFew_34 rfl ?_
  refine z_bipush C rfl x_Pa_parseFew_35 ?_
  obtain ⟨v7, M8, fv7, h⟩ := bcall_e h
  refine z_callVv (k := 55) C x_Pa_parseFew_37 cv_Pa_54 (t_Pa_expect (lev := lev - 1) l G (by omega) fv7) nk_55 ck_55 rfl (by omega) rfl (i_le rfl) rfl ?_
  refine z_aload_n C 1 x_Pa_parseFew_40 rfl ?_
  refine z_iload_n C 2 x_Pa_parseFew_41 rfl ?_
  refine z_iconst C x_Pa_parseFew_42 ?_
  refine z_iadd C x_Pa_parseFew_43 ?_
  obtain ⟨v9, M10, fv9, h⟩ := bcall_e h
  refine z_callVv (k := 55) C x_Pa_parseFew_44 cv_Pa_172 (t_Pa_parseSumOfFew (lev := lev - 1) l G hN (by omega) hRW hRF fv9) nk_55 ck_55 rfl (by omega) rfl (i_le rfl) rfl ?_
  refine z_aload_n C 1 x_Pa_parseFew_47 rfl ?_
  refine z_bipush C rfl x_Pa_parseFew_48 ?_
  obtain ⟨v11, M12, fv11, h⟩ := bcall_e h
  refine z_callVv (k := 55) C x_Pa_parseFew_50 cv_Pa_54 (t_Pa_expect (lev := lev - 1) l G (by omega) fv11) nk_55 ck_55 rfl (by omega) rfl (i_le rfl) rfl ?_
  refine z_aload_n C 1 x_Pa_parseFew_53 rfl ?_
  refine z_getR (j := 4) C x_Pa_parseFew_54 nk_55 ck_55 cw_4 (i_lt rfl) rfl rf_55_4 rfl fl_Pa_25 ?_
  refine z_iload_n C 0 x_Pa_parseFew_57 rfl ?_
  refine z_iconst C x_Pa_parseFew_58 ?_
  obtain ⟨v13, M14, fv13, h⟩ := bcall_e h
  refine z_callVv (k := 57) C x_Pa_parseFew_59 cv_Pa_147 (t_Tx_add (lev := lev - 1) l G (by omega) it_57 fv13) nk_57 ck_57 rfl (by omega) rfl (i_le rfl) rfl ?_
  exact z_vret C x_Pa_parseFew_62 h
def d_Pa_parseFew (RW : Int → Mem → Res) (RF : Int → Mem → Res) (a1 : Int) (M : Mem) : Res := blet (M 55 8) fun v1 => if w32 v1 = 10 then (k_Pa_parseFew_16 RW RF a1 9 M) else (k_Pa_parseFew_16 RW RF a1 10 M)
theorem t_Pa_parseFew (l : Launch) (G : GX) {lev : Nat} {N : Nat} (hN : 20 ≤ N) (hlev : N + 12 ≤ lev) {RW : Int → Mem → Res} {RF : Int → Mem → Res} (hRW : ∀ (lev' : Nat), N ≤ lev' → ∀ {a1 : Int} {M : Mem} {r : Int × Mem}, RW a1 M = some r → Mt l G y_Pa_parseWhole b_Pa_parseWhole 2 none lev' 0 [.ref (G.1 + 55), vi a1] M r) (hRF : ∀ (lev' : Nat), N ≤ lev' → ∀ {a1 : Int} {M : Mem} {r : Int × Mem}, RF a1 M = some r → Mt l G y_Pa_parseFew b_Pa_parseFew 3 none lev' 0 [.ref (G.1 + 55), vi a1] M r) {a1 : Int} {M : Mem} {r : Int × Mem} (h : d_Pa_parseFew RW RF a1 M = some r) : Mt l G y_Pa_parseFew b_Pa_parseFew 3 none lev 0 [.ref (G.1 + 55), vi a1] M r := by
  refine Mt.of (by decide) (i_le rfl) ?_
  intro p e s m args below meth c C
  have C : Cx p s m args meth c G b_Pa_parseFew 3 "PrairiePool$Parser" none := C
  unfold d_Pa_parseFew at h
  refine z_sub (lv' := [(0, .ref (G.1 + 55)), (1, vi a1)]) [0, 1] rfl ?_
  refine z_aload_n C 0 x_Pa_parseFew_0 rfl ?_
  obtain ⟨v1, ev1, h⟩ := blet_e h
  refine z_getI (j := 8) C x_Pa_parseFew_1 nk_55 ck_55 cw_4 (i_lt rfl) rfl rfl fl_Pa_48 ev1 ?_
  refine z_bipush C rfl x_Pa_parseFew_4 ?_
  rcases ite_e h with ⟨c2, h⟩ | ⟨c2, h⟩
  · refine z_icmp_ne_f (tgt := 14) C x_Pa_parseFew_6 rfl c2 ?_
    refine z_bipush C rfl x_Pa_parseFew_9 ?_
    refine z_goto (tgt := 16) C x_Pa_parseFew_11 rfl ?_
    exact z_sub [0, 1] rfl (z_Pa_parseFew_16 C hN hlev hRW hRF h)
  · refine z_icmp_ne_t (tgt := 14) C x_Pa_parseFew_6 rfl c2 ?_
    refine z_bipush C rfl x_Pa_parseFew_14 ?_
    exact z_sub [0, 1] rfl (z_Pa_parseFew_16 C hN hlev hRW hRF h)
def pwG : Nat → (Int → Mem → Res) × (Int → Mem → Res)
  | 0 => (fun _ _ => none, fun _ _ => none)
  | n + 1 => (d_Pa_parseWhole (pwG n).1 (pwG n).2, d_Pa_parseFew (pwG n).1 (pwG n).2)
theorem pwG_ok (l : Launch) (G : GX) : ∀ n : Nat, (∀ (lev' : Nat), 20 + 20 * n ≤ lev' → ∀ {a1 : Int} {M : Mem} {r : Int × Mem}, (pwG n).1 a1 M = some r → Mt l G y_Pa_parseWhole b_Pa_parseWhole 2 none lev' 0 [.ref (G.1 + 55), vi a1] M r) ∧ (∀ (lev' : Nat), 20 + 20 * n ≤ lev' → ∀ {a1 : Int} {M : Mem} {r : Int × Mem}, (pwG n).2 a1 M = some r → Mt l G y_Pa_parseFew b_Pa_parseFew 3 none lev' 0 [.ref (G.1 + 55), vi a1] M r) := by
  intro n
  induction n with
  | zero => exact ⟨(fun _ _ _ _ _ h => nomatch (show (none : Res) = some _ from h)), (fun _ _ _ _ _ h => nomatch (show (none : Res) = some _ from h))⟩
  | succ n ih =>
    obtain ⟨ih1, ih2⟩ := ih
    exact ⟨fun lev' hl _ _ _ h => t_Pa_parseWhole (N := 20 + 20 * n) l G (by omega) (by omega) ih1 ih2 h, fun lev' hl _ _ _ h => t_Pa_parseFew (N := 20 + 20 * n) l G (by omega) (by omega) ih1 ih2 h⟩
def d_Pa_parseWholeC (a1 : Int) (M : Mem) : Res := (pwG 16).1 a1 M
theorem t_Pa_parseWholeC (l : Launch) (G : GX) {lev : Nat} (hlev : 340 ≤ lev) {a1 : Int} {M : Mem} {r : Int × Mem} (h : d_Pa_parseWholeC a1 M = some r) : Mt l G y_Pa_parseWhole b_Pa_parseWhole 2 none lev 0 [.ref (G.1 + 55), vi a1] M r := (pwG_ok l G 16).1 lev hlev h
theorem x_Pa_parse_0 : DC b_Pa_parse 0 (.aload_n 0) 1 1 := ⟨by decide +kernel, rfl⟩
theorem x_Pa_parse_1 : DC b_Pa_parse 1 (.iload_n 1) 1 2 := ⟨by decide +kernel, rfl⟩
theorem x_Pa_parse_2 : DC b_Pa_parse 2 (.putfield 36) 3 5 := ⟨by decide +kernel, rfl⟩
theorem x_Pa_parse_5 : DC b_Pa_parse 5 (.aload_n 0) 1 6 := ⟨by decide +kernel, rfl⟩
theorem x_Pa_parse_6 : DC b_Pa_parse 6 (.iconst 0) 1 7 := ⟨by decide +kernel, rfl⟩
theorem x_Pa_parse_7 : DC b_Pa_parse 7 (.putfield 39) 3 10 := ⟨by decide +kernel, rfl⟩
theorem x_Pa_parse_10 : DC b_Pa_parse 10 (.aload_n 0) 1 11 := ⟨by decide +kernel, rfl⟩
theorem x_Pa_parse_11 : DC b_Pa_parse 11 (.iconst 0) 1 12 := ⟨by decide +kernel, rfl⟩
theorem x_Pa_parse_12 : DC b_Pa_parse 12 (.putfield 17) 3 15 := ⟨by decide +kernel, rfl⟩
theorem x_Pa_parse_15 : DC b_Pa_parse 15 (.aload_n 0) 1 16 := ⟨by decide +kernel, rfl⟩
theorem x_Pa_parse_16 : DC b_Pa_parse 16 (.iconst (-1)) 1 17 := ⟨by decide +kernel, rfl⟩
theorem x_Pa_parse_17 : DC b_Pa_parse 17 (.putfield 21) 3 20 := ⟨by decide +kernel, rfl⟩
theorem x_Pa_parse_20 : DC b_Pa_parse 20 (.aload_n 0) 1 21 := ⟨by decide +kernel, rfl⟩
theorem x_Pa_parse_21 : DC b_Pa_parse 21 (.getfield 25) 3 24 := ⟨by decide +kernel, rfl⟩
theorem x_Pa_parse_24 : DC b_Pa_parse 24 (.invokevirtual 42) 3 27 := ⟨by decide +kernel, rfl⟩
theorem x_Pa_parse_27 : DC b_Pa_parse 27 (.aload_n 0) 1 28 := ⟨by decide +kernel, rfl⟩
theorem x_Pa_parse_28 : DC b_Pa_parse 28 (.invokevirtual 45) 3 31 := ⟨by decide +kernel, rfl⟩
theorem x_Pa_parse_31 : DC b_Pa_parse 31 (.iconst 0) 1 32 := ⟨by decide +kernel, rfl⟩
theorem x_Pa_parse_32 : DC b_Pa_parse 32 (.istore_n 2) 1 33 := ⟨by decide +kernel, rfl⟩
theorem x_Pa_parse_33 : DC b_Pa_parse 33 (.iload_n 2) 1 34 := ⟨by decide +kernel, rfl⟩
theorem x_Pa_parse_34 : DC b_Pa_parse 34 (.bipush 10) 2 36 := ⟨by decide +kernel, rfl⟩
theorem x_Pa_parse_36 : DC b_Pa_parse 36 (.if_icmp .gt 58) 3 39 := ⟨by decide +kernel, rfl⟩
theorem x_Pa_parse_39 : DC b_Pa_parse 39 (.aload_n 0) 1 40 := ⟨by decide +kernel, rfl⟩
theorem x_Pa_parse_40 : DC b_Pa_parse 40 (.getfield 48) 3 43 := ⟨by decide +kernel, rfl⟩
theorem x_Pa_parse_43 : DC b_Pa_parse 43 (.ifCond .eq 51) 3 46 := ⟨by decide +kernel, rfl⟩
theorem x_Pa_parse_46 : DC b_Pa_parse 46 (.aload_n 0) 1 47 := ⟨by decide +kernel, rfl⟩
theorem x_Pa_parse_47 : DC b_Pa_parse 47 (.getfield 17) 3 50 := ⟨by decide +kernel, rfl⟩
theorem x_Pa_parse_50 : DC b_Pa_parse 50 (.ifCond .ne 44) 3 53 := ⟨by decide +kernel, rfl⟩
theorem x_Pa_parse_53 : DC b_Pa_parse 53 (.aload_n 0) 1 54 := ⟨by decide +kernel, rfl⟩
theorem x_Pa_parse_54 : DC b_Pa_parse 54 (.invokevirtual 51) 3 57 := ⟨by decide +kernel, rfl⟩
theorem x_Pa_parse_57 : DC b_Pa_parse 57 (.aload_n 0) 1 58 := ⟨by decide +kernel, rfl⟩
theorem x_Pa_parse_58 : DC b_Pa_parse 58 (.bipush 58) 2 60 := ⟨by decide +kernel, rfl⟩
theorem x_Pa_parse_60 : DC b_Pa_parse 60 (.invokevirtual 54) 3 63 := ⟨by decide +kernel, rfl⟩
theorem x_Pa_parse_63 : DC b_Pa_parse 63 (.aload_n 0) 1 64 := ⟨by decide +kernel, rfl⟩
theorem x_Pa_parse_64 : DC b_Pa_parse 64 (.iconst 1) 1 65 := ⟨by decide +kernel, rfl⟩
theorem x_Pa_parse_65 : DC b_Pa_parse 65 (.invokevirtual 58) 3 68 := ⟨by decide +kernel, rfl⟩
theorem x_Pa_parse_68 : DC b_Pa_parse 68 (.aload_n 0) 1 69 := ⟨by decide +kernel, rfl⟩
theorem x_Pa_parse_69 : DC b_Pa_parse 69 (.bipush 59) 2 71 := ⟨by decide +kernel, rfl⟩
theorem x_Pa_parse_71 : DC b_Pa_parse 71 (.invokevirtual 54) 3 74 := ⟨by decide +kernel, rfl⟩
theorem x_Pa_parse_74 : DC b_Pa_parse 74 (.aload_n 0) 1 75 := ⟨by decide +kernel, rfl⟩
theorem x_Pa_parse_75 : DC b_Pa_parse 75 (.getfield 17) 3 78 := ⟨by decide +kernel, rfl⟩
theorem x_Pa_parse_78 : DC b_Pa_parse 78 (.ifCond .ne 10) 3 81 := ⟨by decide +kernel, rfl⟩
theorem x_Pa_parse_81 : DC b_Pa_parse 81 (.aload_n 0) 1 82 := ⟨by decide +kernel, rfl⟩
theorem x_Pa_parse_82 : DC b_Pa_parse 82 (.getfield 25) 3 85 := ⟨by decide +kernel, rfl⟩
theorem x_Pa_parse_85 : DC b_Pa_parse 85 (.invokevirtual 61) 3 88 := ⟨by decide +kernel, rfl⟩
theorem x_Pa_parse_88 : DC b_Pa_parse 88 (.iinc 2 1) 3 91 := ⟨by decide +kernel, rfl⟩
theorem x_Pa_parse_91 : DC b_Pa_parse 91 (.goto (-58)) 3 94 := ⟨by decide +kernel, rfl⟩
theorem x_Pa_parse_94 : DC b_Pa_parse 94 (.aload_n 0) 1 95 := ⟨by decide +kernel, rfl⟩
theorem x_Pa_parse_95 : DC b_Pa_parse 95 (.iconst 0) 1 96 := ⟨by decide +kernel, rfl⟩
theorem x_Pa_parse_96 : DC b_Pa_parse 96 (.putfield 33) 3 99 := ⟨by decide +kernel, rfl⟩
theorem x_Pa_parse_99 : DC b_Pa_parse 99 (.return_) 1 100 := ⟨by decide +kernel, rfl⟩
def k_Pa_parse_94 (M : Mem) : Res := blet (sto M 55 1 0) fun M1 => some (0, M1)
theorem z_Pa_parse_94 (C : Cx p s m args meth c G b_Pa_parse 3 "PrairiePool$Parser" none) (hlev : 341 ≤ lev) {r : Int × Mem}  {M : Mem} (h : k_Pa_parse_94 M = some r) : Z p l e lev s m args below meth c G 3 (MQ below (Qm G 0 r) args s 0 0 (Ab G)) M 94 [(0, .ref (G.1 + 55))] [] := by
  unfold k_Pa_parse_94 at h
  refine z_aload_n C 0 x_Pa_parse_94 rfl ?_
  refine z_iconst C x_Pa_parse_95 ?_
  obtain ⟨M1, eM1, h⟩ := blet_e h
  refine z_putI (j := 1) C x_Pa_parse_96 nk_55 ck_55 cw_4 (i_lt rfl) rfl rfl rfl rfl fl_Pa_33 eM1 ?_
  exact z_vret C x_Pa_parse_99 h
def k_Pa_parse_88 (R33 : Int → Mem → Res) (a2 : Int) (M : Mem) : Res := blet (a2 + 1) fun v1 => R33 v1 M
theorem z_Pa_parse_88 (C : Cx p s m args meth c G b_Pa_parse 3 "PrairiePool$Parser" none) (hlev : 341 ≤ lev) {r : Int × Mem} {R33 : Int → Mem → Res} (hR33 : ∀ (a2 : Int) (M : Mem), R33 a2 M = some r → Z p l e lev s m args below meth c G 3 (MQ below (Qm G 0 r) args s 0 0 (Ab G)) M 33 [(0, .ref (G.1 + 55)), (2, vi a2)] []) {a2 : Int} {M : Mem} (h : k_Pa_parse_88 R33 a2 M = some r) : Z p l e lev s m args below meth c G 3 (MQ below (Qm G 0 r) args s 0 0 (Ab G)) M 88 [(0, .ref (G.1 + 55)), (2, vi a2)] [] := by
  unfold k_Pa_parse_88 at h
  obtain ⟨v1, ev1, h⟩ := blet_e h
  refine z_iinc (lv' := [(2, vi v1), (0, .ref (G.1 + 55))]) C 1 ev1 x_Pa_parse_88 rfl (i_lt rfl) rfl ?_
  refine z_goto (tgt := 33) C x_Pa_parse_91 rfl ?_
  exact z_sub [1, 0] rfl (hR33 v1 M h)
def k_Pa_parse_33 (R33 : Int → Mem → Res) (a2 : Int) (M : Mem) : Res := if 10 < w32 a2 then (k_Pa_parse_94 M) else (blet (M 55 8) fun v2 => if w32 v2 = 0 then (k_Pa_parse_94 M) else (blet (M 55 2) fun v4 => if w32 v4 = 0 then (bcall (d_Pa_parseName M) fun v6 M7 => bcall (d_Pa_expect 58 M7) fun v8 M9 => bcall (d_Pa_parseWholeC 1 M9) fun v10 M11 => bcall (d_Pa_expect 59 M11) fun v12 M13 => blet (M13 55 2) fun v14 => if w32 v14 = 0 then (bcall (d_Tx_endDef 57 M13) fun v16 M17 => k_Pa_parse_88 R33 a2 M17) else (k_Pa_parse_88 R33 a2 M13)) else (k_Pa_parse_94 M)))
theorem z_Pa_parse_33 (C : Cx p s m args meth c G b_Pa_parse 3 "PrairiePool$Parser" none) (hlev : 341 ≤ lev) {r : Int × Mem} {R33 : Int → Mem → Res} (hR33 : ∀ (a2 : Int) (M : Mem), R33 a2 M = some r → Z p l e lev s m args below meth c G 3 (MQ below (Qm G 0 r) args s 0 0 (Ab G)) M 33 [(0, .ref (G.1 + 55)), (2, vi a2)] []) {a2 : Int} {M : Mem} (h : k_Pa_parse_33 R33 a2 M = some r) : Z p l e lev s m args below meth c G 3 (MQ below (Qm G 0 r) args s 0 0 (Ab G)) M 33 [(0, .ref (G.1 + 55)), (2, vi a2)] [] := by
  unfold k_Pa_parse_33 at h
  refine z_iload_n C 1 x_Pa_parse_33 rfl ?_
  refine z_bipush C rfl x_Pa_parse_34 ?_
  rcases ite_e h with ⟨c1, h⟩ | ⟨c1, h⟩
  · refine z_icmp_gt_t (tgt := 94) C x_Pa_parse_36 rfl c1 ?_
    exact z_sub [0] rfl (z_Pa_parse_94 C hlev h)
  · refine z_icmp_gt_f (tgt := 94) C x_Pa_parse_36 rfl c1 ?_
    refine z_aload_n C 0 x_Pa_parse_39 rfl ?_
    obtain ⟨v2, ev2, h⟩ := blet_e h
    refine z_getI (j := 8) C x_Pa_parse_40 nk_55 ck_55 cw_4 (i_lt rfl) rfl rfl fl_Pa_48 ev2 ?_
    rcases ite_e h with ⟨c3, h⟩ | ⟨c3, h⟩
    · refine z_if_eq_t (tgt := 94) C x_Pa_parse_43 rfl c3 ?_
      exact z_sub [0] rfl (z_Pa_parse_94 C hlev h)
    · refine z_if_eq_f (tgt := 94) C x_Pa_parse_43 rfl c3 ?_
      refine z_aload_n C 0 x_Pa_parse_46 rfl ?_
      obtain ⟨v4, ev4, h⟩ := blet_e h
      refine z_getI (j := 2) C x_Pa_parse_47 nk_55 ck_55 cw_4 (i_lt rfl) rfl rfl fl_Pa_17 ev4 ?_
      rcases ite_e h with ⟨c5, h⟩ | ⟨c5, h⟩
      · refine z_if_ne_f (tgt := 94) C x_Pa_parse_50 rfl c5 ?_
        refine z_aload_n C 0 x_Pa_parse_53 rfl ?_
        obtain ⟨v6, M7, fv6, h⟩ := bcall_e h
        refine z_callVv (k := 55) C x_Pa_parse_54 cv_Pa_51 (t_Pa_parseName (lev := lev - 1) l G (by omega) fv6) nk_55 ck_55 rfl (by omega) rfl (i_le rfl) rfl ?_
        refine z_aload_n C 0 x_Pa_parse_57 rfl ?_
        refine z_bipush C rfl x_Pa_parse_58 ?_
        obtain ⟨v8, M9, fv8, h⟩ := bcall_e h
        refine z_callVv (k := 55) C x_Pa_parse_60 cv_Pa_54 (t_Pa_expect (lev := lev - 1) l G (by omega) fv8) nk_55 ck_55 rfl (by omega) rfl (i_le rfl) rfl ?_
        refine z_aload_n C 0 x_Pa_parse_63 rfl ?_
        refine z_iconst C x_Pa_parse_64 ?_
        obtain ⟨v10, M11, fv10, h⟩ := bcall_e h
        refine z_callVv (k := 55) C x_Pa_parse_65 cv_Pa_58 (t_Pa_parseWholeC (lev := lev - 1) l G (by omega) fv10) nk_55 ck_55 rfl (by omega) rfl (i_le rfl) rfl ?_
        refine z_aload_n C 0 x_Pa_parse_68 rfl ?_
        refine z_bipush C rfl x_Pa_parse_69 ?_
        obtain ⟨v12, M13, fv12, h⟩ := bcall_e h
        refine z_callVv (k := 55) C x_Pa_parse_71 cv_Pa_54 (t_Pa_expect (lev := lev - 1) l G (by omega) fv12) nk_55 ck_55 rfl (by omega) rfl (i_le rfl) rfl ?_
        refine z_aload_n C 0 x_Pa_parse_74 rfl ?_
        obtain ⟨v14, ev14, h⟩ := blet_e h
        refine z_getI (j := 2) C x_Pa_parse_75 nk_55 ck_55 cw_4 (i_lt rfl) rfl rfl fl_Pa_17 ev14 ?_
        rcases ite_e h with ⟨c15, h⟩ | ⟨c15, h⟩
        · refine z_if_ne_f (tgt := 88) C x_Pa_parse_78 rfl c15 ?_
          refine z_aload_n C 0 x_Pa_parse_81 rfl ?_
          refine z_getR (j := 4) C x_Pa_parse_82 nk_55 ck_55 cw_4 (i_lt rfl) rfl rf_55_4 rfl fl_Pa_25 ?_
          obtain ⟨v16, M17, fv16, h⟩ := bcall_e h
          refine z_callVv (k := 57) C x_Pa_parse_85 cv_Pa_61 (t_Tx_endDef (lev := lev - 1) l G (by omega) it_57 fv16) nk_57 ck_57 rfl (by omega) rfl (i_le rfl) rfl ?_
          exact z_sub [0, 1] rfl (z_Pa_parse_88 C hlev hR33 h)
        · refine z_if_ne_t (tgt := 88) C x_Pa_parse_78 rfl c15 ?_
          exact z_sub [0, 1] rfl (z_Pa_parse_88 C hlev hR33 h)
      · refine z_if_ne_t (tgt := 94) C x_Pa_parse_50 rfl c5 ?_
        exact z_sub [0] rfl (z_Pa_parse_94 C hlev h)
theorem zl_Pa_parse_33 (C : Cx p s m args meth c G b_Pa_parse 3 "PrairiePool$Parser" none) (hlev : 341 ≤ lev) {r : Int × Mem}  : ∀ (n : Nat) (a2 : Int) (M : Mem), fix (fun _ _ => none) (k_Pa_parse_33) n a2 M = some r → Z p l e lev s m args below meth c G 3 (MQ below (Qm G 0 r) args s 0 0 (Ab G)) M 33 [(0, .ref (G.1 + 55)), (2, vi a2)] [] := by
  intro n
  induction n with
  | zero => intro a2 M h; exact nomatch (show (none : Res) = some r from h)
  | succ n ih => intro a2 M h; exact z_Pa_parse_33 C hlev ih h
def d_Pa_parse (a1 : Int) (M : Mem) : Res := blet (sto M 55 6 a1) fun M1 => blet (sto M1 55 7 0) fun M2 => blet (sto M2 55 2 0) fun M3 => blet (sto M3 55 3 (-1)) fun M4 => bcall (d_Tx_empty 57 M4) fun v5 M6 => bcall (d_Pa_advance M6) fun v7 M8 => fix (fun _ _ => none) (k_Pa_parse_33) FU 0 M8
theorem t_Pa_parse (l : Launch) (G : GX) {lev : Nat} (hlev : 341 ≤ lev) {a1 : Int} {M : Mem} {r : Int × Mem} (h : d_Pa_parse a1 M = some r) : Mt l G y_Pa_parse b_Pa_parse 3 none lev 0 [.ref (G.1 + 55), vi a1] M r := by
  refine Mt.of (by decide) (i_le rfl) ?_
  intro p e s m args below meth c C
  have C : Cx p s m args meth c G b_Pa_parse 3 "PrairiePool$Parser" none := C
  unfold d_Pa_parse at h
  refine z_sub (lv' := [(0, .ref (G.1 + 55)), (1, vi a1)]) [0, 1] rfl ?_
  refine z_aload_n C 0 x_Pa_parse_0 rfl ?_
  refine z_iload_n C 1 x_Pa_parse_1 rfl ?_
  obtain ⟨M1, eM1, h⟩ := blet_e h
  refine z_putI (j := 6) C x_Pa_parse_2 nk_55 ck_55 cw_4 (i_lt rfl) rfl rfl rfl rfl fl_Pa_36 eM1 ?_
  refine z_aload_n C 0 x_Pa_parse_5 rfl ?_
  refine z_iconst C x_Pa_parse_6 ?_
  obtain ⟨M2, eM2, h⟩ := blet_e h
  refine z_putI (j := 7) C x_Pa_parse_7 nk_55 ck_55 cw_4 (i_lt rfl) rfl rfl rfl rfl fl_Pa_39 eM2 ?_
  refine z_aload_n C 0 x_Pa_parse_10 rfl ?_
  refine z_iconst C x_Pa_parse_11 ?_
  obtain ⟨M3, eM3, h⟩ := blet_e h
  refine z_putI (j := 2) C x_Pa_parse_12 nk_55 ck_55 cw_4 (i_lt rfl) rfl rfl rfl rfl fl_Pa_17 eM3 ?_
  refine z_aload_n C 0 x_Pa_parse_15 rfl ?_
  refine z_iconst C x_Pa_parse_16 ?_
  obtain ⟨M4, eM4, h⟩ := blet_e h
  refine z_putI (j := 3) C x_Pa_parse_17 nk_55 ck_55 cw_4 (i_lt rfl) rfl rfl rfl rfl fl_Pa_21 eM4 ?_
  refine z_aload_n C 0 x_Pa_parse_20 rfl ?_
  refine z_getR (j := 4) C x_Pa_parse_21 nk_55 ck_55 cw_4 (i_lt rfl) rfl rf_55_4 rfl fl_Pa_25 ?_
  obtain ⟨v5, M6, fv5, h⟩ := bcall_e h
  refine z_callVv (k := 57) C x_Pa_parse_24 cv_Pa_42 (t_Tx_empty (lev := lev - 1) l G (by omega) it_57 fv5) nk_57 ck_57 rfl (by omega) rfl (i_le rfl) rfl ?_
  refine z_aload_n C 0 x_Pa_parse_27 rfl ?_
  obtain ⟨v7, M8, fv7, h⟩ := bcall_e h
  refine z_callVv (k := 55) C x_Pa_parse_28 cv_Pa_45 (t_Pa_advance (lev := lev - 1) l G (by omega) fv7) nk_55 ck_55 rfl (by omega) rfl (i_le rfl) rfl ?_
  refine z_iconst C x_Pa_parse_31 ?_
  refine z_istore_n (lv' := [(2, vi 0), (0, .ref (G.1 + 55)), (1, vi a1)]) C rfl x_Pa_parse_32 (i_lt rfl) rfl ?_
  exact z_sub [1, 0] rfl (zl_Pa_parse_33 C hlev FU 0 M8 h)
end
